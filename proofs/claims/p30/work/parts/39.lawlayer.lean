/-! The law's own methods: what more of the machine they need; the class's cells as one. -/
section LAWLAYER
variable {cc : ByteArray} {nL : Nat} {own nm : String} {l : Launch} {R : Room} {K : gx_K} {ret : Option FieldType} {Post : Option Value → va_W → Prop} {G : gx_J} {k n pc : Nat} {ws : va_W} {lv : List (Nat × Value)} {st : List Value}
theorem gx_aload (B : gx_B cc nL own l R K G) {i : Nat} (hd : decode cc pc = .ok (.aload i, 2)) (q : Nat) {x : Nat} (hq : lv[q]? = some (i, .ref x)) (kk : G k n ws lv (pc + 2) (.ref x :: st)) : G k n ws lv pc st := by
  obtain ⟨p, e, s, m, args, below, meth, c, A, Q, rfl, hx, hb, hml, hown, hts, hK, hA, hX⟩ := B
  intro H locs ls hP hD hS hl
  exact lv_aload hx hb hd (lv_at hl q hq) (kk H locs ls hP hD hS hl)
theorem gx_astore (B : gx_B cc nL own l R K G) {i : Nat} (hd : decode cc pc = .ok (.astore i, 2)) (hi : i < nL) {x : Nat} (lv' : List (Nat × Value)) (hv : (i, Value.ref x) :: lv.filter (fun q => !(q.1 == i) && !(q.1 + 1 == i && q.2.category == 2)) = lv') (kk : G k n ws lv' (pc + 2) st) : G k n ws lv pc (.ref x :: st) := by
  obtain ⟨p, e, s, m, args, below, meth, c, A, Q, rfl, hx, hb, hml, hown, hts, hK, hA, hX⟩ := B
  intro H locs ls hP hD hS hl
  exact lv_astore hx hb hd hl hi hv (fun ls' hl' => kk H locs ls' hP hD hS hl')
theorem gx_ixor (B : gx_B cc nL own l R K G) (hd : decode cc pc = .ok (.ixor, 1)) {x y : Int32} (kk : G k n ws lv (pc + 1) (.int (x ^^^ y) :: st)) : G k n ws lv pc (.int y :: .int x :: st) := by
  obtain ⟨p, e, s, m, args, below, meth, c, A, Q, rfl, hx, hb, hml, hown, hts, hK, hA, hX⟩ := B
  intro H locs ls hP hD hS hl
  exact lv_ixor hx hb hd (kk H locs ls hP hD hS hl)
theorem gx_ishr (B : gx_B cc nL own l R K G) (hd : decode cc pc = .ok (.ishr, 1)) {x y : Int32} (kk : G k n ws lv (pc + 1) (.int (x >>> (y &&& 31)) :: st)) : G k n ws lv pc (.int y :: .int x :: st) := by
  obtain ⟨p, e, s, m, args, below, meth, c, A, Q, rfl, hx, hb, hml, hown, hts, hK, hA, hX⟩ := B
  intro H locs ls hP hD hS hl
  exact lv_ishr hx hb hd (kk H locs ls hP hD hS hl)
theorem gx_sld (B : gx_B cc nL own l R K G) (hd : decode cc pc = .ok (.iaload, 1)) {i : Int32} (hin : vp_in i K.2.2.2.1) (kk : G k n ws lv (pc + 1) (.int (K.2.2.2.2 i.toNatClampNeg) :: st)) : G k n ws lv pc (.int i :: .ref K.2.2.1 :: st) := by
  obtain ⟨p, e, s, m, args, below, meth, c, A, Q, rfl, hx, hb, hml, hown, hts, hK, hA, hX⟩ := B
  intro H locs ls hP hD hS hl
  exact va_sld hx hb hX.2.2.1 hX.2.2.2.1 hX.2.2.2.2 hS hin hd (kk H locs ls hP hD hS hl)
theorem gx_slen (B : gx_B cc nL own l R K G) (hd : decode cc pc = .ok (.arraylength, 1)) (kk : G k n ws lv (pc + 1) (.int (nI K.2.2.2.1) :: st)) : G k n ws lv pc (.ref K.2.2.1 :: st) := by
  obtain ⟨p, e, s, m, args, below, meth, c, A, Q, rfl, hx, hb, hml, hown, hts, hK, hA, hX⟩ := B
  intro H locs ls hP hD hS hl
  exact va_slen hx hb hX.2.2.1 hX.2.2.2.1 hX.2.2.2.2 hS hd (kk H locs ls hP hD hS hl)
theorem gx_dVA (B : gx_B cc nL own l R K G) {y : MethodName} {rm : Room} {W0 wr W1 : va_W} {bytes : ByteArray} {maxL : Nat} {ret' : Option FieldType} {index : Nat} {rest : List Value} {b0 : Nat} {As : List Value} {T0 : u_T} {N0 ci : Nat} {fs : List Value} {r : Int32} (hM : gx_Ctr l K y bytes maxL ret' rm (.ref b0 :: As) W0 (gx_D (some (.int r)) W1)) (hm : gx_M y bytes maxL ret') (hdg : decode cc pc = .ok (.invokevirtual index, 3)) (hlk : Cond.methodLink own index y ∈ gx_TB) (hnA : (parseMethodDescriptor y.desc).map (fun d => d.parameters.length) = some As.length) (hRm : rm.frames + 1 ≤ R.frames ∧ 8 + (maxL + 11) + rm.locals ≤ R.locals) (h0 : rm.cells = 0 ∧ rm.slots = 0) (hkn : k ≤ R.cells ∧ n ≤ R.slots) (hst : st = As.reverse ++ .ref b0 :: rest) (hcat : (rest.map fun v => v.category).sum ≤ 8)
    (isC isR : List Nat) (hC : isC.map (fun i => (W0 ++ wr)[i]?) = W0.map some) (hR : isR.map (fun i => (W0 ++ wr)[i]?) = wr.map some) (hn : va_nd isR = true) (hdis : ∀ i ∈ isR, i ∉ isC) (hnC : va_nd isC = true) (hci : vwCl[ci]? = some (y.cls, T0, N0)) (hb0 : W0[0]? = some (b0, .inr (ci, fs)))
    (is : List Nat) (hnd : va_nd is = true) (hp : is.map (fun i => (wr ++ W1)[i]?) = (W1 ++ wr).map some) (kk : G k n (W1 ++ wr) lv (pc + 3) (.int r :: rest)) : G k n (W0 ++ wr) lv pc st :=
  gx_dVi B hM hm hdg hlk hnA hRm h0 hkn hst hcat isC isR hC hR hn hdis hnC hci hb0 is hnd (W1 ++ wr) hp kk
end LAWLAYER
def kR (C : Nat → Int32) (R : Nat → Nat → Int32) (od sn : Nat) : Nat → Nat → Int32 := fun i => if (od + sn) % 5 = i then C else R i
abbrev wZ (K : gx_K) (ad : Nat → Nat) (C : Nat → Int32) (R : Nat → Nat → Int32) (od sn : Nat) : va_W := wX K (ad 0) (ad 1) (ad 2) (ad 3) (ad 4) (ad 5) (ad 6) C (ad 7) (ad 8) (ad 9) (ad 10) (ad 11) (ad 12) cNew (ad 13) (ad 14) (ad 15) (ad 16) (ad 17) (ad 18) (ad 19) (R 0) (R 1) (R 2) (R 3) (R 4) od sn (ad 20) (ad 21) (ad 22) (fun _ => 0) 0 (fun _ => 0) 0 0 0 0
theorem ch0 : chOk (fun _ => 0) := fun _ => rfl
theorem k_purpose (l : Launch) (K : gx_K) (ad : Nat → Nat) (C : Nat → Int32) (R : Nat → Nat → Int32) (od sn : Nat) (ho : od ≤ 4) (hsn : sn ≤ 4) : gx_Ctr l K yX4_purpose cX4_purpose 1 (some .int) (rmm 3 102) [.ref (ad 0)] (wZ K ad C R od sn) (gx_D (some (.int ((bAddPurpose C).1))) (wZ K ad ((bAddPurpose C).2) (kR C R od sn) (kOd (bAddPurpose C).1 od sn) (kSn (bAddPurpose C).1 sn))) :=
  c_X4_purpose l K (ad 0) (ad 1) (ad 2) (ad 3) (ad 4) (ad 5) (ad 6) C (ad 7) (ad 8) (ad 9) (ad 10) (ad 11) (ad 12) cNew (ad 13) (ad 14) (ad 15) (ad 16) (ad 17) (ad 18) (ad 19) (R 0) (R 1) (R 2) (R 3) (R 4) od sn (ad 20) (ad 21) (ad 22) (fun _ => 0) 0 (fun _ => 0) 0 0 0 0  ho hsn (Nat.zero_le _) ch0
theorem k_donor (l : Launch) (K : gx_K) (ad : Nat → Nat) (C : Nat → Int32) (R : Nat → Nat → Int32) (od sn : Nat) (ho : od ≤ 4) (hsn : sn ≤ 4) : gx_Ctr l K yX4_donor cX4_donor 1 (some .int) (rmm 3 102) [.ref (ad 0)] (wZ K ad C R od sn) (gx_D (some (.int ((bAddDonor C).1))) (wZ K ad ((bAddDonor C).2) (kR C R od sn) (kOd (bAddDonor C).1 od sn) (kSn (bAddDonor C).1 sn))) :=
  c_X4_donor l K (ad 0) (ad 1) (ad 2) (ad 3) (ad 4) (ad 5) (ad 6) C (ad 7) (ad 8) (ad 9) (ad 10) (ad 11) (ad 12) cNew (ad 13) (ad 14) (ad 15) (ad 16) (ad 17) (ad 18) (ad 19) (R 0) (R 1) (R 2) (R 3) (R 4) od sn (ad 20) (ad 21) (ad 22) (fun _ => 0) 0 (fun _ => 0) 0 0 0 0  ho hsn (Nat.zero_le _) ch0
theorem k_declare (l : Launch) (K : gx_K) (ad : Nat → Nat) (C : Nat → Int32) (R : Nat → Nat → Int32) (od sn : Nat) (x y : Int32) (ho : od ≤ 4) (hsn : sn ≤ 4) : gx_Ctr l K yX4_declare cX4_declare 3 (some .int) (rmm 3 102) [.ref (ad 0), .int x, .int y] (wZ K ad C R od sn) (gx_D (some (.int ((bDeclare C x y).1))) (wZ K ad ((bDeclare C x y).2) (kR C R od sn) (kOd (bDeclare C x y).1 od sn) (kSn (bDeclare C x y).1 sn))) :=
  c_X4_declare l K (ad 0) (ad 1) (ad 2) (ad 3) (ad 4) (ad 5) (ad 6) C (ad 7) (ad 8) (ad 9) (ad 10) (ad 11) (ad 12) cNew (ad 13) (ad 14) (ad 15) (ad 16) (ad 17) (ad 18) (ad 19) (R 0) (R 1) (R 2) (R 3) (R 4) od sn (ad 20) (ad 21) (ad 22) (fun _ => 0) 0 (fun _ => 0) 0 0 0 0 x y ho hsn (Nat.zero_le _) ch0
theorem k_give (l : Launch) (K : gx_K) (ad : Nat → Nat) (C : Nat → Int32) (R : Nat → Nat → Int32) (od sn : Nat) (x y z : Int32) (ho : od ≤ 4) (hsn : sn ≤ 4) : gx_Ctr l K yX4_give cX4_give 4 (some .int) (rmm 4 102) [.ref (ad 0), .int x, .int y, .int z] (wZ K ad C R od sn) (gx_D (some (.int ((bGive C x y z).1))) (wZ K ad ((bGive C x y z).2) (kR C R od sn) (kOd (bGive C x y z).1 od sn) (kSn (bGive C x y z).1 sn))) :=
  c_X4_give l K (ad 0) (ad 1) (ad 2) (ad 3) (ad 4) (ad 5) (ad 6) C (ad 7) (ad 8) (ad 9) (ad 10) (ad 11) (ad 12) cNew (ad 13) (ad 14) (ad 15) (ad 16) (ad 17) (ad 18) (ad 19) (R 0) (R 1) (R 2) (R 3) (R 4) od sn (ad 20) (ad 21) (ad 22) (fun _ => 0) 0 (fun _ => 0) 0 0 0 0 x y z ho hsn (Nat.zero_le _) ch0
theorem k_pledge (l : Launch) (K : gx_K) (ad : Nat → Nat) (C : Nat → Int32) (R : Nat → Nat → Int32) (od sn : Nat) (x y z u : Int32) (ho : od ≤ 4) (hsn : sn ≤ 4) : gx_Ctr l K yX4_pledge cX4_pledge 5 (some .int) (rmm 4 102) [.ref (ad 0), .int x, .int y, .int z, .int u] (wZ K ad C R od sn) (gx_D (some (.int ((bPledge C x y z u).1))) (wZ K ad ((bPledge C x y z u).2) (kR C R od sn) (kOd (bPledge C x y z u).1 od sn) (kSn (bPledge C x y z u).1 sn))) :=
  c_X4_pledge l K (ad 0) (ad 1) (ad 2) (ad 3) (ad 4) (ad 5) (ad 6) C (ad 7) (ad 8) (ad 9) (ad 10) (ad 11) (ad 12) cNew (ad 13) (ad 14) (ad 15) (ad 16) (ad 17) (ad 18) (ad 19) (R 0) (R 1) (R 2) (R 3) (R 4) od sn (ad 20) (ad 21) (ad 22) (fun _ => 0) 0 (fun _ => 0) 0 0 0 0 x y z u ho hsn (Nat.zero_le _) ch0
theorem k_miss (l : Launch) (K : gx_K) (ad : Nat → Nat) (C : Nat → Int32) (R : Nat → Nat → Int32) (od sn : Nat) (x : Int32) (ho : od ≤ 4) (hsn : sn ≤ 4) : gx_Ctr l K yX4_miss cX4_miss 2 (some .int) (rmm 4 102) [.ref (ad 0), .int x] (wZ K ad C R od sn) (gx_D (some (.int ((bMiss C x).1))) (wZ K ad ((bMiss C x).2) (kR C R od sn) (kOd (bMiss C x).1 od sn) (kSn (bMiss C x).1 sn))) :=
  c_X4_miss l K (ad 0) (ad 1) (ad 2) (ad 3) (ad 4) (ad 5) (ad 6) C (ad 7) (ad 8) (ad 9) (ad 10) (ad 11) (ad 12) cNew (ad 13) (ad 14) (ad 15) (ad 16) (ad 17) (ad 18) (ad 19) (R 0) (R 1) (R 2) (R 3) (R 4) od sn (ad 20) (ad 21) (ad 22) (fun _ => 0) 0 (fun _ => 0) 0 0 0 0 x ho hsn (Nat.zero_le _) ch0
theorem k_stop (l : Launch) (K : gx_K) (ad : Nat → Nat) (C : Nat → Int32) (R : Nat → Nat → Int32) (od sn : Nat) (x : Int32) (ho : od ≤ 4) (hsn : sn ≤ 4) : gx_Ctr l K yX4_stop cX4_stop 2 (some .int) (rmm 4 102) [.ref (ad 0), .int x] (wZ K ad C R od sn) (gx_D (some (.int ((bStop C x).1))) (wZ K ad ((bStop C x).2) (kR C R od sn) (kOd (bStop C x).1 od sn) (kSn (bStop C x).1 sn))) :=
  c_X4_stop l K (ad 0) (ad 1) (ad 2) (ad 3) (ad 4) (ad 5) (ad 6) C (ad 7) (ad 8) (ad 9) (ad 10) (ad 11) (ad 12) cNew (ad 13) (ad 14) (ad 15) (ad 16) (ad 17) (ad 18) (ad 19) (R 0) (R 1) (R 2) (R 3) (R 4) od sn (ad 20) (ad 21) (ad 22) (fun _ => 0) 0 (fun _ => 0) 0 0 0 0 x ho hsn (Nat.zero_le _) ch0
theorem k_claim (l : Launch) (K : gx_K) (ad : Nat → Nat) (C : Nat → Int32) (R : Nat → Nat → Int32) (od sn : Nat) (ho : od ≤ 4) (hsn : sn ≤ 4) : gx_Ctr l K yX4_claim cX4_claim 1 (some .int) (rmm 5 102) [.ref (ad 0)] (wZ K ad C R od sn) (gx_D (some (.int ((bClaim C (-1)).1))) (wZ K ad ((bClaim C (-1)).2) (kR C R od sn) (kOd (bClaim C (-1)).1 od sn) (kSn (bClaim C (-1)).1 sn))) :=
  c_X4_claim l K (ad 0) (ad 1) (ad 2) (ad 3) (ad 4) (ad 5) (ad 6) C (ad 7) (ad 8) (ad 9) (ad 10) (ad 11) (ad 12) cNew (ad 13) (ad 14) (ad 15) (ad 16) (ad 17) (ad 18) (ad 19) (R 0) (R 1) (R 2) (R 3) (R 4) od sn (ad 20) (ad 21) (ad 22) (fun _ => 0) 0 (fun _ => 0) 0 0 0 0  ho hsn (Nat.zero_le _) ch0
theorem k_spend (l : Launch) (K : gx_K) (ad : Nat → Nat) (C : Nat → Int32) (R : Nat → Nat → Int32) (od sn : Nat) (x y : Int32) (ho : od ≤ 4) (hsn : sn ≤ 4) : gx_Ctr l K yX4_spend cX4_spend 3 (some .int) (rmm 4 102) [.ref (ad 0), .int x, .int y] (wZ K ad C R od sn) (gx_D (some (.int ((bSpend C x y).1))) (wZ K ad ((bSpend C x y).2) (kR C R od sn) (kOd (bSpend C x y).1 od sn) (kSn (bSpend C x y).1 sn))) :=
  c_X4_spend l K (ad 0) (ad 1) (ad 2) (ad 3) (ad 4) (ad 5) (ad 6) C (ad 7) (ad 8) (ad 9) (ad 10) (ad 11) (ad 12) cNew (ad 13) (ad 14) (ad 15) (ad 16) (ad 17) (ad 18) (ad 19) (R 0) (R 1) (R 2) (R 3) (R 4) od sn (ad 20) (ad 21) (ad 22) (fun _ => 0) 0 (fun _ => 0) 0 0 0 0 x y ho hsn (Nat.zero_le _) ch0
theorem k_agree (l : Launch) (K : gx_K) (ad : Nat → Nat) (C : Nat → Int32) (R : Nat → Nat → Int32) (od sn : Nat) (x y z : Int32) (ho : od ≤ 4) (hsn : sn ≤ 4) : gx_Ctr l K yX4_agree cX4_agree 4 (some .int) (rmm 5 102) [.ref (ad 0), .int x, .int y, .int z] (wZ K ad C R od sn) (gx_D (some (.int ((bAgree C x y z).1))) (wZ K ad ((bAgree C x y z).2) (kR C R od sn) (kOd (bAgree C x y z).1 od sn) (kSn (bAgree C x y z).1 sn))) :=
  c_X4_agree l K (ad 0) (ad 1) (ad 2) (ad 3) (ad 4) (ad 5) (ad 6) C (ad 7) (ad 8) (ad 9) (ad 10) (ad 11) (ad 12) cNew (ad 13) (ad 14) (ad 15) (ad 16) (ad 17) (ad 18) (ad 19) (R 0) (R 1) (R 2) (R 3) (R 4) od sn (ad 20) (ad 21) (ad 22) (fun _ => 0) 0 (fun _ => 0) 0 0 0 0 x y z ho hsn (Nat.zero_le _) ch0
theorem k_merge (l : Launch) (K : gx_K) (ad : Nat → Nat) (C : Nat → Int32) (R : Nat → Nat → Int32) (od sn : Nat) (x y : Int32) (ho : od ≤ 4) (hsn : sn ≤ 4) : gx_Ctr l K yX4_merge cX4_merge 3 (some .int) (rmm 5 102) [.ref (ad 0), .int x, .int y] (wZ K ad C R od sn) (gx_D (some (.int ((bMerge C x y).1))) (wZ K ad ((bMerge C x y).2) (kR C R od sn) (kOd (bMerge C x y).1 od sn) (kSn (bMerge C x y).1 sn))) :=
  c_X4_merge l K (ad 0) (ad 1) (ad 2) (ad 3) (ad 4) (ad 5) (ad 6) C (ad 7) (ad 8) (ad 9) (ad 10) (ad 11) (ad 12) cNew (ad 13) (ad 14) (ad 15) (ad 16) (ad 17) (ad 18) (ad 19) (R 0) (R 1) (R 2) (R 3) (R 4) od sn (ad 20) (ad 21) (ad 22) (fun _ => 0) 0 (fun _ => 0) 0 0 0 0 x y ho hsn (Nat.zero_le _) ch0
theorem k_refund (l : Launch) (K : gx_K) (ad : Nat → Nat) (C : Nat → Int32) (R : Nat → Nat → Int32) (od sn : Nat) (x : Int32) (ho : od ≤ 4) (hsn : sn ≤ 4) : gx_Ctr l K yX4_refund cX4_refund 2 (some .int) (rmm 4 102) [.ref (ad 0), .int x] (wZ K ad C R od sn) (gx_D (some (.int ((bRefund C x).1))) (wZ K ad ((bRefund C x).2) (kR C R od sn) (kOd (bRefund C x).1 od sn) (kSn (bRefund C x).1 sn))) :=
  c_X4_refund l K (ad 0) (ad 1) (ad 2) (ad 3) (ad 4) (ad 5) (ad 6) C (ad 7) (ad 8) (ad 9) (ad 10) (ad 11) (ad 12) cNew (ad 13) (ad 14) (ad 15) (ad 16) (ad 17) (ad 18) (ad 19) (R 0) (R 1) (R 2) (R 3) (R 4) od sn (ad 20) (ad 21) (ad 22) (fun _ => 0) 0 (fun _ => 0) 0 0 0 0 x ho hsn (Nat.zero_le _) ch0
theorem k_pass (l : Launch) (K : gx_K) (ad : Nat → Nat) (C : Nat → Int32) (R : Nat → Nat → Int32) (od sn : Nat) (x : Int32) (ho : od ≤ 4) (hsn : sn ≤ 4) : gx_Ctr l K yX4_pass cX4_pass 2 (some .int) (rmm 5 102) [.ref (ad 0), .int x] (wZ K ad C R od sn) (gx_D (some (.int ((bPass C x 999).1))) (wZ K ad ((bPass C x 999).2) (kR C R od sn) (kOd (bPass C x 999).1 od sn) (kSn (bPass C x 999).1 sn))) :=
  c_X4_pass l K (ad 0) (ad 1) (ad 2) (ad 3) (ad 4) (ad 5) (ad 6) C (ad 7) (ad 8) (ad 9) (ad 10) (ad 11) (ad 12) cNew (ad 13) (ad 14) (ad 15) (ad 16) (ad 17) (ad 18) (ad 19) (R 0) (R 1) (R 2) (R 3) (R 4) od sn (ad 20) (ad 21) (ad 22) (fun _ => 0) 0 (fun _ => 0) 0 0 0 0 x ho hsn (Nat.zero_le _) ch0
theorem k_set (l : Launch) (K : gx_K) (ad : Nat → Nat) (C : Nat → Int32) (R : Nat → Nat → Int32) (od sn : Nat) (x y : Int32) (ho : od ≤ 4) (hsn : sn ≤ 4) : gx_Ctr l K yX4_set cX4_set 3 (some .int) (rmm 3 102) [.ref (ad 0), .int x, .int y] (wZ K ad C R od sn) (gx_D (some (.int ((bSet C x y).1))) (wZ K ad ((bSet C x y).2) (kR C R od sn) (kOd (bSet C x y).1 od sn) (kSn (bSet C x y).1 sn))) :=
  c_X4_set l K (ad 0) (ad 1) (ad 2) (ad 3) (ad 4) (ad 5) (ad 6) C (ad 7) (ad 8) (ad 9) (ad 10) (ad 11) (ad 12) cNew (ad 13) (ad 14) (ad 15) (ad 16) (ad 17) (ad 18) (ad 19) (R 0) (R 1) (R 2) (R 3) (R 4) od sn (ad 20) (ad 21) (ad 22) (fun _ => 0) 0 (fun _ => 0) 0 0 0 0 x y ho hsn (Nat.zero_le _) ch0
theorem k_purposeOf (l : Launch) (K : gx_K) (ad : Nat → Nat) (C : Nat → Int32) (R : Nat → Nat → Int32) (od sn : Nat) (x y : Int32) (ho : od ≤ 4) (hsn : sn ≤ 4) : gx_Ctr l K yX4_purposeOf cX4_purposeOf 3 (some .int) (rmm 4 65) [.ref (ad 0), .int x, .int y] (wZ K ad C R od sn) (gx_D (some (.int (bTellP C x y))) (wZ K ad C R od sn)) :=
  c_X4_purposeOf l K (ad 0) (ad 1) (ad 2) (ad 3) (ad 4) (ad 5) (ad 6) C (ad 7) (ad 8) (ad 9) (ad 10) (ad 11) (ad 12) cNew (ad 13) (ad 14) (ad 15) (ad 16) (ad 17) (ad 18) (ad 19) (R 0) (R 1) (R 2) (R 3) (R 4) od sn (ad 20) (ad 21) (ad 22) (fun _ => 0) 0 (fun _ => 0) 0 0 0 0 x y ho hsn (Nat.zero_le _) ch0
theorem k_donorOf (l : Launch) (K : gx_K) (ad : Nat → Nat) (C : Nat → Int32) (R : Nat → Nat → Int32) (od sn : Nat) (x y : Int32) (ho : od ≤ 4) (hsn : sn ≤ 4) : gx_Ctr l K yX4_donorOf cX4_donorOf 3 (some .int) (rmm 5 91) [.ref (ad 0), .int x, .int y] (wZ K ad C R od sn) (gx_D (some (.int (bTellD C x y))) (wZ K ad C R od sn)) :=
  c_X4_donorOf l K (ad 0) (ad 1) (ad 2) (ad 3) (ad 4) (ad 5) (ad 6) C (ad 7) (ad 8) (ad 9) (ad 10) (ad 11) (ad 12) cNew (ad 13) (ad 14) (ad 15) (ad 16) (ad 17) (ad 18) (ad 19) (R 0) (R 1) (R 2) (R 3) (R 4) od sn (ad 20) (ad 21) (ad 22) (fun _ => 0) 0 (fun _ => 0) 0 0 0 0 x y ho hsn (Nat.zero_le _) ch0
theorem k_giftOf (l : Launch) (K : gx_K) (ad : Nat → Nat) (C : Nat → Int32) (R : Nat → Nat → Int32) (od sn : Nat) (x y : Int32) (ho : od ≤ 4) (hsn : sn ≤ 4) : gx_Ctr l K yX4_giftOf cX4_giftOf 3 (some .int) (rmm 4 66) [.ref (ad 0), .int x, .int y] (wZ K ad C R od sn) (gx_D (some (.int (bTellG C x y))) (wZ K ad C R od sn)) :=
  c_X4_giftOf l K (ad 0) (ad 1) (ad 2) (ad 3) (ad 4) (ad 5) (ad 6) C (ad 7) (ad 8) (ad 9) (ad 10) (ad 11) (ad 12) cNew (ad 13) (ad 14) (ad 15) (ad 16) (ad 17) (ad 18) (ad 19) (R 0) (R 1) (R 2) (R 3) (R 4) od sn (ad 20) (ad 21) (ad 22) (fun _ => 0) 0 (fun _ => 0) 0 0 0 0 x y ho hsn (Nat.zero_le _) ch0
theorem k_pledgeOf (l : Launch) (K : gx_K) (ad : Nat → Nat) (C : Nat → Int32) (R : Nat → Nat → Int32) (od sn : Nat) (x y : Int32) (ho : od ≤ 4) (hsn : sn ≤ 4) : gx_Ctr l K yX4_pledgeOf cX4_pledgeOf 3 (some .int) (rmm 3 44) [.ref (ad 0), .int x, .int y] (wZ K ad C R od sn) (gx_D (some (.int (bTellK C x y))) (wZ K ad C R od sn)) :=
  c_X4_pledgeOf l K (ad 0) (ad 1) (ad 2) (ad 3) (ad 4) (ad 5) (ad 6) C (ad 7) (ad 8) (ad 9) (ad 10) (ad 11) (ad 12) cNew (ad 13) (ad 14) (ad 15) (ad 16) (ad 17) (ad 18) (ad 19) (R 0) (R 1) (R 2) (R 3) (R 4) od sn (ad 20) (ad 21) (ad 22) (fun _ => 0) 0 (fun _ => 0) 0 0 0 0 x y ho hsn (Nat.zero_le _) ch0
theorem k_consents (l : Launch) (K : gx_K) (ad : Nat → Nat) (C : Nat → Int32) (R : Nat → Nat → Int32) (od sn : Nat) (x y : Int32) (ho : od ≤ 4) (hsn : sn ≤ 4) : gx_Ctr l K yX4_consents cX4_consents 3 (some .int) (rmm 5 92) [.ref (ad 0), .int x, .int y] (wZ K ad C R od sn) (gx_D (some (.int (bConsents C x y))) (wZ K ad C R od sn)) :=
  c_X4_consents l K (ad 0) (ad 1) (ad 2) (ad 3) (ad 4) (ad 5) (ad 6) C (ad 7) (ad 8) (ad 9) (ad 10) (ad 11) (ad 12) cNew (ad 13) (ad 14) (ad 15) (ad 16) (ad 17) (ad 18) (ad 19) (R 0) (R 1) (R 2) (R 3) (R 4) od sn (ad 20) (ad 21) (ad 22) (fun _ => 0) 0 (fun _ => 0) 0 0 0 0 x y ho hsn (Nat.zero_le _) ch0
theorem k_count (l : Launch) (K : gx_K) (ad : Nat → Nat) (C : Nat → Int32) (R : Nat → Nat → Int32) (od sn : Nat) (x : Int32) (ho : od ≤ 4) (hsn : sn ≤ 4) : gx_Ctr l K yX4_count cX4_count 2 (some .int) (rmm 5 86) [.ref (ad 0), .int x] (wZ K ad C R od sn) (gx_D (some (.int (ctF C sn 0 x))) (wZ K ad C R od sn)) :=
  c_X4_count l K (ad 0) (ad 1) (ad 2) (ad 3) (ad 4) (ad 5) (ad 6) C (ad 7) (ad 8) (ad 9) (ad 10) (ad 11) (ad 12) cNew (ad 13) (ad 14) (ad 15) (ad 16) (ad 17) (ad 18) (ad 19) (R 0) (R 1) (R 2) (R 3) (R 4) od sn (ad 20) (ad 21) (ad 22) (fun _ => 0) 0 (fun _ => 0) 0 0 0 0 x ho hsn (Nat.zero_le _) ch0
/-- the script's numbers -/
def ceK (K : gx_K) (j : Nat) : Int32 := if nI K.2.2.2.1 ≤ nI j then 40503 * (nI j + 3) else K.2.2.2.2 j
theorem pL_cell : (parseMethodDescriptor yL_cell.desc).map (fun d => d.parameters.length) = some 2 := by decide +kernel
theorem mL_cell : gx_MS yL_cell cL_cell 2 (some .int) := ⟨tb_209, tb_26, tb_210, by decide, by decide⟩
set_option maxHeartbeats 4000000 in
set_option maxRecDepth 100000 in
theorem c_L_cell (l : Launch) (K : gx_K) (j : Nat) (h0 : K.2.2.2.1 ≤ 260) (h1 : j < 1000) : gx_Ctr l K yL_cell cL_cell 2 (some .int) (rmm 1 0) [.ref K.2.2.1, .int (nI j)] [] (gx_D (some (.int (ceK K j))) []) := by
  refine gx_of (by decide) (Nat.le_of_ble_eq_true rfl) (fun G hC => ?_)
  have hB := hC.b
  refine gx_lv (lv' := [(0, .ref K.2.2.1), (1, .int (nI j))]) rfl ?_
  refine gx_iload_n (pc := 0) hB dL_cell_0 1 rfl ?_
  refine gx_aload_n (pc := 1) hB dL_cell_1 0 rfl ?_
  refine gx_slen (pc := 2) hB dL_cell_2 ?_
  refine gx_icmp_ge (pc := 3) hB 12 dL_cell_3 (by decide) (fun c_1 => ?_) (fun c_1 => ?_)
  · refine gx_ldc (pc := 12) hB dL_cell_12 tb_211 ?_
    refine gx_iload_n (pc := 14) hB dL_cell_14 1 rfl ?_
    refine gx_iconst (pc := 15) hB dL_cell_15 3 (by decide) ?_
    refine gx_iadd (pc := 16) hB dL_cell_16 ?_
    refine gx_imul (pc := 17) hB dL_cell_17 ?_
    exact gx_iret (pc := 18) hC dL_cell_18 (Nat.zero_le _) (Nat.zero_le _) ⟨by unfold ceK; rw [if_pos c_1], rfl⟩
  · refine gx_aload_n (pc := 6) hB dL_cell_6 0 rfl ?_
    refine gx_iload_n (pc := 7) hB dL_cell_7 1 rfl ?_
    have hj : j < K.2.2.2.1 := Nat.lt_of_not_le (fun q => c_1 (nI_le q (by omega)))
    refine gx_sld (pc := 8) hB dL_cell_8 (vp_in_nI hj (by omega)) ?_
    refine gx_top (show K.2.2.2.2 (nI j).toNatClampNeg = K.2.2.2.2 j by rw [nI_clamp (by omega)]) ?_
    refine gx_goto (pc := 9) hB 18 dL_cell_9 (by decide) ?_
    exact gx_iret (pc := 18) hC dL_cell_18 (Nat.zero_le _) (Nat.zero_le _) ⟨by unfold ceK; rw [if_neg c_1], rfl⟩
def loN (v : Int32) (m : Nat) : Nat := v.toBitVec.toNat % 2 ^ 31 % m
theorem pL_low : (parseMethodDescriptor yL_low.desc).map (fun d => d.parameters.length) = some 2 := by decide +kernel
theorem mL_low : gx_MS yL_low cL_low 2 (some .int) := ⟨tb_213, tb_26, tb_214, by decide, by decide⟩
set_option maxHeartbeats 4000000 in
set_option maxRecDepth 100000 in
theorem c_L_low (l : Launch) (K : gx_K) (v : Int32) (m : Nat) (h0 : 0 < m) (h1 : m < 2 ^ 31) : gx_Ctr l K yL_low cL_low 2 (some .int) (rmm 1 0) [.int v, .int (nI m)] [] (gx_D (some (.int (nI (loN v m)))) []) := by
  refine gx_of (by decide) (Nat.le_of_ble_eq_true rfl) (fun G hC => ?_)
  have hB := hC.b
  refine gx_lv (lv' := [(0, .int v), (1, .int (nI m))]) rfl ?_
  refine gx_iload_n (pc := 0) hB dL_low_0 0 rfl ?_
  refine gx_ldc (pc := 1) hB dL_low_1 tb_215 ?_
  refine gx_iand (pc := 3) hB dL_low_3 ?_
  refine gx_top (show v &&& 2147483647 = nI (v.toBitVec.toNat % 2 ^ 31) from pk_and v 31 (by decide)) ?_
  refine gx_iload_n (pc := 4) hB dL_low_4 1 rfl ?_
  refine gx_irem (pc := 5) hB dL_low_5 (nI_ne0 h0 h1) ?_
  refine gx_top (show nI (v.toBitVec.toNat % 2 ^ 31) - nI (v.toBitVec.toNat % 2 ^ 31) / nI m * nI m = nI (loN v m) from pk_rem (Nat.mod_lt _ (by decide)) h0 h1) ?_
  exact gx_iret (pc := 6) hC dL_low_6 (Nat.zero_le _) (Nat.zero_le _) ⟨rfl, rfl⟩
