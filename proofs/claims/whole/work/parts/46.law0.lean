def R_law : String := "GiftPurposesLaw"
def lw_P (b : Addr) (xs : List Int32) (args : Array Value) (s : State) : Prop := args = #[.ref b] ∧ s.IntsAt b xs ∧ xs.length ≤ 2560 ∧ (Jvm.Cond.and given_1 narrow_1).before args s = true
def lw_Q (_ : Array Value) (s : State) (o : Outcome) (t : State) : Prop := o = .returned (some (.int 1)) ∧ Framed s o t [] 600000 7302250
def lw_Z (below : List Frame) (a : Array Value) (s : State) : State → Prop := fun t => ∃ o, t.status = .running ∧ Ended t below o ∧ lw_Q a s o t
/-- the law's own end, with 1 on the stack, nothing written that was there before, its room as the claim has it -/
theorem lw_ret {p : Program} {l : Launch} {e : Env} {s : State} {m : MethodId} {below : List Frame} {meth : Method} {c : Code} {b : Nat} (hx : p.tables.exec = Jvm.exec) (hb : c.code = code) (hr : meth.sig.returnType = ret) (hlocks : meth.locks = false) {pc : Nat} {H : Heap} {ls : Array Slot} (hdg : decode code pc = .ok (.ireturn, 1)) : W p l e room_1 s m #[Value.ref b] below meth c H [] 600000 7302250 (lw_Z below #[Value.ref b] s) (F0 m pc ls [.int 1]) := by
  intro T hT X
  obtain ⟨fs, hret, hrun, hended, hW, hframe⟩ := X.leave (v := some (.int 1)) (hlocks := hlocks) (fun h => by rw [hr] at h; cases h)
  have hmeth' : T.vm.method? m = some meth := X.method'
  refine ⟨T.setFrames fs, ?_, .returned (some (.int 1)), hrun, hended, rfl, ⟨_, rfl⟩, hW, hframe⟩
  jvm_step X.here [X.here.top, hx, hb, hdg, hmeth', hr, ret, narrow_b1]
  (try refine ⟨rfl, ?_⟩); (try refine ⟨rfl, ?_⟩)
  first | (intro acts; rw [hret _ acts rfl rfl rfl]) | rw [hret _ _ rfl rfl rfl]
  exact Steps.refl _
/-- what holds at the law's entry: the machine, the code, the tables' words (any of lw_tbl by 'hts w (by decide +kernel)'), the script of L ints xs at the cell b, what the Statement gives of the start (any of its parts by flat_of_before) -/
def lw_At (p : Program) (s : State) (m : MethodId) (meth : Method) (c : Code) (b L : Nat) (xs : Nat → Int32) : Prop :=
  p.tables.exec = Jvm.exec ∧ c.code = code ∧ meth.sig.returnType = ret ∧ c.maxLocals = 4 ∧ s.vm.findClass R_law = some m.cls ∧ (∀ w ∈ lw_tbl, w.before #[Value.ref b] s = true) ∧ va_X b L xs s s.heap ∧ b < s.heap.size ∧ meth.locks = false ∧ (Jvm.Cond.and given_1 narrow_1).before #[Value.ref b] s = true
/-! The law's walk in the layer. -/
def gx_L (l : Launch) (K : gx_K) (b L : Nat) (xs : Nat → Int32) (G : gx_J) : Prop :=
  ∃ (p : Program) (e : Env) (s : State) (m : MethodId) (below : List Frame) (meth : Method) (c : Code), G = gx_W p l e room_1 s m #[Value.ref b] below meth c K.1 (fun q : Nat => s.heap.size ≤ q) 4 (lw_Z below #[Value.ref b] s) ∧ lw_At p s m meth c b L xs ∧ va_K K.1 vwCl (gx_ty K) s ∧ gx_X K (fun q : Nat => s.heap.size ≤ q) s s.heap
section GXL
variable {l : Launch} {K : gx_K} {b L : Nat} {xs : Nat → Int32} {G : gx_J} {k n pc : Nat} {ws : va_W} {lv : List (Nat × Value)} {st : List Value}
theorem gx_Lb (h : gx_L l K b L xs G) : gx_B code 4 RL l room_1 K G := by
  obtain ⟨p, e, s, m, below, meth, c, rfl, C0, hK, hX⟩ := h
  obtain ⟨hx, hb, hr, hml, hown, hts, -⟩ := id C0
  exact ⟨p, e, s, m, _, below, meth, c, _, _, rfl, hx, hb, hml, hown, fun w hw => hts w (gx_tbl hw), hK, fun q h => h, hX⟩
theorem gx_sld (h : gx_L l K b L xs G) (hd : decode code pc = .ok (.iaload, 1)) {i : Int32} (hin : vp_in i L) (kk : G k n ws lv (pc + 1) (.int (xs i.toNatClampNeg) :: st)) : G k n ws lv pc (.int i :: .ref b :: st) := by
  obtain ⟨p, e, s, m, below, meth, c, rfl, C0, hK, hX⟩ := h
  obtain ⟨hx, hb, hr, hml, hown, hts, hXs, hbl, -⟩ := id C0
  intro H locs ls hP hD hS hl
  exact va_sld hx hb hXs hbl (Nat.not_le.mpr hbl) hS hin hd (kk H locs ls hP hD hS hl)
theorem gx_slen (h : gx_L l K b L xs G) (hd : decode code pc = .ok (.arraylength, 1)) (kk : G k n ws lv (pc + 1) (.int (nI L) :: st)) : G k n ws lv pc (.ref b :: st) := by
  obtain ⟨p, e, s, m, below, meth, c, rfl, C0, hK, hX⟩ := h
  obtain ⟨hx, hb, hr, hml, hown, hts, hXs, hbl, -⟩ := id C0
  intro H locs ls hP hD hS hl
  exact va_slen hx hb hXs hbl (Nat.not_le.mpr hbl) hS hd (kk H locs ls hP hD hS hl)
theorem gx_lend (h : gx_L l K b L xs G) (hd : decode code pc = .ok (.ireturn, 1)) (hk : k ≤ 600000) (hn : n ≤ 7302250) : G k n ws lv pc [.int 1] := by
  obtain ⟨p, e, s, m, below, meth, c, rfl, C0, hK, hX⟩ := h
  obtain ⟨hx, hb, hr, hml, hown, hts, hXs, hbl, hlocks, -⟩ := id C0
  intro H locs ls hP hD hS hl
  refine va_forget hS.2.2 ?_
  refine W.widen (k := 600000) (n := 7302250) hk hn ?_
  exact lw_ret hx hb hr hlocks hd
theorem gx_arg (hL : gx_L l K b L xs G) {z : Int} (j : Nat) {m w i : Nat} (hz : Int32.ofInt z = nI j) (hlv : lv = [(0, .ref b), (1, .ref m), (2, .ref w), (3, .int (nI i))]) (hi : i + j < L) (hL2 : L ≤ 2560) (d1 : decode code pc = .ok (.aload_n 0, 1)) (d2 : decode code (pc + 1) = .ok (.iload_n 3, 1)) (d3 : decode code (pc + 1 + 1) = .ok (.iconst z, 1)) (d4 : decode code (pc + 1 + 1 + 1) = .ok (.iadd, 1)) (d5 : decode code (pc + 1 + 1 + 1 + 1) = .ok (.iaload, 1)) (kk : G k n ws lv (pc + 5) (.int (xs (i + j)) :: st)) : G k n ws lv pc st := by
  have hB := gx_Lb hL
  subst hlv
  refine gx_aload_n hB d1 0 rfl ?_
  refine gx_iload_n hB d2 3 rfl ?_
  refine gx_iconst hB d3 (nI j) hz ?_
  refine gx_iadd hB d4 ?_
  refine gx_top (nI_add i j) ?_
  refine gx_sld hL d5 (vp_in_nI hi (by omega)) ?_
  rw [nI_clamp (by omega)]
  exact kk
theorem gx_dVA {cc : ByteArray} {nL : Nat} {own : String} {R : Room} (B : gx_B cc nL own l R K G) {y : MethodName} {rm : Room} {W0 wr W1 : va_W} {bytes : ByteArray} {maxL : Nat} {ret' : Option FieldType} {index : Nat} {rest : List Value} {b0 : Nat} {As : List Value} {T0 : u_T} {N0 ci : Nat} {fs : List Value} {r : Int32} (hM : gx_Ctr l K y bytes maxL ret' rm (.ref b0 :: As) W0 (gx_D (some (.int r)) W1)) (hm : gx_M y bytes maxL ret') (hdg : decode cc pc = .ok (.invokevirtual index, 3)) (hlk : Cond.methodLink own index y ∈ gx_TB) (hnA : (parseMethodDescriptor y.desc).map (fun d => d.parameters.length) = some As.length) (hRm : rm.frames + 1 ≤ R.frames ∧ 8 + (maxL + 11) + rm.locals ≤ R.locals) (h0 : rm.cells = 0 ∧ rm.slots = 0) (hkn : k ≤ R.cells ∧ n ≤ R.slots) (hst : st = As.reverse ++ .ref b0 :: rest) (hcat : (rest.map fun v => v.category).sum ≤ 8)
    (isC isR : List Nat) (hC : isC.map (fun i => (W0 ++ wr)[i]?) = W0.map some) (hR : isR.map (fun i => (W0 ++ wr)[i]?) = wr.map some) (hn : va_nd isR = true) (hdis : ∀ i ∈ isR, i ∉ isC) (hnC : va_nd isC = true) (hci : vwCl[ci]? = some (y.cls, T0, N0)) (hb0 : W0[0]? = some (b0, .inr (ci, fs)))
    (is : List Nat) (hnd : va_nd is = true) (hp : is.map (fun i => (wr ++ W1)[i]?) = (W1 ++ wr).map some) (kk : G k n (W1 ++ wr) lv (pc + 3) (.int r :: rest)) : G k n (W0 ++ wr) lv pc st :=
  gx_dVi B hM hm hdg hlk hnA hRm h0 hkn hst hcat isC isR hC hR hn hdis hnC hci hb0 is hnd (W1 ++ wr) hp kk
theorem gx_dVB {cc : ByteArray} {nL : Nat} {own : String} {R : Room} (B : gx_B cc nL own l R K G) {y : MethodName} {rm : Room} {W0 wr W1 : va_W} {bytes : ByteArray} {maxL : Nat} {ret' : Option FieldType} {index : Nat} {rest : List Value} {b0 : Nat} {As : List Value} {T0 : u_T} {N0 ci : Nat} {fs : List Value} {r : Int32} (hM : gx_Ctr l K y bytes maxL ret' rm (.ref b0 :: As) W0 (gx_D (some (.int r)) W1)) (hm : gx_M y bytes maxL ret') (hdg : decode cc pc = .ok (.invokevirtual index, 3)) (hlk : Cond.methodLink own index y ∈ gx_TB) (hnA : (parseMethodDescriptor y.desc).map (fun d => d.parameters.length) = some As.length) (hRm : rm.frames + 1 ≤ R.frames ∧ 8 + (maxL + 11) + rm.locals ≤ R.locals) (h0 : rm.cells = 0 ∧ rm.slots = 0) (hkn : k ≤ R.cells ∧ n ≤ R.slots) (hst : st = As.reverse ++ .ref b0 :: rest) (hcat : (rest.map fun v => v.category).sum ≤ 8)
    (isC isR : List Nat) (hC : isC.map (fun i => (wr ++ W0)[i]?) = W0.map some) (hR : isR.map (fun i => (wr ++ W0)[i]?) = wr.map some) (hn : va_nd isR = true) (hdis : ∀ i ∈ isR, i ∉ isC) (hnC : va_nd isC = true) (hci : vwCl[ci]? = some (y.cls, T0, N0)) (hb0 : W0[0]? = some (b0, .inr (ci, fs)))
    (kk : G k n (wr ++ W1) lv (pc + 3) (.int r :: rest)) : G k n (wr ++ W0) lv pc st := by
  refine gx_callV B hM hm hdg hlk hnA ⟨hRm.1, hRm.2, by rw [h0.1]; exact hkn.1, by rw [h0.2]; exact hkn.2⟩ hst hcat isC isR hC hR hn hdis hnC hci hb0 (fun v w h => ?_)
  obtain ⟨rfl, rfl⟩ := h
  refine gx_kn (k' := k) (n' := n) (by rw [h0.1]; rfl) (by rw [h0.2]; rfl) ?_
  exact kk
end GXL
/-! What the Statement gives of the start. -/
theorem fl_ex : ∀ i, i < 9 → Cond.exactly (.string RX2 (121 + 2 * i)) "java/lang/String" ∈ flatC (Jvm.Cond.and given_1 narrow_1) := by decide +kernel
theorem fl_co : ∀ i, i < 9 → Cond.eq (.field (.string RX2 (121 + 2 * i)) "java/lang/String" "coder" "B") (.int 0) ∈ flatC (Jvm.Cond.and given_1 narrow_1) := by decide +kernel
theorem fl_ar : ∀ i, i < 9 → Cond.arrayOf (.field (.string RX2 (121 + 2 * i)) "java/lang/String" "value" "[B") .byte ∈ flatC (Jvm.Cond.and given_1 narrow_1) := by decide +kernel
theorem fl_le : ∀ i, i < 9 → Cond.eq (.length (.field (.string RX2 (121 + 2 * i)) "java/lang/String" "value" "[B")) (.int (Int32.ofNat (gx_len.getD i 0))) ∈ flatC (Jvm.Cond.and given_1 narrow_1) := by decide +kernel
theorem fl_el : ∀ i, i < 9 → ∀ j, j < gx_len.getD i 0 → Cond.eq (.elem (.field (.string RX2 (121 + 2 * i)) "java/lang/String" "value" "[B") (.int (Int32.ofNat j))) (.int ((gx_byt.getD i []).getD j 0)) ∈ flatC (Jvm.Cond.and given_1 narrow_1) := by decide +kernel
theorem fl_ne : ∀ i, i < 9 → ∀ j, j < 9 → i ≠ j → Cond.not (Cond.eq (.string RX2 (121 + 2 * i)) (.string RX2 (121 + 2 * j))) ∈ flatC (Jvm.Cond.and given_1 narrow_1) ∨ Cond.not (Cond.eq (.string RX2 (121 + 2 * j)) (.string RX2 (121 + 2 * i))) ∈ flatC (Jvm.Cond.and given_1 narrow_1) := by decide +kernel
theorem fl_cs : Cond.eq (.static RJ0 "COMPACT_STRINGS" "Z") (.int 1) ∈ flatC (Jvm.Cond.and given_1 narrow_1) := by decide +kernel
theorem fl_sf : Cond.isRef (.static RJ3 "SIOOBE_FORMATTER" "Ljava/util/function/BiFunction;") ∈ flatC (Jvm.Cond.and given_1 narrow_1) := by decide +kernel
theorem tl_sr : ∀ i, i < 9 → lw_tbl[602 + i]? = some (Cond.stringRef RX2 (121 + 2 * i) (gx_txt.getD i "")) := by decide +kernel
theorem gx_K0 {p : Program} {s : State} {m : MethodId} {meth : Method} {c : Code} {b L : Nat} {xs : Nat → Int32} (C0 : lw_At p s m meth c b L xs) : ∃ K : gx_K, va_K K.1 vwCl (gx_ty K) s ∧ gx_X K (fun q : Nat => s.heap.size ≤ q) s s.heap := by
  obtain ⟨hx, hb, hr, hml, hown, hts, hXs, hbl, hlocks, hgv⟩ := C0
  have hq := flat_of_before _ hgv
  have htb : ∀ w ∈ gx_TB, w.before #[Value.ref b] s = true := fun w hw => hts w (gx_tbl hw)
  have hA : ∀ a : Nat, a < s.heap.size → ¬ (fun q : Nat => s.heap.size ≤ q) a := fun a h => Nat.not_le.mpr h
  obtain ⟨k0, i0, z0⟩ := u_known (C := RX0) (T := TX0) (N := 5) (n := 5) htb inX0 (htb _ tb_89)
  obtain ⟨k1, i1, z1⟩ := u_known (C := RX1) (T := TX1) (N := 3) (n := 3) htb inX1 (htb _ tb_143)
  obtain ⟨k2, i2, z2⟩ := u_known (C := RX2) (T := TX2) (N := 7) (n := 7) htb inX2 (htb _ tb_161)
  obtain ⟨k3, i3, z3⟩ := u_known (C := RX3) (T := TX3) (N := 4) (n := 4) htb inX3 (htb _ tb_95)
  obtain ⟨k4, i4, z4⟩ := u_known (C := RX4) (T := TX4) (N := 4) (n := 4) htb inX4 (htb _ tb_81)
  obtain ⟨k5, i5, z5⟩ := u_known (C := RX5) (T := TX5) (N := 15) (n := 15) htb inX5 (htb _ tb_708)
  obtain ⟨cC, fC, oC, gC1, gC2, gC3⟩ := Cond.arrayClass_spec (htb _ tb_188)
  obtain ⟨cI, fI1, oI, gI1, gI2, gI3⟩ := Cond.arrayClass_spec (htb _ tb_113)
  obtain ⟨cL, fL, oL, gL1, gL2, gL3⟩ := Cond.arrayClass_spec (htb _ tb_772)
  have hao : (Cond.arrayOver (.array .int)).before #[Value.ref b] s = true := hts _ (List.mem_of_getElem? (i := 149) (by decide +kernel))
  obtain ⟨comp, cA, fA, gA1, gA2, gA3, gA4, gA5⟩ := arrayOverA_spec hao
  obtain ⟨adK, adV, hS, hE⟩ := vk_Sof (args := #[Value.ref b]) (s := s) (N := 9) (tm := fun i => .string RX2 (121 + 2 * i)) (len := gx_len) (byt := gx_byt) (A := fun q : Nat => s.heap.size ≤ q) (by decide) (fun i hi => hq _ (fl_ex i hi)) (fun i hi => hq _ (fl_co i hi)) (fun i hi => hq _ (fl_ar i hi)) (fun i hi => hq _ (fl_le i hi)) (fun i hi j hj => hq _ (fl_el i hi j hj)) (fun i j hi hj hij => (fl_ne i hi j hj hij).elim (fun z => Or.inl (hq _ z)) (fun z => Or.inr (hq _ z))) hA
  have hsf : ∃ fk : Nat, va_Z RJ3 "SIOOBE_FORMATTER" "Ljava/util/function/BiFunction;" (gx_fv fk) (fun q : Nat => s.heap.size ≤ q) s s.heap := by
    rcases va_Zqof (args := #[Value.ref b]) (s := s) (C := RJ3) (n := "SIOOBE_FORMATTER") (d := "Ljava/util/function/BiFunction;") (A := fun q : Nat => s.heap.size ≤ q) (hts _ (List.mem_of_getElem? (i := 647) (by decide +kernel))) (htb _ tb_78) (hq _ fl_sf) hA with z | ⟨t, z⟩
    · exact ⟨0, z⟩
    · exact ⟨t + 1, z⟩
  obtain ⟨fk, hfk⟩ := hsf
  have hcs : va_Z RJ0 "COMPACT_STRINGS" "Z" (.int 1) (fun q : Nat => s.heap.size ≤ q) s s.heap := va_Zof (args := #[Value.ref b]) (hts _ (List.mem_of_getElem? (i := 624) (by decide +kernel))) (htb _ tb_76) (va_eqi (hq _ fl_cs)) hA
  have hnest : ∀ w : Cond, w.onTables = true → w ∈ lw_tbl → va_Nw w s := fun w h1 h2 => va_Nw.of h1 (hts w h2)
  refine ⟨((fun k => if k = 0 then k0 else if k = 1 then k1 else if k = 2 then k2 else if k = 3 then k3 else if k = 4 then k4 else k5, fun k => if k = 0 then i0 else if k = 1 then i1 else if k = 2 then i2 else if k = 3 then i3 else if k = 4 then i4 else i5), (cC, cI, cL, cA), adK, adV, fk), ⟨?_, ?_⟩, ⟨⟨?_, ?_, ?_, ?_⟩, hao, fun i hi => ?_, hS, hcs, hfk⟩⟩
  · intro k q hk
    match k, hk with
    | 0, hk => cases hk; exact z0
    | 1, hk => cases hk; exact z1
    | 2, hk => cases hk; exact z2
    | 3, hk => cases hk; exact z3
    | 4, hk => cases hk; exact z4
    | 5, hk => cases hk; exact z5
    | k + 6, hk => simp at hk
  · intro k q hk
    match k, hk with
    | 0, hk => cases hk; exact ⟨fun n z => ⟨fun k h => (by cases h), fC, gC2, oC, gC3⟩, gC1⟩
    | 1, hk => cases hk; exact ⟨fun n z => ⟨fun k h => (by cases h), fI1, gI2, oI, gI3⟩, gI1⟩
    | 2, hk => cases hk; exact ⟨fun n z => ⟨fun k h => (by cases h), fL, gL2, oL, gL3⟩, gL1⟩
    | 3, hk => cases hk; exact ⟨fun n z => ⟨fun k h => (by cases h), fA, gA3, comp, gA4⟩, gA5⟩
    | k + 4, hk => simp at hk
  · exact hnest _ rfl (List.mem_of_getElem? (i := 144) (by decide +kernel))
  · exact hnest _ rfl (List.mem_of_getElem? (i := 162) (by decide +kernel))
  · exact hnest _ rfl (List.mem_of_getElem? (i := 242) (by decide +kernel))
  · exact hnest _ rfl (List.mem_of_getElem? (i := 573) (by decide +kernel))
  · exact vk_R.of (hts _ (List.mem_of_getElem? (tl_sr i hi))) (hE i hi)
