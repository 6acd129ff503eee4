/-- the loop's head: behind the script's end the law is true, else it goes on -/
theorem law_head {l : Launch} {K : gx_K} {b L : Nat} {xs : Nat → Int32} {G : gx_J} {k n i : Nat} {ws : va_W} {m w : Nat} (hL : gx_L l K b L xs G) (hk : k ≤ 600000) (hn : n ≤ 7302250) (hL2 : L ≤ 2560) (hi : i ≤ L + 5) (kk : i + 5 ≤ L → G k n ws [(0, .ref b), (1, .ref m), (2, .ref w), (3, .int (nI i))] 26 []) : G k n ws [(0, .ref b), (1, .ref m), (2, .ref w), (3, .int (nI i))] 18 [] := by
  have hB := gx_Lb hL
  refine gx_iload_n (pc := 18) hB dL_law_18 3 rfl ?_
  refine gx_aload_n (pc := 19) hB dL_law_19 0 rfl ?_
  refine gx_slen (pc := 20) hL dL_law_20 ?_
  refine gx_iconst (pc := 21) hB dL_law_21 (nI 5) (by decide) ?_
  refine gx_isub (pc := 22) hB dL_law_22 ?_
  refine gx_icmp_gt (pc := 23) hB 893 dL_law_23 (by decide) (fun c_1 => ?_) (fun c_1 => ?_)
  · refine gx_iconst (pc := 893) hB dL_law_893 1 (by decide) ?_
    exact gx_lend (pc := 894) hL dL_law_894 hk hn
  · refine kk ?_
    rw [Int32.lt_iff_toInt_lt, pk_sub_toInt (by omega) (by omega), nI_toInt (by omega)] at c_1
    omega
/-! The law's loop; the claim. -/
set_option maxHeartbeats 4000000 in
theorem law_loop {l : Launch} {K : gx_K} {b L : Nat} {xs : Nat → Int32} {G : gx_J} {k n : Nat} {m h t1 t2 t3 t4 c hb s1 s2 s3 s4 c2 g ro r0 r1 r2 r3 r4 v sg nu w q1 q2 q3 q4 q5 q6 q7 q8 : Nat} (hL : gx_L l K b L xs G) (hk : k ≤ 600000) (hn : n ≤ 7302250) (hL2 : L ≤ 2560) : ∀ f i, L ≤ i + f → i ≤ L + 5 → ∀ (C F R0 R1 R2 R3 R4 : Nat → Int32) (od sn : Nat) (X : Nat → Int32) (ln : Nat) (N : Nat → Int32) (rd pl : Nat) (rs ca : Int32) (S P H U Z : Nat → Int32) (cl : Int32) (sp : Nat) (ca5 : Int32) (co : Nat), St C R0 R1 R2 R3 R4 od sn X ln S P → G k n (wX K m h t1 t2 t3 t4 c C hb s1 s2 s3 s4 c2 F g ro r0 r1 r2 r3 r4 R0 R1 R2 R3 R4 od sn v sg nu X ln N rd pl rs ca ++ wM K w q1 q2 q3 q4 q5 q6 q7 q8 S P H U X Z sn false ln cl sp ca5 co) [(0, .ref b), (1, .ref m), (2, .ref w), (3, .int (nI i))] 18 [] := by
  have hB := gx_Lb hL
  intro f
  induction f with
  | zero =>
    intro i h1 h2 C F R0 R1 R2 R3 R4 od sn X ln N rd pl rs ca S P H U Z cl sp ca5 co hS
    exact law_head hL hk hn hL2 h2 (fun h => absurd h (by omega))
  | succ f ih =>
    intro i h1 h2 C F R0 R1 R2 R3 R4 od sn X ln N rd pl rs ca S P H U Z cl sp ca5 co hS
    refine law_head hL hk hn hL2 h2 (fun hi => ?_)
    have KK : ∀ (C F R0 R1 R2 R3 R4 : Nat → Int32) (od sn : Nat) (X : Nat → Int32) (ln : Nat) (N : Nat → Int32) (rd pl : Nat) (rs ca : Int32) (S P H U Z : Nat → Int32) (cl : Int32) (sp : Nat) (ca5 : Int32) (co : Nat), St C R0 R1 R2 R3 R4 od sn X ln S P → G k n (wX K m h t1 t2 t3 t4 c C hb s1 s2 s3 s4 c2 F g ro r0 r1 r2 r3 r4 R0 R1 R2 R3 R4 od sn v sg nu X ln N rd pl rs ca ++ wM K w q1 q2 q3 q4 q5 q6 q7 q8 S P H U X Z sn false ln cl sp ca5 co) [(0, .ref b), (1, .ref m), (2, .ref w), (3, .int (nI i))] 887 [] := by
      intro C F R0 R1 R2 R3 R4 od sn X ln N rd pl rs ca S P H U Z cl sp ca5 co hS
      refine gx_iinc (pc := 887) hB dL_law_887 3 (by decide) rfl (nI (i + 5)) (nI_add i 5) [(3, .int (nI (i + 5))), (0, .ref b), (1, .ref m), (2, .ref w)] rfl ?_
      refine gx_goto (pc := 890) hB 18 dL_law_890 (by decide) ?_
      refine gx_sub hB [1, 2, 3, 0] (lv' := [(0, .ref b), (1, .ref m), (2, .ref w), (3, .int (nI (i + 5)))]) rfl ?_
      exact ih (i + 5) (by omega) (by omega) _ _ _ _ _ _ _ _ _ _ _ _ _ _ _ _ _ _ _ _ _ _ _ _ _ hS
    refine gx_aload_n (pc := 26) hB dL_law_26 0 rfl ?_
    refine gx_iload_n (pc := 27) hB dL_law_27 3 rfl ?_
    refine gx_sld (pc := 28) hL dL_law_28 (i := nI i) (vp_in_nI (by omega) (by omega)) ?_
    refine gx_bipush (pc := 29) hB dL_law_29 31 (by decide) ?_
    refine gx_iand (pc := 31) hB dL_law_31 ?_
    obtain ⟨j, hj, ej⟩ := pk_andE (xs (nI i).toNatClampNeg) (m := 31) 5 (by decide)
    refine gx_top ej ?_
    rcases (show j = 0 ∨ j = 1 ∨ j = 2 ∨ j = 3 ∨ j = 4 ∨ j = 5 ∨ j = 6 ∨ j = 7 ∨ j = 8 ∨ j = 9 ∨ j = 10 ∨ j = 11 ∨ j = 12 ∨ j = 13 ∨ j = 14 ∨ j = 15 ∨ j = 16 ∨ j = 17 ∨ j = 18 ∨ j = 19 ∨ j = 20 ∨ j = 21 ∨ j = 22 ∨ j = 23 ∨ j = 24 ∨ j = 25 ∨ j = 26 ∨ 27 ≤ j by omega) with z | z | z | z | z | z | z | z | z | z | z | z | z | z | z | z | z | z | z | z | z | z | z | z | z | z | z | z
    · subst z; exact gx_tableIn (pc := 32) hB 156 dL_law_32 (by decide) (by decide) rfl (by decide) (law_0 hL hk hn hi hL2 hS KK)
    · subst z; exact gx_tableIn (pc := 32) hB 169 dL_law_32 (by decide) (by decide) rfl (by decide) (law_1 hL hk hn hi hL2 hS KK)
    · subst z; exact gx_tableIn (pc := 32) hB 182 dL_law_32 (by decide) (by decide) rfl (by decide) (law_2 hL hk hn hi hL2 hS KK)
    · subst z; exact gx_tableIn (pc := 32) hB 215 dL_law_32 (by decide) (by decide) rfl (by decide) (law_3 hL hk hn hi hL2 hS KK)
    · subst z; exact gx_tableIn (pc := 32) hB 258 dL_law_32 (by decide) (by decide) rfl (by decide) (law_4 hL hk hn hi hL2 hS KK)
    · subst z; exact gx_tableIn (pc := 32) hB 311 dL_law_32 (by decide) (by decide) rfl (by decide) (law_5 hL hk hn hi hL2 hS KK)
    · subst z; exact gx_tableIn (pc := 32) hB 334 dL_law_32 (by decide) (by decide) rfl (by decide) (law_6 hL hk hn hi hL2 hS KK)
    · subst z; exact gx_tableIn (pc := 32) hB 357 dL_law_32 (by decide) (by decide) rfl (by decide) (law_7 hL hk hn hi hL2 hS KK)
    · subst z; exact gx_tableIn (pc := 32) hB 370 dL_law_32 (by decide) (by decide) rfl (by decide) (law_8 hL hk hn hi hL2 hS KK)
    · subst z; exact gx_tableIn (pc := 32) hB 403 dL_law_32 (by decide) (by decide) rfl (by decide) (law_9 hL hk hn hi hL2 hS KK)
    · subst z; exact gx_tableIn (pc := 32) hB 446 dL_law_32 (by decide) (by decide) rfl (by decide) (law_10 hL hk hn hi hL2 hS KK)
    · subst z; exact gx_tableIn (pc := 32) hB 479 dL_law_32 (by decide) (by decide) rfl (by decide) (law_11 hL hk hn hi hL2 hS KK)
    · subst z; exact gx_tableIn (pc := 32) hB 502 dL_law_32 (by decide) (by decide) rfl (by decide) (law_12 hL hk hn hi hL2 hS KK)
    · subst z; exact gx_tableIn (pc := 32) hB 525 dL_law_32 (by decide) (by decide) rfl (by decide) (law_13 hL hk hn hi hL2 hS KK)
    · subst z; exact gx_tableIn (pc := 32) hB 558 dL_law_32 (by decide) (by decide) rfl (by decide) (law_14 hL hk hn hi hL2 hS KK)
    · subst z; exact gx_tableIn (pc := 32) hB 591 dL_law_32 (by decide) (by decide) rfl (by decide) (law_15 hL hk hn hi hL2 hS KK)
    · subst z; exact gx_tableIn (pc := 32) hB 624 dL_law_32 (by decide) (by decide) rfl (by decide) (law_16 hL hk hn hi hL2 hS KK)
    · subst z; exact gx_tableIn (pc := 32) hB 657 dL_law_32 (by decide) (by decide) rfl (by decide) (law_17 hL hk hn hi hL2 hS KK)
    · subst z; exact gx_tableIn (pc := 32) hB 690 dL_law_32 (by decide) (by decide) rfl (by decide) (law_18 hL hk hn hi hL2 hS KK)
    · subst z; exact gx_tableIn (pc := 32) hB 713 dL_law_32 (by decide) (by decide) rfl (by decide) (law_19 hL hk hn hi hL2 hS KK)
    · subst z; exact gx_tableIn (pc := 32) hB 736 dL_law_32 (by decide) (by decide) rfl (by decide) (law_20 hL hk hn hi hL2 hS KK)
    · subst z; exact gx_tableIn (pc := 32) hB 769 dL_law_32 (by decide) (by decide) rfl (by decide) (law_21 hL hk hn hi hL2 hS KK)
    · subst z; exact gx_tableIn (pc := 32) hB 802 dL_law_32 (by decide) (by decide) rfl (by decide) (law_22 hL hk hn hi hL2 hS KK)
    · subst z; exact gx_tableIn (pc := 32) hB 815 dL_law_32 (by decide) (by decide) rfl (by decide) (law_23 hL hk hn hi hL2 hS KK)
    · subst z; exact gx_tableIn (pc := 32) hB 838 dL_law_32 (by decide) (by decide) rfl (by decide) (law_24 hL hk hn hi hL2 hS KK)
    · subst z; exact gx_tableIn (pc := 32) hB 851 dL_law_32 (by decide) (by decide) rfl (by decide) (law_25 hL hk hn hi hL2 hS KK)
    · subst z; exact gx_tableIn (pc := 32) hB 874 dL_law_32 (by decide) (by decide) rfl (by decide) (law_26 hL hk hn hi hL2 hS KK)
    · exact gx_tableOut (pc := 32) hB 887 dL_law_32 (Or.inr (by rw [nI_toInt (by omega)]; omega)) (by decide) (KK _ _ _ _ _ _ _ _ _ _ _ _ _ _ _ _ _ _ _ _ _ _ _ _ _ hS)
set_option maxHeartbeats 4000000 in
theorem law_main {l : Launch} {K : gx_K} {b L : Nat} {xs : Nat → Int32} {G : gx_J} (hL : gx_L l K b L xs G) (hL2 : L ≤ 2560) : G 0 0 [] [(0, .ref b)] 0 [] := by
  have hB := gx_Lb hL
  refine gx_new (pc := 0) hB dL_law_0 4 rfl inX4 tyX4 tyX4_ok tb_80 tb_81 tb_68 [.null, .null, .null, .null] (by intro j hj; rcases j with _|_|_|_|j; rfl; rfl; rfl; rfl; exact absurd hj (by omega)) (Nat.le_of_ble_eq_true rfl) (Nat.le_of_ble_eq_true rfl) (fun m => ?_)
  refine gx_ws (ws' := [(m, .inr (4, [.null, .null, .null, .null]))]) rfl ?_
  refine gx_dup (pc := 3) hB dL_law_3 rfl ?_
  refine gx_callI (pc := 4) (wr := []) hB (c_X4_init l K m) mX4_init dL_law_4 tb_82 pX4_init ⟨Nat.le_of_ble_eq_true rfl, Nat.le_of_ble_eq_true rfl, Nat.le_of_ble_eq_true rfl, Nat.le_of_ble_eq_true rfl⟩ (rest := [.ref m]) rfl (Nat.le_of_ble_eq_true rfl) [0] [] rfl rfl (by decide) (by decide) (by decide) (fun u W4 hp => ?_)
  obtain ⟨rfl, h, t1, t2, t3, t4, c, hb, s1, s2, s3, s4, c2, g, ro, r0, r1, r2, r3, r4, v, sg, nu, rfl⟩ := hp
  refine gx_astore_n (pc := 7) hB dL_law_7 (by decide) [(1, .ref m), (0, .ref b)] rfl ?_
  refine gx_new (pc := 8) hB dL_law_8 5 rfl inX5 tyX5 tyX5_ok tb_707 tb_708 tb_73 [.null, .null, .null, .null, .int 0, .int 0, .null, .int 0, .null, .null, .int 0, .int 0, .int 0, .int 0, .null] (by intro j hj; rcases j with _|_|_|_|_|_|_|_|_|_|_|_|_|_|_|j <;> first | rfl | exact absurd hj (by omega)) (Nat.le_of_ble_eq_true rfl) (Nat.le_of_ble_eq_true rfl) (fun w => ?_)
  refine gx_dup (pc := 11) hB dL_law_11 rfl ?_
  refine gx_callI (pc := 12) (wr := wX K m h t1 t2 t3 t4 c cNew hb s1 s2 s3 s4 c2 cNew g ro r0 r1 r2 r3 r4 (fun _ => 0) (fun _ => 0) (fun _ => 0) (fun _ => 0) (fun _ => 0) 0 0 v sg nu (fun _ => 0) 0 (fun _ => 0) 0 0 0 0) hB (c_X5_init l K w) mX5_init dL_law_12 tb_709 pX5_init ⟨Nat.le_of_ble_eq_true rfl, Nat.le_of_ble_eq_true rfl, Nat.le_of_ble_eq_true rfl, Nat.le_of_ble_eq_true rfl⟩ (rest := [.ref w]) rfl (Nat.le_of_ble_eq_true rfl) [23] (List.range 23) rfl rfl (by decide) (by decide) (by decide) (fun u W5 hp => ?_)
  obtain ⟨rfl, q1, q2, q3, q4, q5, q6, q7, q8, rfl⟩ := hp
  refine gx_astore_n (pc := 15) hB dL_law_15 (by decide) [(2, .ref w), (1, .ref m), (0, .ref b)] rfl ?_
  refine gx_iconst (pc := 16) hB dL_law_16 0 (by decide) ?_
  refine gx_istore_n (pc := 17) hB dL_law_17 (by decide) [(3, .int 0), (2, .ref w), (1, .ref m), (0, .ref b)] rfl ?_
  refine gx_sub hB [3, 2, 1, 0] (lv' := [(0, .ref b), (1, .ref m), (2, .ref w), (3, .int (nI 0))]) rfl ?_
  exact law_loop hL (Nat.le_of_ble_eq_true rfl) (Nat.le_of_ble_eq_true rfl) hL2 L 0 (by omega) (by omega) _ _ _ _ _ _ _ _ _ _ _ _ _ _ _ _ _ _ _ _ _ _ _ _ _ St_new
/-- the walk of the law's body, from its entry -/
theorem whole_start {p : Program} {e : Env} {s : State} {m : MethodId} {below : List Frame} {meth : Method} {c : Code} (l : Launch) (hflags : l.flags = flags0) {b L : Nat} {xs : Nat → Int32} (hL : L ≤ 2560) (C0 : lw_At p s m meth c b L xs) : W p l e room_1 s m #[Value.ref b] below meth c s.heap [] 0 0 (lw_Z below #[Value.ref b] s) (entryFrame m ([Value.ref b] : List Value).toArray 4) := by
  obtain ⟨K, hK, hX⟩ := gx_K0 C0
  have hP : va_P K.1 vwCl [] s.heap := fun k q h => by simp at h
  have hD : va_D (fun q : Nat => s.heap.size ≤ q) [] := ⟨fun i j p q h => by simp at h, fun k q h => by simp at h⟩
  have hl := lv_entry ([.ref b]) (n := 4) (Nat.le_of_ble_eq_true rfl)
  rw [lg_entry_eq]
  exact law_main (G := gx_W p l e room_1 s m #[Value.ref b] below meth c K.1 (fun q : Nat => s.heap.size ≤ q) 4 (lw_Z below #[Value.ref b] s)) ⟨p, e, s, m, below, meth, c, rfl, C0, hK, hX⟩ hL s.heap [] _ hP hD va_S.rf hl
set_option maxHeartbeats 4000000 in
theorem lw_walk (l : Launch) (hflags : l.flags = flags0) (b : Addr) (xs : List Int32) : MetFree l x (headSpec (Jvm.Cond.code x code maxLocals ret :: tables_1) room_1) (lw_P b xs) (fun _ _ _ _ _ => True) lw_Q := by
  refine MetFree.of_bodyS (code := code) (maxLocals := maxLocals) (ret := ret) (by decide) ?_ ?_
  · intro args s m h hn
    obtain ⟨meth, c, h1, h2, h3, h4, h5, h6, -, -⟩ := Cond.code_spec hn (atoms_spec (ws := Jvm.Cond.code x code maxLocals ret :: tables_1) h _ List.mem_cons_self)
    exact ⟨meth, c, h1, h2, h3, h4, h5, h6⟩
  · intro p e s m args below meth c s₁ B hml0 hP _
    obtain ⟨rfl, hx, hbd, hgv⟩ := hP
    obtain ⟨scr, harrAt, hlist, hof, hsmall⟩ := hx
    obtain ⟨hcb, hkn, -, -⟩ := State.arrayAt?_spec harrAt
    have hown : s.vm.findClass R_law = some m.cls := findClass_of_methodNamed B.named
    have hts0 : ∀ c ∈ (Jvm.Cond.code x code maxLocals ret :: tables_1), c.before #[Value.ref b] s = true := atoms_spec (ws := Jvm.Cond.code x code maxLocals ret :: tables_1) B.pre
    have hts : ∀ w ∈ lw_tbl, w.before #[Value.ref b] s = true := k2_hts_sels lw_privs (fun w hw => hts0 w (List.mem_cons_of_mem _ hw)) lw_privs_ok
    have hml : c.maxLocals = 4 := B.maxLocals_eq (hts0 _ List.mem_cons_self)
    have X₀ : Stand p l e room_1 s m #[Value.ref b] below meth c s₁ [] 0 0 := Stand.of_body B
    have hh0 : s₁.heap = s.heap := by rw [B.state]; rfl
    have hsz : scr.slots.size = xs.length := by rw [← Array.length_toList, hlist, List.length_map]
    have hval : ∀ j : Nat, j < xs.length → scr.slots[j]? = some (.int (xs.getD j 0)) := fun j hj => by
      rw [← Array.getElem?_toList, hlist]
      simp [hj]
    have hbl : b < s.heap.size := (Array.getElem?_eq_some_iff.mp hcb).1
    have hX : va_X b xs.length (fun j => xs.getD j 0) s s.heap := ⟨scr, hcb, hof, hkn, hsz, hval⟩
    have K : W p l e room_1 s m #[Value.ref b] below meth c s₁.heap [] 0 0 (lw_Z below #[Value.ref b] s) (entryFrame m ([Value.ref b] : List Value).toArray 4) := by
      rw [hh0]
      exact whole_start l hflags hbd ⟨B.exec, B.bytes, B.returns, hml, hown, hts, hX, hbl, B.notSynchronized, hgv⟩
    obtain ⟨t, a1, o, b1, b2, b3⟩ := K s₁ rfl X₀
    exact ⟨t, o, a1, b1, b2, b3⟩
theorem lw_pre_spec {args : Array Value} {s : State} (h : (Jvm.Cond.and given_1 narrow_1).before args s = true) (hr : rest_1_c.before args s = true) : ∃ (b : Addr) (xs : List Int32), lw_P b xs args s := by
  have hs := flat_of_before _ h
  have hq := flat_of_before _ hr
  have hc : (Cond.count 1).before args s = true := hs _ (by decide +kernel)
  have harr : (Cond.arrayOf (.arg 0) .int).before args s = true := hs _ (by decide +kernel)
  have hle : (Cond.le (.length (.arg 0)) (.int 2560)).before args s = true := hs _ (by decide +kernel)
  have hlen : (Cond.isInt (.length (.arg 0))).before args s = true := hq _ (by decide +kernel)
  have hall : (Cond.all (.arg 0) (.isInt (.elem (.arg 0) (.index 0)))).before args s = true := hq _ (by decide +kernel)
  obtain ⟨b, xs, hb, hx⟩ := State.ints_of_pre rfl harr hlen hall
  have hsm : xs.length < 2 ^ 31 := hx.choose_spec.2.2.2
  have hev : (Term.length (.arg 0)).eval args s none [] s = some (.int xs.length.toInt32) := hx.length_eval hb
  have hv := Cond.le_ints hev (show (Term.int 2560).eval args s none [] s = some (.int 2560) from rfl)
  have hd : xs.length.toInt32 ≤ 2560 := by
    simpa [Cond.before, Cond.holds, hv] using hle
  have hN : xs.length ≤ 2560 := (Int32.ofNat_le_ofNat hsm (by decide)).mp (show Int32.ofNat xs.length ≤ Int32.ofNat 2560 from hd)
  exact ⟨b, xs, Cond.one_arg hc (show args[0]? = some (.ref b) from hb), hx, hN, h⟩
theorem lw_comes (l : Launch) (hflags : l.flags = flags0) : Comes l x (Jvm.Cond.code x code maxLocals ret :: tables_1) room_1 (fun tb e args s => Calls_1 tb e args s ∧ rest_1 tb e args s ∧ Pre_1 tb e args s)
    (fun _ _ args s o t => lw_Q args s o t) := by
  intro p e ha hc hk s m args below hf hfit hheap happ hpre
  obtain ⟨b, xs, hP⟩ := lw_pre_spec hpre.2.2 hpre.2.1
  obtain ⟨k, o, h1, h2, h3, hQ⟩ := lw_walk l hflags b xs p e ha hc hk s m args below hf ((Spec.applies_iff_loose hf).mp happ).1 hP trivial
  exact ⟨k, o, h1, h2, h3, hQ⟩
theorem lw_frame {s t : State} {o : Outcome} {args : Array Value} (h : Framed s o t [] 600000 7302250) :
    Framed s o t (fieldLocs frame_1_writes args s ++ arrayLocs frame_1_arrays args s ++ staticLocs frame_1_statics s) 600000 7302250 := h
theorem lw_limb (L : Cond) (hL : ∀ (args : Array Value) (s t : State), L.after args s (.returned (some (.int 1))) t = true) :
    ArmFor flags0 classFile x code maxLocals ret World_1 tables_1 room_1 Calls_1 rest_1 Pre_1
      (fun tb e a s o t => postC L tb e a s o t ∧ Framed s o t (fieldLocs frame_1_writes a s ++ arrayLocs frame_1_arrays a s ++ staticLocs frame_1_statics s) 600000 7302250) := by
  intro l hflags _ _ p e ha hc hk s m args below hf hfit hheap happ hpre
  obtain ⟨k, o, h1, h2, h3, rfl, hF⟩ := lw_comes l hflags p e ha hc hk s m args below hf hfit hheap happ hpre
  exact ⟨k, _, h1, h2, h3, hL args s _, lw_frame hF⟩
theorem i_vc : Claimed_1_1 ∧ Claimed_1_2 := ⟨lw_limb limb_1_1 (fun args s t => by simp [limb_1_1, Cond.after, Cond.holds, Cond.value]), lw_limb limb_1_2 (fun args s t => Cond.after_iff.mpr (by
  first | (rw [show limb_1_2 = Cond.eq .result (.int 1) from rfl, Cond.eq_ints (x := 1) (y := 1) rfl rfl]; simp; done) | (simp [limb_1_2, Cond.value, Term.eval]; done)))⟩
