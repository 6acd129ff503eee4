/-! Months. -/
section SIM7
variable {C S : Nat → Int32} {a b c e : Nat} {T : Int}
theorem upd_comm {f : Nat → Int32} {i j : Nat} {x y : Int32} (h : i ≠ j) : upd (upd f i x) j y = upd (upd f j y) i x := funext fun k => by
  unfold upd
  by_cases q : k = j
  · rw [if_pos q, if_neg (fun z => h (z.symm.trans q)), if_pos q]
  · rw [if_neg q, if_neg q]
theorem upd_same {f : Nat → Int32} {i : Nat} {x : Int32} (h : f i = x) : upd f i x = f := funext fun k => by
  unfold upd
  by_cases q : k = i
  · rw [if_pos q, q, h]
  · rw [if_neg q]
theorem mGives_upd {i c p : Nat} {v x z w : Int32} (hc : c < 24) (hp : p < 6) (hi : 297 ≤ i) : mGives (upd S i v) c x p z w = upd (mGives S c x p z w) i v := funext fun j => by
  generalize hS : upd S i v = S'
  have h : ∀ k, k ≠ i → S' k = S k := fun k hk => by rw [← hS]; exact upd_ne hk
  by_cases q : j = i
  · subst q
    rw [upd_eq, mGives_out (by omega) (by omega) (by omega) (by omega), ← hS, upd_eq]
  · rw [upd_ne q]
    unfold mGives aP
    simp only [upd]
    rw [h j q, h 6 (by omega), h 4 (by omega), h (7 + 11 * p + 0) (by omega), h (7 + 11 * p + 1) (by omega)]
theorem kRl (h : Rl C S a b c e) (hO : sOk S a b c e) {k j : Nat} (hk : k < e) (hj : j < 8) : kAt C (nI k) (nI j) = sK S k j := by
  have hb := hO.1
  rw [kAt_n C (by omega) (by omega)]
  exact h.2.2.2.2.2.1 k hk j hj
theorem Rl_addK (h : Rl C S a b c e) (hO : sOk S a b c e) {k j : Nat} {v : Int32} (hk : k < e) (hj : j < 8) : Rl (kAdd C (nI k) (nI j) v) (uK S k j (sK S k j + v)) a b c e := by
  have hb := hO.1
  rw [kAdd_n C v (by omega) (by omega), show cK C k j = sK S k j from h.2.2.2.2.2.1 k hk j hj]
  exact Rl_uK h hO hk hj
theorem tFull_c (hc : C 133 = nI c) (h24 : c ≤ 24) : tFull C 133 24 = decide (nI c = 24) := by
  unfold tFull
  rw [hc]
  have q : nI 24 ≤ nI c ↔ nI c = 24 := by
    rw [nI_leI (by omega) (by omega), show (24 : Int32) = nI 24 from rfl, nI_eq (by omega) (by omega)]
    omega
  exact decide_eq_decide.mpr q
theorem sB_drop (h : sB S a b c e T) : sB S a b c 0 T := ⟨h.1, h.2.1, h.2.2.1, h.2.2.2.1, fun k hk => absurd hk (by omega), h.2.2.2.2.2⟩
theorem sB_join (h : sB S a b c 0 T) (hk : ∀ k, k < e → okK S k) : sB S a b c e T := ⟨h.1, h.2.1, h.2.2.1, h.2.2.2.1, hk, h.2.2.2.2.2⟩
theorem sB_up {S' : Nat → Int32} (h : sB S a b c 0 T) (hb : a ≤ 6 ∧ b ≤ 8 ∧ c ≤ 24) (hh : ∀ i, i < 297 → S' i = S i) : sB S' a b c 0 T := sB_K h hb (fun i hi _ => hh i hi) (fun k hk => absurd hk (by omega))
theorem ends_eq {k : Nat} {v : Int32} (h : sK S k 7 = 0) : mEnds S k v = uK S k 5 v := by
  unfold mEnds
  exact upd_same ((uK_ne (S := S) (k := k) (j := 5) (k2 := k) (j2 := 7) (v := v) (by omega) (by omega) (Or.inr (by omega))).trans h)
theorem okK_vals {X : Nat → Int32} {k : Nat} {L M v : Int32} (h2 : 1 ≤ (sK X k 2).toInt ∧ (sK X k 2).toInt ≤ 999) (h3 : sK X k 3 = L) (h4 : sK X k 4 = M) (h5 : sK X k 5 = v) (h7 : sK X k 7 = 0) (hL : 0 ≤ L.toInt ∧ L.toInt ≤ 60) (hM : 0 ≤ M.toInt ∧ M.toInt ≤ 3) (hv : 0 ≤ v.toInt ∧ v.toInt ≤ 3) (h0 : v = 0 → 1 ≤ L.toInt ∧ M.toInt ≤ 2) : okK X k := by
  unfold okK
  rw [h3, h4, h5, h7]
  exact ⟨h2, hL, hM, hv, Or.inl rfl, h0⟩
theorem Rx_month (h : Rx C S a b c e T) {k : Nat} (hk : k < e) (hr : sK S k 5 = 0) : ∃ c', Rx (bRun C (nI k)) (mMonth S c k).2 a b c' e T ∧ (((mMonth S c k).1 = 1 ∧ c' = c + 1) ∨ ((mMonth S c k).1 = 0 ∧ c' = c)) := by
  have hb := Rx_b h
  obtain ⟨ok2, ok3, ok4, ok5, ok7, ok0⟩ := h.2.2.2.2.2.2.1 k hk
  have ok0' := ok0 hr
  obtain ⟨d, hd, ed⟩ := (h.2.1.2.2.1 k hk).1
  obtain ⟨p, hp, ep⟩ := (h.2.1.2.2.1 k hk).2
  have l1 : Rl (kAdd C (nI k) 3 (-1)) (uK S k 3 (sK S k 3 + -1)) a b c e := Rl_addK (j := 3) h.1 h.2.1 hk (by omega)
  have o1 : sOk (uK S k 3 (sK S k 3 + -1)) a b c e := sOk_uK h.2.1 (by omega) (by omega) (by omega)
  have tL : (sK S k 3 + -1).toInt = (sK S k 3).toInt - 1 := by rw [ti_add (by rw [ti_m1]; omega) (by rw [ti_m1]; omega), ti_m1]; omega
  have eL : sK S k 3 - 1 = sK S k 3 + -1 := Int32.sub_eq_add_neg _ _
  generalize hC1 : kAdd C (nI k) 3 (-1) = C1 at *
  generalize hL : sK S k 3 + -1 = L at *
  generalize hS1 : uK S k 3 L = S1 at *
  have so1 : ∀ k' j, j < 8 → (k' ≠ k ∨ j ≠ 3) → sK S1 k' j = sK S k' j := fun k' j hj hq => by rw [← hS1]; exact upd_ne (by omega)
  have s13 : sK S1 k 3 = L := by rw [← hS1]; exact upd_eq
  have lo1 : ∀ i, i < 297 → S1 i = S i := fun i hi => by rw [← hS1]; exact upd_ne (by omega)
  have b1 : sB S1 a b c 0 T := sB_up (sB_drop h.2.2) ⟨by omega, by omega, by omega⟩ lo1
  have k7 : kAt C1 (nI k) 7 = sK S k 7 := (kRl (j := 7) l1 o1 hk (by omega)).trans (so1 k 7 (by omega) (Or.inr (by omega)))
  have hL0 : L = 0 ↔ L.toInt = 0 := ⟨fun z => by rw [z, ti_0], fun z => ti_eq (by rw [z, ti_0])⟩
  unfold bRun
  dsimp only
  rw [hC1]
  unfold bRunMid mMonth
  by_cases w7 : sK S k 7 = 1
  · -- a month missed
    rw [k7, if_pos w7, if_pos w7]
    have l2 : Rl (kPut C1 (nI k) 7 0) (uK S1 k 7 0) a b c e := Rl_putK (j := 7) l1 o1 hk (by omega)
    have o2 : sOk (uK S1 k 7 0) a b c e := sOk_uK o1 (by omega) (by omega) (by omega)
    have l3 : Rl (kAdd (kPut C1 (nI k) 7 0) (nI k) 4 1) (uK (uK S1 k 7 0) k 4 (sK (uK S1 k 7 0) k 4 + 1)) a b c e := Rl_addK (j := 4) l2 o2 hk (by omega)
    have e4 : sK (uK S1 k 7 0) k 4 = sK S k 4 := (uK_ne (by omega) (by omega) (Or.inr (by omega))).trans (so1 k 4 (by omega) (Or.inr (by omega)))
    rw [e4] at l3
    have o3 : sOk (uK (uK S1 k 7 0) k 4 (sK S k 4 + 1)) a b c e := sOk_uK o2 (by omega) (by omega) (by omega)
    have tM : (sK S k 4 + 1).toInt = (sK S k 4).toInt + 1 := by rw [ti_add (by rw [ti_1]; omega) (by rw [ti_1]; omega), ti_1]
    have eT : mDec (mInc (uK S k 7 0) k 4) k 3 = uK (uK S1 k 7 0) k 4 (sK S k 4 + 1) := by
      unfold mDec mInc
      rw [show sK (uK S k 7 0) k 4 = sK S k 4 from uK_ne (by omega) (by omega) (Or.inr (by omega)), show sK (uK (uK S k 7 0) k 4 (sK S k 4 + 1)) k 3 = sK S k 3 from (uK_ne (by omega) (by omega) (Or.inr (by omega))).trans (uK_ne (by omega) (by omega) (Or.inr (by omega))), eL, ← hS1]
      unfold uK
      rw [upd_comm (i := 297 + 8 * k + 4) (j := 297 + 8 * k + 3) (by omega), upd_comm (i := 297 + 8 * k + 7) (j := 297 + 8 * k + 3) (by omega)]
    rw [eT]
    generalize hM : sK S k 4 + 1 = M at *
    generalize hX : uK (uK S1 k 7 0) k 4 M = X at *
    generalize hD : kAdd (kPut C1 (nI k) 7 0) (nI k) 4 1 = D at *
    have x4 : sK X k 4 = M := by rw [← hX]; exact uK_eq
    have x7 : sK X k 7 = 0 := by rw [← hX]; exact (uK_ne (by omega) (by omega) (Or.inr (by omega))).trans uK_eq
    have xo : ∀ k' j, j < 8 → (k' ≠ k ∨ (j ≠ 4 ∧ j ≠ 7)) → sK X k' j = sK S1 k' j := fun k' j hj hq => by
      rw [← hX]
      exact (uK_ne (by omega) hj (by omega)).trans (uK_ne (by omega) hj (by omega))
    have x3 : sK X k 3 = L := (xo k 3 (by omega) (Or.inr (by omega))).trans s13
    have x2 : sK X k 2 = sK S k 2 := (xo k 2 (by omega) (Or.inr (by omega))).trans (so1 k 2 (by omega) (Or.inr (by omega)))
    have x5 : sK X k 5 = 0 := ((xo k 5 (by omega) (Or.inr (by omega))).trans (so1 k 5 (by omega) (Or.inr (by omega)))).trans hr
    have loX : ∀ i, i < 297 → X i = S i := fun i hi => by rw [← hX, uK_lo hi, uK_lo hi]; exact lo1 i hi
    have bX : sB X a b c 0 T := sB_up (sB_drop h.2.2) ⟨by omega, by omega, by omega⟩ loX
    have kx : ∀ k', k' < e → k' ≠ k → ∀ j, j < 8 → sK X k' j = sK S k' j := fun k' hk' hq j hj => (xo k' j hj (Or.inl hq)).trans (so1 k' j hj (Or.inl hq))
    have c4 : kAt D (nI k) 4 = M := (kRl (j := 4) l3 o3 hk (by omega)).trans x4
    have c3 : kAt D (nI k) 3 = L := (kRl (j := 3) l3 o3 hk (by omega)).trans x3
    refine ⟨c, ?_, Or.inr ⟨rfl, rfl⟩⟩
    dsimp only
    rw [x4, x3, c4, c3, ends_eq x7, ends_eq x7]
    have ty : ∀ v : Int32, sK (uK X k 5 v) k 5 = v ∧ (∀ j, j < 8 → j ≠ 5 → sK (uK X k 5 v) k j = sK X k j) ∧ ∀ k', k' ≠ k → ∀ j, j < 8 → sK (uK X k 5 v) k' j = sK X k' j := fun v => ⟨uK_eq, fun j hj h5 => uK_ne (by omega) hj (Or.inr (fun z => h5 z.symm)), fun k' hk' j hj => uK_ne (by omega) hj (Or.inl (fun z => hk' z.symm))⟩
    have en : ∀ v : Int32, 1 ≤ v.toInt → v.toInt ≤ 3 → Rx (kPut D (nI k) 5 v) (uK X k 5 v) a b c e T := fun v v1 v3 => by
      refine ⟨Rl_putK (j := 5) l3 o3 hk (by omega), sOk_uK o3 (by omega) (by omega) (by omega), sB_join (sB_up bX ⟨by omega, by omega, by omega⟩ (fun i hi => uK_lo hi)) (fun k' hk' => ?_)⟩
      obtain ⟨y5, yo, yk⟩ := ty v
      by_cases z : k' = k
      · subst z
        refine okK_vals (by rw [yo 2 (by omega) (by omega), x2]; exact ok2) ((yo 3 (by omega) (by omega)).trans x3) ((yo 4 (by omega) (by omega)).trans x4) y5 ((yo 7 (by omega) (by omega)).trans x7) (by omega) (by omega) (by omega) (fun z => ?_)
        rw [z, ti_0] at v1; omega
      · exact okK_c (h.2.2.2.2.2.2.1 k' hk') (fun j hj => (yk k' z j hj).trans (kx k' hk' z j hj))
    have t3 : (3 : Int32).toInt = 3 := by decide
    by_cases w4 : M = 3
    · rw [if_pos w4, if_pos (decide_eq_true (by rw [w4]; exact Int32.le_refl _))]
      exact en 3 (by decide) (by decide)
    · have w4' : ¬ 3 ≤ M := fun z => w4 (ti_eq (by rw [Int32.le_iff_toInt_le, t3] at z; rw [t3]; omega))
      have w4'' : M.toInt ≤ 2 := by rw [Int32.le_iff_toInt_le, t3] at w4'; omega
      rw [if_neg w4, if_neg (by rw [decide_eq_false w4']; decide)]
      by_cases w3 : L = 0
      · rw [if_pos w3, if_pos w3]
        exact en 1 (by decide) (by decide)
      · rw [if_neg w3, if_neg w3]
        refine ⟨l3, o3, sB_join bX (fun k' hk' => ?_)⟩
        by_cases z : k' = k
        · subst z
          have w3' : L.toInt ≠ 0 := fun z => w3 (hL0.mpr z)
          exact okK_vals (by rw [x2]; exact ok2) x3 x4 x5 x7 (by omega) (by omega) (by rw [ti_0]; omega) (fun _ => by omega)
        · exact okK_c (h.2.2.2.2.2.2.1 k' hk') (kx k' hk' z)
  · -- no month missed
    have k70 : sK S k 7 = 0 := ok7.elim id (fun z => absurd z w7)
    rw [k7, if_neg w7, if_neg w7, tFull_c l1.1.2.2.1 (by omega)]
    have s17 : sK S1 k 7 = 0 := (so1 k 7 (by omega) (Or.inr (by omega))).trans k70
    by_cases wc : nI c = 24
    · rw [if_pos wc, if_pos (decide_eq_true wc)]
      refine ⟨c, ?_, Or.inr ⟨rfl, rfl⟩⟩
      dsimp only
      rw [if_pos rfl, show mDec S k 3 = S1 from by unfold mDec; rw [eL]; exact hS1, ends_eq s17]
      refine ⟨Rl_putK (j := 5) l1 o1 hk (by omega), sOk_uK o1 (by omega) (by omega) (by omega), sB_join (sB_up b1 ⟨by omega, by omega, by omega⟩ (fun i hi => uK_lo hi)) (fun k' hk' => ?_)⟩
      by_cases z : k' = k
      · subst z
        have yo : ∀ j, j < 8 → j ≠ 5 → sK (uK S1 k' 5 3) k' j = sK S1 k' j := fun j hj h5 => uK_ne (by omega) hj (Or.inr (fun z => h5 z.symm))
        exact okK_vals (by rw [yo 2 (by omega) (by omega), so1 k' 2 (by omega) (Or.inr (by omega))]; exact ok2) ((yo 3 (by omega) (by omega)).trans s13) ((yo 4 (by omega) (by omega)).trans (so1 k' 4 (by omega) (Or.inr (by omega)))) uK_eq ((yo 7 (by omega) (by omega)).trans s17) (by omega) (by omega) ⟨by decide, by decide⟩ (fun z => absurd z (by decide))
      · exact okK_c (h.2.2.2.2.2.2.1 k' hk') (fun j hj => (uK_ne (by omega) hj (Or.inl (fun y => z y.symm))).trans (so1 k' j hj (Or.inl z)))
    · have hc : c < 24 := nI_ne (n := 24) wc (by omega)
      have wd : ¬ (decide (nI c = 24) = true) := by rw [decide_eq_false wc]; decide
      rw [if_neg wc, if_neg wd]
      refine ⟨c + 1, ?_, Or.inl ⟨rfl, rfl⟩⟩
      have q0 : kAt C1 (nI k) 0 = nI d := ((kRl (j := 0) l1 o1 hk (by omega)).trans (so1 k 0 (by omega) (Or.inr (by omega)))).trans ed
      have q1 : kAt C1 (nI k) 1 = nI p := ((kRl (j := 1) l1 o1 hk (by omega)).trans (so1 k 1 (by omega) (Or.inr (by omega)))).trans ep
      have q2 : kAt C1 (nI k) 2 = sK S k 2 := (kRl (j := 2) l1 o1 hk (by omega)).trans (so1 k 2 (by omega) (Or.inr (by omega)))
      obtain ⟨-, r2, r3, r4⟩ := Rx_book0 (w := nI k) ⟨l1, o1, b1⟩ hc hd hp (z := sK S k 2) (by omega) (Or.inr ⟨k, by omega, rfl⟩)
      rw [cv_n (by omega)] at r2
      have l3 := Rl_addK (j := 6) (v := 1) r2 r3 hk (by omega)
      have o3 : sOk (uK (mGives S1 c (nI d) p (sK S k 2) (nI k)) k 6 (sK (mGives S1 c (nI d) p (sK S k 2) (nI k)) k 6 + 1)) a b (c + 1) e := sOk_uK r3 (by omega) (by omega) (by omega)
      have gk : ∀ U : Nat → Int32, ∀ k' j, j < 8 → sK (mGives U c (nI d) p (sK S k 2) (nI k)) k' j = sK U k' j := fun U k' j hj => mGives_out (by omega) (by omega) (by omega) (by omega)
      have eX : mDec (mInc (mGives S c (sK S k 0) (sK S k 1).toNatClampNeg (sK S k 2) (nI k)) k 6) k 3 = uK (mGives S1 c (nI d) p (sK S k 2) (nI k)) k 6 (sK (mGives S1 c (nI d) p (sK S k 2) (nI k)) k 6 + 1) := by
        rw [ed, ep, nI_clamp (by omega)]
        unfold mDec mInc
        rw [gk S1, gk S, show sK (uK (mGives S c (nI d) p (sK S k 2) (nI k)) k 6 (sK S k 6 + 1)) k 3 = sK S k 3 from (uK_ne (by omega) (by omega) (Or.inr (by omega))).trans (gk S k 3 (by omega)), eL, so1 k 6 (by omega) (Or.inr (by omega)), ← hS1]
        · unfold uK
          rw [mGives_upd hc (by omega) (by omega), upd_comm (by omega)]
        · omega
        · omega
      rw [eX]
      dsimp only
      rw [q0, q1, q2]
      have l3' : Rl (kAdd (bBook C1 (nI d) (nI p) (sK S k 2) (nI k)).2 (nI k) 6 1) (uK (mGives S1 c (nI d) p (sK S k 2) (nI k)) k 6 (sK (mGives S1 c (nI d) p (sK S k 2) (nI k)) k 6 + 1)) a b (c + 1) e := l3
      generalize hD : kAdd (bBook C1 (nI d) (nI p) (sK S k 2) (nI k)).2 (nI k) 6 1 = D at *
      generalize hV : sK (mGives S1 c (nI d) p (sK S k 2) (nI k)) k 6 + 1 = V at *
      generalize hX : uK (mGives S1 c (nI d) p (sK S k 2) (nI k)) k 6 V = X at *
      have xo : ∀ k' j, j < 8 → (k' ≠ k ∨ j ≠ 6) → sK X k' j = sK S1 k' j := fun k' j hj hq => by
        rw [← hX]
        exact (uK_ne (by omega) hj (by omega)).trans (gk S1 k' j hj)
      have x3 : sK X k 3 = L := (xo k 3 (by omega) (Or.inr (by omega))).trans s13
      have x7 : sK X k 7 = 0 := (xo k 7 (by omega) (Or.inr (by omega))).trans s17
      have x2 : sK X k 2 = sK S k 2 := (xo k 2 (by omega) (Or.inr (by omega))).trans (so1 k 2 (by omega) (Or.inr (by omega)))
      have x4 : sK X k 4 = sK S k 4 := (xo k 4 (by omega) (Or.inr (by omega))).trans (so1 k 4 (by omega) (Or.inr (by omega)))
      have x5 : sK X k 5 = 0 := ((xo k 5 (by omega) (Or.inr (by omega))).trans (so1 k 5 (by omega) (Or.inr (by omega)))).trans hr
      have bX : sB X a b (c + 1) 0 T := by
        rw [← hX]
        exact sB_up r4 ⟨by omega, by omega, by omega⟩ (fun i hi => uK_lo hi)
      have c3 : kAt D (nI k) 3 = L := (kRl (j := 3) l3' o3 hk (by omega)).trans x3
      rw [x3, c3, ends_eq x7, if_neg Bool.false_ne_true]
      by_cases w3 : L = 0
      · rw [if_pos w3, if_pos w3]
        refine ⟨Rl_putK (j := 5) l3' o3 hk (by omega), sOk_uK o3 (by omega) (by omega) (by omega), sB_join (sB_up bX ⟨by omega, by omega, by omega⟩ (fun i hi => uK_lo hi)) (fun k' hk' => ?_)⟩
        by_cases z : k' = k
        · subst z
          have yo : ∀ j, j < 8 → j ≠ 5 → sK (uK X k' 5 1) k' j = sK X k' j := fun j hj h5 => uK_ne (by omega) hj (Or.inr (fun z => h5 z.symm))
          exact okK_vals (by rw [yo 2 (by omega) (by omega), x2]; exact ok2) ((yo 3 (by omega) (by omega)).trans x3) ((yo 4 (by omega) (by omega)).trans x4) uK_eq ((yo 7 (by omega) (by omega)).trans x7) (by omega) (by omega) ⟨by decide, by decide⟩ (fun z => absurd z (by decide))
        · exact okK_c (h.2.2.2.2.2.2.1 k' hk') (fun j hj => ((uK_ne (by omega) hj (Or.inl (fun y => z y.symm))).trans (xo k' j hj (Or.inl z))).trans (so1 k' j hj (Or.inl z)))
      · rw [if_neg w3, if_neg w3]
        refine ⟨l3', o3, sB_join bX (fun k' hk' => ?_)⟩
        by_cases z : k' = k
        · subst z
          have w3' : L.toInt ≠ 0 := fun z => w3 (hL0.mpr z)
          exact okK_vals (by rw [x2]; exact ok2) x3 x4 x5 x7 (by omega) (by omega) (by rw [ti_0]; omega) (fun _ => by omega)
        · exact okK_c (h.2.2.2.2.2.2.1 k' hk') (fun j hj => (xo k' j hj (Or.inl z)).trans (so1 k' j hj (Or.inl z)))
theorem Rx_goK (h : Rx C S a b c e T) : ∀ k, k ≤ e → Rx (bRunN C k) (mGoK S c k).2.2 a b (mGoK S c k).2.1 e T ∧ c ≤ (mGoK S c k).2.1 ∧ (mGoK S c k).1 = nI ((mGoK S c k).2.1 - c) := by
  intro k
  induction k with
  | zero => exact fun _ => ⟨h, Nat.le_refl _, by show (0 : Int32) = nI (c - c); rw [Nat.sub_self]; rfl⟩
  | succ k ih =>
    intro hk
    obtain ⟨i1, i2, i3⟩ := ih (by omega)
    unfold bRunN mGoK
    rw [run_n i1 (by omega)]
    by_cases w : sK (mGoK S c k).2.2 k 5 = 0
    · rw [if_pos w, if_pos (decide_eq_true w)]
      obtain ⟨c', r1, r2⟩ := Rx_month i1 (by omega) w
      dsimp only
      rcases r2 with ⟨q1, q2⟩ | ⟨q1, q2⟩
      · rw [q1, if_pos rfl]
        subst q2
        exact ⟨r1, by omega, by rw [i3, nI_1]; congr 1; omega⟩
      · rw [q1, if_neg (by decide)]
        subst q2
        exact ⟨r1, i2, by rw [i3, Int32.add_zero]⟩
    · rw [if_neg w, if_neg (by rw [decide_eq_false w]; decide)]
      exact ⟨i1, i2, i3⟩
theorem Rx_T (h : Rx C S a b c e T) {T' : Int} (hT : (S 6).toInt ≤ T') : Rx C S a b c e T' := ⟨h.1, h.2.1, ⟨h.2.2.1.1, h.2.2.1.2.1, h.2.2.1.2.2.1, hT⟩, h.2.2.2⟩
theorem Rx_time (h : Rx C S a b c e T) (hT : T ≤ 2000) : Rx (upd C 0 (C 0 + 1)) (upd S 6 (S 6 + 1)) a b c e (T + 1) := by
  have hb := Rx_b h
  obtain ⟨z0, z1, z6⟩ := h.2.2.1
  have t1 : (S 6 + 1).toInt = (S 6).toInt + 1 := by rw [ti_add (by rw [ti_1]; omega) (by rw [ti_1]; omega), ti_1]
  rw [h.1.2.1.1]
  refine ⟨Rl_set h.1 h.2.1 (Or.inl ⟨rfl, rfl⟩), mTime_ok h.2.1, sB_set h.2.2 ⟨by omega, by omega, by omega⟩ (fun i hi => upd_ne (by omega)) ⟨?_, ?_, ?_⟩⟩
  · rw [show upd S 6 (S 6 + 1) 0 = S 0 from upd_ne (by omega)]; exact z0
  · rw [show upd S 6 (S 6 + 1) 1 = S 1 from upd_ne (by omega)]; exact z1
  · rw [upd_eq, t1]; omega
theorem Rx_months (h : Rx C S a b c e T) : ∀ m : Nat, T + m ≤ 2000 → Rx (bMonths C m) (mGoM S c e m).2.2 a b (mGoM S c e m).2.1 e (T + m) ∧ c ≤ (mGoM S c e m).2.1 ∧ (mGoM S c e m).1 = nI ((mGoM S c e m).2.1 - c) := by
  intro m
  induction m with
  | zero => exact fun _ => ⟨by rw [show T + ((0 : Nat) : Int) = T by omega]; exact h, Nat.le_refl _, by show (0 : Int32) = nI (c - c); rw [Nat.sub_self]; rfl⟩
  | succ m ih =>
    intro hm
    obtain ⟨i1, i2, i3⟩ := ih (by omega)
    have h1 := Rx_time i1 (by omega)
    have hb := Rx_b i1
    obtain ⟨r1, r2, r3⟩ := Rx_goK h1 e (Nat.le_refl _)
    have eC : bMonths C (m + 1) = bRunN (upd (bMonths C m) 0 (bMonths C m 0 + 1)) e := by
      show bMonth (bMonths C m) = _
      unfold bMonth
      rw [h1.1.1.2.2.2, nI_clamp (by omega)]
    rw [eC]
    show Rx _ (mGoK (upd (mGoM S c e m).2.2 6 ((mGoM S c e m).2.2 6 + 1)) (mGoM S c e m).2.1 e).2.2 a b (mGoK (upd (mGoM S c e m).2.2 6 ((mGoM S c e m).2.2 6 + 1)) (mGoM S c e m).2.1 e).2.1 e _ ∧ c ≤ (mGoK (upd (mGoM S c e m).2.2 6 ((mGoM S c e m).2.2 6 + 1)) (mGoM S c e m).2.1 e).2.1 ∧ (mGoM S c e m).1 + (mGoK (upd (mGoM S c e m).2.2 6 ((mGoM S c e m).2.2 6 + 1)) (mGoM S c e m).2.1 e).1 = nI ((mGoK (upd (mGoM S c e m).2.2 6 ((mGoM S c e m).2.2 6 + 1)) (mGoM S c e m).2.1 e).2.1 - c)
    refine ⟨by rw [show T + ((m + 1 : Nat) : Int) = T + m + 1 by omega]; exact r1, by omega, ?_⟩
    rw [r3, i3, nI_add]
    congr 1
    omega
theorem x_pass (h : Rx C S a b c e 999) (x : Int32) : Sim (bPass C x 999) (mPass S c e x) 999 := by
  have hb := Rx_b h
  unfold bPass mPass
  rw [show bSpan x = bIn x 1 60 from rfl, h.1.2.1.1]
  split
  · next q =>
    obtain ⟨m, hm, rfl⟩ := bIn1_of q
    obtain ⟨z0, z1, z6⟩ := h.2.2.1
    have t1 : (S 6 + nI m).toInt = (S 6).toInt + m := by rw [ti_add (by rw [nI_toInt (by omega)]; omega) (by rw [nI_toInt (by omega)]; omega), nI_toInt (by omega)]
    rw [nI_clamp (by omega)]
    split
    · exact Sim_no h (by decide)
    · next w =>
      rw [Int32.lt_iff_toInt_lt, t1, show (999 : Int32).toInt = 999 from by decide] at w
      obtain ⟨r1, r2, r3⟩ := Rx_months (Rx_T h (T' := (S 6).toInt) (Int.le_refl _)) m (by omega)
      have hc := Rx_b r1
      have r4 := r1.2.2.1.2.2.2
      have r5 := Rx_T r1 (T' := 999) (by omega)
      refine Sim_yes ?_ (by rw [r3, nI_toInt (by omega)]; omega) r5
      rw [r1.1.1.2.2.1, h.1.1.2.2.1, pk_sub r2, r3]
  · exact Sim_no h (by decide)
theorem x_later (h : Rx C S a b c e 999) (x y : Int32) : (if tHas C 3 x = true then (if bSpan y = true then (if bClosed C x = true then (-2) else bFund (bPass C y 1059).2 x) else (-1)) else (-1)) = mLater S c e x y := by
  have hb := Rx_b h
  unfold mLater
  rw [Rx_hasP h, show bSpan y = bIn y 1 60 from rfl]
  by_cases q1 : sIsP S x = true
  · by_cases q2 : bIn y 1 60 = true
    · rw [if_pos q1, if_pos q2, if_pos (show (sIsP S x && bIn y 1 60) = true by rw [q1, q2]; rfl)]
      obtain ⟨p, hp, rfl⟩ := isP_of h.2.1 q1
      obtain ⟨m, hm, rfl⟩ := bIn1_of q2
      rw [nI_clamp (n := p) (by omega), nI_clamp (n := m) (by omega), Rx_cls h hp]
      split
      · rfl
      · obtain ⟨z0, z1, z6⟩ := h.2.2.1
        have t1 : (S 6 + nI m).toInt = (S 6).toInt + m := by rw [ti_add (by rw [nI_toInt (by omega)]; omega) (by rw [nI_toInt (by omega)]; omega), nI_toInt (by omega)]
        obtain ⟨r1, r2, r3⟩ := Rx_months h m (by omega)
        have hc := Rx_b r1
        have eP : (bPass C (nI m) 1059).2 = bMonths C m := by
          unfold bPass
          rw [if_pos (show bSpan (nI m) = true from q2), h.1.2.1.1, if_neg, nI_clamp (by omega)]
          rw [Int32.lt_iff_toInt_lt, t1, show (1059 : Int32).toInt = 1059 from by decide]
          omega
        rw [eP, if_neg (by rw [r3]; exact nI_pos (by omega))]
        exact pC r1 (k := 0) hp (by omega)
    · rw [if_pos q1, if_neg q2, if_neg (show ¬ (sIsP S x && bIn y 1 60) = true by simp only [Bool.and_eq_true]; exact fun z => q2 z.2)]
  · rw [if_neg q1, if_neg (show ¬ (sIsP S x && bIn y 1 60) = true by simp only [Bool.and_eq_true]; exact fun z => q1 z.1)]
end SIM7
