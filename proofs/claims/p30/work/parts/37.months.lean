/-! Months of the law's house. -/
section MONTHS
variable {C G F D H V J Q S : Nat → Int32} {a b c e od sn : Nat} {T : Int}
theorem mo_A {Q1 Q2 Q3 : Nat → Int32} {k : Nat} {w : Int32} (hs : HS G F D H V J Q S a b c e) (hb : a ≤ 6 ∧ b ≤ 8 ∧ c ≤ 24) (hk : k < e) (h7 : Q (8 * k + 7) = 1)
    (e1 : Q1 = upd Q (8 * k + 7) 0) (e2 : Q2 = upd Q1 (8 * k + 4) (Q1 (8 * k + 4) + 1)) (e3 : Q3 = upd Q2 (8 * k + 3) (Q2 (8 * k + 3) - 1)) (hw : w = if Q3 (8 * k + 4) = 3 then 3 else if Q3 (8 * k + 3) = 0 then 1 else Q3 (8 * k + 5)) : (mMonth S c k).1 = 0 ∧ HS G F D H V J (upd Q3 (8 * k + 5) w) (mMonth S c k).2 a b c e := by
  have q : ∀ j, j < 8 → Q (8 * k + j) = sK S k j := hs.2.2.2.2 k hk
  have q7 : sK S k 7 = 1 := (q 7 (by omega)).symm.trans h7
  have r : ∀ j, j < 8 → Q3 (8 * k + j) = if j = 3 then sK S k 3 - 1 else if j = 4 then sK S k 4 + 1 else if j = 7 then 0 else sK S k j := fun j hj => by
    rw [e3, e2, e1]
    simp only [updQ, reduceIte, Nat.reduceEqDiff]
    rw [q 3 (by omega), q 4 (by omega), q j hj]
  generalize hT : mDec (mInc (uK S k 7 0) k 4) k 3 = U
  have t : ∀ j, j < 8 → sK U k j = if j = 3 then sK S k 3 - 1 else if j = 4 then sK S k 4 + 1 else if j = 7 then 0 else sK S k j := fun j hj => by
    rw [← hT]
    unfold mDec mInc
    simp only [uK_at, hj, Nat.reduceLT, reduceIte, Nat.reduceEqDiff]
  have to : ∀ i, (i < 297 + 8 * k ∨ 297 + 8 * k + 7 < i) → U i = S i := fun i hi => by
    rw [← hT]
    unfold mDec mInc uK
    rw [upd_ne (by omega), upd_ne (by omega), upd_ne (by omega)]
  have rt : ∀ j, j < 8 → Q3 (8 * k + j) = sK U k j := fun j hj => (r j hj).trans (t j hj).symm
  have eM : mMonth S c k = (0, if sK U k 4 = 3 then mEnds U k 3 else if sK U k 3 = 0 then mEnds U k 1 else U) := by
    unfold mMonth
    rw [if_pos q7, ← hT]
  rw [eM]
  refine ⟨rfl, ?_⟩
  rw [rt 4 (by omega), rt 3 (by omega), rt 5 (by omega)] at hw
  have t7 : sK U k 7 = 0 := by rw [t 7 (by omega), if_neg (by omega), if_neg (by omega), if_pos rfl]
  have h3o : ∀ i, (i < 8 * k ∨ 8 * k + 7 < i) → Q3 i = Q i := fun i hi => by
    rw [e3, upd_ne (by omega), e2, upd_ne (by omega), e1, upd_ne (by omega)]
  have en : ∀ v : Int32, HS G F D H V J (upd Q3 (8 * k + 5) v) (uK U k 5 v) a b c e := fun v =>
    HS_row (S' := uK U k 5 v) (k := k) hs hb (fun i hi => (upd_ne (by omega)).trans (h3o i hi)) (fun i hi => (show upd U (297 + 8 * k + 5) v i = U i from upd_ne (by omega)).trans (to i hi)) (fun j hj => by
      rw [updQ, uK_at (by omega) hj]
      by_cases z : j = 5
      · rw [if_pos z, if_pos z]
      · rw [if_neg z, if_neg z]; exact rt j hj)
  show HS G F D H V J _ (if sK U k 4 = 3 then mEnds U k 3 else if sK U k 3 = 0 then mEnds U k 1 else U) a b c e
  by_cases w4 : sK U k 4 = 3
  · rw [if_pos w4] at hw ⊢
    rw [ends_eq t7, hw]
    exact en 3
  · rw [if_neg w4] at hw ⊢
    by_cases w3 : sK U k 3 = 0
    · rw [if_pos w3] at hw ⊢
      rw [ends_eq t7, hw]
      exact en 1
    · rw [if_neg w3] at hw ⊢
      have z := en w
      rw [hw, show uK U k 5 (sK U k 5) = U from upd_same rfl] at z
      rw [hw]
      exact z
theorem mo_C {Q1 Q2 Q3 : Nat → Int32} {k : Nat} (hs : HS G F D H V J Q S a b c e) (hb : a ≤ 6 ∧ b ≤ 8 ∧ c ≤ 24) (hk : k < e) (h7 : ¬ Q (8 * k + 7) = 1) (hc : nI c = 24)
    (e1 : Q1 = upd Q (8 * k + 7) 0) (e2 : Q2 = upd Q1 (8 * k + 4) (Q1 (8 * k + 4))) (e3 : Q3 = upd Q2 (8 * k + 3) (Q2 (8 * k + 3) - 1)) : (mMonth S c k).1 = 0 ∧ HS G F D H V J (upd Q3 (8 * k + 5) 3) (mMonth S c k).2 a b c e := by
  have q : ∀ j, j < 8 → Q (8 * k + j) = sK S k j := hs.2.2.2.2 k hk
  have q7 : ¬ sK S k 7 = 1 := fun z => h7 ((q 7 (by omega)).trans z)
  have eM : mMonth S c k = (0, mEnds (mDec S k 3) k 3) := by
    unfold mMonth
    rw [if_neg q7, if_pos hc]
  rw [eM]
  refine ⟨rfl, ?_⟩
  rw [upd_same rfl] at e2
  subst e2
  unfold mEnds mDec
  refine HS_row (S' := uK (uK (uK S k 3 (sK S k 3 - 1)) k 5 3) k 7 0) (k := k) hs hb (fun i hi => ?_) (fun i hi => ?_) (fun j hj => ?_)
  · rw [upd_ne (by omega), e3, upd_ne (by omega), e1, upd_ne (by omega)]
  · unfold uK
    rw [upd_ne (by omega), upd_ne (by omega), upd_ne (by omega)]
  · rw [e3, e1]
    simp only [uK_at, hj, updQ, Nat.reduceLT, reduceIte, Nat.reduceEqDiff]
    rw [q 3 (by omega), q j hj]
    rcases (show j = 0 ∨ j = 1 ∨ j = 2 ∨ j = 3 ∨ j = 4 ∨ j = 5 ∨ j = 6 ∨ j = 7 by omega) with z | z | z | z | z | z | z | z
    all_goals subst z
    all_goals rfl
theorem mo_B {Q1 Q2 Q3 Q4 Q5 : Nat → Int32} {k p : Nat} {w : Int32} (hs : HS G F D H V J Q S a b c e) (hb : a ≤ 6 ∧ b ≤ 8 ∧ c ≤ 24) (hk : k < e) (h5 : Q (8 * k + 5) = 0) (h7 : ¬ Q (8 * k + 7) = 1) (hc : ¬ nI c = 24) (h70 : sK S k 7 = 0 ∨ sK S k 7 = 1) (ep : sK S k 1 = nI p) (hp : p < a)
    (e1 : Q1 = upd Q (8 * k + 7) 0) (e2 : Q2 = upd Q1 (8 * k + 4) (Q1 (8 * k + 4))) (e3 : Q3 = upd Q2 (8 * k + 3) (Q2 (8 * k + 3) - 1)) (e4 : Q4 = upd Q3 (8 * k + 6) (Q3 (8 * k + 6) + 1)) (e5 : Q5 = upd Q4 (8 * k + 5) 0) (hw : w = if Q5 (8 * k + 3) = 0 then 1 else Q5 (8 * k + 5)) : (mMonth S c k).1 = 1 ∧ HS (upd G 4 (nI (c + 1))) (upd (upd F (10 * p) (F (10 * p) + sK S k 2)) (10 * p + 1) (upd F (10 * p) (F (10 * p) + sK S k 2) (10 * p + 1) + sK S k 2)) D (upd (upd H (2 * c) (sK S k 0)) (2 * c + 1) (nI p)) (upd (upd V (2 * c) (sK S k 2)) (2 * c + 1) (G 6)) (upd (upd J (2 * c) 0) (2 * c + 1) (nI k)) (upd Q5 (8 * k + 5) w) (mMonth S c k).2 a b (c + 1) e := by
  have hc24 : c < 24 := nI_ne (n := 24) hc (by omega)
  have q : ∀ j, j < 8 → Q (8 * k + j) = sK S k j := hs.2.2.2.2 k hk
  have q7 : ¬ sK S k 7 = 1 := fun z => h7 ((q 7 (by omega)).trans z)
  have q70 : sK S k 7 = 0 := h70.resolve_right q7
  have q5 : sK S k 5 = 0 := (q 5 (by omega)).symm.trans h5
  have s1 := HS_gift (x := sK S k 0) (z := sK S k 2) (w := nI k) hs hb hc24 hp
  generalize hM : mGives S c (sK S k 0) p (sK S k 2) (nI k) = M at s1
  have mk : ∀ j, j < 8 → sK M k j = sK S k j := fun j hj => by
    have he : e ≤ e := Nat.le_refl _
    rw [← hM]
    exact mGives_out (by omega) (by omega) (by omega) (by omega)
  generalize hT : mDec (mInc M k 6) k 3 = U
  have t : ∀ j, j < 8 → sK U k j = if j = 3 then sK S k 3 - 1 else if j = 6 then sK S k 6 + 1 else sK S k j := fun j hj => by
    rw [← hT]
    unfold mDec mInc
    simp only [uK_at, hj, Nat.reduceLT, reduceIte, Nat.reduceEqDiff]
    rw [mk 3 (by omega), mk 6 (by omega), mk j hj]
  have to : ∀ i, (i < 297 + 8 * k ∨ 297 + 8 * k + 7 < i) → U i = M i := fun i hi => by
    rw [← hT]
    unfold mDec mInc uK
    rw [upd_ne (by omega), upd_ne (by omega)]
  have eM : mMonth S c k = (1, if sK U k 3 = 0 then mEnds U k 1 else U) := by
    unfold mMonth
    rw [if_neg q7, if_neg hc, ep, nI_clamp (by omega), hM, hT]
  rw [eM]
  refine ⟨rfl, ?_⟩
  rw [upd_same rfl] at e2
  subst e2
  have r : ∀ j, j < 8 → Q5 (8 * k + j) = sK U k j := fun j hj => by
    rw [t j hj, e5, e4, e3, e1]
    simp only [updQ, reduceIte, Nat.reduceEqDiff]
    rw [q 3 (by omega), q 6 (by omega), q j hj]
    rcases (show j = 0 ∨ j = 1 ∨ j = 2 ∨ j = 3 ∨ j = 4 ∨ j = 5 ∨ j = 6 ∨ j = 7 by omega) with z | z | z | z | z | z | z | z
    all_goals subst z
    all_goals first | rfl | exact q5.symm | exact q70.symm
  have h5o : ∀ i, (i < 8 * k ∨ 8 * k + 7 < i) → Q5 i = Q i := fun i hi => by
    rw [e5, upd_ne (by omega), e4, upd_ne (by omega), e3, upd_ne (by omega), e1, upd_ne (by omega)]
  have t7 : sK U k 7 = 0 := by rw [t 7 (by omega), if_neg (by omega), if_neg (by omega)]; exact q70
  have hb1 : a ≤ 6 ∧ b ≤ 8 ∧ c + 1 ≤ 24 := by omega
  have en : ∀ v : Int32, HS (upd G 4 (nI (c + 1))) (upd (upd F (10 * p) (F (10 * p) + sK S k 2)) (10 * p + 1) (upd F (10 * p) (F (10 * p) + sK S k 2) (10 * p + 1) + sK S k 2)) D (upd (upd H (2 * c) (sK S k 0)) (2 * c + 1) (nI p)) (upd (upd V (2 * c) (sK S k 2)) (2 * c + 1) (G 6)) (upd (upd J (2 * c) 0) (2 * c + 1) (nI k)) (upd Q5 (8 * k + 5) v) (uK U k 5 v) a b (c + 1) e := fun v =>
    HS_row (S' := uK U k 5 v) (k := k) s1 hb1 (fun i hi => (upd_ne (by omega)).trans (h5o i hi)) (fun i hi => (show upd U (297 + 8 * k + 5) v i = U i from upd_ne (by omega)).trans (to i hi)) (fun j hj => by
      rw [updQ, uK_at (by omega) hj]
      by_cases z : j = 5
      · rw [if_pos z, if_pos z]
      · rw [if_neg z, if_neg z]; exact r j hj)
  rw [r 3 (by omega), r 5 (by omega)] at hw
  show HS _ _ D _ _ _ _ (if sK U k 3 = 0 then mEnds U k 1 else U) a b (c + 1) e
  by_cases w3 : sK U k 3 = 0
  · rw [if_pos w3] at hw ⊢
    rw [ends_eq t7, hw]
    exact en 1
  · rw [if_neg w3] at hw ⊢
    have z := en w
    rw [hw, show uK U k 5 (sK U k 5) = U from upd_same rfl] at z
    rw [hw]
    exact z
-- what is kept in a month
theorem sP_ends {X : Nat → Int32} {k p i : Nat} {v : Int32} (hp : p < 6) (hi : i < 11) : sP (mEnds X k v) p i = sP X p i := mEnds_lo (by omega)
theorem mo_keep (hx : Rx C S a b c e T) {k : Nat} (hk : k < e) (hr : sK S k 5 = 0) (ha : AC S a) (hm : KM S c e) (h6 : 0 ≤ (S 6).toInt ∧ (S 6).toInt ≤ 999) : AC (mMonth S c k).2 a ∧ KM (mMonth S c k).2 (if (mMonth S c k).1 = 1 then c + 1 else c) e ∧ (mMonth S c k).2 6 = S 6 := by
  have hb := Rx_b hx
  have hb3 : a ≤ 6 ∧ b ≤ 8 ∧ c ≤ 24 := by omega
  have ok := hx.2.2.2.2.2.2.1 k hk
  obtain ⟨p, hp, ep⟩ := (hx.2.1.2.2.1 k hk).2
  have lo : ∀ X : Nat → Int32, ∀ i j v, i < 297 → uK X i j v = uK X i j v := fun _ _ _ _ _ => rfl
  unfold mMonth
  by_cases w7 : sK S k 7 = 1
  · rw [if_pos w7]
    generalize hT : mDec (mInc (uK S k 7 0) k 4) k 3 = U
    have l : ∀ i, i < 297 → U i = S i := fun i hi => by
      rw [← hT]; unfold mDec mInc; rw [uK_lo hi, uK_lo hi, uK_lo hi]
    have kU : KM U c e := by
      rw [← hT]
      unfold mDec mInc
      exact KM_uK (KM_uK (KM_uK hm (by omega) (by omega) (Or.inl ⟨rfl, Or.inl rfl⟩)) (by omega) (by omega) (Or.inr (Or.inl ⟨by omega, by omega⟩))) (by omega) (by omega) (Or.inr (Or.inl ⟨by omega, by omega⟩))
    have aU : AC U a := AC_same ha (fun p hp k hk => l _ (by omega))
    have a2 : ∀ v, AC (mEnds U k v) a := fun v => AC_same aU (fun p hp k hk => sP_ends (by omega) hk)
    show AC (if sK U k 4 = 3 then mEnds U k 3 else if sK U k 3 = 0 then mEnds U k 1 else U) a ∧ KM (if sK U k 4 = 3 then mEnds U k 3 else if sK U k 3 = 0 then mEnds U k 1 else U) (if (0 : Int32) = 1 then c + 1 else c) e ∧ (if sK U k 4 = 3 then mEnds U k 3 else if sK U k 3 = 0 then mEnds U k 1 else U) 6 = S 6
    rw [if_neg (show ¬ (0 : Int32) = 1 by decide)]
    split
    · exact ⟨a2 _, KM_ends kU (by omega), (mEnds_lo (by omega)).trans (l 6 (by omega))⟩
    · split
      · exact ⟨a2 _, KM_ends kU (by omega), (mEnds_lo (by omega)).trans (l 6 (by omega))⟩
      · exact ⟨aU, kU, l 6 (by omega)⟩
  · rw [if_neg w7]
    by_cases wc : nI c = 24
    · rw [if_pos wc]
      show AC (mEnds (mDec S k 3) k 3) a ∧ KM (mEnds (mDec S k 3) k 3) (if (0 : Int32) = 1 then c + 1 else c) e ∧ mEnds (mDec S k 3) k 3 6 = S 6
      rw [if_neg (show ¬ (0 : Int32) = 1 by decide)]
      refine ⟨AC_same ha (fun p hp j hj => (sP_ends (by omega) hj).trans (uK_lo (by omega))), KM_ends (KM_uK hm (by omega) (by omega) (Or.inr (Or.inl ⟨by omega, by omega⟩))) (by omega), (mEnds_lo (by omega)).trans (uK_lo (by omega))⟩
    · have hc : c < 24 := nI_ne (n := 24) wc (by omega)
      rw [if_neg wc, ep, nI_clamp (by omega)]
      generalize hM : mGives S c (sK S k 0) p (sK S k 2) (nI k) = M
      have aM : AC M a := by rw [← hM]; exact AC_gives ha hb3 hp
      have kM : KM M (c + 1) e := by rw [← hM]; exact KM_gives hm hb3 hc h6 hp
      have m6 : M 6 = S 6 := by rw [← hM]; exact mGives_lo (by omega) (by omega)
      generalize hT : mDec (mInc M k 6) k 3 = U
      have l : ∀ i, i < 297 → U i = M i := fun i hi => by
        rw [← hT]; unfold mDec mInc; rw [uK_lo hi, uK_lo hi]
      have kU : KM U (c + 1) e := by
        rw [← hT]
        unfold mDec mInc
        exact KM_uK (KM_uK kM (by omega) (by omega) (Or.inr (Or.inl ⟨by omega, by omega⟩))) (by omega) (by omega) (Or.inr (Or.inl ⟨by omega, by omega⟩))
      have aU : AC U a := AC_same aM (fun p hp k hk => l _ (by omega))
      show AC (if sK U k 3 = 0 then mEnds U k 1 else U) a ∧ KM (if sK U k 3 = 0 then mEnds U k 1 else U) (if (1 : Int32) = 1 then c + 1 else c) e ∧ (if sK U k 3 = 0 then mEnds U k 1 else U) 6 = S 6
      rw [if_pos (show (1 : Int32) = 1 from rfl)]
      split
      · exact ⟨AC_same aU (fun p hp k hk => sP_ends (by omega) hk), KM_ends kU (by omega), (mEnds_lo (by omega)).trans ((l 6 (by omega)).trans m6)⟩
      · exact ⟨aU, kU, (l 6 (by omega)).trans m6⟩
theorem goK_yes {k : Nat} (h : sK (mGoK S c k).2.2 k 5 = 0) : mGoK S c (k + 1) = ((mGoK S c k).1 + (mMonth (mGoK S c k).2.2 (mGoK S c k).2.1 k).1, (if (mMonth (mGoK S c k).2.2 (mGoK S c k).2.1 k).1 = 1 then (mGoK S c k).2.1 + 1 else (mGoK S c k).2.1), (mMonth (mGoK S c k).2.2 (mGoK S c k).2.1 k).2) := if_pos h
theorem goK_no {k : Nat} (h : ¬ sK (mGoK S c k).2.2 k 5 = 0) : mGoK S c (k + 1) = mGoK S c k := if_neg h
theorem goK_keep (hx : Rx C S a b c e T) (ha : AC S a) (hm : KM S c e) (h6 : 0 ≤ (S 6).toInt ∧ (S 6).toInt ≤ 999) : ∀ k, k ≤ e → AC (mGoK S c k).2.2 a ∧ KM (mGoK S c k).2.2 (mGoK S c k).2.1 e ∧ (mGoK S c k).2.2 6 = S 6 := by
  intro k
  induction k with
  | zero => exact fun _ => ⟨ha, hm, rfl⟩
  | succ k ih =>
    intro hk
    obtain ⟨i1, i2, i3⟩ := ih (by omega)
    have hx1 := (Rx_goK hx k (by omega)).1
    by_cases w : sK (mGoK S c k).2.2 k 5 = 0
    · rw [goK_yes w]
      obtain ⟨j1, j2, j3⟩ := mo_keep hx1 (by omega) w i1 i2 (by rw [i3]; exact h6)
      exact ⟨j1, j2, j3.trans i3⟩
    · rw [goK_no w]
      exact ⟨i1, i2, i3⟩
theorem goM_keep (hx : Rx C S a b c e 999) (ha : AC S a) (hm : KM S c e) : ∀ m : Nat, (S 6).toInt + m ≤ 999 → AC (mGoM S c e m).2.2 a ∧ KM (mGoM S c e m).2.2 (mGoM S c e m).2.1 e ∧ ((mGoM S c e m).2.2 6).toInt = (S 6).toInt + m := by
  have h6 := hx.2.2.1.2.2
  intro m
  induction m with
  | zero => exact fun _ => ⟨ha, hm, by show (S 6).toInt = (S 6).toInt + ((0 : Nat) : Int); omega⟩
  | succ m ih =>
    intro hm1
    obtain ⟨i1, i2, i3⟩ := ih (by omega)
    have hx1 := (Rx_months hx m (by omega)).1
    have hx2 := Rx_time hx1 (by omega)
    generalize hU : (mGoM S c e m).2.2 = U at *
    have t6 : (U 6 + 1).toInt = (S 6).toInt + ((m + 1 : Nat) : Int) := by
      rw [ti_add (by rw [ti_1]; omega) (by rw [ti_1]; omega), ti_1, i3]; omega
    have e6 : upd U 6 (U 6 + 1) 6 = U 6 + 1 := upd_eq
    have k2 := goK_keep hx2 (AC_same i1 (fun p hp k hk => upd_ne (by omega))) (KM_same i2 (fun g hg => upd_ne (by omega)) (fun k hk j hj => upd_ne (by omega))) (by rw [e6, t6]; omega) e (Nat.le_refl _)
    have eM : mGoM S c e (m + 1) = ((mGoM S c e m).1 + (mGoK (upd U 6 (U 6 + 1)) (mGoM S c e m).2.1 e).1, (mGoK (upd U 6 (U 6 + 1)) (mGoM S c e m).2.1 e).2.1, (mGoK (upd U 6 (U 6 + 1)) (mGoM S c e m).2.1 e).2.2) := by
      rw [← hU]; rfl
    rw [eM]
    refine ⟨k2.1, k2.2.1, ?_⟩
    show ((mGoK (upd U 6 (U 6 + 1)) (mGoM S c e m).2.1 e).2.2 6).toInt = _
    rw [k2.2.2, e6, t6]
theorem ps_t (h : LJ C G F D H V J Q S a b c e od sn) {m : Nat} (hm : 1 ≤ m ∧ m ≤ 60) : (G 6 + nI m).toInt = (S 6).toInt + m := by
  have h6 := h.1.2.2.1.2.2
  rw [h.2.1.1.2.2.2.2.2.2.1, ti_add (by rw [nI_toInt (by omega)]; omega) (by rw [nI_toInt (by omega)]; omega), nI_toInt (by omega)]
theorem t_ps_no (h : LJ C G F D H V J Q S a b c e od sn) {m : Nat} (hm : 1 ≤ m ∧ m ≤ 60) (hn : ¬ G 6 + nI m ≤ 999) : (bPass C (nI m) 999).1 = -3 ∧ LI (bPass C (nI m) 999).2 G F D H V J Q (kOd (bPass C (nI m) 999).1 od sn) (kSn (bPass C (nI m) 999).1 sn) :=
  LI_no h (x_pass h.1 _) (by
    unfold mPass
    rw [show bIn (nI m) 1 60 = true from bIn_n (lo := 1) (hi := 60) hm.1 hm.2 (by omega), if_pos rfl, if_pos]
    rw [← h.2.1.1.2.2.2.2.2.2.1]
    exact Int32.not_le.mp hn)
theorem t_ps_ok {G' F' H' V' J' Q' : Nat → Int32} (h : LJ C G F D H V J Q S a b c e od sn) {m : Nat} (hm : 1 ≤ m ∧ m ≤ 60) (hn : G 6 + nI m ≤ 999) (hs : HS G' F' D H' V' J' Q' (mGoM S c e m).2.2 a b (mGoM S c e m).2.1 e) : (bPass C (nI m) 999).1 = (mGoM S c e m).1 ∧ LI (bPass C (nI m) 999).2 G' F' D H' V' J' Q' (kOd (bPass C (nI m) 999).1 od sn) (kSn (bPass C (nI m) 999).1 sn) := by
  have t := ps_t h hm
  rw [Int32.le_iff_toInt_le, t, show (999 : Int32).toInt = 999 from by decide] at hn
  obtain ⟨k1, k2, k3⟩ := goM_keep h.1 h.2.2.1 h.2.2.2.1 m hn
  refine LI_yes h.2.2.2.2.1 h.2.2.2.2.2 (x_pass h.1 _) (S' := (mGoM S c e m).2.2) (c := (mGoM S c e m).2.1) ?_ (mGoM_ok h.1.2.1 m) hs k1 k2
  unfold mPass
  rw [show bIn (nI m) 1 60 = true from bIn_n (lo := 1) (hi := 60) hm.1 hm.2 (by omega), if_pos rfl, if_neg, nI_clamp (by omega)]
  rw [← h.2.1.1.2.2.2.2.2.2.1, Int32.lt_iff_toInt_lt, t, show (999 : Int32).toInt = 999 from by decide]
  omega
end MONTHS
