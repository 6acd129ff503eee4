/-! The law's own house beside the reference's row, purely. -/
section HOUSE
theorem tr_sym {x y z : Int32} (h : x = y) (h2 : z = y) : x = z := h.trans h2.symm
theorem sym_ne {f : Nat → Int32} {k j : Nat} {x y : Int32} (h : y = f j) (hn : j ≠ k) : y = upd f k x j := h.trans (upd_ne hn).symm
def hJ (x y : Int32) : Int32 := x + y + y
def HS (G F D H V J Q S : Nat → Int32) (a b c e : Nat) : Prop :=
  (G 0 = S 0 ∧ G 1 = S 1 ∧ G 2 = nI a ∧ G 3 = nI b ∧ G 4 = nI c ∧ G 5 = nI e ∧ G 6 = S 6 ∧ G 7 = sP S 0 10) ∧
  (∀ p, p < a → ∀ k, k < 10 → F (10 * p + k) = sP S p k) ∧ (∀ d, d < b → ∀ j, j < 7 → D (7 * d + j) = sD S d j) ∧
  (∀ g, g < c → (H (2 * g) = sG S g 0 ∧ H (2 * g + 1) = sG S g 1 ∧ V (2 * g) = sG S g 2 ∧ V (2 * g + 1) = sG S g 3) ∧ J (2 * g) = hJ (sG S g 4) (sG S g 5) ∧ J (2 * g + 1) = sG S g 6) ∧
  (∀ k, k < e → ∀ j, j < 8 → Q (8 * k + j) = sK S k j)
variable {G F D H V J Q S : Nat → Int32} {a b c e : Nat}
theorem HS_F {p k : Nat} {v : Int32} (h : HS G F D H V J Q S a b c e) (hb : a ≤ 6 ∧ b ≤ 8 ∧ c ≤ 24) (hp : p < a) (hk : k < 10) : HS G (upd F (10 * p + k) v) D H V J Q (uP S p k v) a b c e := by
  obtain ⟨⟨g0, g1, g2, g3, g4, g5, g6, g7⟩, hF, hD, hG, hK⟩ := h
  refine ⟨⟨sym_ne g0 (by omega), sym_ne g1 (by omega), g2, g3, g4, g5, sym_ne g6 (by omega), sym_ne g7 (by omega)⟩, fun q hq j hj => pairU (by omega) (hF q hq j hj), fun d hd j hj => sym_ne (hD d hd j hj) (by omega), fun g hg => ?_, fun q hq j hj => sym_ne (hK q hq j hj) (by omega)⟩
  have n : ∀ j, j < 7 → sG (uP S p k v) g j = sG S g j := fun j hj => upd_ne (by omega)
  rw [n 0 (by omega), n 1 (by omega), n 2 (by omega), n 3 (by omega), n 4 (by omega), n 5 (by omega), n 6 (by omega)]
  exact hG g hg
theorem HS_aF {p k : Nat} {v : Int32} (h : HS G F D H V J Q S a b c e) (hb : a ≤ 6 ∧ b ≤ 8 ∧ c ≤ 24) (hp : p < a) (hk : k < 10) : HS G (upd F (10 * p + k) (F (10 * p + k) + v)) D H V J Q (aP S p k v) a b c e := by
  rw [h.2.1 p hp k hk]
  exact HS_F h hb hp hk
theorem HS_D {d j : Nat} {v : Int32} (h : HS G F D H V J Q S a b c e) (hb : a ≤ 6 ∧ b ≤ 8 ∧ c ≤ 24) (hd : d < b) (hj : j < 7) : HS G F (upd D (7 * d + j) v) H V J Q (uD S d j v) a b c e := by
  obtain ⟨⟨g0, g1, g2, g3, g4, g5, g6, g7⟩, hF, hD, hG, hK⟩ := h
  refine ⟨⟨sym_ne g0 (by omega), sym_ne g1 (by omega), g2, g3, g4, g5, sym_ne g6 (by omega), sym_ne g7 (by omega)⟩, fun q hq j hj => sym_ne (hF q hq j hj) (by omega), fun d hd j hj => pairU (by omega) (hD d hd j hj), fun g hg => ?_, fun q hq j hj => sym_ne (hK q hq j hj) (by omega)⟩
  have n : ∀ i, i < 7 → sG (uD S d j v) g i = sG S g i := fun i hi => upd_ne (by omega)
  rw [n 0 (by omega), n 1 (by omega), n 2 (by omega), n 3 (by omega), n 4 (by omega), n 5 (by omega), n 6 (by omega)]
  exact hG g hg
theorem HS_Q {k j : Nat} {v : Int32} (h : HS G F D H V J Q S a b c e) (hb : a ≤ 6 ∧ b ≤ 8 ∧ c ≤ 24) (hk : k < e) (hj : j < 8) : HS G F D H V J (upd Q (8 * k + j) v) (uK S k j v) a b c e := by
  obtain ⟨⟨g0, g1, g2, g3, g4, g5, g6, g7⟩, hF, hD, hG, hK⟩ := h
  refine ⟨⟨sym_ne g0 (by omega), sym_ne g1 (by omega), g2, g3, g4, g5, sym_ne g6 (by omega), sym_ne g7 (by omega)⟩, fun q hq j hj => sym_ne (hF q hq j hj) (by omega), fun d hd j hj => sym_ne (hD d hd j hj) (by omega), fun g hg => ?_, fun q hq j hj => pairU (by omega) (hK q hq j hj)⟩
  have n : ∀ i, i < 7 → sG (uK S k j v) g i = sG S g i := fun i hi => upd_ne (by omega)
  rw [n 0 (by omega), n 1 (by omega), n 2 (by omega), n 3 (by omega), n 4 (by omega), n 5 (by omega), n 6 (by omega)]
  exact hG g hg
theorem HS_J {g0 i : Nat} {v w : Int32} (h : HS G F D H V J Q S a b c e) (hb : a ≤ 6 ∧ b ≤ 8 ∧ c ≤ 24) (hg0 : g0 < c) (hi : i = 4 ∨ i = 5) (hw : w = if i = 4 then hJ v (sG S g0 5) else hJ (sG S g0 4) v) : HS G F D H V (upd J (2 * g0) w) Q (upd S (129 + 7 * g0 + i) v) a b c e := by
  obtain ⟨⟨q0, q1, q2, q3, q4, q5, q6, q7⟩, hF, hD, hG, hK⟩ := h
  refine ⟨⟨sym_ne q0 (by omega), sym_ne q1 (by omega), q2, q3, q4, q5, sym_ne q6 (by omega), sym_ne q7 (by omega)⟩, fun q hq j hj => sym_ne (hF q hq j hj) (by omega), fun d hd j hj => sym_ne (hD d hd j hj) (by omega), fun g hg => ?_, fun q hq j hj => sym_ne (hK q hq j hj) (by omega)⟩
  obtain ⟨z1, z2, z3⟩ := hG g hg
  have n : ∀ j, j < 7 → (g ≠ g0 ∨ j ≠ i) → sG (upd S (129 + 7 * g0 + i) v) g j = sG S g j := fun j hj hq => upd_ne (by omega)
  rw [n 0 (by omega) (by omega), n 1 (by omega) (by omega), n 2 (by omega) (by omega), n 3 (by omega) (by omega), n 6 (by omega) (by omega), upd_ne (f := J) (j := 2 * g + 1) (by omega)]
  refine ⟨z1, ?_, z3⟩
  by_cases e0 : g = g0
  · subst e0
    rw [upd_eq, hw]
    rcases hi with hi | hi
    · subst hi
      rw [if_pos rfl, n 5 (by omega) (Or.inr (by omega)), show sG (upd S (129 + 7 * g + 4) v) g 4 = v from upd_eq]
    · subst hi
      rw [if_neg (by omega), n 4 (by omega) (Or.inr (by omega)), show sG (upd S (129 + 7 * g + 5) v) g 5 = v from upd_eq]
  · rw [upd_ne (f := J) (j := 2 * g) (by omega), n 4 (by omega) (Or.inl e0), n 5 (by omega) (Or.inl e0)]
    exact z2
theorem HS_lent {v : Int32} (h : HS G F D H V J Q S a b c e) (hb : a ≤ 6 ∧ b ≤ 8 ∧ c ≤ 24) : HS (upd G 7 (G 7 + v)) F D H V J Q (aP S 0 10 v) a b c e := by
  obtain ⟨⟨g0, g1, g2, g3, g4, g5, g6, g7⟩, hF, hD, hG, hK⟩ := h
  refine ⟨⟨?_, ?_, ?_, ?_, ?_, ?_, ?_, ?_⟩, fun q hq j hj => sym_ne (hF q hq j hj) (by omega), fun d hd j hj => sym_ne (hD d hd j hj) (by omega), fun g hg => ?_, fun q hq j hj => sym_ne (hK q hq j hj) (by omega)⟩
  · rw [upd_ne (by omega)]; exact sym_ne g0 (by omega)
  · rw [upd_ne (by omega)]; exact sym_ne g1 (by omega)
  · rw [upd_ne (by omega)]; exact g2
  · rw [upd_ne (by omega)]; exact g3
  · rw [upd_ne (by omega)]; exact g4
  · rw [upd_ne (by omega)]; exact g5
  · rw [upd_ne (by omega)]; exact sym_ne g6 (by omega)
  · rw [upd_eq, g7]; exact (aP_eq (S := S) (p := 0) (k := 10) (v := v)).symm
  have n : ∀ i, i < 7 → sG (aP S 0 10 v) g i = sG S g i := fun i hi => upd_ne (by omega)
  rw [n 0 (by omega), n 1 (by omega), n 2 (by omega), n 3 (by omega), n 4 (by omega), n 5 (by omega), n 6 (by omega)]
  exact hG g hg
theorem HS_set {i : Nat} {v : Int32} (h : HS G F D H V J Q S a b c e) (hi : i = 0 ∨ i = 1 ∨ i = 6) : HS (upd G i v) F D H V J Q (upd S i v) a b c e := by
  obtain ⟨⟨g0, g1, g2, g3, g4, g5, g6, g7⟩, hF, hD, hG, hK⟩ := h
  refine ⟨⟨?_, ?_, ?_, ?_, ?_, ?_, ?_, ?_⟩, fun q hq j hj => sym_ne (hF q hq j hj) (by omega), fun d hd j hj => sym_ne (hD d hd j hj) (by omega), fun g hg => ?_, fun q hq j hj => sym_ne (hK q hq j hj) (by omega)⟩
  · exact pairU (by omega) g0
  · exact pairU (by omega) g1
  · rw [upd_ne (by omega)]; exact g2
  · rw [upd_ne (by omega)]; exact g3
  · rw [upd_ne (by omega)]; exact g4
  · rw [upd_ne (by omega)]; exact g5
  · exact pairU (by omega) g6
  · rw [upd_ne (by omega)]; exact sym_ne g7 (by omega)
  have n : ∀ j, j < 7 → sG (upd S i v) g j = sG S g j := fun i hi => upd_ne (by omega)
  rw [n 0 (by omega), n 1 (by omega), n 2 (by omega), n 3 (by omega), n 4 (by omega), n 5 (by omega), n 6 (by omega)]
  exact hG g hg
-- a gift more
theorem HS_gift {p : Nat} {x z w : Int32} (h : HS G F D H V J Q S a b c e) (hb : a ≤ 6 ∧ b ≤ 8 ∧ c ≤ 24) (hc : c < 24) (hp : p < a) : HS (upd G 4 (nI (c + 1))) (upd (upd F (10 * p) (F (10 * p) + z)) (10 * p + 1) (upd F (10 * p) (F (10 * p) + z) (10 * p + 1) + z)) D (upd (upd H (2 * c) x) (2 * c + 1) (nI p)) (upd (upd V (2 * c) z) (2 * c + 1) (G 6)) (upd (upd J (2 * c) 0) (2 * c + 1) w) Q (mGives S c x p z w) a b (c + 1) e := by
  obtain ⟨k0, k1, k2, k3, k4, k5, k6⟩ := mGives_g (S := S) (c := c) (x := x) (p := p) (z := z) (u := w) (by omega)
  obtain ⟨⟨g0, g1, g2, g3, g4, g5, g6, g7⟩, hF, hD, hG, hK⟩ := h
  have lo : ∀ i, i < 7 → i ≠ 4 → mGives S c x p z w i = S i := fun i h1 h2 => mGives_lo h1 h2
  have ou : ∀ i, i ≠ 4 → (i < 129 + 7 * c ∨ 129 + 7 * c + 6 < i) → i ≠ 7 + 11 * p + 0 → i ≠ 7 + 11 * p + 1 → mGives S c x p z w i = S i := fun i h1 h2 h3 h4 => mGives_out h1 h2 h3 h4
  have p0 : sP (mGives S c x p z w) p 0 = sP S p 0 + z := by
    unfold mGives sP aP
    dsimp only
    rw [upd_ne (by omega), upd_eq, upd_ne (by omega), upd_ne (by omega), upd_ne (by omega), upd_ne (by omega), upd_ne (by omega), upd_ne (by omega), upd_ne (by omega), upd_ne (by omega)]
  have p1 : sP (mGives S c x p z w) p 1 = sP S p 1 + z := by
    unfold mGives sP aP
    dsimp only
    rw [upd_eq, upd_ne (by omega), upd_ne (by omega), upd_ne (by omega), upd_ne (by omega), upd_ne (by omega), upd_ne (by omega), upd_ne (by omega), upd_ne (by omega), upd_ne (by omega)]
  refine ⟨⟨?_, ?_, ?_, ?_, ?_, ?_, ?_, ?_⟩, fun q hq j hj => ?_, fun d hd j hj => tr_sym (hD d hd j hj) (ou _ (by omega) (by omega) (by omega) (by omega)), fun g hg => ?_, fun q hq j hj => tr_sym (hK q hq j hj) (ou _ (by omega) (by omega) (by omega) (by omega))⟩
  · rw [upd_ne (by omega)]; exact g0.trans (lo 0 (by omega) (by omega)).symm
  · rw [upd_ne (by omega)]; exact g1.trans (lo 1 (by omega) (by omega)).symm
  · rw [upd_ne (by omega)]; exact g2
  · rw [upd_ne (by omega)]; exact g3
  · exact upd_eq
  · rw [upd_ne (by omega)]; exact g5
  · rw [upd_ne (by omega)]; exact g6.trans (lo 6 (by omega) (by omega)).symm
  · rw [upd_ne (by omega)]; exact tr_sym g7 (ou _ (by omega) (by omega) (by omega) (by omega))
  · by_cases q1 : q = p ∧ j = 0
    · obtain ⟨rfl, rfl⟩ := q1
      rw [upd_ne (by omega), p0, show (10 * q + 0) = 10 * q from rfl, upd_eq, show F (10 * q) = sP S q 0 from hF q hq 0 (by omega)]
    · by_cases q2 : q = p ∧ j = 1
      · obtain ⟨rfl, rfl⟩ := q2
        rw [upd_eq, upd_ne (by omega), p1, hF q hq 1 (by omega)]
      · rw [upd_ne (by omega), upd_ne (by omega)]
        exact tr_sym (hF q hq j hj) (ou _ (by omega) (by omega) (by omega) (by omega))
  · by_cases z1 : g = c
    · subst z1
      rw [k0, k1, k2, k3, k4, k5, k6, upd_eq, upd_ne (f := upd H (2 * g) x) (by omega), upd_eq, upd_eq, upd_ne (f := upd V (2 * g) z) (by omega), upd_eq, upd_eq, upd_ne (f := upd J (2 * g) 0) (by omega), upd_eq, g6]
      exact ⟨⟨rfl, rfl, rfl, rfl⟩, rfl, rfl⟩
    · have n : ∀ j, j < 7 → sG (mGives S c x p z w) g j = sG S g j := fun j hj => ou _ (by omega) (by omega) (by omega) (by omega)
      rw [n 0 (by omega), n 1 (by omega), n 2 (by omega), n 3 (by omega), n 4 (by omega), n 5 (by omega), n 6 (by omega), upd_ne (by omega), upd_ne (by omega), upd_ne (by omega), upd_ne (by omega), upd_ne (by omega), upd_ne (by omega), upd_ne (by omega), upd_ne (by omega), upd_ne (by omega), upd_ne (by omega), upd_ne (by omega), upd_ne (by omega)]
      exact hG g (by omega)
-- a pledge more: the row written from its first column on
def rowK (Q : Nat → Int32) (e : Nat) (x y z u : Int32) : Nat → Nat → Int32
  | 0 => Q
  | i + 1 => upd (rowK Q e x y z u i) (8 * e + i) (if nI i = 0 then x else if nI i = 1 then y else if nI i = 2 then z else if nI i = 3 then u else 0)
theorem rowK_at {x y z u : Int32} : ∀ n, n ≤ 8 → ∀ i, rowK Q e x y z u n i = if 8 * e ≤ i ∧ i < 8 * e + n then (if i = 8 * e then x else if i = 8 * e + 1 then y else if i = 8 * e + 2 then z else if i = 8 * e + 3 then u else 0) else Q i := by
  intro n
  induction n with
  | zero => intro _ i; rw [if_neg (by omega)]; rfl
  | succ n ih =>
    intro hn i
    have ih := ih (by omega)
    show upd (rowK Q e x y z u n) (8 * e + n) _ i = _
    by_cases q : i = 8 * e + n
    · subst q
      rw [upd_eq, if_pos (show 8 * e ≤ 8 * e + n ∧ 8 * e + n < 8 * e + (n + 1) by omega)]
      have nn : ∀ k, k < 9 → ¬ n = k → ¬ nI n = nI k := fun k hk h z => h ((nI_eq (by omega) (by omega)).mp z)
      by_cases z0 : n = 0
      · subst z0; rw [if_pos (show nI 0 = 0 from rfl), if_pos (show 8 * e + 0 = 8 * e by omega)]
      · rw [if_neg (show ¬ nI n = 0 from nn 0 (by omega) z0), if_neg (show ¬ 8 * e + n = 8 * e by omega)]
        by_cases z1 : n = 1
        · subst z1; rw [if_pos (show nI 1 = 1 from rfl), if_pos (show 8 * e + 1 = 8 * e + 1 from rfl)]
        · rw [if_neg (show ¬ nI n = 1 from nn 1 (by omega) z1), if_neg (show ¬ 8 * e + n = 8 * e + 1 by omega)]
          by_cases z2 : n = 2
          · subst z2; rw [if_pos (show nI 2 = 2 from rfl), if_pos (show 8 * e + 2 = 8 * e + 2 from rfl)]
          · rw [if_neg (show ¬ nI n = 2 from nn 2 (by omega) z2), if_neg (show ¬ 8 * e + n = 8 * e + 2 by omega)]
            by_cases z3 : n = 3
            · subst z3; rw [if_pos (show nI 3 = 3 from rfl), if_pos (show 8 * e + 3 = 8 * e + 3 from rfl)]
            · rw [if_neg (show ¬ nI n = 3 from nn 3 (by omega) z3), if_neg (show ¬ 8 * e + n = 8 * e + 3 by omega)]
    · rw [upd_ne q, ih]
      by_cases w : 8 * e ≤ i ∧ i < 8 * e + n
      · rw [if_pos w, if_pos (show 8 * e ≤ i ∧ i < 8 * e + (n + 1) by omega)]
      · rw [if_neg w, if_neg (show ¬ (8 * e ≤ i ∧ i < 8 * e + (n + 1)) by omega)]
theorem HS_pledge {x y z u : Int32} (h : HS G F D H V J Q S a b c e) (hb : a ≤ 6 ∧ b ≤ 8 ∧ c ≤ 24) (he : e < 6) : HS (upd G 5 (nI (e + 1))) F D H V J (rowK Q e x y z u 8) (mPledgeS S e x y z u) a b c (e + 1) := by
  obtain ⟨k0, k1, k2, k3, k4⟩ := mPledgeS_k (S := S) (e := e) (x := x) (y := y) (z := z) (u := u)
  obtain ⟨⟨g0, g1, g2, g3, g4, g5, g6, g7⟩, hF, hD, hG, hK⟩ := h
  have ou : ∀ i, i ≠ 5 → (i < 297 + 8 * e ∨ 297 + 8 * e + 8 ≤ i) → mPledgeS S e x y z u i = S i := fun i h1 h2 => mPledgeS_out h1 h2
  refine ⟨⟨?_, ?_, ?_, ?_, ?_, ?_, ?_, ?_⟩, fun q hq j hj => tr_sym (hF q hq j hj) (ou _ (by omega) (by omega)), fun d hd j hj => tr_sym (hD d hd j hj) (ou _ (by omega) (by omega)), fun g hg => ?_, fun q hq j hj => ?_⟩
  · rw [upd_ne (by omega)]; exact tr_sym g0 (ou _ (by omega) (by omega))
  · rw [upd_ne (by omega)]; exact tr_sym g1 (ou _ (by omega) (by omega))
  · rw [upd_ne (by omega)]; exact g2
  · rw [upd_ne (by omega)]; exact g3
  · rw [upd_ne (by omega)]; exact g4
  · exact upd_eq
  · rw [upd_ne (by omega)]; exact tr_sym g6 (ou _ (by omega) (by omega))
  · rw [upd_ne (by omega)]; exact tr_sym g7 (ou _ (by omega) (by omega))
  · have n : ∀ j, j < 7 → sG (mPledgeS S e x y z u) g j = sG S g j := fun j hj => ou _ (by omega) (by omega)
    rw [n 0 (by omega), n 1 (by omega), n 2 (by omega), n 3 (by omega), n 4 (by omega), n 5 (by omega), n 6 (by omega)]
    exact hG g hg
  · rw [rowK_at 8 (Nat.le_refl _)]
    by_cases w : q = e
    · subst w
      rw [if_pos (by omega)]
      by_cases z0 : j = 0
      · subst z0; rw [if_pos (by omega), k0]
      · rw [if_neg (by omega)]
        by_cases z1 : j = 1
        · subst z1; rw [if_pos rfl, k1]
        · rw [if_neg (by omega)]
          by_cases z2 : j = 2
          · subst z2; rw [if_pos rfl, k2]
          · rw [if_neg (by omega)]
            by_cases z3 : j = 3
            · subst z3; rw [if_pos rfl, k3]
            · rw [if_neg (by omega), k4 j (by omega) hj]
    · rw [if_neg (by omega)]
      exact (hK q (by omega) j hj).trans (ou _ (by omega) (by omega)).symm
-- a donor more
def rowD (D : Nat → Int32) (b : Nat) : Nat → Nat → Int32
  | 0 => D
  | i + 1 => upd (rowD D b i) (7 * b + i) (if nI i = 0 then 0 else -4)
theorem rowD_at : ∀ n, n ≤ 8 → ∀ i, rowD D b n i = if 7 * b ≤ i ∧ i < 7 * b + n then (if i = 7 * b then 0 else -4) else D i := by
  intro n
  induction n with
  | zero => intro _ i; rw [if_neg (by omega)]; rfl
  | succ n ih =>
    intro hn i
    have ih := ih (by omega)
    show upd (rowD D b n) (7 * b + n) _ i = _
    by_cases q : i = 7 * b + n
    · subst q
      rw [upd_eq, if_pos (show 7 * b ≤ 7 * b + n ∧ 7 * b + n < 7 * b + (n + 1) by omega)]
      by_cases z0 : n = 0
      · subst z0; rw [if_pos (show nI 0 = 0 from rfl), if_pos (show 7 * b + 0 = 7 * b from rfl)]
      · rw [if_neg (show ¬ nI n = 0 from fun y => z0 ((nI_eq (b := 0) (by omega) (by omega)).mp y)), if_neg (show ¬ 7 * b + n = 7 * b by omega)]
    · rw [upd_ne q, ih]
      by_cases w : 7 * b ≤ i ∧ i < 7 * b + n
      · rw [if_pos w, if_pos (show 7 * b ≤ i ∧ i < 7 * b + (n + 1) by omega)]
      · rw [if_neg w, if_neg (show ¬ (7 * b ≤ i ∧ i < 7 * b + (n + 1)) by omega)]
theorem HS_donor (h : HS G F D H V J Q S a b c e) (hb : a ≤ 6 ∧ b ≤ 8 ∧ c ≤ 24) (hb8 : b < 8) : HS (upd G 3 (nI (b + 1))) F (rowD D b 7) H V J Q (mDonorS S b) a (b + 1) c e := by
  obtain ⟨⟨g0, g1, g2, g3, g4, g5, g6, g7⟩, hF, hD, hG, hK⟩ := h
  have ou : ∀ i, i ≠ 3 → (i < 73 + 7 * b ∨ 73 + 7 * b + 7 ≤ i) → mDonorS S b i = S i := fun i h1 h2 => mDonorS_out h1 h2
  refine ⟨⟨?_, ?_, ?_, ?_, ?_, ?_, ?_, ?_⟩, fun q hq j hj => tr_sym (hF q hq j hj) (ou _ (by omega) (by omega)), fun d hd j hj => ?_, fun g hg => ?_, fun q hq j hj => tr_sym (hK q hq j hj) (ou _ (by omega) (by omega))⟩
  · rw [upd_ne (by omega)]; exact tr_sym g0 (ou _ (by omega) (by omega))
  · rw [upd_ne (by omega)]; exact tr_sym g1 (ou _ (by omega) (by omega))
  · rw [upd_ne (by omega)]; exact g2
  · exact upd_eq
  · rw [upd_ne (by omega)]; exact g4
  · rw [upd_ne (by omega)]; exact g5
  · rw [upd_ne (by omega)]; exact tr_sym g6 (ou _ (by omega) (by omega))
  · rw [upd_ne (by omega)]; exact tr_sym g7 (ou _ (by omega) (by omega))
  · rw [rowD_at 7 (by omega)]
    by_cases w : d = b
    · subst w
      rw [if_pos (by omega), show sD (mDonorS S d) d j = donN (uD S d 0 0) d 6 (73 + 7 * d + j) from upd_ne (by omega), donN_at 6 (Nat.le_refl _)]
      by_cases z0 : j = 0
      · subst z0
        rw [if_pos (by omega), if_neg (by omega)]
        exact (upd_eq (f := S) (k := 73 + 7 * d + 0)).symm
      · rw [if_neg (by omega), if_pos (by omega)]
    · rw [if_neg (by omega)]
      exact (hD d (by omega) j hj).trans (ou _ (by omega) (by omega)).symm
  · have n : ∀ j, j < 7 → sG (mDonorS S b) g j = sG S g j := fun j hj => ou _ (by omega) (by omega)
    rw [n 0 (by omega), n 1 (by omega), n 2 (by omega), n 3 (by omega), n 4 (by omega), n 5 (by omega), n 6 (by omega)]
    exact hG g hg
-- a purpose more
def rowP (F : Nat → Int32) (a : Nat) : Nat → Nat → Int32
  | 0 => F
  | i + 1 => upd (rowP F a i) (10 * a + i) (if nI i = 9 then -4 else 0)
theorem rowP_at : ∀ n, n ≤ 10 → ∀ i, rowP F a n i = if 10 * a ≤ i ∧ i < 10 * a + n then (if i = 10 * a + 9 then -4 else 0) else F i := by
  intro n
  induction n with
  | zero => intro _ i; rw [if_neg (by omega)]; rfl
  | succ n ih =>
    intro hn i
    have ih := ih (by omega)
    show upd (rowP F a n) (10 * a + n) _ i = _
    by_cases q : i = 10 * a + n
    · subst q
      rw [upd_eq, if_pos (show 10 * a ≤ 10 * a + n ∧ 10 * a + n < 10 * a + (n + 1) by omega)]
      by_cases z0 : n = 9
      · subst z0; rw [if_pos (show nI 9 = 9 from rfl), if_pos (show 10 * a + 9 = 10 * a + 9 from rfl)]
      · rw [if_neg (show ¬ nI n = 9 from fun y => z0 ((nI_eq (b := 9) (by omega) (by omega)).mp y)), if_neg (show ¬ 10 * a + n = 10 * a + 9 by omega)]
    · rw [upd_ne q, ih]
      by_cases w : 10 * a ≤ i ∧ i < 10 * a + n
      · rw [if_pos w, if_pos (show 10 * a ≤ i ∧ i < 10 * a + (n + 1) by omega)]
      · rw [if_neg w, if_neg (show ¬ (10 * a ≤ i ∧ i < 10 * a + (n + 1)) by omega)]
theorem mPur_out (ha : a < 6) : ∀ i, i ≠ 2 → (i < 7 + 11 * a ∨ 7 + 11 * a + 10 < i) → (i < 73 ∨ 128 < i) → mPurposeS S a i = S i := fun i h1 h2 h3 =>
  (upd_ne h1).trans ((purD_out ha (by omega) 8 (Nat.le_refl _)).trans (purN_out ha (by omega) 11 (Nat.le_refl _)))
theorem mPur_row (ha : a < 6) : ∀ k, k < 11 → sP (mPurposeS S a) a k = if nI k = 9 then -4 else 0 := fun k hk =>
  (upd_ne (by omega)).trans ((purD_out ha (by omega) 8 (Nat.le_refl _)).trans (purN_in 11 (Nat.le_refl _) k hk))
theorem mPur_D (ha : a < 6) : ∀ d j, d < 8 → j < 7 → sD (mPurposeS S a) d j = if j = 1 + a then -4 else sD S d j := fun d j hd hj => by
  rw [show sD (mPurposeS S a) d j = purD (purN S a 11) a 8 (73 + 7 * d + j) from upd_ne (by omega), purD_at ha 8 (Nat.le_refl _) d j hj]
  by_cases z : j = 1 + a
  · rw [if_pos ⟨hd, z⟩, if_pos z]
  · rw [if_neg (fun q => z q.2), if_neg z]
    exact purN_out ha (by omega) 11 (Nat.le_refl _)
theorem HS_purpose (h : HS G F D H V J Q S a b c e) (hb : a ≤ 6 ∧ b ≤ 8 ∧ c ≤ 24) (ha : a < 6) (ha1 : 1 ≤ a) (h4 : ∀ d, d < b → ∀ j, j < 6 → a ≤ j → sD S d (1 + j) = -4) : HS (upd G 2 (nI (a + 1))) (rowP F a 10) D H V J Q (mPurposeS S a) (a + 1) b c e := by
  obtain ⟨⟨g0, g1, g2, g3, g4, g5, g6, g7⟩, hF, hD, hG, hK⟩ := h
  have ou := mPur_out (S := S) ha
  refine ⟨⟨?_, ?_, ?_, ?_, ?_, ?_, ?_, ?_⟩, fun q hq j hj => ?_, fun d hd j hj => ?_, fun g hg => ?_, fun q hq j hj => tr_sym (hK q hq j hj) (ou _ (by omega) (by omega) (by omega))⟩
  · rw [upd_ne (by omega)]; exact tr_sym g0 (ou _ (by omega) (by omega) (by omega))
  · rw [upd_ne (by omega)]; exact tr_sym g1 (ou _ (by omega) (by omega) (by omega))
  · exact upd_eq
  · rw [upd_ne (by omega)]; exact g3
  · rw [upd_ne (by omega)]; exact g4
  · rw [upd_ne (by omega)]; exact g5
  · rw [upd_ne (by omega)]; exact tr_sym g6 (ou _ (by omega) (by omega) (by omega))
  · rw [upd_ne (by omega)]; exact tr_sym g7 (ou _ (by omega) (by omega) (by omega))
  · rw [rowP_at 10 (Nat.le_refl _)]
    by_cases w : q = a
    · subst w
      rw [if_pos (by omega), mPur_row ha j (by omega)]
      by_cases z : j = 9
      · subst z; rw [if_pos rfl]; rfl
      · rw [if_neg (by omega), if_neg (show ¬ nI j = 9 from fun y => z ((nI_eq (b := 9) (by omega) (by omega)).mp y))]
    · rw [if_neg (by omega)]
      exact (hF q (by omega) j hj).trans (ou _ (by omega) (by omega) (by omega)).symm
  · rw [mPur_D ha d j (by omega) hj, hD d hd j hj]
    by_cases z : j = 1 + a
    · rw [if_pos z, z]; exact h4 d hd a (by omega) (Nat.le_refl _)
    · rw [if_neg z]
  · have n : ∀ j, j < 7 → sG (mPurposeS S a) g j = sG S g j := fun j hj => ou _ (by omega) (by omega) (by omega)
    rw [n 0 (by omega), n 1 (by omega), n 2 (by omega), n 3 (by omega), n 4 (by omega), n 5 (by omega), n 6 (by omega)]
    exact hG g hg
end HOUSE
