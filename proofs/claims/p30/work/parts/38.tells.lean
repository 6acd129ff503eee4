/-! What the class tells is what stands in the law's house. -/
section TELLS
variable {C G F D H V J Q S : Nat → Int32} {a b c e od sn : Nat}
theorem bIn_no {v lo hi : Nat} (h2 : hi < v) (h3 : v < 2 ^ 31) : bIn (nI v) (nI lo) (nI hi) = false := by
  cases hb : bIn (nI v) (nI lo) (nI hi) with
  | false => rfl
  | true =>
    simp only [bIn, Bool.and_eq_true, decide_eq_true_eq] at hb
    exact absurd (nI_lt h2 h3) hb.2
theorem tg_j (h : LJ C G F D H V J Q S a b c e od sn) {k j : Nat} (hk : k < c) (hj : j < 7) : bTellG C (nI k) (nI j) = sG S k j := by
  have hb := LJ_b h
  rw [x_tellG h.1]
  unfold mTellG
  rw [if_pos ⟨rf_in h hk, bIn_n (lo := 0) (hi := 7) (Nat.zero_le _) (by omega) (by omega)⟩, if_neg (show ¬ nI j = 7 from fun z => by have := (nI_eq (a := j) (b := 7) (by omega) (by omega)).mp z; omega), nI_clamp (by omega), nI_clamp (by omega)]
theorem tg (h : LJ C G F D H V J Q S a b c e od sn) {k : Nat} (hk : k < c) : bTellG C (nI k) 0 = H (2 * k) ∧ bTellG C (nI k) 1 = H (2 * k + 1) ∧ bTellG C (nI k) 2 = V (2 * k) ∧ bTellG C (nI k) 3 = V (2 * k + 1) ∧ bTellG C (nI k) 4 = J (2 * k) &&& 1 ∧ bTellG C (nI k) 5 = J (2 * k) / 2 ∧ bTellG C (nI k) 6 = J (2 * k + 1) ∧ bTellG C (nI k) 7 = V (2 * k) / 4 ∧ bTellG C (nI k) 8 = -1 := by
  have hb := LJ_b h
  obtain ⟨⟨z0, z1, z2, z3⟩, z4, z5⟩ := h.2.1.2.2.2.1 k hk
  have ok := h.1.2.2.2.2.2.1 k hk
  have hj := hJ_of ok.2.1 ok.2.2.1
  rw [z0, z1, z2, z3, z4, z5, hj.2.2.2.2.1, hj.2.2.2.2.2]
  refine ⟨tg_j h (j := 0) hk (by omega), tg_j h (j := 1) hk (by omega), tg_j h (j := 2) hk (by omega), tg_j h (j := 3) hk (by omega), tg_j h (j := 4) hk (by omega), tg_j h (j := 5) hk (by omega), tg_j h (j := 6) hk (by omega), ?_, ?_⟩
  · rw [x_tellG h.1]
    unfold mTellG
    rw [if_pos ⟨rf_in h hk, by decide⟩, if_pos rfl, nI_clamp (by omega)]
  · rw [x_tellG h.1]
    unfold mTellG
    rw [if_neg (fun z => absurd z.2 (by decide))]
theorem tg_end (h : LJ C G F D H V J Q S a b c e od sn) : bTellG C (nI c) 0 = -1 := by
  have hb := LJ_b h
  rw [x_tellG h.1]
  unfold mTellG
  rw [h.1.2.1.1.2.2.1, if_neg (fun z => nI_nlt (Nat.le_refl _) (by omega) z.1.2)]
theorem tk (h : LJ C G F D H V J Q S a b c e od sn) {i : Nat} (hi : i < 8 * e) : bTellK C (nI (i / 8)) (nI (i % 8)) = Q i ∧ bTellK C (nI (i / 8)) 8 = -1 := by
  have hb := LJ_b h
  have hk : i / 8 < e := by omega
  have hq := h.2.1.2.2.2.2 (i / 8) hk (i % 8) (by omega)
  rw [show 8 * (i / 8) + i % 8 = i by omega] at hq
  rw [x_tellK h.1, x_tellK h.1]
  unfold mTellK
  rw [isK_L h hk, hq]
  refine ⟨?_, by rfl⟩
  rw [show bIn (nI (i % 8)) 0 7 = true from bIn_n (lo := 0) (hi := 7) (Nat.zero_le _) (by omega) (by omega), if_pos (by rfl), nI_clamp (by omega), nI_clamp (by omega)]
theorem tk_end (h : LJ C G F D H V J Q S a b c e od sn) : bTellK C (nI e) 0 = -1 := by
  have hb := LJ_b h
  rw [x_tellK h.1]
  unfold mTellK sIsK
  rw [h.1.2.1.1.2.2.2.1, decide_eq_false (nI_nlt (Nat.le_refl _) (by omega))]
  simp
-- donors
def gvN (S : Nat → Int32) (x : Int32) : Nat → Int32
  | 0 => 0
  | n + 1 => gvN S x n + (if sG S n 0 = x then sG S n 2 else 0)
def bkN (S : Nat → Int32) (x : Int32) : Nat → Int32
  | 0 => 0
  | n + 1 => bkN S x n + (if sG S n 0 = x ∧ ¬ hJ (sG S n 4) (sG S n 5) ≤ 1 then sG S n 2 else 0)
def cdN (S : Nat → Int32) (x : Int32) : Nat → Int32
  | 0 => 0
  | n + 1 => cdN S x n + (if sG S n 0 = x ∧ hJ (sG S n 4) (sG S n 5) = 1 then sG S n 2 else 0)
def rnN (S : Nat → Int32) (x : Int32) : Nat → Int32
  | 0 => 0
  | n + 1 => rnN S x n + (if sK S n 0 = x ∧ sK S n 5 = 0 then 1 <<< (nI n &&& 31) else 0)
theorem am_eq (h : LJ C G F D H V J Q S a b c e od sn) (x : Int32) : ∀ n, n ≤ c → mAmtN S x 0 n = gvN S x n ∧ mAmtN S x 1 n = bkN S x n ∧ mAmtN S x 2 n = cdN S x n := by
  intro n
  induction n with
  | zero => exact fun _ => ⟨rfl, rfl, rfl⟩
  | succ n ih =>
    intro hn
    obtain ⟨i1, i2, i3⟩ := ih (by omega)
    have ok := h.1.2.2.2.2.2.1 n (by omega)
    have hj := hJ_of ok.2.1 ok.2.2.1
    refine ⟨?_, ?_, ?_⟩
    · show mAmtN S x 0 n + _ = gvN S x n + _
      rw [i1]
      congr 1
      by_cases z : sG S n 0 = x
      · rw [if_pos z, if_pos ⟨Or.inl rfl, z⟩]
      · rw [if_neg z, if_neg (fun w => z w.2)]
    · show mAmtN S x 1 n + _ = bkN S x n + _
      rw [i2]
      congr 1
      have h5 : ¬ hJ (sG S n 4) (sG S n 5) ≤ 1 ↔ sG S n 5 = 1 := by
        rw [hj.2.2.2.1]
        rcases ok.2.2.1 with z | z <;> rw [z] <;> decide
      by_cases z : sG S n 0 = x ∧ ¬ hJ (sG S n 4) (sG S n 5) ≤ 1
      · rw [if_pos z, if_pos ⟨Or.inr (Or.inl ⟨rfl, h5.mp z.2⟩), z.1⟩]
      · rw [if_neg z, if_neg]
        rintro ⟨w1 | w1 | w1, w2⟩
        · exact absurd w1 (by decide)
        · exact z ⟨w2, h5.mpr w1.2⟩
        · exact absurd w1.1 (by decide)
    · show mAmtN S x 2 n + _ = cdN S x n + _
      rw [i3]
      congr 1
      by_cases z : sG S n 0 = x ∧ hJ (sG S n 4) (sG S n 5) = 1
      · rw [if_pos z, if_pos ⟨Or.inr (Or.inr ⟨rfl, hj.2.1.mp z.2⟩), z.1⟩]
      · rw [if_neg z, if_neg]
        rintro ⟨w1 | w1 | w1, w2⟩
        · exact absurd w1 (by decide)
        · exact absurd w1.1 (by decide)
        · exact z ⟨w2, hj.2.1.mpr w1.2⟩
theorem or_add : ∀ n, n < 6 → ∀ r, r < 2 ^ n → nI r ||| (1 <<< (nI n &&& 31)) = nI (r + 2 ^ n) ∧ nI r + (1 <<< (nI n &&& 31)) = nI (r + 2 ^ n) := by decide +kernel
theorem rn_eq (x : Int32) : ∀ n, n ≤ 6 → ∃ r, r < 2 ^ n ∧ mRunN S x n = nI r ∧ rnN S x n = nI r := by
  intro n
  induction n with
  | zero => exact fun _ => ⟨0, by omega, rfl, rfl⟩
  | succ n ih =>
    intro hn
    obtain ⟨r, h1, h2, h3⟩ := ih (by omega)
    have e2 : 2 ^ (n + 1) = 2 ^ n + 2 ^ n := by rw [Nat.pow_succ]; omega
    unfold mRunN rnN
    rw [h2, h3]
    by_cases z : sK S n 0 = x ∧ sK S n 5 = 0
    · rw [if_pos z]
      obtain ⟨o1, o2⟩ := or_add n (by omega) r h1
      exact ⟨r + 2 ^ n, by omega, o1, o2⟩
    · rw [if_neg z, Int32.or_zero, Int32.add_zero]
      exact ⟨r, by omega, rfl, rfl⟩
theorem td (h : LJ C G F D H V J Q S a b c e od sn) {k : Nat} (hk : k < b) : bTellD C (nI k) 0 = D (7 * k) ∧ bTellD C (nI k) 1 = gvN S (nI k) c ∧ bTellD C (nI k) 2 = bkN S (nI k) c ∧ bTellD C (nI k) 3 = cdN S (nI k) c ∧ bTellD C (nI k) 4 = rnN S (nI k) e ∧ bTellD C (nI k) 5 = -1 ∧ bTellD C (nI k) (nI (10 + a)) = -1 := by
  have hb := LJ_b h
  obtain ⟨m0, m1, m2⟩ := am_eq h (nI k) c (Nat.le_refl _)
  obtain ⟨r, r1, r2, r3⟩ := rn_eq (S := S) (nI k) e (by omega)
  have ne : ∀ y : Int32, y < 0 ∨ nI a ≤ y → sIsP S y = false := fun y hy => by
    unfold sIsP
    rw [h.1.2.1.1.1]
    rcases hy with z | z
    · rw [decide_eq_false (fun w => w z)]; rfl
    · rw [decide_eq_false (Int32.not_lt.mpr z), Bool.and_false]
  rw [x_tellD h.1, x_tellD h.1, x_tellD h.1, x_tellD h.1, x_tellD h.1, x_tellD h.1, x_tellD h.1]
  unfold mTellD
  rw [isD_L h hk, nI_clamp (by omega), show D (7 * k) = sD S k 0 from h.2.1.2.2.1 k hk 0 (by omega)]
  refine ⟨?_, ?_, ?_, ?_, ?_, ?_, ?_⟩
  · rw [if_pos ⟨rfl, Or.inl (by decide)⟩, if_pos rfl]
  · rw [if_pos ⟨rfl, Or.inl (by decide)⟩, if_neg (by decide), if_pos (by decide)]; exact m0
  · rw [if_pos ⟨rfl, Or.inl (by decide)⟩, if_neg (by decide), if_pos (by decide)]; exact m1
  · rw [if_pos ⟨rfl, Or.inl (by decide)⟩, if_neg (by decide), if_pos (by decide)]; exact m2
  · rw [if_pos ⟨rfl, Or.inl (by decide)⟩, if_neg (by decide), if_neg (by decide), if_pos rfl, r2, r3]
  · rw [if_neg]
    rintro ⟨-, w | w⟩
    · exact absurd w (by decide)
    · rw [ne _ (Or.inl (by decide))] at w; exact absurd w (by decide)
  · rw [if_neg]
    rintro ⟨-, w | w⟩
    · rw [show bIn (nI (10 + a)) 0 4 = false from bIn_no (lo := 0) (hi := 4) (by omega) (by omega)] at w; exact absurd w (by decide)
    · rw [show nI (10 + a) - 10 = nI a from by rw [show (10 : Int32) = nI 10 from rfl, pk_sub (by omega)]; exact congrArg nI (by omega), ne _ (Or.inr (Int32.le_refl _))] at w; exact absurd w (by decide)
theorem td_c (h : LJ C G F D H V J Q S a b c e od sn) {k i : Nat} (hk : k < b) (hi : i < a) : bTellD C (nI k) (nI (10 + i)) = D (7 * k + 1 + i) := by
  have hb := LJ_b h
  rw [HS_D1 h.2.1 hk (by omega), x_tellD h.1]
  unfold mTellD
  have e1 : nI (10 + i) - 10 = nI i := by rw [show (10 : Int32) = nI 10 from rfl, pk_sub (by omega)]; exact congrArg nI (by omega)
  have e2 : nI (10 + i) - 9 = nI (1 + i) := by rw [show (9 : Int32) = nI 9 from rfl, pk_sub (by omega)]; exact congrArg nI (by omega)
  rw [isD_L h hk, e1, e2, nI_clamp (by omega), nI_clamp (by omega), isP_L h hi, if_pos ⟨rfl, Or.inr rfl⟩, if_neg (show ¬ nI (10 + i) = 0 from fun z => by have := (nI_eq (a := 10 + i) (b := 0) (by omega) (by omega)).mp z; omega), if_neg (show ¬ nI (10 + i) < 4 from nI_nlt (a := 10 + i) (b := 4) (by omega) (by omega)), if_neg (show ¬ nI (10 + i) = 4 from fun z => by have := (nI_eq (a := 10 + i) (b := 4) (by omega) (by omega)).mp z; omega)]
theorem td_end (h : LJ C G F D H V J Q S a b c e od sn) : bTellD C (nI b) 0 = -1 := by
  have hb := LJ_b h
  rw [x_tellD h.1]
  unfold mTellD sIsD
  rw [h.1.2.1.1.2.1, decide_eq_false (nI_nlt (Nat.le_refl _) (by omega)), if_neg (fun z => absurd z.1 (by simp))]
-- purposes
theorem tp_j (h : LJ C G F D H V J Q S a b c e od sn) {k i : Nat} (hk : k < a) (hi : i < 10) : bTellP C (nI k) (nI i) = F (10 * k + i) := by
  have hb := LJ_b h
  rw [h.2.1.2.1 k hk i hi, x_tellP h.1]
  unfold mTellP
  rw [isP_L h hk, show bIn (nI i) 0 11 = true from bIn_n (lo := 0) (hi := 11) (Nat.zero_le _) (by omega) (by omega), if_pos (by rfl), if_neg (show ¬ nI i = 10 from fun z => by have := (nI_eq (a := i) (b := 10) (by omega) (by omega)).mp z; omega), if_neg (show ¬ nI i = 11 from fun z => by have := (nI_eq (a := i) (b := 11) (by omega) (by omega)).mp z; omega), nI_clamp (by omega), nI_clamp (by omega)]
theorem tp (h : LJ C G F D H V J Q S a b c e od sn) {k : Nat} (hk : k < a) : bTellP C (nI k) 9 = F (10 * k + 9) ∧ bTellP C (nI k) 10 = nI (sHome S k) ∧ (nI k = 0 → bTellP C (nI k) 11 = G 7) ∧ (¬ nI k = 0 → bTellP C (nI k) 11 = 0) ∧ bTellP C (nI k) 12 = -1 := by
  have hb := LJ_b h
  have e11 : bTellP C (nI k) 11 = sP S k 10 := by
    rw [x_tellP h.1]
    unfold mTellP
    rw [isP_L h hk, if_pos (by decide), if_neg (by decide), if_pos rfl, nI_clamp (by omega)]
  refine ⟨tp_j h (i := 9) hk (by omega), ?_, fun z => ?_, fun z => ?_, ?_⟩
  · rw [x_tellP h.1]
    unfold mTellP
    rw [isP_L h hk, if_pos (by decide), if_pos rfl, nI_clamp (by omega)]
  · have : k = 0 := (nI_eq (a := k) (b := 0) (by omega) (by omega)).mp z
    subst this
    rw [e11]; exact h.2.1.1.2.2.2.2.2.2.2.symm
  · rw [e11]; exact (h.2.2.1 k hk).2 (fun w => z (by rw [w]; rfl))
  · rw [x_tellP h.1]
    unfold mTellP
    rw [if_neg]
    rw [show bIn (12 : Int32) 0 11 = false by decide, Bool.and_false]
    decide
theorem tp_end (h : LJ C G F D H V J Q S a b c e od sn) : bTellP C (nI a) 0 = -1 := by
  have hb := LJ_b h
  rw [x_tellP h.1]
  unfold mTellP sIsP
  rw [h.1.2.1.1.1, decide_eq_false (nI_nlt (Nat.le_refl _) (by omega)), if_neg (by simp)]
theorem tp_m1 (h : LJ C G F D H V J Q S a b c e od sn) : bTellP C 0 (-1) = -1 := by
  rw [x_tellP h.1]
  unfold mTellP
  rw [if_neg]
  rw [show bIn (-1 : Int32) 0 11 = false by decide, Bool.and_false]
  decide
theorem acc_F (h : LJ C G F D H V J Q S a b c e od sn) {k : Nat} (hk : k < a) : (nI k = 0 → F (10 * k + 1) + F (10 * k + 2) - F (10 * k + 3) + F (10 * k + 4) - F (10 * k + 5) - F (10 * k + 6) + F (10 * k + 7) - F (10 * k + 8) - G 7 = F (10 * k)) ∧ (¬ nI k = 0 → F (10 * k + 1) + F (10 * k + 2) - F (10 * k + 3) + F (10 * k + 4) - F (10 * k + 5) - F (10 * k + 6) + F (10 * k + 7) - F (10 * k + 8) - 0 = F (10 * k)) ∧ ¬ F (10 * k) < 0 := by
  have hb := LJ_b h
  have f : ∀ i, i < 10 → F (10 * k + i) = sP S k i := h.2.1.2.1 k hk
  have ac := (h.2.2.1 k hk).1
  unfold due at ac
  rw [f 1 (by omega), f 2 (by omega), f 3 (by omega), f 4 (by omega), f 5 (by omega), f 6 (by omega), f 7 (by omega), f 8 (by omega), show F (10 * k) = sP S k 0 from f 0 (by omega)]
  refine ⟨fun z => ?_, fun z => ?_, ?_⟩
  · have : k = 0 := (nI_eq (a := k) (b := 0) (by omega) (by omega)).mp z
    rw [if_pos this] at ac
    rw [h.2.1.1.2.2.2.2.2.2.2]
    exact ac
  · rw [if_neg (fun w => z (by rw [w]; rfl))] at ac
    exact ac
  · rw [ti_neg_iff]
    have := (h.1.2.2.2.1 k hk).1
    omega
-- sums
def smW (S : Nat → Int32) (k i j : Nat) : Int32 := if 9 ≤ j then 0 else if j < i then mAllN S j (k + 1) else mAllN S j k
theorem smW_0 : (fun _ => 0) = smW S 0 0 := funext fun j => by
  unfold smW
  split
  · rfl
  · rw [if_neg (Nat.not_lt_zero _)]; rfl
theorem smW_s {k i : Nat} {v : Int32} (hi : i < 9) (hv : v = sP S k i) : upd (smW S k i) i (smW S k i i + v) = smW S k (i + 1) := funext fun j => by
  have e9 : ∀ j, j < 9 → mAllN S j (k + 1) = mAllN S j k + sP S k j := fun j hj => by
    show mAllN S j k + (if nI j = 9 then _ else _) = _
    rw [if_neg (show ¬ nI j = 9 from fun z => by have := (nI_eq (a := j) (b := 9) (by omega) (by omega)).mp z; omega)]
  by_cases q : j = i
  · subst q
    rw [upd_eq, hv]
    unfold smW
    rw [if_neg (show ¬ 9 ≤ j by omega), if_neg (show ¬ j < j by omega), if_neg (show ¬ 9 ≤ j by omega), if_pos (show j < j + 1 by omega), e9 j hi]
  · rw [upd_ne q]
    unfold smW
    by_cases w : 9 ≤ j
    · rw [if_pos w, if_pos w]
    · rw [if_neg w, if_neg w]
      by_cases w2 : j < i
      · rw [if_pos w2, if_pos (show j < i + 1 by omega)]
      · rw [if_neg w2, if_neg (show ¬ j < i + 1 by omega)]
theorem smW_n {k : Nat} : smW S k 9 = smW S (k + 1) 0 := funext fun j => by
  unfold smW
  by_cases w : 9 ≤ j
  · rw [if_pos w, if_pos w]
  · rw [if_neg w, if_neg w, if_pos (by omega), if_neg (by omega)]
theorem smW_at {k j : Nat} (hj : j < 9) : smW S k 0 j = mAllN S j k := by
  unfold smW
  rw [if_neg (by omega), if_neg (by omega)]
theorem shut_s {k : Nat} : mAllN S 9 (k + 1) = mAllN S 9 k + (if sP S k 9 < 0 then 0 else 1) := by
  show mAllN S 9 k + (if nI 9 = 9 then (if sClosed S k then 1 else 0) else _) = _
  rw [if_pos (show nI 9 = 9 from rfl)]
  congr 1
  unfold sClosed
  by_cases z : sP S k 9 < 0
  · rw [if_pos z, if_neg (by rw [decide_eq_true_eq]; exact Int32.not_le.mpr z)]
  · rw [if_neg z, if_pos (by rw [decide_eq_true_eq]; exact Int32.not_lt.mp z)]
def ctF (C : Nat → Int32) (sn ln : Nat) (x : Int32) : Int32 := if x = 11 then nI sn else if x = 12 then nI ln else bTellN C x
theorem tc (h : LJ C G F D H V J Q S a b c e od sn) : ctF C sn 0 0 = nI a ∧ ctF C sn 0 1 = nI b ∧ ctF C sn 0 2 = nI c ∧ ctF C sn 0 3 = nI e ∧ ctF C sn 0 4 = G 6 ∧ ctF C sn 0 5 = smW S a 0 0 ∧ ctF C sn 0 6 = smW S a 0 3 ∧ ctF C sn 0 7 = smW S a 0 2 ∧ ctF C sn 0 8 = smW S a 0 6 ∧ ctF C sn 0 9 = smW S a 0 5 ∧ ctF C sn 0 10 = mAllN S 9 a ∧ ctF C sn 0 12 = 0 ∧ ctF C sn 0 13 = G 0 ∧ ctF C sn 0 14 = G 1 ∧ ctF C sn 0 15 = -1 ∧ ctF C sn 0 (-1) = -1 := by
  have q : ∀ x, ctF C sn 0 x = mCount S a sn 0 x := fun x => x_count h.1 sn 0 x
  obtain ⟨o1, o2, o3, o4, -⟩ := h.1.2.1.1
  obtain ⟨g0, g1, g2, g3, g4, g5, g6, g7⟩ := h.2.1.1
  rw [q, q, q, q, q, q, q, q, q, q, q, q, q, q, q, q, smW_at (by omega), smW_at (by omega), smW_at (by omega), smW_at (by omega), smW_at (by omega), g6, g0, g1]
  refine ⟨o1, o2, o3, o4, ?_, ?_, ?_, ?_, ?_, ?_, ?_, ?_, ?_, ?_, ?_, ?_⟩
  all_goals (unfold mCount; rfl)
end TELLS
