/-! What is told. -/
def mCount (S : Nat → Int32) (a n ty : Nat) (x : Int32) : Int32 :=
  if x = 0 then S 2 else if x = 1 then S 3 else if x = 2 then S 4 else if x = 3 then S 5 else if x = 4 then S 6
  else if x = 5 then mAllN S 0 a else if x = 6 then mAllN S 3 a else if x = 7 then mAllN S 2 a else if x = 8 then mAllN S 6 a else if x = 9 then mAllN S 5 a
  else if x = 10 then mAllN S 9 a else if x = 11 then nI n else if x = 12 then nI ty else if x = 13 then S 0 else if x = 14 then S 1 else (-1)
section SIM8
variable {C S : Nat → Int32} {a b c e : Nat} {T : Int}
theorem pC11 (h : Rx C S a b c e T) {p : Nat} (hp : p < a) : pAt C (nI p) 11 = sP S p 10 := by
  have hb := Rx_b h
  exact (pAt_n C (k := 11) (by omega) (by omega)).trans (h.1.2.2.1 p hp).2.2.2
theorem x_tellP (h : Rx C S a b c e T) (x y : Int32) : bTellP C x y = mTellP S x y := by
  have hb := Rx_b h
  unfold bTellP mTellP
  rw [Rx_hasP h]
  split
  · next q =>
    simp only [Bool.and_eq_true] at q
    obtain ⟨p, hp, rfl⟩ := isP_of h.2.1 q.1
    obtain ⟨j, hj, rfl⟩ := bIn_of (n := 11) (by decide) q.2
    rw [nI_clamp (n := p) (by omega), nI_clamp (n := j) (by omega)]
    have ne : ∀ i, i < 12 → j ≠ i → ¬ nI j = nI i := fun i hi hji z => hji ((nI_eq (by omega) (by omega)).mp z)
    have n6 : j ≠ 6 → ¬ nI j = 6 := ne 6 (by omega)
    have n7 : j ≠ 7 → ¬ nI j = 7 := ne 7 (by omega)
    have n9 : j ≠ 9 → ¬ nI j = 9 := ne 9 (by omega)
    have n10 : j ≠ 10 → ¬ nI j = 10 := ne 10 (by omega)
    have n11 : j ≠ 11 → ¬ nI j = 11 := ne 11 (by omega)
    rcases (show j < 9 ∨ j = 9 ∨ j = 10 ∨ j = 11 by omega) with w | w | w | w
    · rw [if_neg (fun z => n9 (by omega) z.1), if_neg (n10 (by omega)), if_neg (n11 (by omega))]
      exact pC h hp w
    · subst w
      rw [if_neg (n10 (by omega)), if_neg (n11 (by omega)), Rx_cls h hp]
      rcases (h.2.2.2.1 p hp).2 with z | ⟨q2, z1, z2⟩
      · have hc : sClosed S p = false := by unfold sClosed; rw [z]; decide
        rw [if_pos ⟨rfl, hc⟩, z]
      · have hc : sClosed S p = true := by unfold sClosed; rw [z2]; exact decide_eq_true (nI_pos' (by omega))
        rw [if_neg (fun v => by rw [hc] at v; exact absurd v.2 (by decide)), show pAt C (nI p) (nI 9) = cv (sP S p 9) from pC9 h hp, z2, cv_n (by omega)]
    · subst w
      rw [if_neg (fun z => n9 (by omega) z.1), if_pos (show nI 10 = 10 from rfl)]
      exact pC10 h hp
    · subst w
      rw [if_neg (fun z => n9 (by omega) z.1), if_neg (n10 (by omega)), if_pos (show nI 11 = 11 from rfl)]
      exact pC11 h hp
  · rfl
theorem x_tellG (h : Rx C S a b c e T) (x y : Int32) : bTellG C x y = mTellG S x y := by
  have hb := Rx_b h
  unfold bTellG mTellG
  rw [Rx_hasG h]
  by_cases q : (¬ x < 0 ∧ x < S 4) ∧ bIn y 0 7 = true
  · rw [if_pos q, if_pos (by rw [decide_eq_true q.1.1, decide_eq_true q.1.2, q.2]; rfl)]
    obtain ⟨g, hg, rfl⟩ := isG_of h.2.1 q.1.1 q.1.2
    obtain ⟨j, hj, rfl⟩ := bIn_of (n := 7) (by decide) q.2
    rw [nI_clamp (n := g) (by omega), nI_clamp (n := j) (by omega)]
    have ne : ∀ i, i < 12 → j ≠ i → ¬ nI j = nI i := fun i hi hji z => hji ((nI_eq (by omega) (by omega)).mp z)
    have n6 : j ≠ 6 → ¬ nI j = 6 := ne 6 (by omega)
    have n7 : j ≠ 7 → ¬ nI j = 7 := ne 7 (by omega)
    have n9 : j ≠ 9 → ¬ nI j = 9 := ne 9 (by omega)
    have n10 : j ≠ 10 → ¬ nI j = 10 := ne 10 (by omega)
    have n11 : j ≠ 11 → ¬ nI j = 11 := ne 11 (by omega)
    rcases (show j < 6 ∨ j = 6 ∨ j = 7 by omega) with w | w | w
    · rw [if_neg (n7 (by omega)), if_neg (fun z => n6 (by omega) z.1), if_neg (n7 (by omega))]
      exact gC h hg w
    · subst w
      rw [if_neg (n7 (by omega)), if_neg (n7 (by omega)), show gAt C (nI g) (nI 6) = cv (sG S g 6) from gC6 h hg]
      rcases (h.2.2.2.2.2.1 g hg).2.2.2 with z | ⟨k, z1, z2⟩
      · rw [z, if_pos ⟨rfl, rfl⟩]
      · rw [z2, cv_n (by omega), if_neg (fun v => nI_m1 (by omega) v.2)]
    · subst w
      rw [if_pos (show nI 7 = 7 from rfl), if_pos (show nI 7 = 7 from rfl)]
      exact bTax_n h hg
  · rw [if_neg q, if_neg]
    simp only [Bool.and_eq_true, decide_eq_true_eq]
    exact q
theorem x_tellK (h : Rx C S a b c e T) (x y : Int32) : bTellK C x y = mTellK S x y := by
  have hb := Rx_b h
  unfold bTellK mTellK
  rw [Rx_hasK h]
  split
  · next q =>
    simp only [Bool.and_eq_true] at q
    obtain ⟨k, hk, rfl⟩ := isK_of h.2.1 q.1
    obtain ⟨j, hj, rfl⟩ := bIn_of (n := 7) (by decide) q.2
    rw [nI_clamp (n := k) (by omega), nI_clamp (n := j) (by omega)]
    exact kC h hk (by omega)
  · rfl
theorem amt_n (h : Rx C S a b c e T) (x : Int32) {w w' : Int32} (h1 : w = 1 ↔ w' = 0) (h2 : w = 2 ↔ w' = 1) (h3 : w = 3 ↔ w' = 2) : ∀ n, n ≤ c → bAmtN C x w n = mAmtN S x w' n := by
  intro n
  induction n with
  | zero => exact fun _ => rfl
  | succ n ih =>
    intro hn
    have ok := h.2.2.2.2.2.1 n (by omega)
    have r5 : bRefunded C (nI n) = decide (sG S n 5 = 1) := by unfold bRefunded; rw [show gAt C (nI n) 5 = sG S n 5 from gC h (k := 5) (by omega) (by omega)]
    have r4 : bClaimed C (nI n) = decide (sG S n 4 = 1) := by unfold bClaimed; rw [show gAt C (nI n) 4 = sG S n 4 from gC h (k := 4) (by omega) (by omega)]
    have n5 : decide (sG S n 5 = 1) = false ↔ sG S n 5 = 0 := by
      rcases ok.2.2.1 with z | z <;> rw [z] <;> decide
    have q : ((w = 1 ∨ (w = 2 ∧ bRefunded C (nI n) = true) ∨ (w = 3 ∧ bClaimed C (nI n) = true ∧ bRefunded C (nI n) = false)) ∧ bIsOf C (nI n) x = true) ↔ ((w' = 0 ∨ (w' = 1 ∧ sG S n 5 = 1) ∨ (w' = 2 ∧ sG S n 4 = 1 ∧ sG S n 5 = 0)) ∧ sG S n 0 = x) := by
      rw [r5, r4, isOf_n h (by omega), n5, decide_eq_true_eq, decide_eq_true_eq, decide_eq_true_eq, h1, h2, h3]
    unfold bAmtN mAmtN
    rw [ih (by omega), show gAt C (nI n) 2 = sG S n 2 from gC h (k := 2) (by omega) (by omega)]
    by_cases z : (w' = 0 ∨ (w' = 1 ∧ sG S n 5 = 1) ∨ (w' = 2 ∧ sG S n 4 = 1 ∧ sG S n 5 = 0)) ∧ sG S n 0 = x
    · rw [if_pos z, if_pos (q.mpr z)]
    · rw [if_neg z, if_neg (fun v => z (q.mp v)), Int32.add_zero]
theorem runset_n (h : Rx C S a b c e T) (x : Int32) : ∀ n, n ≤ e → bRunSetN C x n = mRunN S x n := by
  intro n
  induction n with
  | zero => exact fun _ => rfl
  | succ n ih =>
    intro hn
    unfold bRunSetN mRunN
    rw [ih (by omega), run_n h (by omega), show kAt C (nI n) 0 = sK S n 0 from kC h (j := 0) (by omega) (by omega)]
    by_cases z : sK S n 0 = x ∧ sK S n 5 = 0
    · rw [if_pos z, if_pos ⟨decide_eq_true z.2, z.1⟩]
    · rw [if_neg z, if_neg (fun v => z ⟨v.2, of_decide_eq_true v.1⟩), Int32.or_zero]
theorem x_tellD (h : Rx C S a b c e T) (x y : Int32) : bTellD C x y = mTellD S c e x y := by
  have hb := Rx_b h
  unfold bTellD mTellD
  rw [Rx_hasD h]
  by_cases q : sIsD S x = true
  · rw [if_pos q]
    obtain ⟨d, hd, rfl⟩ := isD_of h.2.1 q
    rw [nI_clamp (n := d) (by omega)]
    have t4 : (4 : Int32).toInt = 4 := by decide
    by_cases q4 : bIn y 0 4 = true
    · obtain ⟨j, hj, rfl⟩ := bIn_of (n := 4) (by decide) q4
      rw [if_pos (show sIsD S (nI d) = true ∧ (bIn (nI j) 0 4 = true ∨ sIsP S (nI j - 10) = true) from ⟨q, Or.inl q4⟩)]
      rcases (show j = 0 ∨ j = 1 ∨ j = 2 ∨ j = 3 ∨ j = 4 by omega) with w | w | w | w | w
      · subst w
        rw [if_pos (show nI 0 = 0 from rfl), if_pos (show nI 0 = 0 from rfl)]
        exact dC0 h hd
      · subst w
        rw [if_neg (by decide), if_pos (by decide), if_neg (by decide), if_pos (by decide)]
        unfold bAmt
        rw [cn_133 h]
        exact amt_n h _ (by decide) (by decide) (by decide) c (Nat.le_refl _)
      · subst w
        rw [if_neg (by decide), if_pos (by decide), if_neg (by decide), if_pos (by decide)]
        unfold bAmt
        rw [cn_133 h]
        exact amt_n h _ (by decide) (by decide) (by decide) c (Nat.le_refl _)
      · subst w
        rw [if_neg (by decide), if_pos (by decide), if_neg (by decide), if_pos (by decide)]
        unfold bAmt
        rw [cn_133 h]
        exact amt_n h _ (by decide) (by decide) (by decide) c (Nat.le_refl _)
      · subst w
        rw [if_neg (by decide), if_neg (by decide), if_pos (by decide), if_neg (by decide), if_neg (by decide), if_pos (by decide)]
        unfold bRunSet
        rw [h.1.1.2.2.2, nI_clamp (by omega)]
        exact runset_n h _ e (Nat.le_refl _)
    · have n4 : ∀ j, j < 5 → ¬ y = nI j := fun j hj z => q4 (by rw [z, bIn_ti, ti_0, t4, nI_toInt (by omega)]; omega)
      have y0 : ¬ y = 0 := n4 0 (by omega)
      have y13 : ¬ (y = 1 ∨ y = 2 ∨ y = 3) := fun z => z.elim (n4 1 (by omega)) (fun z => z.elim (n4 2 (by omega)) (n4 3 (by omega)))
      have y4 : ¬ y = 4 := n4 4 (by omega)
      rw [if_neg y0, if_neg y13, if_neg y4]
      unfold bTellCons
      rw [Rx_hasP h]
      by_cases qp : sIsP S (y - 10) = true
      · obtain ⟨p, hp, ep⟩ := isP_of h.2.1 qp
        have ey : y = nI (p + 10) := by
          rw [← nI_add, ← ep]
          exact (Int32.sub_add_cancel y 10).symm
        rw [if_pos (show sIsD S (nI d) = true ∧ (bIn y 0 4 = true ∨ sIsP S (y - 10) = true) from ⟨q, Or.inr qp⟩), if_neg y0, if_neg y4]
        have e1 : ¬ (y < 10 ∨ sIsP S (y - 10) = false) := by
          rw [qp]
          intro z
          rcases z with z | z
          · rw [ey] at z
            exact nI_nlt (a := p + 10) (b := 10) (by omega) (by omega) z
          · exact absurd z (by decide)
        have e2 : ¬ y < 4 := by
          rw [ey]
          exact nI_nlt (a := p + 10) (b := 4) (by omega) (by omega)
        have e3 : (y - 9).toNatClampNeg = 1 + p := by
          rw [ey, show (9 : Int32) = nI 9 from rfl, pk_sub (by omega), nI_clamp (by omega)]
          omega
        have e4 : 1 + y - 10 = 1 + nI p := by
          rw [ey, show (1 : Int32) = nI 1 from rfl, show (10 : Int32) = nI 10 from rfl, nI_add, pk_sub (by omega), nI_add]
          exact congrArg nI (by omega)
        rw [if_neg e1, if_neg e2, e3, e4, dCj h hd (by omega)]
        rcases (h.2.2.2.2.1 d hd).2 p (by omega) with z | ⟨i, z1, z2⟩
        · rw [z, if_pos cv_m4]
        · rw [z2, cv_n (by omega), if_neg (nI_m1 (by omega))]
      · have qf : sIsP S (y - 10) = false := by
          cases hv : sIsP S (y - 10) with
          | false => rfl
          | true => exact absurd hv qp
        rw [if_pos (Or.inr qf), if_neg (show ¬ (sIsD S (nI d) = true ∧ (bIn y 0 4 = true ∨ sIsP S (y - 10) = true)) from fun z => z.2.elim q4 qp)]
  · rw [if_neg q, if_neg (show ¬ (sIsD S x = true ∧ (bIn y 0 4 = true ∨ sIsP S (y - 10) = true)) from fun z => q z.1)]
theorem sum_n (h : Rx C S a b c e T) {k : Nat} (hk : k < 9) : ∀ n, n ≤ a → tSumN C 3 6 12 (nI k) n = mAllN S k n := by
  have hb := Rx_b h
  intro n
  induction n with
  | zero => exact fun _ => rfl
  | succ n ih =>
    intro hn
    show tSumN C 3 6 12 (nI k) n + pAt C (nI n) (nI k) = mAllN S k n + (if nI k = 9 then (if sClosed S n = true then 1 else 0) else sP S n k)
    rw [ih (by omega), pC h (by omega) hk, if_neg (fun z => by have := (nI_eq (a := k) (b := 9) (by omega) (by omega)).mp z; omega)]
theorem sum_m (h : Rx C S a b c e T) {k : Nat} (hk : k < 9) : tSum C 3 6 12 (nI k) = mAllN S k a := by
  have hb := Rx_b h
  unfold tSum
  rw [h.1.1.1, nI_clamp (by omega)]
  exact sum_n h hk a (Nat.le_refl _)
theorem shut_n (h : Rx C S a b c e T) : ∀ n, n ≤ a → bShutN C n = mAllN S 9 n := by
  intro n
  induction n with
  | zero => exact fun _ => rfl
  | succ n ih =>
    intro hn
    show (if bClosed C (nI n) = true then bShutN C n + 1 else bShutN C n) = mAllN S 9 n + (if nI 9 = 9 then (if sClosed S n = true then 1 else 0) else sP S n 9)
    rw [ih (by omega), Rx_cls h (by omega), if_pos (show nI 9 = 9 from rfl)]
    split
    · rfl
    · rw [Int32.add_zero]
theorem x_count (h : Rx C S a b c e T) (sn ln : Nat) (x : Int32) : (if x = 11 then nI sn else if x = 12 then nI ln else bTellN C x) = mCount S a sn ln x := by
  have hb := Rx_b h
  unfold bTellN mCount
  by_cases h11 : x = 11
  · subst h11
    simp
  · by_cases h12 : x = 12
    · subst h12
      simp
    · rw [if_neg h11, if_neg h12]
      simp only [if_neg h11, if_neg h12]
      have s5 := sum_m h (k := 0) (by omega)
      have s6 := sum_m h (k := 3) (by omega)
      have s7 := sum_m h (k := 2) (by omega)
      have s8 := sum_m h (k := 6) (by omega)
      have s9 := sum_m h (k := 5) (by omega)
      have s10 : bShut C = mAllN S 9 a := by
        unfold bShut
        rw [h.1.1.1, nI_clamp (by omega)]
        exact shut_n h a (Nat.le_refl _)
      rw [show tSum C 3 6 12 0 = mAllN S 0 a from s5, show tSum C 3 6 12 3 = mAllN S 3 a from s6, show tSum C 3 6 12 2 = mAllN S 2 a from s7, show tSum C 3 6 12 6 = mAllN S 6 a from s8, show tSum C 3 6 12 5 = mAllN S 5 a from s9, s10, h.1.1.1, h.1.1.2.1, h.1.1.2.2.1, h.1.1.2.2.2, h.1.2.1.1, h.1.2.1.2.1, h.1.2.1.2.2, h.2.1.1.1, h.2.1.1.2.1, h.2.1.1.2.2.1, h.2.1.1.2.2.2.1]
theorem mClN_0 (h : Rx C S a b c e T) {x : Int32} (hx : x = -1 ∨ ∃ d, d < b ∧ x = nI d) : ∀ n, n ≤ c → (mClN S c x n).2.1 = 0 → (mClN S c x n).1 = 0 := by
  have hb := Rx_b h
  intro n
  induction n with
  | zero => exact fun _ _ => rfl
  | succ n ih =>
    intro hn
    unfold mClN
    split
    · intro w
      obtain ⟨-, -, -, k2, hk2, h42, -⟩ := x_claimN h hx n (by omega)
      have w2 : (mClN S c x n).2.1 + 1 = 0 := w
      rw [h42, nI_1] at w2
      exact absurd w2 (nI_ne0 (by omega) (by omega))
    · exact ih (by omega)
theorem would_n (h : Rx C S a b c e T) {x : Int32} (hx : x = -1 ∨ ∃ d, d < b ∧ x = nI d) : (if 0 < (bClaim C x).1 then (bClaim C x).1 else 0) = (mClN S c x c).1 := by
  obtain ⟨h1, h2, h3, k, hk, h4, h5⟩ := x_claimN h hx c (Nat.le_refl _)
  unfold bClaim
  rw [cn_133 h]
  dsimp only
  by_cases z : k = 0
  · rw [if_neg (fun w => (h5.mp w) z), if_neg (by decide), mClN_0 h hx c (Nat.le_refl _) (by rw [h4, z]; rfl)]
  · rw [if_pos (h5.mpr z), h2]
    split
    · rfl
    · next w =>
      rw [Int32.lt_iff_toInt_lt, ti_0] at w
      exact (ti_eq (by rw [ti_0]; omega)).symm
theorem x_would (h : Rx C S a b c e T) (x : Int32) : (if x = (-1) then (if 0 < (bClaim C x).1 then (bClaim C x).1 else 0) else if tHas C 76 x = true then (if 0 < (bClaim C x).1 then (bClaim C x).1 else 0) else (-1)) = (if (sIsD S x || decide (x = (-1))) = true then (mClN S c x c).1 else (-1)) := by
  rw [Rx_hasD h]
  by_cases q : x = -1
  · rw [if_pos q, if_pos (show (sIsD S x || decide (x = (-1))) = true by rw [decide_eq_true q, Bool.or_true])]
    exact would_n h (Or.inl q)
  · rw [if_neg q]
    by_cases q2 : sIsD S x = true
    · rw [if_pos q2, if_pos (show (sIsD S x || decide (x = (-1))) = true by rw [q2, Bool.true_or])]
      exact would_n h (Or.inr (isD_of h.2.1 q2))
    · rw [if_neg q2, if_neg]
      intro z
      rw [Bool.or_eq_true, decide_eq_true_eq] at z
      exact z.elim q2 q
end SIM8
