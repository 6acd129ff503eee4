/-! What the walks of the reference stand on is kept by its changes. -/
def nn (S : Nat → Int32) (i : Nat) : Nat := (S i).toNatClampNeg
def sOkk (S : Nat → Int32) : Prop := sOk S (nn S 2) (nn S 3) (nn S 4) (nn S 5)
theorem sOk_nn {S : Nat → Int32} {a b c e : Nat} (h : sOk S a b c e) : nn S 2 = a ∧ nn S 3 = b ∧ nn S 4 = c ∧ nn S 5 = e := by
  have hb := h.1
  unfold nn
  rw [hb.1, hb.2.1, hb.2.2.1, hb.2.2.2.1]
  refine ⟨nI_clamp (by omega), nI_clamp (by omega), nI_clamp (by omega), nI_clamp (by omega)⟩
theorem sOkk_of {S : Nat → Int32} {a b c e : Nat} (h : sOk S a b c e) : sOkk S := by
  obtain ⟨h1, h2, h3, h4⟩ := sOk_nn h
  unfold sOkk
  rw [h1, h2, h3, h4]
  exact h
def ctN (P : Nat → Bool) : Nat → Nat
  | 0 => 0
  | n + 1 => ctN P n + (if P n then 1 else 0)
theorem ctN_le (P : Nat → Bool) : ∀ n, ctN P n ≤ n := by
  intro n
  induction n with
  | zero => exact Nat.le_refl _
  | succ n ih =>
    unfold ctN
    split <;> omega
theorem ctN_mono {P Q : Nat → Bool} {n : Nat} (h : ∀ k, k < n → P k = true → Q k = true) : ctN P n ≤ ctN Q n := by
  induction n with
  | zero => exact Nat.le_refl _
  | succ n ih =>
    have h1 := ih (fun k hk => h k (by omega))
    have h2 := h n (by omega)
    unfold ctN
    by_cases q : P n = true
    · rw [if_pos q, if_pos (h2 q)]; omega
    · rw [if_neg q]; omega
theorem ctN_lt {P Q : Nat → Bool} {n : Nat} (h : ∀ k, k < n → P k = true → Q k = true) (j : Nat) (hj : j < n) (h1 : Q j = true) (h2 : P j = false) : ctN P n < ctN Q n := by
  induction n with
  | zero => omega
  | succ n ih =>
    unfold ctN
    rcases Nat.lt_or_ge j n with q | q
    · have h3 := ih (fun k hk => h k (by omega)) q
      by_cases z : P n = true
      · rw [if_pos z, if_pos (h n (by omega) z)]; omega
      · rw [if_neg z]; omega
    · have ej : j = n := by omega
      subst ej
      have h3 := ctN_mono (n := j) (fun k hk => h k (by omega))
      rw [h1, h2]
      simp
      omega
/-- ranks can be made small -/
theorem rk_small {S : Nat → Int32} {a : Nat} (ha : a ≤ 6) (h : ∃ rk : Nat → Nat, ∀ p, p < a → (sP S p 9 < 0 ∨ ∃ q, q < a ∧ sP S p 9 = nI q ∧ rk q < rk p)) : ∃ rk : Nat → Nat, ∀ p, p < a → rk p ≤ 6 ∧ (sP S p 9 < 0 ∨ ∃ q, q < a ∧ sP S p 9 = nI q ∧ rk q < rk p) := by
  obtain ⟨rk, hr⟩ := h
  refine ⟨fun p => ctN (fun x => decide (rk x < rk p)) a, fun p hp => ⟨?_, ?_⟩⟩
  · exact Nat.le_trans (ctN_le (fun x => decide (rk x < rk p)) a) ha
  · rcases hr p hp with z | ⟨q, h1, h2, h3⟩
    · exact Or.inl z
    · refine Or.inr ⟨q, h1, h2, ctN_lt (fun k _ hk => ?_) q h1 (by simp [h3]) (by simp)⟩
      simp only [decide_eq_true_eq] at hk ⊢
      omega
theorem sHomeN_add {S : Nat → Int32} : ∀ n k p, sHomeN S (n + k) p = sHomeN S k (sHomeN S n p) := by
  intro n
  induction n with
  | zero => intro k p; rw [Nat.zero_add]; rfl
  | succ n ih =>
    intro k p
    rw [Nat.succ_add]
    show sHomeN S (n + k) (sStep S p) = _
    rw [ih]
    rfl
theorem sHomeN_rk {S : Nat → Int32} {a : Nat} {rk : Nat → Nat} (ha : a ≤ 6) (hr : ∀ p, p < a → rk p ≤ 6 ∧ (sP S p 9 < 0 ∨ ∃ q, q < a ∧ sP S p 9 = nI q ∧ rk q < rk p)) : ∀ n p, p < a → rk p ≤ n → sClosed S (sHomeN S n p) = false := by
  intro n
  induction n with
  | zero =>
    intro p hp h
    cases hc : sClosed S p with
    | false => exact hc
    | true =>
      obtain ⟨q, -, -, h3, -⟩ := sCl_of ha hr hp hc
      omega
  | succ n ih =>
    intro p hp h
    show sClosed S (sHomeN S n (sStep S p)) = false
    cases hc : sClosed S p with
    | false =>
      have e : sStep S p = p := by simp [sStep, hc]
      rw [e, sHomeN_open hc]
      exact hc
    | true =>
      obtain ⟨q, h1, -, h3, h4⟩ := sCl_of ha hr hp hc
      rw [h4]
      exact ih q h1 (by omega)
theorem sHome_closed {S : Nat → Int32} {a b c e p : Nat} (hO : sOk S a b c e) (hp : p < a) : sClosed S (sHome S p) = false := by
  obtain ⟨-, -, -, rk, hr⟩ := id hO
  have hb := hO.1
  exact sHomeN_rk (by omega) hr 6 p hp (hr p hp).1
theorem sHome_open {S : Nat → Int32} {p : Nat} (h : sClosed S p = false) : sHome S p = p := sHomeN_open h 6
theorem sHome_step {S : Nat → Int32} {a b c e p q : Nat} (hO : sOk S a b c e) (hp : p < a) (h : sP S p 9 = nI q) (hq : q < a) : sHome S p = sHome S q := by
  obtain ⟨-, -, -, rk, hr⟩ := id hO
  have hb := hO.1
  have hc : sClosed S p = true := by
    simp only [sClosed, decide_eq_true_eq, h]
    exact nI_pos' (by omega)
  obtain ⟨q2, h1, h2, h3, h4⟩ := sCl_of (by omega) hr hp hc
  have e : q2 = q := by rw [h] at h2; exact ((nI_eq (by omega) (by omega)).mp h2).symm
  subst e
  show sHomeN S 5 (sStep S p) = sHomeN S 6 q2
  rw [h4]
  have h5 := sHomeN_rk (by omega) hr 5 q2 h1 (by have := (hr p hp).1; omega)
  rw [show (6 : Nat) = 5 + 1 from rfl, sHomeN_add 5 1 q2, sHomeN_open h5]
/-- sOk reads little: a change that keeps that keeps it -/
theorem sOk_same {S T : Nat → Int32} {a b c e : Nat} (hO : sOk S a b c e) (h : ∀ i, 2 ≤ i → i < 6 → T i = S i) (hp : ∀ p, p < 6 → sP T p 9 = sP S p 9) (hg : ∀ g, g < 24 → sG T g 0 = sG S g 0 ∧ sG T g 1 = sG S g 1) (hk : ∀ k, k < 6 → sK T k 0 = sK S k 0 ∧ sK T k 1 = sK S k 1) : sOk T a b c e := by
  obtain ⟨⟨e1, e2, e3, e4, b1, b2, b3, b4, b5⟩, h1, h2, rk, h3⟩ := hO
  refine ⟨⟨by rw [h 2 (by omega) (by omega)]; exact e1, by rw [h 3 (by omega) (by omega)]; exact e2, by rw [h 4 (by omega) (by omega)]; exact e3, by rw [h 5 (by omega) (by omega)]; exact e4, b1, b2, b3, b4, b5⟩, fun g hgc => ?_, fun k hke => ?_, rk, fun p hpa => ?_⟩
  · rw [(hg g (by omega)).1, (hg g (by omega)).2]; exact h1 g hgc
  · rw [(hk k (by omega)).1, (hk k (by omega)).2]; exact h2 k hke
  · rw [hp p (by omega)]; exact h3 p hpa
theorem purN_out {S : Nat → Int32} {p i : Nat} (hp : p < 6) (h : i < 7 + 11 * p ∨ 7 + 11 * p + 11 ≤ i) : ∀ k, k ≤ 11 → purN S p k i = S i := by
  intro k
  induction k with
  | zero => exact fun _ => rfl
  | succ k ih =>
    intro hk
    show upd _ _ _ i = _
    rw [upd_ne (by omega)]
    exact ih (by omega)
theorem purN_in {S : Nat → Int32} {p : Nat} : ∀ k, k ≤ 11 → ∀ j, j < k → purN S p k (7 + 11 * p + j) = if nI j = 9 then (-4) else 0 := by
  intro k
  induction k with
  | zero => intro _ j hj; omega
  | succ k ih =>
    intro hk j hj
    show upd _ _ _ (7 + 11 * p + j) = _
    rcases Nat.lt_or_ge j k with q | q
    · rw [upd_ne (by omega)]
      exact ih (by omega) j q
    · have ej : j = k := by omega
      rw [ej]
      exact upd_eq
theorem purD_out {S : Nat → Int32} {p i : Nat} (hp : p < 6) (h : i < 73 ∨ 129 ≤ i) : ∀ k, k ≤ 8 → purD S p k i = S i := by
  intro k
  induction k with
  | zero => exact fun _ => rfl
  | succ k ih =>
    intro hk
    show upd _ _ _ i = _
    rw [upd_ne (by omega)]
    exact ih (by omega)
theorem purD_at {S : Nat → Int32} {p : Nat} (hp : p < 6) : ∀ k, k ≤ 8 → ∀ d j, j < 7 → purD S p k (73 + 7 * d + j) = if d < k ∧ j = 1 + p then (-4) else S (73 + 7 * d + j) := by
  intro k
  induction k with
  | zero =>
    intro _ d j _
    rw [if_neg (by omega)]
    rfl
  | succ k ih =>
    intro hk d j hj
    show upd _ (73 + 7 * k + (1 + p)) _ (73 + 7 * d + j) = _
    by_cases h : d = k ∧ j = 1 + p
    · rw [h.1, h.2, upd_eq, if_pos (by omega)]
    · rw [upd_ne (by omega), ih (by omega) d j hj]
      by_cases h2 : d < k ∧ j = 1 + p
      · rw [if_pos h2, if_pos (by omega)]
      · rw [if_neg h2, if_neg (by omega)]
theorem mPurpose_ok {S : Nat → Int32} {a b c e : Nat} (hO : sOk S a b c e) (ha : a < 6) : sOk (mPurposeS S a) (a + 1) b c e := by
  have e0 : ∀ i, i ≠ 2 → mPurposeS S a i = purD (purN S a 11) a 8 i := fun i hi => upd_ne hi
  have e1 : ∀ i, (i < 73 ∨ 129 ≤ i) → purD (purN S a 11) a 8 i = purN S a 11 i := fun i hi => purD_out ha hi 8 (Nat.le_refl _)
  have e2 : ∀ i, (i < 7 + 11 * a ∨ 7 + 11 * a + 11 ≤ i) → purN S a 11 i = S i := fun i hi => purN_out ha hi 11 (Nat.le_refl _)
  have e3 : ∀ i, i ≠ 2 → (i < 73 ∨ 129 ≤ i) → (i < 7 + 11 * a ∨ 7 + 11 * a + 11 ≤ i) → mPurposeS S a i = S i := fun i h1 h2 h3 => (e0 i h1).trans ((e1 i h2).trans (e2 i h3))
  obtain ⟨⟨s1, s2, s3, s4, b1, b2, b3, b4, b5⟩, h1, h2, rk, h3⟩ := hO
  refine ⟨⟨?_, by rw [e3 3 (by omega) (by omega) (by omega)]; exact s2, by rw [e3 4 (by omega) (by omega) (by omega)]; exact s3, by rw [e3 5 (by omega) (by omega) (by omega)]; exact s4, by omega, by omega, b3, b4, b5⟩, fun g hg => ?_, fun k hk => ?_, fun x => if x = a then 0 else rk x, fun p hp => ?_⟩
  · show upd _ 2 _ 2 = _
    rw [upd_eq, e1 2 (by omega), e2 2 (by omega), s1]
    exact nI_1 a
  · rw [show sG (mPurposeS S a) g 0 = sG S g 0 from e3 _ (by omega) (by omega) (by omega), show sG (mPurposeS S a) g 1 = sG S g 1 from e3 _ (by omega) (by omega) (by omega)]
    obtain ⟨q1, q2, q3, q4⟩ := h1 g hg
    exact ⟨q1, q2, by omega, q4⟩
  · rw [show sK (mPurposeS S a) k 0 = sK S k 0 from e3 _ (by omega) (by omega) (by omega), show sK (mPurposeS S a) k 1 = sK S k 1 from e3 _ (by omega) (by omega) (by omega)]
    obtain ⟨q1, q2, q3, q4⟩ := h2 k hk
    exact ⟨q1, q2, by omega, q4⟩
  · by_cases hpa : p = a
    · subst hpa
      refine ⟨by simp, Or.inl ?_⟩
      rw [show sP (mPurposeS S p) p 9 = -4 from ((e0 _ (by omega)).trans (e1 _ (by omega))).trans ((purN_in 11 (Nat.le_refl _) 9 (by omega)).trans (if_pos rfl))]
      decide
    · simp only [if_neg hpa]
      rw [show sP (mPurposeS S a) p 9 = sP S p 9 from e3 _ (by omega) (by omega) (by omega)]
      obtain ⟨r1, r2⟩ := h3 p (by omega)
      refine ⟨r1, ?_⟩
      rcases r2 with z | ⟨q, z1, z2, z3⟩
      · exact Or.inl z
      · exact Or.inr ⟨q, by omega, z2, by rw [if_neg (by omega)]; exact z3⟩
theorem donN_out {S : Nat → Int32} {b i : Nat} (h : i < 73 + 7 * b ∨ 73 + 7 * b + 7 ≤ i) : ∀ k, k ≤ 6 → donN S b k i = S i := by
  intro k
  induction k with
  | zero => exact fun _ => rfl
  | succ k ih =>
    intro hk
    show upd _ _ _ i = _
    rw [upd_ne (by omega)]
    exact ih (by omega)
theorem mDonorS_out {S : Nat → Int32} {b i : Nat} (h3 : i ≠ 3) (h : i < 73 + 7 * b ∨ 73 + 7 * b + 7 ≤ i) : mDonorS S b i = S i := by
  unfold mDonorS
  rw [upd_ne h3, donN_out h 6 (Nat.le_refl _)]
  exact upd_ne (by omega)
theorem mDonorS_3 {S : Nat → Int32} {b : Nat} (h : S 3 = nI b) : mDonorS S b 3 = nI (b + 1) := by
  unfold mDonorS
  rw [upd_eq, donN_out (by omega) 6 (Nat.le_refl _), uD_lo (by omega), h]
  exact nI_1 b
theorem mDonor_ok {S : Nat → Int32} {a b c e : Nat} (hO : sOk S a b c e) (hb8 : b < 8) : sOk (mDonorS S b) a (b + 1) c e := by
  obtain ⟨⟨s1, s2, s3, s4, b1, b2, b3, b4, b5⟩, h1, h2, rk, h3⟩ := hO
  refine ⟨⟨by rw [mDonorS_out (by omega) (by omega)]; exact s1, mDonorS_3 s2, by rw [mDonorS_out (by omega) (by omega)]; exact s3, by rw [mDonorS_out (by omega) (by omega)]; exact s4, b1, b2, by omega, b4, b5⟩, fun g hg => ?_, fun k hk => ?_, rk, fun p hp => ?_⟩
  · rw [show sG (mDonorS S b) g 0 = sG S g 0 from mDonorS_out (by omega) (by omega), show sG (mDonorS S b) g 1 = sG S g 1 from mDonorS_out (by omega) (by omega)]
    obtain ⟨⟨q1, q2, q3⟩, q4⟩ := h1 g hg
    exact ⟨⟨q1, by omega, q3⟩, q4⟩
  · rw [show sK (mDonorS S b) k 0 = sK S k 0 from mDonorS_out (by omega) (by omega), show sK (mDonorS S b) k 1 = sK S k 1 from mDonorS_out (by omega) (by omega)]
    obtain ⟨⟨q1, q2, q3⟩, q4⟩ := h2 k hk
    exact ⟨⟨q1, by omega, q3⟩, q4⟩
  · rw [show sP (mDonorS S b) p 9 = sP S p 9 from mDonorS_out (by omega) (by omega)]
    exact h3 p hp
theorem plgN_out {S : Nat → Int32} {e i : Nat} (h : i < 297 + 8 * e ∨ 297 + 8 * e + 8 ≤ i) : ∀ k, k ≤ 8 → plgN S e k i = S i := by
  intro k
  induction k with
  | zero => exact fun _ => rfl
  | succ k ih =>
    intro hk
    show upd _ _ _ i = _
    rw [upd_ne (by omega)]
    exact ih (by omega)
theorem plgN_in {S : Nat → Int32} {e : Nat} : ∀ k, k ≤ 8 → ∀ j, j < k → plgN S e k (297 + 8 * e + j) = 0 := by
  intro k
  induction k with
  | zero => intro _ j hj; omega
  | succ k ih =>
    intro hk j hj
    show upd _ _ _ (297 + 8 * e + j) = _
    rcases Nat.lt_or_ge j k with q | q
    · rw [upd_ne (by omega)]
      exact ih (by omega) j q
    · have ej : j = k := by omega
      rw [ej]
      exact upd_eq
theorem mPledgeS_out {S : Nat → Int32} {e i : Nat} {x y z u : Int32} (h5 : i ≠ 5) (h : i < 297 + 8 * e ∨ 297 + 8 * e + 8 ≤ i) : mPledgeS S e x y z u i = S i := by
  unfold mPledgeS uK
  rw [upd_ne h5, upd_ne (by omega), upd_ne (by omega), upd_ne (by omega), upd_ne (by omega), plgN_out h 8 (Nat.le_refl _)]
theorem mPledgeS_5 {S : Nat → Int32} {e : Nat} {x y z u : Int32} (h : S 5 = nI e) : mPledgeS S e x y z u 5 = nI (e + 1) := by
  unfold mPledgeS uK
  rw [upd_eq, upd_ne (by omega), upd_ne (by omega), upd_ne (by omega), upd_ne (by omega), plgN_out (by omega) 8 (Nat.le_refl _), h]
  exact nI_1 e
theorem mPledgeS_k {S : Nat → Int32} {e : Nat} {x y z u : Int32} : sK (mPledgeS S e x y z u) e 0 = x ∧ sK (mPledgeS S e x y z u) e 1 = y ∧ sK (mPledgeS S e x y z u) e 2 = z ∧ sK (mPledgeS S e x y z u) e 3 = u ∧ ∀ j, 4 ≤ j → j < 8 → sK (mPledgeS S e x y z u) e j = 0 := by
  unfold sK mPledgeS uK
  refine ⟨?_, ?_, ?_, ?_, fun j h1 h2 => ?_⟩
  · rw [upd_ne (by omega), upd_ne (by omega), upd_ne (by omega), upd_ne (by omega), upd_eq]
  · rw [upd_ne (by omega), upd_ne (by omega), upd_ne (by omega), upd_eq]
  · rw [upd_ne (by omega), upd_ne (by omega), upd_eq]
  · rw [upd_ne (by omega), upd_eq]
  · rw [upd_ne (by omega), upd_ne (by omega), upd_ne (by omega), upd_ne (by omega), upd_ne (by omega), plgN_in 8 (Nat.le_refl _) j h2]
theorem mPledge_ok {S : Nat → Int32} {a b c e d p : Nat} {z u : Int32} (hO : sOk S a b c e) (he : e < 6) (hd : d < b) (hp : p < a) : sOk (mPledgeS S e (nI d) (nI p) z u) a b c (e + 1) := by
  obtain ⟨⟨s1, s2, s3, s4, b1, b2, b3, b4, b5⟩, h1, h2, rk, h3⟩ := hO
  refine ⟨⟨by rw [mPledgeS_out (by omega) (by omega)]; exact s1, by rw [mPledgeS_out (by omega) (by omega)]; exact s2, by rw [mPledgeS_out (by omega) (by omega)]; exact s3, mPledgeS_5 s4, b1, b2, b3, b4, by omega⟩, fun g hg => ?_, fun k hk => ?_, rk, fun q hq => ?_⟩
  · rw [show sG (mPledgeS S e (nI d) (nI p) z u) g 0 = sG S g 0 from mPledgeS_out (by omega) (by omega), show sG (mPledgeS S e (nI d) (nI p) z u) g 1 = sG S g 1 from mPledgeS_out (by omega) (by omega)]
    exact h1 g hg
  · rcases Nat.lt_or_ge k e with q | q
    · rw [show sK (mPledgeS S e (nI d) (nI p) z u) k 0 = sK S k 0 from mPledgeS_out (by omega) (by omega), show sK (mPledgeS S e (nI d) (nI p) z u) k 1 = sK S k 1 from mPledgeS_out (by omega) (by omega)]
      exact h2 k q
    · have ek : k = e := by omega
      subst ek
      exact ⟨⟨d, hd, mPledgeS_k.1⟩, p, hp, mPledgeS_k.2.1⟩
  · rw [show sP (mPledgeS S e (nI d) (nI p) z u) q 9 = sP S q 9 from mPledgeS_out (by omega) (by omega)]
    exact h3 q hq
theorem mHandN_fo {S : Nat → Int32} {p : Nat} {y : Int32} {j : Nat} : ∀ k, sK (mHandN S p y k) j 1 = sK S j 1 ∨ sK (mHandN S p y k) j 1 = y := by
  intro k
  induction k with
  | zero => exact Or.inl rfl
  | succ k ih =>
    unfold mHandN
    split
    · split
      · by_cases h : j = k
        · subst h; exact Or.inr uK_eq
        · rw [uK_ne (by omega) (by omega) (Or.inl (by omega))]; exact ih
      · unfold mEnds
        rw [uK_ne (by omega) (by omega) (Or.inr (by omega)), uK_ne (by omega) (by omega) (Or.inr (by omega))]; exact ih
    · exact ih
theorem mForgN_out {S : Nat → Int32} {p i : Nat} (hp : p < 6) (h : i < 73 ∨ 129 ≤ i) : ∀ d, d ≤ 8 → mForgN S p d i = S i := by
  intro d
  induction d with
  | zero => exact fun _ => rfl
  | succ d ih =>
    intro hd
    show upd _ _ _ i = _
    rw [upd_ne (by omega)]
    exact ih (by omega)
theorem mMerge1_9 {S : Nat → Int32} {p q x : Nat} (hp : p < 6) (hq : q < 6) (hx : x < 6) : sP (mMerge1 S p q) x 9 = if x = p then nI q else sP S x 9 := by
  unfold mMerge1 sP aP uP
  rw [upd_ne (by omega), upd_ne (by omega), upd_ne (by omega)]
  by_cases h : x = p
  · rw [if_pos h, h, upd_eq]
  · rw [if_neg h, upd_ne (by omega), upd_ne (by omega)]
abbrev mMergeS (S : Nat → Int32) (b e p q : Nat) : Nat → Int32 := mForgN (mHandN (mMerge1 S p q) p (nI q) e) p b
theorem mMerge_ok {S : Nat → Int32} {a b c e p q : Nat} (hO : sOk S a b c e) (hp : p < a) (hq : q < a) (hpq : p ≠ q) (cp : sClosed S p = false) (cq : sClosed S q = false) : sOk (mMergeS S b e p q) a b c e := by
  have hO2 := hO
  obtain ⟨⟨s1, s2, s3, s4, b1, b2, b3, b4, b5⟩, h1, h2, rk, h3⟩ := hO
  have lo : ∀ i, i < 7 → mMergeS S b e p q i = S i := fun i hi => by
    unfold mMergeS
    rw [mForgN_out (by omega) (by omega) b b3, mHandN_lo (by omega), mMerge1_lo hi]
  have hi' : ∀ i, 129 ≤ i → i < 297 → mMergeS S b e p q i = S i := fun i h4 h5 => by
    unfold mMergeS
    rw [mForgN_out (by omega) (by omega) b b3, mHandN_lo (by omega), mMerge1_hi (by omega) (by omega) (by omega)]
  have k0 : ∀ k, sK (mMergeS S b e p q) k 0 = sK S k 0 := fun k => by
    have e1 : sK (mMergeS S b e p q) k 0 = sK (mHandN (mMerge1 S p q) p (nI q) e) k 0 := mForgN_out (by omega) (by omega) b b3
    rw [e1, mHandN_by]
    exact mMerge1_hi (by omega) (by omega) (by omega)
  have k1 : ∀ k, sK (mMergeS S b e p q) k 1 = sK S k 1 ∨ sK (mMergeS S b e p q) k 1 = nI q := fun k => by
    have e1 : sK (mMergeS S b e p q) k 1 = sK (mHandN (mMerge1 S p q) p (nI q) e) k 1 := mForgN_out (by omega) (by omega) b b3
    rw [e1]
    rcases mHandN_fo (S := mMerge1 S p q) (p := p) (y := nI q) (j := k) e with z | z
    · exact Or.inl (z.trans (mMerge1_hi (by omega) (by omega) (by omega)))
    · exact Or.inr z
  have p9 : ∀ x, x < 6 → sP (mMergeS S b e p q) x 9 = if x = p then nI q else sP S x 9 := fun x hx => by
    have e1 : sP (mMergeS S b e p q) x 9 = sP (mMerge1 S p q) x 9 := (mForgN_out (by omega) (by omega) b b3).trans (mHandN_lo (by omega) e)
    rw [e1]
    exact mMerge1_9 (by omega) (by omega) hx
  refine ⟨⟨by rw [lo 2 (by omega)]; exact s1, by rw [lo 3 (by omega)]; exact s2, by rw [lo 4 (by omega)]; exact s3, by rw [lo 5 (by omega)]; exact s4, b1, b2, b3, b4, b5⟩, fun g hg => ?_, fun k hk => ?_, rk_small b2 ⟨fun x => if sHome S x = p then rk x + rk q + 1 else rk x, fun x hx => ?_⟩⟩
  · rw [show sG (mMergeS S b e p q) g 0 = sG S g 0 from hi' _ (by omega) (by omega), show sG (mMergeS S b e p q) g 1 = sG S g 1 from hi' _ (by omega) (by omega)]
    exact h1 g hg
  · rw [k0]
    refine ⟨(h2 k hk).1, ?_⟩
    rcases k1 k with z | z
    · rw [z]; exact (h2 k hk).2
    · exact ⟨q, hq, z⟩
  · rw [p9 x (by omega)]
    by_cases hxp : x = p
    · subst hxp
      rw [if_pos rfl]
      refine Or.inr ⟨q, hq, rfl, ?_⟩
      dsimp only
      rw [sHome_open cp, sHome_open cq, if_pos rfl, if_neg (fun z => hpq z.symm)]
      omega
    · rw [if_neg hxp]
      rcases (h3 x hx).2 with z | ⟨y, y1, y2, y3⟩
      · exact Or.inl z
      · refine Or.inr ⟨y, y1, y2, ?_⟩
        dsimp only
        rw [sHome_step hO2 hx y2 y1]
        by_cases hh : sHome S y = p
        · rw [if_pos hh, if_pos hh]; omega
        · rw [if_neg hh, if_neg hh]; exact y3
theorem mRef_ok {S : Nat → Int32} {a b c e g h : Nat} {t : Int32} (hO : sOk S a b c e) (hg : g < c) (hh : h < a) : sOk (mRefS S g h t) a b c e := by
  have hb := hO.1
  unfold mRefS
  exact sOk_upd (sOk_aP (sOk_aP (sOk_aP hO (by omega) (by omega) (by omega)) (by omega) (by omega) (by omega)) (by omega) (by omega) (by omega)) (by omega) (fun q hq => by omega) (fun g hg => by omega) (fun g hg => by omega)
