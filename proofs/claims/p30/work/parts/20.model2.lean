/-! What the reference's walks need of its pure functions. -/
theorem lpTn {i c : Nat} (hc : c < 2 ^ 31) (h : i + 0 = c) : nI c ≤ nI i := by
  have e : i = c := by omega
  rw [e]
  exact nI_le (Nat.le_refl _) hc
theorem lpFn {i dq c : Nat} (hc : c < 2 ^ 31) (h : i + (dq + 1) = c) : ¬ nI c ≤ nI i := nI_ge (by omega) hc
theorem sHomeN_open {S : Nat → Int32} {q : Nat} (h : sClosed S q = false) : ∀ n, sHomeN S n q = q := by
  intro n
  induction n with
  | zero => rfl
  | succ n ih =>
    show sHomeN S n (sStep S q) = q
    have e : sStep S q = q := by simp [sStep, h]
    rw [e]
    exact ih
theorem sCl_of {S : Nat → Int32} {a q : Nat} {rk : Nat → Nat} (ha : a ≤ 6) (hr : ∀ p, p < a → rk p ≤ 6 ∧ (sP S p 9 < 0 ∨ ∃ q, q < a ∧ sP S p 9 = nI q ∧ rk q < rk p)) (hq : q < a) (h : sClosed S q = true) : ∃ q2, q2 < a ∧ sP S q 9 = nI q2 ∧ rk q2 < rk q ∧ sStep S q = q2 := by
  rcases (hr q hq).2 with z | ⟨q2, h2, e2, r2⟩
  · simp only [sClosed, decide_eq_true_eq] at h
    exact absurd z (Int32.not_lt.mpr h)
  · refine ⟨q2, h2, e2, r2, ?_⟩
    simp only [sStep, h, if_true]
    rw [e2, nI_clamp (by omega)]
theorem mClOne_ok {S : Nat → Int32} {a b c e g : Nat} (hO : sOk S a b c e) (hg : g < c) : sOk (mClOne S g) a b c e := by
  have hb := hO.1
  have h1 : sOk (upd S (129 + 7 * g + 4) 1) a b c e := sOk_upd hO (by omega) (fun q hq => by omega) (fun g hg => by omega) (fun g hg => by omega)
  obtain ⟨p, hp, ep⟩ := (h1.2.1 g hg).2
  have h2 : sHome (upd S (129 + 7 * g + 4) 1) (sG (upd S (129 + 7 * g + 4) 1) g 1).toNatClampNeg < a := by
    rw [ep, nI_clamp (by omega)]
    exact sOk_home h1 hp
  unfold mClOne
  exact sOk_aP (sOk_aP h1 (by omega) (by omega) (by omega)) (by omega) (by omega) (by omega)
theorem mClN_ok {S : Nat → Int32} {a b c e : Nat} (hO : sOk S a b c e) (x : Int32) : ∀ g, g ≤ c → sOk (mClN S c x g).2.2 a b c e := by
  intro g
  induction g with
  | zero => exact fun _ => hO
  | succ g ih =>
    intro hg
    unfold mClN
    split
    · exact mClOne_ok (ih (by omega)) (by omega)
    · exact ih (by omega)
theorem two_of {S : Nat → Int32} {x y : Int32} (h : sTwo S x y = true) : sIsP S x = true ∧ sIsP S y = true := by
  simp only [sTwo, Bool.and_eq_true] at h
  exact h.1
theorem uD_lo {S : Nat → Int32} {d k i : Nat} {v : Int32} (h : i < 73) : uD S d k v i = S i := upd_ne (by omega)
theorem uP_lo {S : Nat → Int32} {d k i : Nat} {v : Int32} (h : i < 7) : uP S d k v i = S i := upd_ne (by omega)
theorem aP_lo {S : Nat → Int32} {d k i : Nat} {v : Int32} (h : i < 7) : aP S d k v i = S i := upd_ne (by omega)
theorem uK_lo {S : Nat → Int32} {d k i : Nat} {v : Int32} (h : i < 297) : uK S d k v i = S i := upd_ne (by omega)
theorem uP_hi {S : Nat → Int32} {p k i : Nat} {v : Int32} (hp : p < 6) (hk : k < 11) (h : 72 < i) : uP S p k v i = S i := upd_ne (by omega)
theorem aP_hi {S : Nat → Int32} {p k i : Nat} {v : Int32} (hp : p < 6) (hk : k < 11) (h : 72 < i) : aP S p k v i = S i := upd_ne (by omega)
theorem mMerge1_lo {S : Nat → Int32} {p q i : Nat} (h : i < 7) : mMerge1 S p q i = S i := by
  unfold mMerge1
  rw [aP_lo h, aP_lo h, aP_lo h, uP_lo h, uP_lo h]
theorem mMerge1_hi {S : Nat → Int32} {p q i : Nat} (hp : p < 6) (hq : q < 6) (h : 72 < i) : mMerge1 S p q i = S i := by
  unfold mMerge1
  rw [aP_hi hq (by omega) h, aP_hi hq (by omega) h, aP_hi hp (by omega) h, uP_hi hp (by omega) h, uP_hi hp (by omega) h]
theorem mEnds_lo {S : Nat → Int32} {k i : Nat} {v : Int32} (h : i < 297) : mEnds S k v i = S i := by
  unfold mEnds
  rw [uK_lo h, uK_lo h]
theorem mHandN_lo {S : Nat → Int32} {p i : Nat} {y : Int32} (h : i < 297) : ∀ k, mHandN S p y k i = S i := by
  intro k
  induction k with
  | zero => rfl
  | succ k ih =>
    unfold mHandN
    split
    · split
      · rw [uK_lo h]; exact ih
      · rw [mEnds_lo h]; exact ih
    · exact ih
theorem uK_ne {S : Nat → Int32} {k j k2 j2 : Nat} {v : Int32} (hj : j < 8) (hj2 : j2 < 8) (h : k ≠ k2 ∨ j ≠ j2) : sK (uK S k j v) k2 j2 = sK S k2 j2 := upd_ne (by omega)
theorem uK_eq {S : Nat → Int32} {k j : Nat} {v : Int32} : sK (uK S k j v) k j = v := upd_eq
theorem mHandN_by {S : Nat → Int32} {p : Nat} {y : Int32} {j : Nat} : ∀ k, sK (mHandN S p y k) j 0 = sK S j 0 := by
  intro k
  induction k with
  | zero => rfl
  | succ k ih =>
    unfold mHandN
    split
    · split
      · rw [uK_ne (by omega) (by omega) (Or.inr (by omega))]; exact ih
      · unfold mEnds
        rw [uK_ne (by omega) (by omega) (Or.inr (by omega)), uK_ne (by omega) (by omega) (Or.inr (by omega))]; exact ih
    · exact ih
theorem mForgN_lo {S : Nat → Int32} {p i : Nat} (h : i < 73) : ∀ d, mForgN S p d i = S i := by
  intro d
  induction d with
  | zero => rfl
  | succ d ih =>
    show uD _ _ _ _ i = _
    rw [uD_lo h]
    exact ih
theorem bIn1_of {x : Int32} (h : bIn x 1 60 = true) : ∃ m, m ≤ 60 ∧ x = nI m := by
  simp only [bIn, Bool.and_eq_true, decide_eq_true_eq] at h
  have h0 : ¬ x < 0 := fun q => h.1 (by
    rw [Int32.lt_iff_toInt_lt] at q ⊢
    have : (0 : Int32).toInt = 0 := rfl
    have : (1 : Int32).toInt = 1 := rfl
    omega)
  obtain ⟨p, hp, rfl⟩ := nI_of h0
  refine ⟨p, ?_, rfl⟩
  rcases Nat.lt_or_ge 60 p with q | q
  · exact absurd (nI_lt q hp) h.2
  · exact q
/-- a gift more -/
theorem mGives_lo {S : Nat → Int32} {c : Nat} {x : Int32} {p : Nat} {z u : Int32} {i : Nat} (h : i < 7) (h4 : i ≠ 4) : mGives S c x p z u i = S i := by
  unfold mGives
  rw [aP_lo h, aP_lo h, upd_ne h4, upd_ne (by omega), upd_ne (by omega), upd_ne (by omega), upd_ne (by omega), upd_ne (by omega), upd_ne (by omega), upd_ne (by omega)]
theorem mGives_4 {S : Nat → Int32} {c : Nat} {x : Int32} {p : Nat} {z u : Int32} (h : S 4 = nI c) : mGives S c x p z u 4 = nI (c + 1) := by
  unfold mGives
  rw [aP_lo (by omega), aP_lo (by omega), upd_eq, upd_ne (by omega), upd_ne (by omega), upd_ne (by omega), upd_ne (by omega), upd_ne (by omega), upd_ne (by omega), upd_ne (by omega), h]
  exact nI_1 c
/-- cells apart from the new gift's, the count and two of the purpose's -/
theorem mGives_out {S : Nat → Int32} {c : Nat} {x : Int32} {p : Nat} {z u : Int32} {i : Nat} (h4 : i ≠ 4) (hg : i < 129 + 7 * c ∨ 129 + 7 * c + 6 < i) (h0 : i ≠ 7 + 11 * p + 0) (h1 : i ≠ 7 + 11 * p + 1) : mGives S c x p z u i = S i := by
  unfold mGives aP
  rw [upd_ne h1, upd_ne h0, upd_ne h4, upd_ne (by omega), upd_ne (by omega), upd_ne (by omega), upd_ne (by omega), upd_ne (by omega), upd_ne (by omega), upd_ne (by omega)]
theorem mGives_g {S : Nat → Int32} {c : Nat} {x : Int32} {p : Nat} {z u : Int32} (hp : p < 6) : sG (mGives S c x p z u) c 0 = x ∧ sG (mGives S c x p z u) c 1 = nI p ∧ sG (mGives S c x p z u) c 2 = z ∧ sG (mGives S c x p z u) c 3 = S 6 ∧ sG (mGives S c x p z u) c 4 = 0 ∧ sG (mGives S c x p z u) c 5 = 0 ∧ sG (mGives S c x p z u) c 6 = u := by
  have e : ∀ j, j < 7 → sG (mGives S c x p z u) c j = upd (upd (upd (upd (upd (upd (upd S (129 + 7 * c) x) (129 + 7 * c + 1) (nI p)) (129 + 7 * c + 2) z) (129 + 7 * c + 3) (S 6)) (129 + 7 * c + 4) 0) (129 + 7 * c + 5) 0) (129 + 7 * c + 6) u (129 + 7 * c + j) := by
    intro j hj
    unfold sG mGives aP
    have q6 : (upd (upd (upd S (129 + 7 * c) x) (129 + 7 * c + 1) (nI p)) (129 + 7 * c + 2) z) 6 = S 6 := by rw [upd_ne (by omega), upd_ne (by omega), upd_ne (by omega)]
    rw [q6, upd_ne (by omega), upd_ne (by omega), upd_ne (by omega)]
  refine ⟨?_, ?_, ?_, ?_, ?_, ?_, ?_⟩
  · rw [e 0 (by omega), upd_ne (by omega), upd_ne (by omega), upd_ne (by omega), upd_ne (by omega), upd_ne (by omega), upd_ne (by omega)]; exact upd_eq
  · rw [e 1 (by omega), upd_ne (by omega), upd_ne (by omega), upd_ne (by omega), upd_ne (by omega), upd_ne (by omega)]; exact upd_eq
  · rw [e 2 (by omega), upd_ne (by omega), upd_ne (by omega), upd_ne (by omega), upd_ne (by omega)]; exact upd_eq
  · rw [e 3 (by omega), upd_ne (by omega), upd_ne (by omega), upd_ne (by omega)]; exact upd_eq
  · rw [e 4 (by omega), upd_ne (by omega), upd_ne (by omega)]; exact upd_eq
  · rw [e 5 (by omega), upd_ne (by omega)]; exact upd_eq
  · rw [e 6 (by omega)]; exact upd_eq
theorem mGives_ok {S : Nat → Int32} {a b c e d p : Nat} {z u : Int32} (hO : sOk S a b c e) (hc : c < 24) (hd : d < b) (hp : p < a) : sOk (mGives S c (nI d) p z u) a b (c + 1) e := by
  have hb := hO.1
  obtain ⟨⟨e1, e2, e3, e4, b1, b2, b3, b4, b5⟩, hg, hk, rk, hr⟩ := hO
  refine ⟨⟨by rw [mGives_lo (by omega) (by omega)]; exact e1, by rw [mGives_lo (by omega) (by omega)]; exact e2, mGives_4 e3, by rw [mGives_lo (by omega) (by omega)]; exact e4, b1, b2, b3, by omega, b5⟩, fun g hgc => ?_, fun k hke => ?_, rk, fun q hq => ?_⟩
  · rcases Nat.lt_or_ge g c with h | h
    · have q0 : sG (mGives S c (nI d) p z u) g 0 = sG S g 0 := mGives_out (by omega) (by omega) (by omega) (by omega)
      have q1 : sG (mGives S c (nI d) p z u) g 1 = sG S g 1 := mGives_out (by omega) (by omega) (by omega) (by omega)
      rw [q0, q1]
      exact hg g h
    · have eg : g = c := by omega
      subst eg
      have q := mGives_g (S := S) (c := g) (x := nI d) (p := p) (z := z) (u := u) (by omega)
      exact ⟨⟨d, hd, q.1⟩, p, hp, q.2.1⟩
  · have q0 : sK (mGives S c (nI d) p z u) k 0 = sK S k 0 := mGives_out (by omega) (by omega) (by omega) (by omega)
    have q1 : sK (mGives S c (nI d) p z u) k 1 = sK S k 1 := mGives_out (by omega) (by omega) (by omega) (by omega)
    rw [q0, q1]
    exact hk k hke
  · have q0 : sP (mGives S c (nI d) p z u) q 9 = sP S q 9 := mGives_out (by omega) (by omega) (by omega) (by omega)
    rw [q0]
    exact hr q hq
theorem mEnds_ok {S : Nat → Int32} {a b c e k : Nat} {v : Int32} (hO : sOk S a b c e) (hk : k < 6) : sOk (mEnds S k v) a b c e := sOk_uK (sOk_uK hO hk (by omega) (by omega)) hk (by omega) (by omega)
theorem mDec_ok {S : Nat → Int32} {a b c e k j : Nat} (hO : sOk S a b c e) (hk : k < 6) (hj : 2 ≤ j) (hj8 : j < 8) : sOk (mDec S k j) a b c e := sOk_uK hO hk hj hj8
theorem mInc_ok {S : Nat → Int32} {a b c e k j : Nat} (hO : sOk S a b c e) (hk : k < 6) (hj : 2 ≤ j) (hj8 : j < 8) : sOk (mInc S k j) a b c e := sOk_uK hO hk hj hj8
theorem mMonth_ok {S : Nat → Int32} {a b c e k : Nat} (hO : sOk S a b c e) (hk : k < e) : sOk (mMonth S c k).2 a b (if (mMonth S c k).1 = 1 then c + 1 else c) e := by
  have hb := hO.1
  have h01 : ¬ (0 : Int32) = 1 := by decide
  unfold mMonth
  split
  · have h1 := mDec_ok (k := k) (j := 3) (mInc_ok (k := k) (j := 4) (sOk_uK (k := k) (j := 7) (v := 0) hO (by omega) (by omega) (by omega)) (by omega) (by omega) (by omega)) (by omega) (by omega) (by omega)
    simp only [if_neg h01]
    split
    · exact mEnds_ok h1 (by omega)
    · split
      · exact mEnds_ok h1 (by omega)
      · exact h1
  · split
    · simp only [if_neg h01]
      exact mEnds_ok (mDec_ok hO (by omega) (by omega) (by omega)) (by omega)
    · next h24 =>
      obtain ⟨⟨d, hd, ed⟩, p, hp, ep⟩ := hO.2.2.1 k hk
      have hc : c < 24 := nI_ne (n := 24) h24 (by omega)
      have e1 : (sK S k 1).toNatClampNeg = p := by rw [ep, nI_clamp (by omega)]
      simp only [if_true]
      rw [ed, e1]
      have h1 := mDec_ok (k := k) (j := 3) (mInc_ok (k := k) (j := 6) (mGives_ok (z := sK S k 2) (u := nI k) hO hc hd hp) (by omega) (by omega) (by omega)) (by omega) (by omega) (by omega)
      split
      · exact mEnds_ok h1 (by omega)
      · exact h1
theorem mGoK_ok {S : Nat → Int32} {a b c e : Nat} (hO : sOk S a b c e) : ∀ k, k ≤ e → sOk (mGoK S c k).2.2 a b (mGoK S c k).2.1 e := by
  intro k
  induction k with
  | zero => exact fun _ => hO
  | succ k ih =>
    intro hk
    unfold mGoK
    split
    · exact mMonth_ok (ih (by omega)) (by omega)
    · exact ih (by omega)
theorem mTime_ok {S : Nat → Int32} {a b c e : Nat} {v : Int32} (hO : sOk S a b c e) : sOk (upd S 6 v) a b c e := sOk_upd hO (by omega) (fun q hq => by omega) (fun g hg => by omega) (fun g hg => by omega)
theorem mGoM_ok {S : Nat → Int32} {a b c e : Nat} (hO : sOk S a b c e) : ∀ m, sOk (mGoM S c e m).2.2 a b (mGoM S c e m).2.1 e := by
  intro m
  induction m with
  | zero => exact hO
  | succ m ih => exact mGoK_ok (mTime_ok ih) e (Nat.le_refl _)
/-- a number in a text of the reference's -/
theorem num_of {x : Int32} {N : Nat} (h : ∃ d, d < N ∧ x = nI d) (hN : N < 2 ^ 31) : x = nI x.toNatClampNeg ∧ x.toNatClampNeg < N := by
  obtain ⟨d, hd, rfl⟩ := h
  rw [nI_clamp (by omega)]
  exact ⟨rfl, hd⟩
