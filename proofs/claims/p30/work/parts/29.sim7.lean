/-! Merging; consents. -/
section SIM6
variable {C S : Nat → Int32} {a b c e : Nat} {T : Int}
def wG (S : Nat → Int32) (p n : Nat) : Int32 := if sG S n 1 = nI p ∧ sG S n 5 = 0 then sG S n 2 else 0
theorem ws_0 {p : Nat} {y : Int32} : ∀ k, mWsN S 0 p y k = 0 := by
  intro k
  induction k with
  | zero => rfl
  | succ k ih =>
    show mWsN S 0 p y k + (if y < 0 ∨ sD S k (1 + p) = y then (0 : Int32) else 0) = 0
    rw [ih]
    split <;> rfl
theorem ws_succ {n d0 p : Nat} {y : Int32} (hd0 : d0 < 2 ^ 30) (e0 : sG S n 0 = nI d0) : ∀ k, k ≤ 8 → mWsN S (n + 1) p y k = mWsN S n p y k + (if d0 < k ∧ (y < 0 ∨ sD S d0 (1 + p) = y) then wG S p n else 0) := by
  intro k
  induction k with
  | zero => intro _; rw [if_neg (fun q => by omega)]; rfl
  | succ k ih =>
    intro hk
    have e1 : mWsN S (n + 1) p y (k + 1) = mWsN S (n + 1) p y k + (if y < 0 ∨ sD S k (1 + p) = y then mWtN S (nI k) (nI p) (n + 1) else 0) := rfl
    have e2 : mWsN S n p y (k + 1) = mWsN S n p y k + (if y < 0 ∨ sD S k (1 + p) = y then mWtN S (nI k) (nI p) n else 0) := rfl
    have e3 : mWtN S (nI k) (nI p) (n + 1) = mWtN S (nI k) (nI p) n + (if d0 = k then wG S p n else 0) := by
      show mWtN S (nI k) (nI p) n + (if sG S n 0 = nI k ∧ sG S n 1 = nI p ∧ sG S n 5 = 0 then sG S n 2 else 0) = _
      rw [e0]
      unfold wG
      by_cases z : d0 = k
      · subst z
        rw [if_pos (rfl : d0 = d0)]
        by_cases v : sG S n 1 = nI p ∧ sG S n 5 = 0
        · rw [if_pos ⟨rfl, v⟩, if_pos v]
        · rw [if_neg (fun q => v q.2), if_neg v]
      · rw [if_neg z, if_neg (fun q => z ((nI_eq (by omega) (by omega)).mp q.1))]
    rw [e1, e2, e3, ih (by omega)]
    generalize wG S p n = w
    generalize mWsN S n p y k = A
    generalize mWtN S (nI k) (nI p) n = m
    by_cases z : d0 = k
    · subst z
      by_cases v : y < 0 ∨ sD S d0 (1 + p) = y
      · simp [v, Int32.add_assoc]
      · simp [v]
    · have z2 : (d0 < k + 1) = (d0 < k) := propext (by omega)
      rw [if_neg z, Int32.add_zero]
      simp only [z2]
      rw [Int32.add_assoc, Int32.add_comm (if d0 < k ∧ (y < 0 ∨ sD S d0 (1 + p) = y) then w else 0), ← Int32.add_assoc]
theorem weight_wG (h : Rx C S a b c e T) {g p : Nat} (hg : g < c) : bWeight C (nI g) (nI p) = wG S p g := weight_n h hg (nI p)
theorem wAll_n (h : Rx C S a b c e T) (p : Nat) : ∀ n, n ≤ c → bWAllN C (nI p) n = mWsN S n p (-1) b := by
  have hb := Rx_b h
  intro n
  induction n with
  | zero => exact fun _ => (ws_0 b).symm
  | succ n ih =>
    intro hn
    obtain ⟨d, hd, ed⟩ := (h.2.1.2.1 n (by omega)).1
    rw [ws_succ (by omega) ed b (by omega), if_pos ⟨hd, Or.inl (by decide)⟩, ← ih (by omega), ← weight_wG h (by omega)]
    rfl
theorem agrees_n (h : Rx C S a b c e T) {d p q : Nat} (hd : d < b) (hp : p < a) (hq : q < a) : bAgrees C (nI d) (nI p) (nI q) = decide (sD S d (1 + p) = nI q) := by
  have hb := Rx_b h
  unfold bAgrees
  rw [dCj h hd (by omega)]
  exact decide_eq_decide.mpr (cv_eq (by omega))
theorem wCons_n (h : Rx C S a b c e T) {p q : Nat} (hp : p < a) (hq : q < a) : ∀ n, n ≤ c → bWConsN C (nI p) (nI q) n = mWsN S n p (nI q) b := by
  have hb := Rx_b h
  intro n
  induction n with
  | zero => exact fun _ => (ws_0 b).symm
  | succ n ih =>
    intro hn
    obtain ⟨d, hd, ed⟩ := (h.2.1.2.1 n (by omega)).1
    rw [ws_succ (by omega) ed b (by omega), ← ih (by omega), ← weight_wG h (by omega)]
    show (if bAgrees C (gAt C (nI n) 0) (nI p) (nI q) = true then bWConsN C (nI p) (nI q) n + bWeight C (nI n) (nI p) else bWConsN C (nI p) (nI q) n) = _
    rw [show gAt C (nI n) 0 = sG S n 0 from gC h (k := 0) (by omega) (by omega), ed, agrees_n h hd hp hq]
    by_cases w : sD S d (1 + p) = nI q
    · rw [if_pos (decide_eq_true w), if_pos ⟨hd, Or.inr w⟩]
    · rw [if_neg (by rw [decide_eq_false w]; decide), if_neg (fun z => z.2.elim (nI_pos (by omega)) w), Int32.add_zero]
theorem ws_nn (h : Rx C S a b c e T) (p : Nat) (y : Int32) : ∀ n, n ≤ c → 0 ≤ (mWsN S n p y b).toInt ∧ (mWsN S n p y b).toInt ≤ 9999 * n := by
  have hb := Rx_b h
  intro n
  induction n with
  | zero => intro _; rw [ws_0, ti_0]; omega
  | succ n ih =>
    intro hn
    obtain ⟨d, hd, ed⟩ := (h.2.1.2.1 n (by omega)).1
    have i1 := ih (by omega)
    have ok := (h.2.2.2.2.2.1 n (by omega)).1
    have hw : 0 ≤ (wG S p n).toInt ∧ (wG S p n).toInt ≤ 9999 := by
      unfold wG
      split
      · omega
      · rw [ti_0]; omega
    rw [ws_succ (by omega) ed b (by omega)]
    split
    · rw [ti_add (by omega) (by omega)]; omega
    · rw [Int32.add_zero]; omega
theorem wAll_m (h : Rx C S a b c e T) (p : Nat) : bWAll C (nI p) = mWsN S c p (-1) b := by
  unfold bWAll
  rw [cn_133 h]
  exact wAll_n h p c (Nat.le_refl _)
theorem wCons_m (h : Rx C S a b c e T) {p q : Nat} (hp : p < a) (hq : q < a) : bWCons C (nI p) (nI q) = mWsN S c p (nI q) b := by
  unfold bWCons
  rw [cn_133 h]
  exact wCons_n h hp hq c (Nat.le_refl _)
theorem x_consents (h : Rx C S a b c e T) (x y : Int32) : bConsents C x y = mConsents S b c x y := by
  have hb := Rx_b h
  unfold bConsents mConsents
  rw [two_n h]
  split
  · next q =>
    obtain ⟨p, hp, rfl⟩ := isP_of h.2.1 (two_of q).1
    obtain ⟨i, hi, rfl⟩ := isP_of h.2.1 (two_of q).2
    rw [nI_clamp (by omega), wAll_m h, wCons_m h hp hi]
    have hn := ws_nn h p (-1) c (Nat.le_refl _)
    by_cases w : mWsN S c p (-1) b = 0
    · rw [if_pos w, if_neg (by rw [w]; decide)]
    · have w2 : (mWsN S c p (-1) b).toInt ≠ 0 := fun z => w (ti_eq z)
      rw [if_neg w, if_pos (by rw [Int32.lt_iff_toInt_lt, ti_0]; omega), Int32.mul_comm]
  · rfl
-- the pledges go over, or stop
theorem sOk_K1 {k q : Nat} (hO : sOk S a b c e) (hk : k < e) (hq : q < a) : sOk (uK S k 1 (nI q)) a b c e := by
  have hb := hO.1
  obtain ⟨⟨e1, e2, e3, e4, b1, b2, b3, b4, b5⟩, hg, hK, rk, hr⟩ := hO
  have n : ∀ i, i ≠ 297 + 8 * k + 1 → uK S k 1 (nI q) i = S i := fun i hi => upd_ne hi
  refine ⟨⟨by rw [n _ (by omega)]; exact e1, by rw [n _ (by omega)]; exact e2, by rw [n _ (by omega)]; exact e3, by rw [n _ (by omega)]; exact e4, b1, b2, b3, b4, b5⟩, fun g hgc => ?_, fun k' hke => ?_, rk, fun p hp => ?_⟩
  · rw [show sG (uK S k 1 (nI q)) g 0 = sG S g 0 from n _ (by omega), show sG (uK S k 1 (nI q)) g 1 = sG S g 1 from n _ (by omega)]
    exact hg g hgc
  · rw [show sK (uK S k 1 (nI q)) k' 0 = sK S k' 0 from n _ (by omega)]
    refine ⟨(hK k' hke).1, ?_⟩
    by_cases z : k' = k
    · subst z
      rw [uK_eq]
      exact ⟨q, hq, rfl⟩
    · rw [show sK (uK S k 1 (nI q)) k' 1 = sK S k' 1 from n _ (by omega)]
      exact (hK k' hke).2
  · rw [show sP (uK S k 1 (nI q)) p 9 = sP S p 9 from n _ (by omega)]
    exact hr p hp
theorem Rx_kmove (h : Rx C S a b c e T) {k q : Nat} (hk : k < e) (hq : q < a) : Rx (kPut C (nI k) 1 (nI q)) (uK S k 1 (nI q)) a b c e T := by
  have hb := Rx_b h
  refine ⟨Rl_putK (j := 1) h.1 h.2.1 hk (by omega), sOk_K1 h.2.1 hk hq, sB_K (S' := uK S k 1 (nI q)) h.2.2 ⟨by omega, by omega, by omega⟩ (fun i hi _ => upd_ne (by omega)) (fun k' hk' => ?_)⟩
  have n : ∀ j, j < 8 → j ≠ 1 → sK (uK S k 1 (nI q)) k' j = sK S k' j := fun j hj h1 => uK_ne (by omega) hj (Or.inr (by omega))
  have ok := h.2.2.2.2.2.2.1 k' hk'
  unfold okK
  rw [n 2 (by omega) (by omega), n 3 (by omega) (by omega), n 4 (by omega) (by omega), n 5 (by omega) (by omega), n 7 (by omega) (by omega)]
  exact ok
theorem Rx_hand (h : Rx C S a b c e T) {p q : Nat} (hp : p < a) (hq : q < a) : ∀ k, k ≤ e → Rx (bHandN C (nI p) (nI q) k) (mHandN S p (nI q) k) a b c e T := by
  have hb := Rx_b h
  intro k
  induction k with
  | zero => exact fun _ => h
  | succ k ih =>
    intro hk
    have i1 := ih (by omega)
    obtain ⟨d, hd, ed⟩ := (i1.2.1.2.2.1 k (by omega)).1
    unfold bHandN mHandN
    rw [run_n i1 (by omega), show kAt (bHandN C (nI p) (nI q) k) (nI k) 1 = sK (mHandN S p (nI q) k) k 1 from kC i1 (j := 1) (by omega) (by omega), show kAt (bHandN C (nI p) (nI q) k) (nI k) 0 = sK (mHandN S p (nI q) k) k 0 from kC i1 (j := 0) (by omega) (by omega), ed, nI_clamp (by omega), agrees_n i1 hd hp hq]
    by_cases w : sK (mHandN S p (nI q) k) k 5 = 0 ∧ sK (mHandN S p (nI q) k) k 1 = nI p
    · rw [if_pos w, if_pos ⟨decide_eq_true w.1, w.2⟩]
      by_cases v : sD (mHandN S p (nI q) k) d (1 + p) = nI q
      · rw [if_pos v, if_pos (decide_eq_true v)]
        exact Rx_kmove i1 (by omega) hq
      · rw [if_neg v, if_neg (by rw [decide_eq_false v]; decide)]
        exact Rx_ends i1 (by omega) ⟨by decide, by decide⟩
    · rw [if_neg w, if_neg (fun z => w ⟨of_decide_eq_true z.1, z.2⟩)]
      exact i1
theorem Rx_forget (h : Rx C S a b c e T) {p : Nat} (hp : p < a) : ∀ n, n ≤ b → Rx (bForgetN C (nI p) n) (mForgN S p n) a b c e T := by
  intro n
  induction n with
  | zero => exact fun _ => h
  | succ n ih => exact fun hn => Rx_cons (ih (by omega)) (by omega) hp cv_m4.symm (Or.inl rfl)
-- the purposes' part of a merging commutes with the others'
theorem uP_upd {i p k : Nat} {v w : Int32} (h : i ≠ 7 + 11 * p + k) : uP (upd S i v) p k w = upd (uP S p k w) i v := funext fun j => by
  show (if j = 7 + 11 * p + k then w else if j = i then v else S j) = (if j = i then v else if j = 7 + 11 * p + k then w else S j)
  by_cases q : j = 7 + 11 * p + k
  · rw [if_pos q, if_neg (fun z => h (z.symm.trans q)), if_pos q]
  · rw [if_neg q, if_neg q]
theorem mMerge1_upd {i p q : Nat} {v : Int32} (hp : p < 6) (hq : q < 6) (hi : 72 < i) : mMerge1 (upd S i v) p q = upd (mMerge1 S p q) i v := by
  unfold mMerge1
  rw [show sP (upd S i v) p 0 = sP S p 0 from upd_ne (by omega), uP_upd (by omega), uP_upd (by omega), aP_upd (by omega), aP_upd (by omega), aP_upd (by omega)]
theorem mMerge1_hand {p q : Nat} {y : Int32} (hp : p < 6) (hq : q < 6) : ∀ k, mMerge1 (mHandN S p y k) p q = mHandN (mMerge1 S p q) p y k := by
  intro k
  induction k with
  | zero => rfl
  | succ k ih =>
    have n : ∀ i, 72 < i → mHandN (mMerge1 S p q) p y k i = mHandN S p y k i := fun i hi => by rw [← ih]; exact mMerge1_hi hp hq hi
    unfold mHandN
    rw [show sK (mHandN (mMerge1 S p q) p y k) k 5 = sK (mHandN S p y k) k 5 from n _ (by omega), show sK (mHandN (mMerge1 S p q) p y k) k 1 = sK (mHandN S p y k) k 1 from n _ (by omega), show sK (mHandN (mMerge1 S p q) p y k) k 0 = sK (mHandN S p y k) k 0 from n _ (by omega), show ∀ d, sD (mHandN (mMerge1 S p q) p y k) d (1 + p) = sD (mHandN S p y k) d (1 + p) from fun d => n _ (by omega)]
    split
    · split
      · unfold uK
        rw [mMerge1_upd hp hq (by omega), ih]
      · unfold mEnds uK
        rw [mMerge1_upd hp hq (by omega), mMerge1_upd hp hq (by omega), ih]
    · exact ih
theorem mMerge1_forg {p q : Nat} (hp : p < 6) (hq : q < 6) : ∀ n, mMerge1 (mForgN S p n) p q = mForgN (mMerge1 S p q) p n := by
  intro n
  induction n with
  | zero => rfl
  | succ n ih =>
    show mMerge1 (upd _ _ _) p q = upd _ _ _
    rw [mMerge1_upd hp hq (by omega), ih]
-- closing
theorem close_at {D : Nat → Int32} {p q : Nat} : ∀ n, n ≤ 6 → (∀ r, r < n → bCloseN D (nI p) (nI q) n (4 + 12 * r + 10) = if D (4 + 12 * r + 10) = nI p then nI q else D (4 + 12 * r + 10)) ∧ ∀ i, (∀ r, r < n → i ≠ 4 + 12 * r + 10) → bCloseN D (nI p) (nI q) n i = D i := by
  intro n
  induction n with
  | zero => exact fun _ => ⟨fun r hr => absurd hr (by omega), fun _ _ => rfl⟩
  | succ n ih =>
    intro hn
    obtain ⟨i1, i2⟩ := ih (by omega)
    have e1 : pAt (bCloseN D (nI p) (nI q) n) (nI n) 10 = D (4 + 12 * n + 10) := (pAt_n _ (k := 10) (by omega) (by omega)).trans (i2 _ (fun r hr => by omega))
    have e2 : pPut (bCloseN D (nI p) (nI q) n) (nI n) 10 (nI q) = upd (bCloseN D (nI p) (nI q) n) (4 + 12 * n + 10) (nI q) := pPut_n _ (k := 10) _ (by omega) (by omega)
    unfold bCloseN
    rw [e1, e2]
    by_cases w : D (4 + 12 * n + 10) = nI p
    · rw [if_pos w]
      refine ⟨fun r hr => ?_, fun i hi => ?_⟩
      · by_cases z : r = n
        · subst z; rw [upd_eq, if_pos w]
        · rw [upd_ne (by omega)]; exact i1 r (by omega)
      · rw [upd_ne (hi n (by omega))]; exact i2 i (fun r hr => hi r (by omega))
    · rw [if_neg w]
      refine ⟨fun r hr => ?_, fun i hi => i2 i (fun r hr => hi r (by omega))⟩
      by_cases z : r = n
      · subst z; rw [if_neg w]; exact i2 _ (fun r hr => by omega)
      · exact i1 r (by omega)
theorem home_close {E : Nat → Int32} {p q : Nat} (hO : sOk S a b c e) (hE : sOk E a b c e) (hq : q < a) (hpq : p ≠ q) (cp : sClosed S p = false) (cq : sClosed S q = false) (h9 : ∀ r, r < a → r ≠ p → sP E r 9 = sP S r 9) (hp9 : sP E p 9 = nI q) (hp : p < a) : ∀ r, r < a → sHome E r = if sHome S r = p then q else sHome S r := by
  have hb := hO.1
  have cE : ∀ r, r < a → r ≠ p → sClosed E r = sClosed S r := fun r hr hrp => by unfold sClosed; rw [h9 r hr hrp]
  obtain ⟨-, -, -, rk, hr⟩ := id hO
  have key : ∀ n r, r < a → rk r ≤ n → sHome E r = if sHome S r = p then q else sHome S r := by
    intro n
    induction n with
    | zero =>
      intro r hra hrk
      have co : sClosed S r = false := by
        cases hc : sClosed S r with
        | false => rfl
        | true =>
          obtain ⟨q2, -, -, h3, -⟩ := sCl_of (by omega) hr hra hc
          omega
      by_cases z : r = p
      · subst z
        rw [sHome_open co, if_pos rfl, sHome_step hE hra hp9 hq, sHome_open (by rw [cE q hq (fun w => hpq w.symm)]; exact cq)]
      · rw [sHome_open co, if_neg z, sHome_open (by rw [cE r hra z]; exact co)]
    | succ n ih =>
      intro r hra hrk
      by_cases z : r = p
      · subst z
        rw [sHome_open cp, if_pos rfl, sHome_step hE hra hp9 hq, sHome_open (by rw [cE q hq (fun w => hpq w.symm)]; exact cq)]
      · cases hc : sClosed S r with
        | false => rw [sHome_open hc, if_neg z, sHome_open (by rw [cE r hra z]; exact hc)]
        | true =>
          obtain ⟨q2, h1, h2, h3, -⟩ := sCl_of (by omega) hr hra hc
          rw [sHome_step hO hra h2 h1, sHome_step hE hra ((h9 r hra z).trans h2) h1]
          exact ih q2 h1 (by omega)
  exact fun r hra => key (rk r) r hra (Nat.le_refl _)
theorem FB_zero {M : Int} (h : FB S a M) {p : Nat} (hp : p < a) : FB (uP S p 0 0) a (M - (sP S p 0).toInt) := by
  have n0 : sP (uP S p 0 0) p 0 = 0 := upd_eq
  have n : ∀ q j, j < 11 → (q ≠ p ∨ j ≠ 0) → sP (uP S p 0 0) q j = sP S q j := fun q j hj hq => upd_ne (by omega)
  refine ⟨fun q hq => ?_, ?_⟩
  · by_cases z : q = p
    · subst z
      refine ⟨by rw [n0, ti_0]; omega, ?_⟩
      rw [n q 9 (by omega) (Or.inr (by omega))]
      exact (h.1 q hq).2
    · exact okP_c (h.1 q hq) (n q 0 (by omega) (Or.inl z)) (n q 9 (by omega) (Or.inl z))
  · rw [smI_upd (f := fI S) (g := fI (uP S p 0 0)) (p := p) (fun i hi hip => congrArg Int32.toInt (n i 0 (by omega) (Or.inl hip))) hp]
    have h2 := h.2
    have z : fI (uP S p 0 0) p = 0 := by unfold fI; rw [n0, ti_0]
    have z2 : fI S p = (sP S p 0).toInt := rfl
    omega
theorem Rx_close (h : Rx C S a b c e T) {p q : Nat} (hp : p < a) (hq : q < a) (hpq : p ≠ q) (cp : sClosed S p = false) (cq : sClosed S q = false) (hM : sOk (mMerge1 S p q) a b c e) : (bMove (bCloseN (pPut C (nI p) 9 (nI q)) (nI p) (nI q) a) (nI p) (nI q)).1 = sP S p 0 ∧ Rx (bMove (bCloseN (pPut C (nI p) 9 (nI q)) (nI p) (nI q) a) (nI p) (nI q)).2 (mMerge1 S p q) a b c e T := by
  have hb := Rx_b h
  have e9 : pPut C (nI p) 9 (nI q) = upd C (4 + 12 * p + 9) (nI q) := pPut_n C (k := 9) _ (by omega) (by omega)
  rw [e9]
  obtain ⟨k1, k2⟩ := close_at (D := upd C (4 + 12 * p + 9) (nI q)) (p := p) (q := q) a (by omega)
  generalize hC3 : bCloseN (upd C (4 + 12 * p + 9) (nI q)) (nI p) (nI q) a = C3 at *
  generalize hE : uP S p 9 (nI q) = E
  have so : ∀ i, i ≠ 7 + 11 * p + 9 → E i = S i := fun i hi => by rw [← hE]; exact upd_ne hi
  have s9 : sP E p 9 = nI q := by rw [← hE]; exact upd_eq
  have co : ∀ i, i ≠ 4 + 12 * p + 9 → (∀ r, r < a → i ≠ 4 + 12 * r + 10) → C3 i = C i := fun i h1 h2 => by rw [k2 i h2, upd_ne h1]
  have c10 : ∀ r, r < a → C3 (4 + 12 * r + 10) = if C (4 + 12 * r + 10) = nI p then nI q else C (4 + 12 * r + 10) := fun r hr => by rw [k1 r hr, upd_ne (by omega)]
  have c9 : C3 (4 + 12 * p + 9) = nI q := by rw [k2 _ (fun r hr => by omega), upd_eq]
  have oE : sOk E a b c e := by
    refine sOk_same hM (fun i h1 h2 => ?_) (fun r hr => ?_) (fun g hg => ⟨?_, ?_⟩) (fun k hk => ⟨?_, ?_⟩)
    · rw [so _ (by omega), mMerge1_lo (by omega)]
    · rw [mMerge1_9 (by omega) (by omega) hr]
      by_cases z : r = p
      · subst z; rw [if_pos rfl]; exact s9
      · rw [if_neg z]; exact so _ (by omega)
    · exact (so _ (by omega)).trans (mMerge1_hi (by omega) (by omega) (by omega)).symm
    · exact (so _ (by omega)).trans (mMerge1_hi (by omega) (by omega) (by omega)).symm
    · exact (so _ (by omega)).trans (mMerge1_hi (by omega) (by omega) (by omega)).symm
    · exact (so _ (by omega)).trans (mMerge1_hi (by omega) (by omega) (by omega)).symm
  have hm := home_close h.2.1 oE hq hpq cp cq (fun r hr hrp => so _ (by omega)) s9 hp
  have lE : Rl C3 E a b c e := by
    obtain ⟨⟨n1, n2, n3, n4⟩, ⟨t1, t2, t3⟩, rP, rD, rG, rK, zP, zD, zG, zK⟩ := h.1
    refine ⟨⟨?_, ?_, ?_, ?_⟩, ⟨?_, ?_, ?_⟩, fun r hr => ⟨fun k hk => ?_, ?_, ?_, ?_⟩, fun d hd => ⟨?_, fun j hj => ?_, fun j hj haj => ?_⟩, fun g hg => ⟨fun j hj => ?_, ?_⟩, fun k hk j hj => ?_, fun r hr ha k hk => ?_, fun r hr ha k hk => ?_, fun r hr ha k hk => ?_, fun r hr ha k hk => ?_⟩
    · rw [co _ (by omega) (fun r hr => by omega)]; exact n1
    · rw [co _ (by omega) (fun r hr => by omega)]; exact n2
    · rw [co _ (by omega) (fun r hr => by omega)]; exact n3
    · rw [co _ (by omega) (fun r hr => by omega)]; exact n4
    · rw [co _ (by omega) (fun r hr => by omega), so _ (by omega)]; exact t1
    · rw [co _ (by omega) (fun r hr => by omega), so _ (by omega)]; exact t2
    · rw [co _ (by omega) (fun r hr => by omega), so _ (by omega)]; exact t3
    · exact (co _ (by omega) (fun r hr => by omega)).trans (((rP r hr).1 k hk).trans (so _ (by omega)).symm)
    · by_cases z : r = p
      · subst z
        rw [s9, cv_n (by omega)]; exact c9
      · rw [show cP C3 r 9 = cP C r 9 from co _ (by omega) (fun r hr => by omega), show sP E r 9 = sP S r 9 from so _ (by omega)]; exact (rP r hr).2.1
    · rw [show cP C3 r 10 = _ from c10 r hr, hm r hr, show C (4 + 12 * r + 10) = nI (sHome S r) from (rP r hr).2.2.1]
      have hh := sOk_home h.2.1 hr
      by_cases z : sHome S r = p
      · rw [if_pos z, if_pos (by rw [z])]
      · rw [if_neg z, if_neg (fun w => z ((nI_eq (by omega) (by omega)).mp w))]
    · exact (co _ (by omega) (fun r hr => by omega)).trans ((rP r hr).2.2.2.trans (so _ (by omega)).symm)
    · exact (co _ (by omega) (fun r hr => by omega)).trans ((rD d hd).1.trans (so _ (by omega)).symm)
    · rw [show cD C3 d (1 + j) = cD C d (1 + j) from co _ (by omega) (fun r hr => by omega), show sD E d (1 + j) = sD S d (1 + j) from so _ (by omega)]; exact (rD d hd).2.1 j hj
    · rw [show sD E d (1 + j) = sD S d (1 + j) from so _ (by omega)]; exact (rD d hd).2.2 j hj haj
    · exact (co _ (by omega) (fun r hr => by omega)).trans (((rG g hg).1 j hj).trans (so _ (by omega)).symm)
    · rw [show cG C3 g 6 = cG C g 6 from co _ (by omega) (fun r hr => by omega), show sG E g 6 = sG S g 6 from so _ (by omega)]; exact (rG g hg).2
    · exact (co _ (by omega) (fun r hr => by omega)).trans ((rK k hk j hj).trans (so _ (by omega)).symm)
    · exact (co _ (by omega) (fun r hr => by omega)).trans (zP r hr ha k hk)
    · exact (co _ (by omega) (fun r hr => by omega)).trans (zD r hr ha k hk)
    · exact (co _ (by omega) (fun r hr => by omega)).trans (zG r hr ha k hk)
    · exact (co _ (by omega) (fun r hr => by omega)).trans (zK r hr ha k hk)
  obtain ⟨F1, hMm⟩ := FB_of h.2.2 hb.2.2.2.1
  have hM0 : 0 ≤ smI (gW S) c := smI_nn (fun i hi => by unfold gW; split <;> omega)
  have FE : FB E a (smI (gW S) c) := by
    refine ⟨fun r hr => ?_, ?_⟩
    · by_cases z : r = p
      · subst z
        refine ⟨?_, Or.inr ⟨q, hq, s9⟩⟩
        rw [show sP E r 0 = sP S r 0 from so _ (by omega)]
        exact (F1.1 r hr).1
      · exact okP_c (F1.1 r hr) (so _ (by omega)) (so _ (by omega))
    · rw [smI_congr (f := fI S) (g := fI E) (fun i hi => congrArg Int32.toInt (so _ (by omega)))]
      exact F1.2
  have ep0 : sP E p 0 = sP S p 0 := so _ (by omega)
  have eF : bFund C3 (nI p) = sP S p 0 := by
    show pAt C3 (nI p) 0 = _
    rw [show pAt C3 (nI p) 0 = cP C3 p 0 from pAt_n C3 (k := 0) (by omega) (by omega), (lE.2.2.1 p hp).1 0 (by omega), ep0]
  have hf := FB_fund FE hp
  rw [ep0] at hf
  have f0 := FB_zero FE hp
  rw [ep0] at f0
  have e0 : pPut C3 (nI p) 0 0 = upd C3 (4 + 12 * p + 0) 0 := pPut_n C3 (k := 0) _ (by omega) (by omega)
  have l0 : Rl (pPut C3 (nI p) 0 0) (uP E p 0 0) a b c e := by rw [e0]; exact Rl_uP lE oE hp (by omega)
  have o0 : sOk (uP E p 0 0) a b c e := sOk_upd oE (by omega) (fun q hq => by omega) (fun g hg => by omega) (fun g hg => by omega)
  have o1 := sOk_aP (p := p) (k := 8) (v := sP S p 0) o0 (by omega) (by omega) (by omega)
  have o2 := sOk_aP (p := q) (k := 0) (v := sP S p 0) o1 (by omega) (by omega) (by omega)
  have l1 := Rl_addP (k := 8) (v := sP S p 0) l0 o0 hp (by omega)
  have l2 := Rl_addP (k := 0) (v := sP S p 0) l1 o1 hq (by omega)
  have l3 := Rl_addP (k := 7) (v := sP S p 0) l2 o2 hq (by omega)
  have f1 := FB_oth (p := p) (k := 8) (v := sP S p 0) f0 (by omega) (by omega) (by omega)
  have hf2 := FB_fund f1 hq
  have f2 := FB_add (v := sP S p 0) f1 hq (by omega) (by omega) (by omega)
  have f3 := FB_oth (p := q) (k := 7) (v := sP S p 0) f2 (by omega) (by omega) (by omega)
  have eM : mMerge1 S p q = aP (aP (aP (uP E p 0 0) p 8 (sP S p 0)) q 0 (sP S p 0)) q 7 (sP S p 0) := by
    unfold mMerge1
    rw [← hE, show uP (uP S p 0 0) p 9 (nI q) = uP (uP S p 9 (nI q)) p 0 0 from uP_upd (by omega)]
  unfold bMove
  rw [eF]
  refine ⟨rfl, ?_⟩
  rw [eM] at hM ⊢
  refine ⟨l3, hM, sB_P h.2.2 ⟨by omega, by omega, by omega⟩ (fun i hi => ?_) f3.1 ?_⟩
  · rw [← eM]
    rcases hi with hi | hi
    · exact mMerge1_lo hi
    · exact mMerge1_hi (by omega) (by omega) hi
  · have := f3.2
    omega
theorem x_merge (h : Rx C S a b c e T) (x y : Int32) : Sim (bMerge C x y) (mMerge S b c e x y) T := by
  have hb := Rx_b h
  unfold bMerge mMerge
  rw [two_n h]
  split
  · next q0 =>
    obtain ⟨p, hp, rfl⟩ := isP_of h.2.1 (two_of q0).1
    obtain ⟨q, hq, rfl⟩ := isP_of h.2.1 (two_of q0).2
    have hpq : p ≠ q := fun z => by subst z; simp [sTwo] at q0
    rw [nI_clamp (n := p) (by omega), nI_clamp (n := q) (by omega), wAll_m h, wCons_m h hp hq, h.1.2.1.2.1]
    have hm := mergeable_n h hp hq
    by_cases w : sClosed S p = true ∨ sClosed S q = true ∨ nI p = 0 ∨ mWsN S c p (-1) b = 0 ∨ 100 * mWsN S c p (nI q) b < S 0 * mWsN S c p (-1) b
    · rw [if_pos w, if_neg]
      · exact Sim_no h (by decide)
      · intro z
        rcases w with w | w | w | w | w
        · exact hm.mp z.1 (Or.inl w)
        · exact hm.mp z.1 (Or.inr (Or.inl w))
        · exact hm.mp z.1 (Or.inr (Or.inr w))
        · exact z.2.1 w
        · rw [Int32.mul_comm] at w
          exact Int32.not_lt.mpr z.2.2 w
    · have w1 : ¬ (sClosed S p = true ∨ sClosed S q = true ∨ nI p = 0) := fun z => by
        rcases z with z | z | z
        · exact w (Or.inl z)
        · exact w (Or.inr (Or.inl z))
        · exact w (Or.inr (Or.inr (Or.inl z)))
      have w2 : ¬ mWsN S c p (-1) b = 0 := fun z => w (Or.inr (Or.inr (Or.inr (Or.inl z))))
      have w3 : ¬ 100 * mWsN S c p (nI q) b < S 0 * mWsN S c p (-1) b := fun z => w (Or.inr (Or.inr (Or.inr (Or.inr z))))
      rw [if_neg w, if_pos ⟨hm.mpr w1, w2, by rw [Int32.mul_comm 100] at w3; exact Int32.not_lt.mp w3⟩]
      have cp : sClosed S p = false := by
        cases hc : sClosed S p with
        | false => rfl
        | true => exact absurd (Or.inl hc) w1
      have cq : sClosed S q = false := by
        cases hc : sClosed S q with
        | false => rfl
        | true => exact absurd (Or.inr (Or.inl hc)) w1
      have r1 := Rx_hand h hp hq e (Nat.le_refl _)
      have r2 := Rx_forget r1 hp b (Nat.le_refl _)
      have n72 : ∀ i, i < 73 → mForgN (mHandN S p (nI q) e) p b i = S i := fun i hi => by rw [mForgN_lo hi, mHandN_lo (by omega)]
      have eM : mMerge1 (mForgN (mHandN S p (nI q) e) p b) p q = mForgN (mHandN (mMerge1 S p q) p (nI q) e) p b := by rw [mMerge1_forg (by omega) (by omega), mMerge1_hand (by omega) (by omega)]
      have oM : sOk (mMerge1 (mForgN (mHandN S p (nI q) e) p b) p q) a b c e := by
        rw [eM]
        exact mMerge_ok h.2.1 hp hq hpq cp cq
      have cp2 : sClosed (mForgN (mHandN S p (nI q) e) p b) p = false := by
        unfold sClosed at cp ⊢
        rw [show sP (mForgN (mHandN S p (nI q) e) p b) p 9 = sP S p 9 from n72 _ (by omega)]
        exact cp
      have cq2 : sClosed (mForgN (mHandN S p (nI q) e) p b) q = false := by
        unfold sClosed at cq ⊢
        rw [show sP (mForgN (mHandN S p (nI q) e) p b) q 9 = sP S q 9 from n72 _ (by omega)]
        exact cq
      obtain ⟨r3, r4⟩ := Rx_close r2 hp hq hpq cp2 cq2 oM
      rw [eM] at r4
      have eC : bMove (bClose (bForget (bHand C (nI p) (nI q)) (nI p)) (nI p) (nI q)) (nI p) (nI q) = bMove (bCloseN (pPut (bForgetN (bHandN C (nI p) (nI q) e) (nI p) b) (nI p) 9 (nI q)) (nI p) (nI q) a) (nI p) (nI q) := by
        unfold bClose bForget bHand
        rw [h.1.1.2.2.2, nI_clamp (by omega), r1.1.1.2.1, nI_clamp (by omega), r2.1.1.1, nI_clamp (by omega)]
      rw [eC]
      exact Sim_yes (r3.trans (n72 _ (by omega))) (h.2.2.2.1 p hp).1 r4
  · exact Sim_no h (by decide)
end SIM6
