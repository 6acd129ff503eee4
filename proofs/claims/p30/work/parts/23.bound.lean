/-! Bounds of the reference's row; a cell written on both sides. -/
theorem ti_add {x y : Int32} (h1 : -2147483648 ≤ x.toInt + y.toInt) (h2 : x.toInt + y.toInt < 2147483648) : (x + y).toInt = x.toInt + y.toInt := by
  rw [Int32.toInt_add]
  exact Int.bmod_eq_of_le (by omega) (by omega)
theorem ti_sub {x y : Int32} (h1 : -2147483648 ≤ x.toInt - y.toInt) (h2 : x.toInt - y.toInt < 2147483648) : (x - y).toInt = x.toInt - y.toInt := by
  rw [Int32.toInt_sub]
  exact Int.bmod_eq_of_le (by omega) (by omega)
theorem ti_neg {x : Int32} (h1 : -2147483648 < x.toInt) (h2 : x.toInt < 2147483648) : (-x).toInt = -x.toInt := by
  rw [Int32.toInt_neg]
  exact Int.bmod_eq_of_le (by omega) (by omega)
theorem ti_lt (x : Int32) : -2147483648 ≤ x.toInt ∧ x.toInt < 2147483648 := ⟨Int32.le_toInt x, Int32.toInt_lt x⟩
theorem ti_div4 {x : Int32} (h : 0 ≤ x.toInt) : (x / 4).toInt = x.toInt / 4 := by
  have h2 := ti_lt x
  have e4 : (4 : Int32).toInt = 4 := rfl
  rw [Int32.toInt_div, e4, Int.tdiv_eq_ediv_of_nonneg h]
  exact Int.bmod_eq_of_le (by omega) (by omega)
theorem ti_0 : (0 : Int32).toInt = 0 := rfl
theorem ti_1 : (1 : Int32).toInt = 1 := rfl
theorem ti_m4 : (-4 : Int32).toInt = -4 := by decide +kernel
theorem bIn_ti {v lo hi : Int32} : bIn v lo hi = true ↔ lo.toInt ≤ v.toInt ∧ v.toInt ≤ hi.toInt := by
  simp only [bIn, Bool.and_eq_true, decide_eq_true_eq, Int32.lt_iff_toInt_lt]
  omega
theorem ti_neg_iff {x : Int32} : x < 0 ↔ x.toInt < 0 := by rw [Int32.lt_iff_toInt_lt, ti_0]
theorem ti_eq {x y : Int32} (h : x.toInt = y.toInt) : x = y := Int32.toInt_inj.mp h
theorem ti_ne {x y : Int32} (h : x.toInt ≠ y.toInt) : x ≠ y := fun q => h (congrArg Int32.toInt q)
def smI (f : Nat → Int) : Nat → Int
  | 0 => 0
  | n + 1 => smI f n + f n
theorem smI_congr {f g : Nat → Int} : ∀ {n : Nat}, (∀ i, i < n → g i = f i) → smI g n = smI f n := by
  intro n
  induction n with
  | zero => exact fun _ => rfl
  | succ n ih =>
    intro h
    show smI g n + g n = smI f n + f n
    rw [ih (fun i hi => h i (by omega)), h n (by omega)]
theorem smI_upd {f g : Nat → Int} {p : Nat} : ∀ {n : Nat}, (∀ i, i < n → i ≠ p → g i = f i) → p < n → smI g n = smI f n + g p - f p := by
  intro n
  induction n with
  | zero => intro _ h; omega
  | succ n ih =>
    intro h hp
    show smI g n + g n = smI f n + f n + g p - f p
    by_cases hn : p = n
    · subst hn
      rw [smI_congr (f := f) (g := g) (fun i hi => h i (by omega) (by omega))]
      omega
    · rw [ih (fun i hi => h i (by omega)) (by omega), h n (by omega) (by omega)]
      omega
theorem smI_nn {f : Nat → Int} : ∀ {n : Nat}, (∀ i, i < n → 0 ≤ f i) → 0 ≤ smI f n := by
  intro n
  induction n with
  | zero => exact fun _ => Int.le_refl _
  | succ n ih =>
    intro h
    have h1 := ih (fun i hi => h i (by omega))
    have h2 := h n (by omega)
    show 0 ≤ smI f n + f n
    omega
theorem smI_one {f : Nat → Int} {p : Nat} : ∀ {n : Nat}, (∀ i, i < n → 0 ≤ f i) → p < n → f p ≤ smI f n := by
  intro n
  induction n with
  | zero => intro _ h; omega
  | succ n ih =>
    intro h hp
    have h2 := h n (by omega)
    show f p ≤ smI f n + f n
    by_cases hn : p = n
    · subst hn
      have h1 := smI_nn (f := f) (n := p) (fun i hi => h i (by omega))
      omega
    · have := ih (fun i hi => h i (by omega)) (by omega)
      omega
theorem smI_two {f : Nat → Int} {p q : Nat} (hpq : p ≠ q) : ∀ {n : Nat}, (∀ i, i < n → 0 ≤ f i) → p < n → q < n → f p + f q ≤ smI f n := by
  intro n
  induction n with
  | zero => intro _ h; omega
  | succ n ih =>
    intro h hp hq
    have h2 := h n (by omega)
    have h0 : ∀ i, i < n → 0 ≤ f i := fun i hi => h i (by omega)
    show f p + f q ≤ smI f n + f n
    by_cases hn : p = n
    · subst hn
      have := smI_one (f := f) h0 (p := q) (by omega)
      omega
    · by_cases hm : q = n
      · subst hm
        have := smI_one (f := f) h0 (p := p) (by omega)
        omega
      · have := ih h0 (by omega) (by omega)
        omega
theorem smI_le {f : Nat → Int} {M : Int} : ∀ {n : Nat}, (∀ i, i < n → f i ≤ M) → smI f n ≤ M * n := by
  intro n
  induction n with
  | zero => intro _; show (0 : Int) ≤ M * 0; omega
  | succ n ih =>
    intro h
    have h1 := ih (fun i hi => h i (by omega))
    have h2 := h n (by omega)
    have h3 : M * ((n + 1 : Nat) : Int) = M * (n : Int) + M := by rw [Int.natCast_add, Int.mul_add]; simp
    show smI f n + f n ≤ M * ((n + 1 : Nat) : Int)
    omega
def okP (S : Nat → Int32) (a p : Nat) : Prop := 0 ≤ (sP S p 0).toInt ∧ (sP S p 9 = -4 ∨ ∃ q, q < a ∧ sP S p 9 = nI q)
def okD (S : Nat → Int32) (a d : Nat) : Prop := (sD S d 0 = 0 ∨ sD S d 0 = 1) ∧ ∀ j, j < 6 → sD S d (1 + j) = -4 ∨ ∃ q, q < a ∧ sD S d (1 + j) = nI q
def okG (S : Nat → Int32) (g : Nat) : Prop := (1 ≤ (sG S g 2).toInt ∧ (sG S g 2).toInt ≤ 9999) ∧ (sG S g 4 = 0 ∨ sG S g 4 = 1) ∧ (sG S g 5 = 0 ∨ sG S g 5 = 1) ∧ (sG S g 6 = -4 ∨ ∃ k, k < 6 ∧ sG S g 6 = nI k)
def okK (S : Nat → Int32) (k : Nat) : Prop := (1 ≤ (sK S k 2).toInt ∧ (sK S k 2).toInt ≤ 999) ∧ (0 ≤ (sK S k 3).toInt ∧ (sK S k 3).toInt ≤ 60) ∧ (0 ≤ (sK S k 4).toInt ∧ (sK S k 4).toInt ≤ 3) ∧ (0 ≤ (sK S k 5).toInt ∧ (sK S k 5).toInt ≤ 3) ∧ (sK S k 7 = 0 ∨ sK S k 7 = 1) ∧ (sK S k 5 = 0 → 1 ≤ (sK S k 3).toInt ∧ (sK S k 4).toInt ≤ 2)
def gW (S : Nat → Int32) (g : Nat) : Int := if sG S g 4 = 1 then 12498 else 9999
def fI (S : Nat → Int32) (p : Nat) : Int := (sP S p 0).toInt
def sB (S : Nat → Int32) (a b c e : Nat) (T : Int) : Prop := ((1 ≤ (S 0).toInt ∧ (S 0).toInt ≤ 100) ∧ (0 ≤ (S 1).toInt ∧ (S 1).toInt ≤ 99999) ∧ (0 ≤ (S 6).toInt ∧ (S 6).toInt ≤ T)) ∧ (∀ p, p < a → okP S a p) ∧ (∀ d, d < b → okD S a d) ∧ (∀ g, g < c → okG S g) ∧ (∀ k, k < e → okK S k) ∧ smI (fI S) a ≤ smI (gW S) c
def Rx (C S : Nat → Int32) (a b c e : Nat) (T : Int) : Prop := Rl C S a b c e ∧ sOk S a b c e ∧ sB S a b c e T
theorem sHome_congr {S T : Nat → Int32} {a b c e : Nat} (hO : sOk S a b c e) (h : ∀ q, q < a → sP T q 9 = sP S q 9) : ∀ {p : Nat}, p < a → sHome T p = sHome S p := by
  have hs : ∀ p, p < a → sStep T p = sStep S p := fun p hp => by
    unfold sStep sClosed
    rw [h p hp]
  have hl : ∀ p, p < a → sStep S p < a := fun p hp => by
    unfold sStep
    split
    · next q =>
      obtain ⟨h1, -, -, rk, hr⟩ := id hO
      obtain ⟨q2, z1, z2, -, z4⟩ := sCl_of (by omega) hr hp q
      rw [z2, nI_clamp (by omega)]
      exact z1
    · exact hp
  have hn : ∀ n p, p < a → sHomeN T n p = sHomeN S n p := by
    intro n
    induction n with
    | zero => exact fun _ _ => rfl
    | succ n ih =>
      intro p hp
      show sHomeN T n (sStep T p) = sHomeN S n (sStep S p)
      rw [hs p hp]
      exact ih _ (hl p hp)
  exact fun {p} hp => hn 6 p hp
theorem pairU {C S : Nat → Int32} {i i' j j' : Nat} {v : Int32} (h : j = i ↔ j' = i') (h2 : C j = S j') : upd C i v j = upd S i' v j' := by
  unfold upd
  by_cases q : j = i
  · rw [if_pos q, if_pos (h.mp q)]
  · rw [if_neg q, if_neg (fun z => q (h.mpr z))]
    exact h2
theorem Rl_upd {C S : Nat → Int32} {a b c e i i' : Nat} {v : Int32} (h : Rl C S a b c e) (hO : sOk S a b c e) (h0 : (3 < i ∧ i ≠ 76 ∧ i ≠ 133 ∧ i ≠ 302) ∧ 6 < i')
    (hP : ∀ q, q < a → (∀ k, k < 9 → (4 + 12 * q + k = i ↔ 7 + 11 * q + k = i')) ∧ 4 + 12 * q + 9 ≠ i ∧ 7 + 11 * q + 9 ≠ i' ∧ 4 + 12 * q + 10 ≠ i ∧ (4 + 12 * q + 11 = i ↔ 7 + 11 * q + 10 = i'))
    (hD : ∀ d, d < b → (77 + 7 * d + 0 = i ↔ 73 + 7 * d + 0 = i') ∧ ∀ j, j < 6 → 77 + 7 * d + (1 + j) ≠ i ∧ 73 + 7 * d + (1 + j) ≠ i')
    (hG : ∀ g, g < c → (∀ j, j < 6 → (134 + 7 * g + j = i ↔ 129 + 7 * g + j = i')) ∧ 134 + 7 * g + 6 ≠ i ∧ 129 + 7 * g + 6 ≠ i')
    (hK : ∀ k, k < e → ∀ j, j < 8 → (303 + 8 * k + j = i ↔ 297 + 8 * k + j = i'))
    (hZ : (∀ p, p < 6 → a ≤ p → ∀ k, k < 12 → 4 + 12 * p + k ≠ i) ∧ (∀ d, d < 8 → b ≤ d → ∀ k, k < 7 → 77 + 7 * d + k ≠ i) ∧ (∀ g, g < 24 → c ≤ g → ∀ k, k < 7 → 134 + 7 * g + k ≠ i) ∧ (∀ q, q < 6 → e ≤ q → ∀ k, k < 8 → 303 + 8 * q + k ≠ i)) : Rl (upd C i v) (upd S i' v) a b c e := by
  obtain ⟨⟨n1, n2, n3, n4⟩, ⟨t1, t2, t3⟩, rP, rD, rG, rK, zP, zD, zG, zK⟩ := h
  refine ⟨⟨?_, ?_, ?_, ?_⟩, ⟨?_, ?_, ?_⟩, fun p hp => ⟨fun k hk => ?_, ?_, ?_, ?_⟩, fun d hd => ⟨?_, fun j hj => ?_, fun j hj haj => ?_⟩, fun g hg => ⟨fun j hj => ?_, ?_⟩, fun k hk j hj => ?_, fun p hp ha k hk => ?_, fun p hp ha k hk => ?_, fun p hp ha k hk => ?_, fun p hp ha k hk => ?_⟩
  · rw [upd_ne (by omega)]; exact n1
  · rw [upd_ne (by omega)]; exact n2
  · rw [upd_ne (by omega)]; exact n3
  · rw [upd_ne (by omega)]; exact n4
  · rw [upd_ne (by omega), upd_ne (by omega)]; exact t1
  · rw [upd_ne (by omega), upd_ne (by omega)]; exact t2
  · rw [upd_ne (by omega), upd_ne (by omega)]; exact t3
  · exact pairU ((hP p hp).1 k hk) ((rP p hp).1 k hk)
  · have q1 : cP (upd C i v) p 9 = cP C p 9 := upd_ne (hP p hp).2.1
    have q2 : sP (upd S i' v) p 9 = sP S p 9 := upd_ne (hP p hp).2.2.1
    rw [q1, q2]; exact (rP p hp).2.1
  · have q1 : cP (upd C i v) p 10 = cP C p 10 := upd_ne (hP p hp).2.2.2.1
    have q2 : ∀ q, q < a → sP (upd S i' v) q 9 = sP S q 9 := fun q hq => upd_ne (hP q hq).2.2.1
    rw [q1, sHome_congr hO q2 hp]; exact (rP p hp).2.2.1
  · exact pairU (hP p hp).2.2.2.2 (rP p hp).2.2.2
  · exact pairU (hD d hd).1 (rD d hd).1
  · have q1 : cD (upd C i v) d (1 + j) = cD C d (1 + j) := upd_ne ((hD d hd).2 j hj).1
    have q2 : sD (upd S i' v) d (1 + j) = sD S d (1 + j) := upd_ne ((hD d hd).2 j hj).2
    rw [q1, q2]; exact (rD d hd).2.1 j hj
  · have q2 : sD (upd S i' v) d (1 + j) = sD S d (1 + j) := upd_ne ((hD d hd).2 j hj).2
    rw [q2]; exact (rD d hd).2.2 j hj haj
  · exact pairU ((hG g hg).1 j hj) ((rG g hg).1 j hj)
  · have q1 : cG (upd C i v) g 6 = cG C g 6 := upd_ne (hG g hg).2.1
    have q2 : sG (upd S i' v) g 6 = sG S g 6 := upd_ne (hG g hg).2.2
    rw [q1, q2]; exact (rG g hg).2
  · exact pairU (hK k hk j hj) (rK k hk j hj)
  · have q1 : cP (upd C i v) p k = cP C p k := upd_ne (hZ.1 p hp ha k hk)
    rw [q1]; exact zP p hp ha k hk
  · have q1 : cD (upd C i v) p k = cD C p k := upd_ne (hZ.2.1 p hp ha k hk)
    rw [q1]; exact zD p hp ha k hk
  · have q1 : cG (upd C i v) p k = cG C p k := upd_ne (hZ.2.2.1 p hp ha k hk)
    rw [q1]; exact zG p hp ha k hk
  · have q1 : cK (upd C i v) p k = cK C p k := upd_ne (hZ.2.2.2 p hp ha k hk)
    rw [q1]; exact zK p hp ha k hk
theorem Rl_uP {C S : Nat → Int32} {a b c e p k : Nat} {v : Int32} (h : Rl C S a b c e) (hO : sOk S a b c e) (hp : p < a) (hk : k < 9) : Rl (upd C (4 + 12 * p + k) v) (upd S (7 + 11 * p + k) v) a b c e := by
  have hb := hO.1
  exact Rl_upd h hO ⟨⟨by omega, by omega, by omega, by omega⟩, by omega⟩ (fun q hq => ⟨fun j hj => by omega, by omega, by omega, by omega, by omega⟩) (fun d hd => ⟨by omega, fun j hj => by omega⟩) (fun g hg => ⟨fun j hj => by omega, by omega, by omega⟩) (fun q hq j hj => by omega) ⟨fun q h1 h2 j hj => by omega, fun q h1 h2 j hj => by omega, fun q h1 h2 j hj => by omega, fun q h1 h2 j hj => by omega⟩
theorem Rl_uP11 {C S : Nat → Int32} {a b c e p : Nat} {v : Int32} (h : Rl C S a b c e) (hO : sOk S a b c e) (hp : p < a) : Rl (upd C (4 + 12 * p + 11) v) (upd S (7 + 11 * p + 10) v) a b c e := by
  have hb := hO.1
  exact Rl_upd h hO ⟨⟨by omega, by omega, by omega, by omega⟩, by omega⟩ (fun q hq => ⟨fun j hj => by omega, by omega, by omega, by omega, by omega⟩) (fun d hd => ⟨by omega, fun j hj => by omega⟩) (fun g hg => ⟨fun j hj => by omega, by omega, by omega⟩) (fun q hq j hj => by omega) ⟨fun q h1 h2 j hj => by omega, fun q h1 h2 j hj => by omega, fun q h1 h2 j hj => by omega, fun q h1 h2 j hj => by omega⟩
theorem Rl_uD0 {C S : Nat → Int32} {a b c e d : Nat} {v : Int32} (h : Rl C S a b c e) (hO : sOk S a b c e) (hd : d < b) : Rl (upd C (77 + 7 * d + 0) v) (upd S (73 + 7 * d + 0) v) a b c e := by
  have hb := hO.1
  exact Rl_upd h hO ⟨⟨by omega, by omega, by omega, by omega⟩, by omega⟩ (fun q hq => ⟨fun j hj => by omega, by omega, by omega, by omega, by omega⟩) (fun d hd => ⟨by omega, fun j hj => by omega⟩) (fun g hg => ⟨fun j hj => by omega, by omega, by omega⟩) (fun q hq j hj => by omega) ⟨fun q h1 h2 j hj => by omega, fun q h1 h2 j hj => by omega, fun q h1 h2 j hj => by omega, fun q h1 h2 j hj => by omega⟩
theorem Rl_uG {C S : Nat → Int32} {a b c e g k : Nat} {v : Int32} (h : Rl C S a b c e) (hO : sOk S a b c e) (hg : g < c) (hk : k < 6) : Rl (upd C (134 + 7 * g + k) v) (upd S (129 + 7 * g + k) v) a b c e := by
  have hb := hO.1
  exact Rl_upd h hO ⟨⟨by omega, by omega, by omega, by omega⟩, by omega⟩ (fun q hq => ⟨fun j hj => by omega, by omega, by omega, by omega, by omega⟩) (fun d hd => ⟨by omega, fun j hj => by omega⟩) (fun g hg => ⟨fun j hj => by omega, by omega, by omega⟩) (fun q hq j hj => by omega) ⟨fun q h1 h2 j hj => by omega, fun q h1 h2 j hj => by omega, fun q h1 h2 j hj => by omega, fun q h1 h2 j hj => by omega⟩
theorem Rl_uK {C S : Nat → Int32} {a b c e k j : Nat} {v : Int32} (h : Rl C S a b c e) (hO : sOk S a b c e) (hk : k < e) (hj : j < 8) : Rl (upd C (303 + 8 * k + j) v) (upd S (297 + 8 * k + j) v) a b c e := by
  have hb := hO.1
  exact Rl_upd h hO ⟨⟨by omega, by omega, by omega, by omega⟩, by omega⟩ (fun q hq => ⟨fun j hj => by omega, by omega, by omega, by omega, by omega⟩) (fun d hd => ⟨by omega, fun j hj => by omega⟩) (fun g hg => ⟨fun j hj => by omega, by omega, by omega⟩) (fun q hq j hj => by omega) ⟨fun q h1 h2 j hj => by omega, fun q h1 h2 j hj => by omega, fun q h1 h2 j hj => by omega, fun q h1 h2 j hj => by omega⟩
