/-! The calls, class and reference beside each other: questions, and what is kept. -/
section SIM1
variable {C S : Nat → Int32} {a b c e : Nat} {T : Int}
theorem Rx_b (h : Rx C S a b c e T) : 1 ≤ a ∧ a ≤ 6 ∧ b ≤ 8 ∧ c ≤ 24 ∧ e ≤ 6 := by have := h.2.1.1; omega
theorem Rx_hasP (h : Rx C S a b c e T) {x : Int32} : tHas C 3 x = sIsP S x := by unfold tHas sIsP; rw [h.1.1.1, h.2.1.1.1]
theorem Rx_hasD (h : Rx C S a b c e T) {x : Int32} : tHas C 76 x = sIsD S x := by unfold tHas sIsD; rw [h.1.1.2.1, h.2.1.1.2.1]
theorem Rx_hasK (h : Rx C S a b c e T) {x : Int32} : tHas C 302 x = sIsK S x := by unfold tHas sIsK; rw [h.1.1.2.2.2, h.2.1.1.2.2.2.1]
theorem Rx_hasG (h : Rx C S a b c e T) {x : Int32} : tHas C 133 x = (decide (¬ x < 0) && decide (x < S 4)) := by unfold tHas; rw [h.1.1.2.2.1, h.2.1.1.2.2.1]
theorem isP_n (h : Rx C S a b c e T) {p : Nat} (hp : p < a) : sIsP S (nI p) = true := by
  have hb := Rx_b h
  unfold sIsP
  rw [h.2.1.1.1, decide_eq_true (nI_pos (by omega)), decide_eq_true (nI_lt hp (by omega))]
  rfl
theorem cv_m4 : cv (-4) = -1 := rfl
theorem nI_m4 {q : Nat} (h : q < 2 ^ 31) : nI q ≠ -4 := ti_ne (by rw [nI_toInt h, ti_m4]; omega)
theorem ti_m1 : (-1 : Int32).toInt = -1 := by decide +kernel
theorem nI_m1 {q : Nat} (h : q < 2 ^ 31) : nI q ≠ -1 := ti_ne (by rw [nI_toInt h, ti_m1]; omega)
theorem cv_n {q : Nat} (h : q < 2 ^ 31) : cv (nI q) = nI q := if_neg (nI_m4 h)
theorem pC9 (h : Rx C S a b c e T) {p : Nat} (hp : p < a) : pAt C (nI p) 9 = cv (sP S p 9) := by
  have hb := Rx_b h
  exact (pAt_n C (k := 9) (by omega) (by omega)).trans (h.1.2.2.1 p hp).2.1
theorem Rx_cls (h : Rx C S a b c e T) {p : Nat} (hp : p < a) : bClosed C (nI p) = sClosed S p := by
  have hb := Rx_b h
  unfold bClosed sClosed
  rw [pC9 h hp]
  rcases (h.2.2.2.1 p hp).2 with q | ⟨q, h1, h2⟩
  · rw [q]; decide
  · rw [h2, cv_n (by omega), decide_eq_true (nI_m1 (by omega)), decide_eq_true (nI_pos' (by omega))]
theorem pC (h : Rx C S a b c e T) {p k : Nat} (hp : p < a) (hk : k < 9) : pAt C (nI p) (nI k) = sP S p k := by
  have hb := Rx_b h
  rw [pAt_n C (by omega) (by omega)]
  exact (h.1.2.2.1 p hp).1 k hk
theorem pC10 (h : Rx C S a b c e T) {p : Nat} (hp : p < a) : pAt C (nI p) 10 = nI (sHome S p) := by
  have hb := Rx_b h
  exact (pAt_n C (k := 10) (by omega) (by omega)).trans (h.1.2.2.1 p hp).2.2.1
theorem dC0 (h : Rx C S a b c e T) {d : Nat} (hd : d < b) : dAt C (nI d) 0 = sD S d 0 := by
  have hb := Rx_b h
  exact (dAt_n C (k := 0) (by omega) (by omega)).trans (h.1.2.2.2.1 d hd).1
theorem dCj (h : Rx C S a b c e T) {d j : Nat} (hd : d < b) (hj : j < 6) : dAt C (nI d) (1 + nI j) = cv (sD S d (1 + j)) := by
  have hb := Rx_b h
  rw [show (1 : Int32) = nI 1 from rfl, nI_add, dAt_n C (k := 1 + j) (by omega) (by omega)]
  exact (h.1.2.2.2.1 d hd).2.1 j hj
theorem gC (h : Rx C S a b c e T) {g k : Nat} (hg : g < c) (hk : k < 6) : gAt C (nI g) (nI k) = sG S g k := by
  have hb := Rx_b h
  rw [gAt_n C (by omega) (by omega)]
  exact (h.1.2.2.2.2.1 g hg).1 k hk
theorem gC6 (h : Rx C S a b c e T) {g : Nat} (hg : g < c) : gAt C (nI g) 6 = cv (sG S g 6) := by
  have hb := Rx_b h
  exact (gAt_n C (k := 6) (by omega) (by omega)).trans (h.1.2.2.2.2.1 g hg).2
theorem kC (h : Rx C S a b c e T) {k j : Nat} (hk : k < e) (hj : j < 8) : kAt C (nI k) (nI j) = sK S k j := by
  have hb := Rx_b h
  rw [kAt_n C (by omega) (by omega)]
  exact h.1.2.2.2.2.2.1 k hk j hj
/-- an answer, a change or none, the rows behind -/
def Sim (r : gx_R) (q : gx_M3) (T : Int) : Prop := r.1 = q.1 ∧ q.2.1 = decide (¬ q.1 < 0) ∧ ∃ a b c e, Rx r.2 q.2.2 a b c e T
theorem Sim_no (h : Rx C S a b c e T) {x : Int32} (hx : x < 0) : Sim (x, C) (x, false, S) T := ⟨rfl, by simp [hx], a, b, c, e, h⟩
theorem Sim_yes {C' S' : Nat → Int32} {x y : Int32} {a b c e : Nat} (hxy : x = y) (hy : 0 ≤ y.toInt) (h : Rx C' S' a b c e T) : Sim (x, C') (y, true, S') T := by
  have q : ¬ y < 0 := fun q2 => by rw [ti_neg_iff] at q2; omega
  exact ⟨hxy, (decide_eq_true q).symm, a, b, c, e, h⟩
theorem tFull_n (h : Rx C S a b c e T) : tFull C 133 24 = decide (nI c = 24) := by
  have hb := Rx_b h
  unfold tFull
  rw [h.1.1.2.2.1]
  have q : nI 24 ≤ nI c ↔ nI c = 24 := by
    rw [nI_leI (by omega) (by omega), show (24 : Int32) = nI 24 from rfl, nI_eq (by omega) (by omega)]
    omega
  exact decide_eq_decide.mpr q
theorem tNew_n {s m n : Nat} (hs : C s = nI n) (hn : n < m) (hm : m ≤ 24) : tNew C s m = nI n ∧ tNewC C s m = upd C s (nI (n + 1)) := by
  unfold tNew tNewC
  have q : ¬ nI m ≤ nI n := nI_ge hn (by omega)
  rw [hs, if_neg q, if_neg q]
  exact ⟨rfl, by rw [nI_1]⟩
-- what stays of the bounds
theorem okP_c {S' : Nat → Int32} {p : Nat} (h : okP S a p) (h0 : sP S' p 0 = sP S p 0) (h9 : sP S' p 9 = sP S p 9) : okP S' a p := by
  unfold okP; rw [h0, h9]; exact h
theorem okD_c {S' : Nat → Int32} {d : Nat} (h : okD S a d) (hh : ∀ j, j < 7 → sD S' d j = sD S d j) : okD S' a d := by
  unfold okD
  rw [hh 0 (by omega)]
  exact ⟨h.1, fun j hj => by rw [hh (1 + j) (by omega)]; exact h.2 j hj⟩
theorem okG_c {S' : Nat → Int32} {g : Nat} (h : okG S g) (hh : ∀ j, j < 7 → sG S' g j = sG S g j) : okG S' g := by
  unfold okG
  rw [hh 2 (by omega), hh 4 (by omega), hh 5 (by omega), hh 6 (by omega)]
  exact h
theorem okK_c {S' : Nat → Int32} {k : Nat} (h : okK S k) (hh : ∀ j, j < 8 → sK S' k j = sK S k j) : okK S' k := by
  unfold okK
  rw [hh 2 (by omega), hh 3 (by omega), hh 4 (by omega), hh 5 (by omega), hh 7 (by omega)]
  exact h
theorem gW_c {S' : Nat → Int32} {g : Nat} (hh : sG S' g 4 = sG S g 4) : gW S' g = gW S g := by unfold gW; rw [hh]
theorem sB_P {S' : Nat → Int32} (h : sB S a b c e T) (hb : a ≤ 6 ∧ b ≤ 8 ∧ c ≤ 24) (hh : ∀ i, i < 7 ∨ 72 < i → S' i = S i) (hp : ∀ p, p < a → okP S' a p) (hs : smI (fI S') a ≤ smI (gW S) c) : sB S' a b c e T := by
  obtain ⟨h1, h2, h3, h4, h5, h6⟩ := h
  refine ⟨?_, hp, fun d hd => okD_c (h3 d hd) (fun j hj => hh _ (by omega)), fun g hg => okG_c (h4 g hg) (fun j hj => hh _ (by omega)), fun k hk => okK_c (h5 k hk) (fun j hj => hh _ (by omega)), ?_⟩
  · rw [hh 0 (by omega), hh 1 (by omega), hh 6 (by omega)]; exact h1
  · rw [smI_congr (f := gW S) (g := gW S') (fun g hg => gW_c (hh _ (by omega)))]
    exact hs
theorem sB_K {S' : Nat → Int32} (h : sB S a b c e T) (hb : a ≤ 6 ∧ b ≤ 8 ∧ c ≤ 24) (hh : ∀ i, i < 297 → i ≠ 5 → S' i = S i) {e' : Nat} (hk : ∀ k, k < e' → okK S' k) : sB S' a b c e' T := by
  obtain ⟨h1, h2, h3, h4, h5, h6⟩ := h
  refine ⟨?_, fun p hp => okP_c (h2 p hp) (hh _ (by omega) (by omega)) (hh _ (by omega) (by omega)), fun d hd => okD_c (h3 d hd) (fun j hj => hh _ (by omega) (by omega)), fun g hg => okG_c (h4 g hg) (fun j hj => hh _ (by omega) (by omega)), hk, ?_⟩
  · rw [hh 0 (by omega) (by omega), hh 1 (by omega) (by omega), hh 6 (by omega) (by omega)]; exact h1
  · rw [smI_congr (f := gW S) (g := gW S') (fun g hg => gW_c (hh _ (by omega) (by omega))), smI_congr (f := fI S) (g := fI S') (fun p hp => congrArg Int32.toInt (hh _ (by omega) (by omega)))]
    exact h6
theorem sB_D {S' : Nat → Int32} (h : sB S a b c e T) (hb : a ≤ 6 ∧ b ≤ 8 ∧ c ≤ 24) (hh : ∀ i, i < 73 ∨ 128 < i → i ≠ 3 → S' i = S i) {b' : Nat} (hd : ∀ d, d < b' → okD S' a d) : sB S' a b' c e T := by
  obtain ⟨h1, h2, h3, h4, h5, h6⟩ := h
  refine ⟨?_, fun p hp => okP_c (h2 p hp) (hh _ (by omega) (by omega)) (hh _ (by omega) (by omega)), hd, fun g hg => okG_c (h4 g hg) (fun j hj => hh _ (by omega) (by omega)), fun k hk => okK_c (h5 k hk) (fun j hj => hh _ (by omega) (by omega)), ?_⟩
  · rw [hh 0 (by omega) (by omega), hh 1 (by omega) (by omega), hh 6 (by omega) (by omega)]; exact h1
  · rw [smI_congr (f := gW S) (g := gW S') (fun g hg => gW_c (hh _ (by omega) (by omega))), smI_congr (f := fI S) (g := fI S') (fun p hp => congrArg Int32.toInt (hh _ (by omega) (by omega)))]
    exact h6
theorem sB_G {S' : Nat → Int32} (h : sB S a b c e T) (hb : a ≤ 6 ∧ b ≤ 8 ∧ c ≤ 24) (hh : ∀ i, i < 129 ∨ 296 < i → i ≠ 4 → S' i = S i) {c' : Nat} (hg : ∀ g, g < c' → okG S' g) (hs : smI (gW S) c ≤ smI (gW S') c') : sB S' a b c' e T := by
  obtain ⟨h1, h2, h3, h4, h5, h6⟩ := h
  refine ⟨?_, fun p hp => okP_c (h2 p hp) (hh _ (by omega) (by omega)) (hh _ (by omega) (by omega)), fun d hd => okD_c (h3 d hd) (fun j hj => hh _ (by omega) (by omega)), hg, fun k hk => okK_c (h5 k hk) (fun j hj => hh _ (by omega) (by omega)), ?_⟩
  · rw [hh 0 (by omega) (by omega), hh 1 (by omega) (by omega), hh 6 (by omega) (by omega)]; exact h1
  · rw [smI_congr (f := fI S) (g := fI S') (fun p hp => congrArg Int32.toInt (hh _ (by omega) (by omega)))]
    omega
-- funds
def FB (S : Nat → Int32) (a : Nat) (M : Int) : Prop := (∀ p, p < a → okP S a p) ∧ smI (fI S) a ≤ M
theorem aP_eq {p k : Nat} {v : Int32} : sP (aP S p k v) p k = sP S p k + v := upd_eq
theorem aP_ne {p k q j : Nat} {v : Int32} (hk : k < 11) (hj : j < 11) (h : p ≠ q ∨ k ≠ j) : sP (aP S p k v) q j = sP S q j := upd_ne (by omega)
theorem FB_fund {M : Int} (h : FB S a M) {p : Nat} (hp : p < a) : 0 ≤ (sP S p 0).toInt ∧ (sP S p 0).toInt ≤ M := by
  refine ⟨(h.1 p hp).1, ?_⟩
  have h2 := smI_one (f := fI S) (p := p) (n := a) (fun i hi => (h.1 i hi).1) hp
  have h3 := h.2
  unfold fI at h2 h3
  omega
theorem FB_add {M : Int} (h : FB S a M) {p : Nat} {v : Int32} (hp : p < a) (h0 : 0 ≤ (sP S p 0).toInt + v.toInt) (hv : v.toInt ≤ 1000000) (hM : M ≤ 1000000) : FB (aP S p 0 v) a (M + v.toInt) := by
  have hf := FB_fund h hp
  have e1 : (sP (aP S p 0 v) p 0).toInt = (sP S p 0).toInt + v.toInt := by
    rw [aP_eq]
    exact ti_add (by omega) (by omega)
  refine ⟨fun q hq => ?_, ?_⟩
  · by_cases z : q = p
    · subst z
      refine ⟨by rw [e1]; exact h0, ?_⟩
      rw [aP_ne (by omega) (by omega) (Or.inr (by omega))]
      exact (h.1 q hq).2
    · exact okP_c (h.1 q hq) (aP_ne (by omega) (by omega) (Or.inl (fun w => z w.symm))) (aP_ne (by omega) (by omega) (Or.inr (by omega)))
  · have h3 := h.2
    rw [smI_upd (f := fI S) (g := fI (aP S p 0 v)) (p := p) (fun i hi hip => congrArg Int32.toInt (aP_ne (by omega) (by omega) (Or.inl (fun w => hip w.symm)))) hp]
    unfold fI at h3 ⊢
    omega
theorem FB_oth {M : Int} (h : FB S a M) {p k : Nat} {v : Int32} (hk : k < 11) (h0 : k ≠ 0) (h9 : k ≠ 9) : FB (aP S p k v) a M := by
  refine ⟨fun q hq => okP_c (h.1 q hq) (aP_ne hk (by omega) (Or.inr h0)) (aP_ne hk (by omega) (Or.inr h9)), ?_⟩
  rw [smI_congr (f := fI S) (g := fI (aP S p k v)) (fun i hi => congrArg Int32.toInt (aP_ne hk (by omega) (Or.inr h0)))]
  exact h.2
theorem gW_le {g : Nat} : gW S g ≤ 12498 := by unfold gW; split <;> omega
theorem FB_of (h : sB S a b c e T) (hc : c ≤ 24) : FB S a (smI (gW S) c) ∧ smI (gW S) c ≤ 299952 := by
  have := smI_le (f := gW S) (M := 12498) (n := c) (fun g hg => gW_le)
  exact ⟨⟨h.2.1, h.2.2.2.2.2⟩, by omega⟩
theorem Rl_addP (h : Rl C S a b c e) (hO : sOk S a b c e) {p k : Nat} {v : Int32} (hp : p < a) (hk : k < 9) : Rl (pAdd C (nI p) (nI k) v) (aP S p k v) a b c e := by
  have hb := hO.1
  rw [pAdd_n C v (by omega) (by omega), show cP C p k = S (7 + 11 * p + k) from (h.2.2.1 p hp).1 k hk]
  exact Rl_uP h hO hp hk
theorem Rl_addP11 (h : Rl C S a b c e) (hO : sOk S a b c e) {p : Nat} {v : Int32} (hp : p < a) : Rl (pAdd C (nI p) 11 v) (aP S p 10 v) a b c e := by
  have hb := hO.1
  have e1 : pAdd C (nI p) 11 v = upd C (4 + 12 * p + 11) (cP C p 11 + v) := pAdd_n C (k := 11) v (by omega) (by omega)
  rw [e1, show cP C p 11 = S (7 + 11 * p + 10) from (h.2.2.1 p hp).2.2.2]
  exact Rl_uP11 h hO hp
end SIM1
