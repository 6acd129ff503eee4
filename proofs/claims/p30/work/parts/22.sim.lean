/-! The class's cells by row and column, and how they stand to the reference's. -/
theorem tOk_n {m w r c : Nat} (hr : r < m) (hc : c < w) (hm : m ≤ 24) (hw : w ≤ 12) : tOk m w (nI r) (nI c) = true := by
  unfold tOk
  rw [decide_eq_true (nI_pos (by omega)), decide_eq_true (nI_ge hr (by omega)), decide_eq_true (nI_pos (by omega)), decide_eq_true (nI_lt hc (by omega))]
  rfl
theorem tIx_n {s w r c : Nat} (hr : r < 2 ^ 31) (hc : c < 2 ^ 31) : tIx s w (nI r) (nI c) = s + 1 + r * w + c := by
  unfold tIx
  rw [nI_clamp hr, nI_clamp hc]
def cP (C : Nat → Int32) (p k : Nat) : Int32 := C (4 + 12 * p + k)
def cD (C : Nat → Int32) (d k : Nat) : Int32 := C (77 + 7 * d + k)
def cG (C : Nat → Int32) (g k : Nat) : Int32 := C (134 + 7 * g + k)
def cK (C : Nat → Int32) (k j : Nat) : Int32 := C (303 + 8 * k + j)
theorem pAt_n (C : Nat → Int32) {p k : Nat} (hp : p < 6) (hk : k < 12) : pAt C (nI p) (nI k) = cP C p k := by
  unfold pAt tAt cP
  rw [if_pos (tOk_n hp hk (by decide) (by decide)), tIx_n (by omega) (by omega)]
  congr 1
  omega
theorem dAt_n (C : Nat → Int32) {p k : Nat} (hp : p < 8) (hk : k < 7) : dAt C (nI p) (nI k) = cD C p k := by
  unfold dAt tAt cD
  rw [if_pos (tOk_n hp hk (by decide) (by decide)), tIx_n (by omega) (by omega)]
  congr 1
  omega
theorem gAt_n (C : Nat → Int32) {p k : Nat} (hp : p < 24) (hk : k < 7) : gAt C (nI p) (nI k) = cG C p k := by
  unfold gAt tAt cG
  rw [if_pos (tOk_n hp hk (by decide) (by decide)), tIx_n (by omega) (by omega)]
  congr 1
  omega
theorem kAt_n (C : Nat → Int32) {p k : Nat} (hp : p < 6) (hk : k < 8) : kAt C (nI p) (nI k) = cK C p k := by
  unfold kAt tAt cK
  rw [if_pos (tOk_n hp hk (by decide) (by decide)), tIx_n (by omega) (by omega)]
  congr 1
  omega
theorem pPut_n (C : Nat → Int32) {p k : Nat} (v : Int32) (hp : p < 6) (hk : k < 12) : pPut C (nI p) (nI k) v = upd C (4 + 12 * p + k) v := by
  unfold pPut tPut
  rw [if_pos (tOk_n hp hk (by decide) (by decide)), tIx_n (by omega) (by omega)]
  congr 1
  omega
theorem dPut_n (C : Nat → Int32) {p k : Nat} (v : Int32) (hp : p < 8) (hk : k < 7) : dPut C (nI p) (nI k) v = upd C (77 + 7 * p + k) v := by
  unfold dPut tPut
  rw [if_pos (tOk_n hp hk (by decide) (by decide)), tIx_n (by omega) (by omega)]
  congr 1
  omega
theorem gPut_n (C : Nat → Int32) {p k : Nat} (v : Int32) (hp : p < 24) (hk : k < 7) : gPut C (nI p) (nI k) v = upd C (134 + 7 * p + k) v := by
  unfold gPut tPut
  rw [if_pos (tOk_n hp hk (by decide) (by decide)), tIx_n (by omega) (by omega)]
  congr 1
  omega
theorem kPut_n (C : Nat → Int32) {p k : Nat} (v : Int32) (hp : p < 6) (hk : k < 8) : kPut C (nI p) (nI k) v = upd C (303 + 8 * p + k) v := by
  unfold kPut tPut
  rw [if_pos (tOk_n hp hk (by decide) (by decide)), tIx_n (by omega) (by omega)]
  congr 1
  omega
theorem pAdd_n (C : Nat → Int32) {p k : Nat} (v : Int32) (hp : p < 6) (hk : k < 12) : pAdd C (nI p) (nI k) v = upd C (4 + 12 * p + k) (cP C p k + v) := by
  unfold pAdd tAdd cP
  rw [if_pos (tOk_n hp hk (by decide) (by decide)), tIx_n (by omega) (by omega)]
  rw [show 3 + 1 + p * 12 + k = 4 + 12 * p + k by omega]
theorem kAdd_n (C : Nat → Int32) {p k : Nat} (v : Int32) (hp : p < 6) (hk : k < 8) : kAdd C (nI p) (nI k) v = upd C (303 + 8 * p + k) (cK C p k + v) := by
  unfold kAdd tAdd cK
  rw [if_pos (tOk_n hp hk (by decide) (by decide)), tIx_n (by omega) (by omega)]
  rw [show 302 + 1 + p * 8 + k = 303 + 8 * p + k by omega]
/-- what the reference holds as NOT_FOUND the class holds as -1 -/
def cv (x : Int32) : Int32 := if x = -4 then -1 else x
/-- the class's cells stand for the reference's: counts, settings, rows that there are; rows that there aren't are 0 -/
def Rl (C S : Nat → Int32) (a b c e : Nat) : Prop :=
  (C 3 = nI a ∧ C 76 = nI b ∧ C 133 = nI c ∧ C 302 = nI e) ∧ (C 0 = S 6 ∧ C 1 = S 0 ∧ C 2 = S 1) ∧
  (∀ p, p < a → (∀ k, k < 9 → cP C p k = sP S p k) ∧ cP C p 9 = cv (sP S p 9) ∧ cP C p 10 = nI (sHome S p) ∧ cP C p 11 = sP S p 10) ∧
  (∀ d, d < b → cD C d 0 = sD S d 0 ∧ (∀ j, j < 6 → cD C d (1 + j) = cv (sD S d (1 + j))) ∧ ∀ j, j < 6 → a ≤ j → sD S d (1 + j) = -4) ∧
  (∀ g, g < c → (∀ j, j < 6 → cG C g j = sG S g j) ∧ cG C g 6 = cv (sG S g 6)) ∧
  (∀ k, k < e → ∀ j, j < 8 → cK C k j = sK S k j) ∧
  (∀ p, p < 6 → a ≤ p → ∀ k, k < 12 → cP C p k = 0) ∧ (∀ d, d < 8 → b ≤ d → ∀ k, k < 7 → cD C d k = 0) ∧ (∀ g, g < 24 → c ≤ g → ∀ k, k < 7 → cG C g k = 0) ∧ (∀ q, q < 6 → e ≤ q → ∀ k, k < 8 → cK C q k = 0)
def sNew : Nat → Int32 := uP (upd (upd (upd (fun _ => 0) 0 60) 1 5000) 2 1) 0 9 (-4)
set_option maxRecDepth 100000 in
theorem Rl_new : Rl cNew sNew 1 0 0 0 := by
  refine ⟨by decide +kernel, by decide +kernel, ?_, fun d h => absurd h (Nat.not_lt_zero d), fun d h => absurd h (Nat.not_lt_zero d), fun d h => absurd h (Nat.not_lt_zero d), by decide +kernel, by decide +kernel, by decide +kernel, by decide +kernel⟩
  intro p hp
  obtain rfl : p = 0 := by omega
  exact ⟨by decide +kernel, by decide +kernel, by decide +kernel, by decide +kernel⟩
