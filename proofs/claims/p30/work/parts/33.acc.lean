/-! What else is kept: the account of each purpose; pledges that don't run. -/
section ACC
def due (S : Nat → Int32) (p : Nat) : Int32 := sP S p 1 + sP S p 2 - sP S p 3 + sP S p 4 - sP S p 5 - sP S p 6 + sP S p 7 - sP S p 8 - (if p = 0 then sP S 0 10 else 0)
def AC (S : Nat → Int32) (a : Nat) : Prop := ∀ p, p < a → due S p = sP S p 0 ∧ (p ≠ 0 → sP S p 10 = 0)
def KZ (S : Nat → Int32) (e : Nat) : Prop := ∀ k, k < e → sK S k 5 = 0 ∨ sK S k 7 = 0
variable {S S' : Nat → Int32} {a b c e : Nat}
theorem due_same {p : Nat} (hh : ∀ k, k < 11 → sP S' p k = sP S p k) : due S' p = due S p := by
  unfold due
  rw [hh 1 (by omega), hh 2 (by omega), hh 3 (by omega), hh 4 (by omega), hh 5 (by omega), hh 6 (by omega), hh 7 (by omega), hh 8 (by omega)]
  by_cases z : p = 0
  · subst z
    rw [if_pos rfl, if_pos rfl, hh 10 (by omega)]
  · rw [if_neg z, if_neg z]
theorem AC_same (h : AC S a) (hh : ∀ p, p < a → ∀ k, k < 11 → sP S' p k = sP S p k) : AC S' a := fun p hp => by
  rw [due_same (hh p hp), hh p hp 0 (by omega), hh p hp 10 (by omega)]
  exact h p hp
theorem KZ_same (h : KZ S e) (hh : ∀ k, k < e → ∀ j, j < 8 → sK S' k j = sK S k j) : KZ S' e := fun k hk => by
  rw [hh k hk 5 (by omega), hh k hk 7 (by omega)]
  exact h k hk
/-- a row of purposes beside what it should be: the difference -/
def df (S : Nat → Int32) (p : Nat) : Int32 := due S p - sP S p 0
theorem AC_iff : AC S a ↔ ∀ p, p < a → df S p = 0 ∧ (p ≠ 0 → sP S p 10 = 0) := by
  have q : ∀ p, due S p = sP S p 0 ↔ df S p = 0 := fun p => by
    unfold df
    constructor
    · intro h; rw [h]; exact Int32.sub_self _
    · intro h; rw [← Int32.sub_add_cancel (due S p) (sP S p 0), h, Int32.zero_add]
  constructor
  · intro h p hp; exact ⟨(q p).mp (h p hp).1, (h p hp).2⟩
  · intro h p hp; exact ⟨(q p).mpr (h p hp).1, (h p hp).2⟩
def cf (p k : Nat) (v : Int32) : Int32 := if k = 0 ∨ k = 3 ∨ k = 5 ∨ k = 6 ∨ k = 8 then -v else if k = 10 then (if p = 0 then -v else 0) else v
theorem uP_at {p k q j : Nat} {v : Int32} (hk : k < 11) (hj : j < 11) : sP (uP S p k v) q j = if q = p ∧ j = k then v else sP S q j := by
  by_cases w : q = p ∧ j = k
  · obtain ⟨rfl, rfl⟩ := w
    rw [if_pos ⟨rfl, rfl⟩]
    exact upd_eq
  · rw [if_neg w]
    exact upd_ne (by omega)
theorem df_uP_ne {p k q : Nat} {v : Int32} (hk : k < 11) (h : q ≠ p) : df (uP S p k v) q = df S q := by
  have n : ∀ j, j < 11 → sP (uP S p k v) q j = sP S q j := fun j hj => by rw [uP_at hk hj, if_neg (fun z => h z.1)]
  unfold df
  rw [due_same n, n 0 (by omega)]
theorem df_aP {p k q : Nat} {v : Int32} (hk : k < 11) (h9 : k ≠ 9) : df (aP S p k v) q = if q = p then df S q + cf p k v else df S q := by
  by_cases h : q = p
  · subst h
    rw [if_pos rfl]
    have n : ∀ j, j < 11 → sP (aP S q k v) q j = if j = k then sP S q k + v else sP S q j := fun j hj => by
      rw [show aP S q k v = uP S q k (sP S q k + v) from rfl, uP_at hk hj]
      simp
    have n10 : (if q = 0 then sP (aP S q k v) 0 10 else 0) = if q = 0 then (if 10 = k then sP S 0 k + v else sP S 0 10) else 0 := by
      by_cases z : q = 0
      · subst z; rw [if_pos rfl, if_pos rfl, n 10 (by omega)]
      · rw [if_neg z, if_neg z]
    unfold df due
    rw [n10, n 0 (by omega), n 1 (by omega), n 2 (by omega), n 3 (by omega), n 4 (by omega), n 5 (by omega), n 6 (by omega), n 7 (by omega), n 8 (by omega)]
    unfold cf
    rcases (show k = 0 ∨ k = 1 ∨ k = 2 ∨ k = 3 ∨ k = 4 ∨ k = 5 ∨ k = 6 ∨ k = 7 ∨ k = 8 ∨ k = 10 by omega) with z | z | z | z | z | z | z | z | z | z
    all_goals subst z
    all_goals simp only [reduceIte, show ¬ (10 : Nat) = 0 by omega, Nat.reduceEqDiff, or_self, or_true, true_or, or_false, false_or]
    all_goals clear n n10
    all_goals by_cases hq : q = 0
    all_goals simp only [hq, reduceIte]
    all_goals grind
  · rw [if_neg h, show aP S p k v = uP S p k (sP S p k + v) from rfl, df_uP_ne hk h]
theorem aP_10 {p k q : Nat} {v : Int32} (hk : k < 11) (h : k ≠ 10 ∨ q ≠ p) : sP (aP S p k v) q 10 = sP S q 10 := by
  rw [show aP S p k v = uP S p k (sP S p k + v) from rfl, uP_at hk (by omega), if_neg (by omega)]
end ACC
