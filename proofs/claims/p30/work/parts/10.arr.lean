/-! An array's cells beyond its length say nothing. -/
theorem gx_arrV {cA : ClassId} {N : Nat} {f g : Nat → Int32} (h : ∀ j, j < N → f j = g j) : vp_cell cA (N, .inl f) = vp_cell cA (N, .inl g) := by
  show arrV cA N (fun j => .int (f j)) = arrV cA N (fun j => .int (g j))
  unfold arrV
  have e : (fun j : Fin N => Value.int (f j.val)) = (fun j : Fin N => Value.int (g j.val)) := funext fun j => congrArg Value.int (h j.val j.isLt)
  rw [e]
theorem gx_arr {cc : ByteArray} {nL : Nat} {own : String} {l : Launch} {R : Room} {K : gx_K} {G : gx_J} {k n pc : Nat} {ws : va_W} {lv : List (Nat × Value)} {st : List Value} (B : gx_B cc nL own l R K G) (q : Nat) {a N : Nat} {cA : ClassId} {f : Nat → Int32} (hq : ws[q]? = some (a, .inl (cA, N, .inl f))) (g : Nat → Int32) (h : ∀ j, j < N → f j = g j) (ws' : va_W) (hw : ws.set q (a, .inl (cA, N, .inl g)) = ws') (kk : G k n ws' lv pc st) : G k n ws lv pc st := by
  obtain ⟨p, e, s, m, args, below, meth, c, A, Q, rfl, hx, hb, hml, hown, hts, hK, hA, hX⟩ := B
  intro H locs ls hP hD hS hl
  subst hw
  refine kk H locs ls (fun j x hj => ?_) (hD.set hq) hS hl
  rw [List.getElem?_set] at hj
  by_cases e : q = j
  · subst e
    rw [if_pos rfl] at hj
    split at hj
    · cases hj
      have h1 := hP q _ hq
      show H[a]? = some (vp_cell cA (N, .inl g))
      rw [← gx_arrV h]
      exact h1
    · cases hj
  · rw [if_neg e] at hj
    exact hP j x hj
theorem gx_cpyeq {f g : Nat → Int32} {N : Nat} : ∀ j, j < N → va_cpy f g 0 0 N j = f j := fun j hj => by
  unfold va_cpy
  rw [if_pos ⟨Nat.zero_le _, by omega⟩]
  congr 1
  omega
