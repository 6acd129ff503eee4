/-! The row of multianewarray for the history. -/
theorem gx_rwF (q : Nat) : (fun i => if i < 5 then some (q + 1 + i) else none) = rwF (q + 1) (q + 2) (q + 3) (q + 4) (q + 5) := by
  funext i
  match i with
  | 0 => rfl
  | 1 => rfl
  | 2 => rfl
  | 3 => rfl
  | 4 => rfl
  | i + 5 =>
    rw [if_neg (by omega)]
    rfl
theorem gx_inner (c : ClassId) (N : Nat) : Jvm.Free.Multi.innerC c N (defaultValue .int) = vp_cell c (N, .inl (fun _ => 0)) := by
  show ({ cls := c, slots := Array.replicate N (.int 0), vm := .none } : Cell) = arrV c N (fun _ => .int 0)
  rw [arrV_new]
theorem gx_out (c : ClassId) (N h : Nat) : ∀ i : Nat, Jvm.Free.Multi.outerC c N h i = arrV c N (fun j => va_rf (if j < i then some (h + 1 + j) else none)) := by
  intro i
  induction i with
  | zero =>
    show ({ cls := c, slots := Array.replicate N .null, vm := .none } : Cell) = _
    rw [arrV_new]
    exact congrArg (arrV c N) (funext fun j => by rw [if_neg (Nat.not_lt_zero j)]; rfl)
  | succ i ih =>
    show (Jvm.Free.Multi.outerC c N h i).setSlot i (.ref (h + 1 + i)) = _
    rw [ih, arrV_store]
    refine congrArg (arrV c N) (funext fun j => ?_)
    unfold updV
    by_cases e : j = i
    · subst e
      rw [if_pos rfl, if_pos (Nat.lt_succ_self j)]
      rfl
    · rw [if_neg e]
      show va_rf (if j < i then some (h + 1 + j) else none) = _
      by_cases q : j < i
      · rw [if_pos q, if_pos (by omega)]
      · rw [if_neg q, if_neg (by omega)]
theorem gx_outer (c : ClassId) (h : Nat) : Jvm.Free.Multi.outerC c 5 h 5 = vp_cell c (5, .inr (.inr (.inr (.inr (rwF (h + 1) (h + 2) (h + 3) (h + 4) (h + 5)))))) := by
  rw [vp_cell_q, gx_out, ← gx_rwF h]
theorem gx_mna {cc : ByteArray} {nL : Nat} {own : String} {l : Launch} {R : Room} {K : gx_K} {G : gx_J} {k n pc : Nat} {ws : va_W} {lv : List (Nat × Value)} {st : List Value} (B : gx_B cc nL own l R K G) {index : Nat} (hd : decode cc pc = .ok (.multianewarray index 2, 4)) (hcl : Cond.classLink own index "[[I" ∈ gx_TB) (harr : Cond.arrayClass .int ∈ gx_TB) (hk : k + 6 ≤ R.cells) (hs : n + 1760 ≤ R.slots) (kk : ∀ q : Nat, G (k + 6) (n + 1760) (ws ++ [(q, .inl (K.2.1.2.2.2, 5, .inr (.inr (.inr (.inr (rwF (q + 1) (q + 2) (q + 3) (q + 4) (q + 5))))))), (q + 1, .inl (K.2.1.2.1, 351, .inl (fun _ => 0))), (q + 2, .inl (K.2.1.2.1, 351, .inl (fun _ => 0))), (q + 3, .inl (K.2.1.2.1, 351, .inl (fun _ => 0))), (q + 4, .inl (K.2.1.2.1, 351, .inl (fun _ => 0))), (q + 5, .inl (K.2.1.2.1, 351, .inl (fun _ => 0)))]) lv (pc + 4) (.ref q :: st)) : G k n ws lv pc (.int 351 :: .int 5 :: st) := by
  obtain ⟨p, e, s, m, args, below, meth, c, A, Q, rfl, hx, hb, hml, hown, hts, hK, hA, hX⟩ := B
  intro H locs ls hP hD hS hl T hT Xs
  have n5 : (5 : Int32).toNatClampNeg = 5 := by decide
  have n351 : (351 : Int32).toNatClampNeg = 351 := by decide
  obtain ⟨vm₁, cA, comp, -, fA, fC, -, -, X', step⟩ := Xs.multianewarray2F hx hown (ty := .int) (hts _ hcl) hX.2.1 (hts _ harr) (g := F0 m pc ls (.int 351 :: .int 5 :: st)) rfl (by rw [hb]; exact hd) rfl (by decide) (by decide) (by decide) (by decide) (by decide) (by decide) (by decide) (by rw [n5]; omega) (by rw [n5, n351]; omega)
  rw [n5, n351] at X' step
  have e1 : K.2.1.2.2.2 = cA := Option.some.inj ((hK.2 3 (_, .array .int) rfl).2.symm.trans fA)
  have e2 : K.2.1.2.1 = comp := Option.some.inj ((hK.2 1 (_, .int) rfl).2.symm.trans fC)
  rw [← e1, ← e2] at X' step
  have hTh : (T.setVm vm₁).heap = H := hT
  obtain ⟨f1, f2, -, -⟩ := Jvm.Free.Multi.fill_facts (T.setVm vm₁) K.2.1.2.2.2 K.2.1.2.1 5 351 (defaultValue .int) 5
  have f3 := fun j (hj : j < 5) => Jvm.Free.Multi.fill_inner (T.setVm vm₁) K.2.1.2.2.2 K.2.1.2.1 5 351 (defaultValue .int) 5 j hj
  have f4 := fun x (hx : x < (T.setVm vm₁).heap.size) => Jvm.Free.Multi.fill_old (T.setVm vm₁) K.2.1.2.2.2 K.2.1.2.1 5 351 (defaultValue .int) (a := x) hx 5
  generalize hF : Jvm.Free.Multi.fill (T.setVm vm₁) K.2.1.2.2.2 K.2.1.2.1 5 351 (defaultValue .int) 5 = F at X' step f1 f2 f3 f4
  rw [hTh] at f1 f2 f3 f4
  rw [gx_outer] at f2
  have f5 : ∀ j, j < 5 → F.heap[H.size + 1 + j]? = some (vp_cell K.2.1.2.1 (351, .inl (fun _ => 0))) := fun j hj => by
    rw [← gx_inner]
    exact f3 j hj
  have hP2 : va_P K.1 vwCl (ws ++ [(H.size, .inl (K.2.1.2.2.2, 5, .inr (.inr (.inr (.inr (rwF (H.size + 1) (H.size + 2) (H.size + 3) (H.size + 4) (H.size + 5))))))), (H.size + 1, .inl (K.2.1.2.1, 351, .inl (fun _ => 0))), (H.size + 2, .inl (K.2.1.2.1, 351, .inl (fun _ => 0))), (H.size + 3, .inl (K.2.1.2.1, 351, .inl (fun _ => 0))), (H.size + 4, .inl (K.2.1.2.1, 351, .inl (fun _ => 0))), (H.size + 5, .inl (K.2.1.2.1, 351, .inl (fun _ => 0)))]) F.heap := by
    refine va_P.app (hP.kept (fun k9 x hx => f4 x.1 ((hP k9 x hx).lt))) (fun k9 x hx => ?_)
    match k9, hx with
    | 0, hx => cases hx; exact f2
    | 1, hx => cases hx; exact f5 0 (by decide)
    | 2, hx => cases hx; exact f5 1 (by decide)
    | 3, hx => cases hx; exact f5 2 (by decide)
    | 4, hx => cases hx; exact f5 3 (by decide)
    | 5, hx => cases hx; exact f5 4 (by decide)
    | k9 + 6, hx => exact absurd hx (by simp)
  have hD2 : va_D A (ws ++ [(H.size, .inl (K.2.1.2.2.2, 5, .inr (.inr (.inr (.inr (rwF (H.size + 1) (H.size + 2) (H.size + 3) (H.size + 4) (H.size + 5))))))), (H.size + 1, .inl (K.2.1.2.1, 351, .inl (fun _ => 0))), (H.size + 2, .inl (K.2.1.2.1, 351, .inl (fun _ => 0))), (H.size + 3, .inl (K.2.1.2.1, 351, .inl (fun _ => 0))), (H.size + 4, .inl (K.2.1.2.1, 351, .inl (fun _ => 0))), (H.size + 5, .inl (K.2.1.2.1, 351, .inl (fun _ => 0)))]) := by
    have key : ∀ (k9 : Nat) (x : Nat × va_E), ([(H.size, .inl (K.2.1.2.2.2, 5, .inr (.inr (.inr (.inr (rwF (H.size + 1) (H.size + 2) (H.size + 3) (H.size + 4) (H.size + 5))))))), (H.size + 1, .inl (K.2.1.2.1, 351, .inl (fun _ => 0))), (H.size + 2, .inl (K.2.1.2.1, 351, .inl (fun _ => 0))), (H.size + 3, .inl (K.2.1.2.1, 351, .inl (fun _ => 0))), (H.size + 4, .inl (K.2.1.2.1, 351, .inl (fun _ => 0))), (H.size + 5, .inl (K.2.1.2.1, 351, .inl (fun _ => 0)))] : va_W)[k9]? = some x → x.1 = H.size + k9 := by
      intro k9 x hx
      match k9, hx with
      | 0, hx => cases hx; rfl
      | 1, hx => cases hx; rfl
      | 2, hx => cases hx; rfl
      | 3, hx => cases hx; rfl
      | 4, hx => cases hx; rfl
      | 5, hx => cases hx; rfl
      | k9 + 6, hx => exact absurd hx (by simp)
    have spl : ∀ (k9 : Nat) (x : Nat × va_E) (W2 : va_W), (∀ (j : Nat) (y : Nat × va_E), W2[j]? = some y → y.1 = H.size + j) → (ws ++ W2)[k9]? = some x → (ws[k9]? = some x ∧ k9 < ws.length ∧ x.1 < H.size) ∨ (ws.length ≤ k9 ∧ x.1 = H.size + (k9 - ws.length)) := by
      intro k9 x W2 h2 hx
      by_cases hl : k9 < ws.length
      · rw [List.getElem?_append_left hl] at hx
        exact Or.inl ⟨hx, hl, (hP k9 x hx).lt⟩
      · rw [List.getElem?_append_right (by omega)] at hx
        exact Or.inr ⟨by omega, h2 _ _ hx⟩
    refine ⟨fun i j x y hi hj hxy => ?_, fun k9 x hx => ?_⟩
    · rcases spl i x _ key hi with ⟨a1, a2, a3⟩ | ⟨a1, a2⟩ <;> rcases spl j y _ key hj with ⟨b1, b2, b3⟩ | ⟨b1, b2⟩
      · exact hD.1 i j x y a1 b1 hxy
      · omega
      · omega
      · omega
    · rcases spl k9 x _ key hx with ⟨a1, a2, a3⟩ | ⟨a1, a2⟩
      · exact hD.2 k9 x a1
      · exact hA _ (by have := hS.1; omega)
  obtain ⟨t, a1, b1⟩ := kk H.size F.heap locs ls hP2 hD2 ⟨by rw [f1]; have := hS.1; omega, fun x h1 h2 => (f4 x (Nat.lt_of_lt_of_le h1 hS.1)).trans (hS.2.1 x h1 h2), hS.2.2⟩ hl F rfl X'
  refine ⟨t, step t ?_, b1⟩
  have e : T.heap.size = H.size := by rw [hT]
  rw [e]
  exact a1
