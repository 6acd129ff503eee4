/-! Script: words, commands, the run. -/
section GX7
variable {cc : ByteArray} {nL : Nat} {own nm : String} {l : Launch} {R : Room} {K : gx_K} {ret : Option FieldType} {Post : Option Value → va_W → Prop} {G : gx_J} {k n pc : Nat} {ws : va_W} {lv : List (Nat × Value)} {st : List Value}
theorem gx_dSr (B : gx_B cc nL own l R K G) {y : MethodName} {rm : Room} {W0 wr W1 : va_W} {bytes : ByteArray} {maxL : Nat} {ret' : Option FieldType} {index : Nat} {rest : List Value} {As : List Value} {r : Nat} (hM : gx_Ctr l K y bytes maxL ret' rm As W0 (gx_D (some (.ref r)) W1)) (hm : gx_MS y bytes maxL ret') (hdg : decode cc pc = .ok (.invokestatic index, 3)) (hlk : Cond.methodLink own index y ∈ gx_TB) (hnA : (parseMethodDescriptor y.desc).map (fun d => d.parameters.length) = some As.length) (hRm : rm.frames + 1 ≤ R.frames ∧ 8 + (maxL + 11) + rm.locals ≤ R.locals) (h0 : rm.cells = 0 ∧ rm.slots = 0) (hkn : k ≤ R.cells ∧ n ≤ R.slots) (hst : st = As.reverse ++ rest) (hcat : (rest.map fun v => v.category).sum ≤ 8)
    (isC isR : List Nat) (hC : isC.map (fun i => ws[i]?) = W0.map some) (hR : isR.map (fun i => ws[i]?) = wr.map some) (hn : va_nd isR = true) (hdis : ∀ i ∈ isR, i ∉ isC) (hnC : va_nd isC = true)
    (is : List Nat) (hnd : va_nd is = true) (ws' : va_W) (hp : is.map (fun i => (wr ++ W1)[i]?) = ws'.map some) (kk : G k n ws' lv (pc + 3) (.ref r :: rest)) : G k n ws lv pc st := by
  refine gx_callS B hM hm hdg hlk hnA ⟨hRm.1, hRm.2, by rw [h0.1]; exact hkn.1, by rw [h0.2]; exact hkn.2⟩ hst hcat isC isR hC hR hn hdis hnC (fun v w h => ?_)
  obtain ⟨rfl, rfl⟩ := h
  refine gx_kn (k' := k) (n' := n) (by rw [h0.1]; rfl) (by rw [h0.2]; rfl) ?_
  exact gx_perm B is hnd hp kk
end GX7
/-- how many numbers a kind has -/
def nbM (k : Nat) : Nat := ([3, 4, 1, 0, 2, 3, 2, 1, 1] : List Nat).getD k 0
theorem kdF_le {X : Nat → Int32} {ln rd : Nat} : ∀ f i, kdF X ln rd f i ≤ i + f := by
  intro f
  induction f with
  | zero => exact fun i => Nat.le_refl _
  | succ f ih =>
    intro i
    unfold kdF
    split
    · omega
    · have := ih (i + 1); omega
theorem kdA_le {X : Nat → Int32} {ln rd : Nat} : kdA X ln rd ≤ 9 := by have := @kdF_le X ln rd 9 0; unfold kdA; omega
theorem nbF_kd {X : Nat → Int32} {ln rd : Nat} : nbF (kdR X ln rd) = nI (nbM (kdA X ln rd)) := by
  have h := @kdA_le X ln rd
  unfold kdR
  generalize kdA X ln rd = k at h
  have e : ∀ k : Fin 10, nbF (if k.val < 9 then nI k.val else -1) = nI (nbM k.val) := by decide +kernel
  exact e ⟨k, by omega⟩
theorem nbM_le (k : Nat) : nbM k ≤ 4 := by
  rcases Nat.lt_or_ge k 9 with h | h
  · have e : ∀ k : Fin 9, nbM k.val ≤ 4 := by decide +kernel
    exact e ⟨k, h⟩
  · obtain ⟨m, rfl⟩ := Nat.exists_eq_add_of_le h
    rw [Nat.add_comm, show nbM (m + 9) = 0 from rfl]
    decide
theorem kdP_le {X : Nat → Int32} {ln rd : Nat} (h : rd ≤ 80) : kdP X ln rd ≤ 86 := by
  unfold kdP
  split
  · rename_i q; have := (gx_len_le _ q).1; omega
  · omega
theorem b03 {i : Nat} (h : i ≤ 3) : bIn (nI i) 0 3 = true := by
  have e : ∀ i : Fin 4, bIn (nI i.val) 0 3 = true := by decide +kernel
  exact e ⟨i, by omega⟩
/-- the numbers of a command from the i-th on -/
def rcL (X : Nat → Int32) (ln : Nat) : Nat → Nat → Nat → (Nat → Int32) → Bool × Nat × (Nat → Int32)
  | 0, _, r, M => (true, r, M)
  | f + 1, i, r, M => if sgn X ln r = 32 then (if dxN X ln (r + 1) = 0 then (false, r + 1 + dxN X ln (r + 1), M) else rcL X ln f (i + 1) (r + 1 + dxN X ln (r + 1)) (upd M i (dxV X ln (r + 1) (dxN X ln (r + 1))))) else (false, r, M)
theorem dxN_le {X : Nat → Int32} {ln r : Nat} : dxN X ln r ≤ 4 := by have := @dxC_le X ln r 4 0; unfold dxN; omega
theorem rcL_le {X : Nat → Int32} {ln : Nat} : ∀ f i r M, r ≤ 86 + 5 * i → (rcL X ln f i r M).2.1 ≤ 86 + 5 * (i + f) := by
  intro f
  induction f with
  | zero => exact fun i r M h => h
  | succ f ih =>
    intro i r M h
    have h4 := @dxN_le X ln (r + 1)
    unfold rcL
    split
    · split
      · show r + 1 + dxN X ln (r + 1) ≤ _; omega
      · have := ih (i + 1) (r + 1 + dxN X ln (r + 1)) (upd M i (dxV X ln (r + 1) (dxN X ln (r + 1)))) (by omega); omega
    · show r ≤ _; omega
abbrev rcA (X : Nat → Int32) (ln rd : Nat) (N : Nat → Int32) : Bool × Nat × (Nat → Int32) := rcL X ln (nbM (kdA X ln rd)) 0 (kdP X ln rd) N
def rcK (X : Nat → Int32) (ln rd : Nat) (N : Nat → Int32) : Int32 := if (rcA X ln rd N).1 = true then (if sgn X ln (rcA X ln rd N).2.1 = 59 then kdR X ln rd else (-1)) else (-1)
def rcP (X : Nat → Int32) (ln rd : Nat) (N : Nat → Int32) : Nat := if (rcA X ln rd N).1 = true then (if sgn X ln (rcA X ln rd N).2.1 = 59 then (rcA X ln rd N).2.1 + 1 else (rcA X ln rd N).2.1) else (rcA X ln rd N).2.1
def rcN (X : Nat → Int32) (ln rd : Nat) (N : Nat → Int32) : Nat → Int32 := (rcA X ln rd N).2.2
theorem rcP_le {X : Nat → Int32} {ln rd : Nat} {N : Nat → Int32} (h : rd ≤ 80) : rcP X ln rd N ≤ 107 := by
  have : (rcA X ln rd N).2.1 ≤ 86 + 5 * (0 + nbM (kdA X ln rd)) := @rcL_le X ln (nbM (kdA X ln rd)) 0 (kdP X ln rd) N (kdP_le h)
  have := nbM_le (kdA X ln rd)
  unfold rcP
  split
  · split <;> omega
  · omega
/-- a command done on the books -/
def pfB (C N : Nat → Int32) (x : Int32) : Int32 × (Nat → Int32) := if x = 0 then bGive C (N 0) (N 1) (N 2) else if x = 1 then bPledge C (N 0) (N 1) (N 2) (N 3) else if x = 2 then bMiss C (N 0) else if x = 3 then bClaim C (-1) else if x = 4 then bSpend C (N 0) (N 1) else if x = 5 then bAgree C (N 0) (N 1) (N 2) else if x = 6 then bMerge C (N 0) (N 1) else if x = 7 then bRefund C (N 0) else if x = 8 then bPass C (N 0) 999 else (-1, C)
abbrev gx_RR := Int32 × Int32 × Int32 × (Nat → Int32) × (Nat → Int32) × Nat × Nat
def roL (X : Nat → Int32) (ln : Nat) (ca : Int32) : Nat → Nat → (Nat → Int32) → (Nat → Int32) → Nat → Nat → gx_RR
  | 0, k, C, N, r, p => ⟨nI k, 0, ca, C, N, r, p⟩
  | f + 1, k, C, N, r, p => if r < ln then (if rcK X ln r N = -1 then ⟨-1, 1, -4, C, rcN X ln r N, rcP X ln r N, r⟩ else (if (pfB C (rcN X ln r N) (rcK X ln r N)).1 < 0 then ⟨-1, 2, (pfB C (rcN X ln r N) (rcK X ln r N)).1, (pfB C (rcN X ln r N) (rcK X ln r N)).2, rcN X ln r N, rcP X ln r N, r⟩ else roL X ln ca f (k + 1) (pfB C (rcN X ln r N) (rcK X ln r N)).2 (rcN X ln r N) (rcP X ln r N) r)) else ⟨nI k, 0, ca, C, N, r, p⟩
theorem pX2_wordOf : (parseMethodDescriptor yX2_wordOf.desc).map (fun d => d.parameters.length) = some 1 := by decide +kernel
theorem mX2_wordOf : gx_MS yX2_wordOf cX2_wordOf 1 (some (.object "java/lang/String")) := ⟨tb_600, tb_72, tb_601, by decide, by decide⟩
set_option maxHeartbeats 4000000 in
set_option maxRecDepth 100000 in
theorem c_X2_wordOf (l : Launch) (K : gx_K) (i : Nat) (h0 : i < 9) : gx_Ctr l K yX2_wordOf cX2_wordOf 1 (some (.object "java/lang/String")) (rmm 1 0) [.int (nI i)] [] (gx_D (some (.ref (K.2.2.1 i))) []) := by
  refine gx_of (by decide) (Nat.le_of_ble_eq_true rfl) (fun G hC => ?_)
  have hB := hC.b
  refine gx_lv (lv' := [(0, .int (nI i))]) rfl ?_
  refine gx_iload_n (pc := 0) hB dX2_wordOf_0 0 rfl ?_
  by_cases s_j0 : i = 0
  · refine gx_top (show nI i = 0 by rw [s_j0]; rfl) ?_
    refine gx_tableIn (pc := 1) hB 48 dX2_wordOf_1 (by decide) (by decide) rfl (by decide) ?_
    refine gx_ldcS (pc := 48) hB 0 (by decide) dX2_wordOf_48 ?_
    exact gx_aret (pc := 50) hC dX2_wordOf_50 (Nat.zero_le _) (Nat.zero_le _) (rt := "java/lang/String") rfl ⟨by rw [s_j0], rfl⟩
  by_cases s_j1 : i = 1
  · refine gx_top (show nI i = 1 by rw [s_j1]; rfl) ?_
    refine gx_tableIn (pc := 1) hB 51 dX2_wordOf_1 (by decide) (by decide) rfl (by decide) ?_
    refine gx_ldcS (pc := 51) hB 1 (by decide) dX2_wordOf_51 ?_
    exact gx_aret (pc := 53) hC dX2_wordOf_53 (Nat.zero_le _) (Nat.zero_le _) (rt := "java/lang/String") rfl ⟨by rw [s_j1], rfl⟩
  by_cases s_j2 : i = 2
  · refine gx_top (show nI i = 2 by rw [s_j2]; rfl) ?_
    refine gx_tableIn (pc := 1) hB 54 dX2_wordOf_1 (by decide) (by decide) rfl (by decide) ?_
    refine gx_ldcS (pc := 54) hB 2 (by decide) dX2_wordOf_54 ?_
    exact gx_aret (pc := 56) hC dX2_wordOf_56 (Nat.zero_le _) (Nat.zero_le _) (rt := "java/lang/String") rfl ⟨by rw [s_j2], rfl⟩
  by_cases s_j3 : i = 3
  · refine gx_top (show nI i = 3 by rw [s_j3]; rfl) ?_
    refine gx_tableIn (pc := 1) hB 57 dX2_wordOf_1 (by decide) (by decide) rfl (by decide) ?_
    refine gx_ldcS (pc := 57) hB 3 (by decide) dX2_wordOf_57 ?_
    exact gx_aret (pc := 59) hC dX2_wordOf_59 (Nat.zero_le _) (Nat.zero_le _) (rt := "java/lang/String") rfl ⟨by rw [s_j3], rfl⟩
  by_cases s_j4 : i = 4
  · refine gx_top (show nI i = 4 by rw [s_j4]; rfl) ?_
    refine gx_tableIn (pc := 1) hB 60 dX2_wordOf_1 (by decide) (by decide) rfl (by decide) ?_
    refine gx_ldcS (pc := 60) hB 4 (by decide) dX2_wordOf_60 ?_
    exact gx_aret (pc := 62) hC dX2_wordOf_62 (Nat.zero_le _) (Nat.zero_le _) (rt := "java/lang/String") rfl ⟨by rw [s_j4], rfl⟩
  by_cases s_j5 : i = 5
  · refine gx_top (show nI i = 5 by rw [s_j5]; rfl) ?_
    refine gx_tableIn (pc := 1) hB 63 dX2_wordOf_1 (by decide) (by decide) rfl (by decide) ?_
    refine gx_ldcS (pc := 63) hB 5 (by decide) dX2_wordOf_63 ?_
    exact gx_aret (pc := 65) hC dX2_wordOf_65 (Nat.zero_le _) (Nat.zero_le _) (rt := "java/lang/String") rfl ⟨by rw [s_j5], rfl⟩
  by_cases s_j6 : i = 6
  · refine gx_top (show nI i = 6 by rw [s_j6]; rfl) ?_
    refine gx_tableIn (pc := 1) hB 66 dX2_wordOf_1 (by decide) (by decide) rfl (by decide) ?_
    refine gx_ldcS (pc := 66) hB 6 (by decide) dX2_wordOf_66 ?_
    exact gx_aret (pc := 68) hC dX2_wordOf_68 (Nat.zero_le _) (Nat.zero_le _) (rt := "java/lang/String") rfl ⟨by rw [s_j6], rfl⟩
  by_cases s_j7 : i = 7
  · refine gx_top (show nI i = 7 by rw [s_j7]; rfl) ?_
    refine gx_tableIn (pc := 1) hB 69 dX2_wordOf_1 (by decide) (by decide) rfl (by decide) ?_
    refine gx_ldcS (pc := 69) hB 7 (by decide) dX2_wordOf_69 ?_
    exact gx_aret (pc := 71) hC dX2_wordOf_71 (Nat.zero_le _) (Nat.zero_le _) (rt := "java/lang/String") rfl ⟨by rw [s_j7], rfl⟩
  have s_j8 : i = 8 := by omega
  refine gx_top (show nI i = 8 by rw [s_j8]; rfl) ?_
  refine gx_tableOut (pc := 1) hB 72 dX2_wordOf_1 (by decide) (by decide) ?_
  refine gx_ldcS (pc := 72) hB 8 (by decide) dX2_wordOf_72 ?_
  exact gx_aret (pc := 74) hC dX2_wordOf_74 (Nat.zero_le _) (Nat.zero_le _) (rt := "java/lang/String") rfl ⟨by rw [s_j8], rfl⟩
theorem pX2_numbersOf : (parseMethodDescriptor yX2_numbersOf.desc).map (fun d => d.parameters.length) = some 1 := by decide +kernel
theorem mX2_numbersOf : gx_MS yX2_numbersOf cX2_numbersOf 1 (some .int) := ⟨tb_671, tb_72, tb_672, by decide, by decide⟩
set_option maxHeartbeats 4000000 in
set_option maxRecDepth 100000 in
theorem c_X2_numbersOf (l : Launch) (K : gx_K) (x : Int32)  : gx_Ctr l K yX2_numbersOf cX2_numbersOf 1 (some .int) (rmm 1 0) [.int x] [] (gx_D (some (.int (nbF x))) []) := by
  refine gx_of (by decide) (Nat.le_of_ble_eq_true rfl) (fun G hC => ?_)
  have hB := hC.b
  refine gx_lv (lv' := [(0, .int x)]) rfl ?_
  refine gx_iload_n (pc := 0) hB dX2_numbersOf_0 0 rfl ?_
  by_cases c_1 : x = 0
  · refine gx_top c_1 ?_
    refine gx_tableIn (pc := 1) hB 54 dX2_numbersOf_1 (by decide) (by decide) rfl (by decide) ?_
    have s_1 := c_1
    refine gx_iconst (pc := 54) hB dX2_numbersOf_54 3 (by decide) ?_
    have e1 : (nbF x) = 3 := by simp [nbF, s_1]
    exact gx_iret (pc := 55) hC dX2_numbersOf_55 (Nat.zero_le _) (Nat.zero_le _) (⟨by rw [e1], rfl⟩)
  by_cases c_2 : x = 1
  · refine gx_top c_2 ?_
    refine gx_tableIn (pc := 1) hB 52 dX2_numbersOf_1 (by decide) (by decide) rfl (by decide) ?_
    have s_2 := c_2
    refine gx_iconst (pc := 52) hB dX2_numbersOf_52 4 (by decide) ?_
    have e1 : (nbF x) = 4 := by simp [nbF, eq_false c_1, s_2]
    exact gx_iret (pc := 53) hC dX2_numbersOf_53 (Nat.zero_le _) (Nat.zero_le _) (⟨by rw [e1], rfl⟩)
  by_cases c_3 : x = 2
  · refine gx_top c_3 ?_
    refine gx_tableIn (pc := 1) hB 58 dX2_numbersOf_1 (by decide) (by decide) rfl (by decide) ?_
    have s_3 := c_3
    refine gx_iconst (pc := 58) hB dX2_numbersOf_58 1 (by decide) ?_
    have e1 : (nbF x) = 1 := by simp [nbF, eq_false c_1, eq_false c_2, s_3]
    exact gx_iret (pc := 59) hC dX2_numbersOf_59 (Nat.zero_le _) (Nat.zero_le _) (⟨by rw [e1], rfl⟩)
  by_cases c_4 : x = 3
  · refine gx_top c_4 ?_
    refine gx_tableIn (pc := 1) hB 60 dX2_numbersOf_1 (by decide) (by decide) rfl (by decide) ?_
    have s_4 := c_4
    refine gx_iconst (pc := 60) hB dX2_numbersOf_60 0 (by decide) ?_
    have e1 : (nbF x) = 0 := by simp [nbF, eq_false c_1, eq_false c_2, eq_false c_3, s_4]
    exact gx_iret (pc := 61) hC dX2_numbersOf_61 (Nat.zero_le _) (Nat.zero_le _) (⟨by rw [e1], rfl⟩)
  by_cases c_5 : x = 4
  · refine gx_top c_5 ?_
    refine gx_tableIn (pc := 1) hB 56 dX2_numbersOf_1 (by decide) (by decide) rfl (by decide) ?_
    have s_5 := c_5
    refine gx_iconst (pc := 56) hB dX2_numbersOf_56 2 (by decide) ?_
    have e1 : (nbF x) = 2 := by simp [nbF, eq_false c_1, eq_false c_2, eq_false c_3, eq_false c_4, s_5]
    exact gx_iret (pc := 57) hC dX2_numbersOf_57 (Nat.zero_le _) (Nat.zero_le _) (⟨by rw [e1], rfl⟩)
  by_cases c_6 : x = 5
  · refine gx_top c_6 ?_
    refine gx_tableIn (pc := 1) hB 54 dX2_numbersOf_1 (by decide) (by decide) rfl (by decide) ?_
    have s_6 := c_6
    refine gx_iconst (pc := 54) hB dX2_numbersOf_54 3 (by decide) ?_
    have e1 : (nbF x) = 3 := by simp [nbF, eq_false c_1, eq_false c_2, eq_false c_3, eq_false c_4, eq_false c_5, s_6]
    exact gx_iret (pc := 55) hC dX2_numbersOf_55 (Nat.zero_le _) (Nat.zero_le _) (⟨by rw [e1], rfl⟩)
  by_cases c_7 : x = 6
  · refine gx_top c_7 ?_
    refine gx_tableIn (pc := 1) hB 56 dX2_numbersOf_1 (by decide) (by decide) rfl (by decide) ?_
    have s_7 := c_7
    refine gx_iconst (pc := 56) hB dX2_numbersOf_56 2 (by decide) ?_
    have e1 : (nbF x) = 2 := by simp [nbF, eq_false c_1, eq_false c_2, eq_false c_3, eq_false c_4, eq_false c_5, eq_false c_6, s_7]
    exact gx_iret (pc := 57) hC dX2_numbersOf_57 (Nat.zero_le _) (Nat.zero_le _) (⟨by rw [e1], rfl⟩)
  by_cases c_8 : x = 7
  · refine gx_top c_8 ?_
    refine gx_tableIn (pc := 1) hB 58 dX2_numbersOf_1 (by decide) (by decide) rfl (by decide) ?_
    have s_8 := c_8
    refine gx_iconst (pc := 58) hB dX2_numbersOf_58 1 (by decide) ?_
    have e1 : (nbF x) = 1 := by simp [nbF, eq_false c_1, eq_false c_2, eq_false c_3, eq_false c_4, eq_false c_5, eq_false c_6, eq_false c_7, s_8]
    exact gx_iret (pc := 59) hC dX2_numbersOf_59 (Nat.zero_le _) (Nat.zero_le _) (⟨by rw [e1], rfl⟩)
  by_cases c_9 : x = 8
  · refine gx_top c_9 ?_
    refine gx_tableIn (pc := 1) hB 58 dX2_numbersOf_1 (by decide) (by decide) rfl (by decide) ?_
    have s_9 := c_9
    refine gx_iconst (pc := 58) hB dX2_numbersOf_58 1 (by decide) ?_
    have e1 : (nbF x) = 1 := by simp [nbF, eq_false c_1, eq_false c_2, eq_false c_3, eq_false c_4, eq_false c_5, eq_false c_6, eq_false c_7, eq_false c_8, s_9]
    exact gx_iret (pc := 59) hC dX2_numbersOf_59 (Nat.zero_le _) (Nat.zero_le _) (⟨by rw [e1], rfl⟩)
  have hout : (x).toInt < 0 ∨ 8 < (x).toInt := by
    have zc_1 : ¬ 0 = (x).toInt := fun q => c_1 (Int32.toInt_inj.mp q.symm)
    have zc_2 : ¬ 1 = (x).toInt := fun q => c_2 (Int32.toInt_inj.mp q.symm)
    have zc_3 : ¬ 2 = (x).toInt := fun q => c_3 (Int32.toInt_inj.mp q.symm)
    have zc_4 : ¬ 3 = (x).toInt := fun q => c_4 (Int32.toInt_inj.mp q.symm)
    have zc_5 : ¬ 4 = (x).toInt := fun q => c_5 (Int32.toInt_inj.mp q.symm)
    have zc_6 : ¬ 5 = (x).toInt := fun q => c_6 (Int32.toInt_inj.mp q.symm)
    have zc_7 : ¬ 6 = (x).toInt := fun q => c_7 (Int32.toInt_inj.mp q.symm)
    have zc_8 : ¬ 7 = (x).toInt := fun q => c_8 (Int32.toInt_inj.mp q.symm)
    have zc_9 : ¬ 8 = (x).toInt := fun q => c_9 (Int32.toInt_inj.mp q.symm)
    omega
  refine gx_tableOut (pc := 1) hB 60 dX2_numbersOf_1 hout (by decide) ?_
  refine gx_iconst (pc := 60) hB dX2_numbersOf_60 0 (by decide) ?_
  have e1 : (nbF x) = 0 := by simp [nbF, eq_false c_1, eq_false c_2, eq_false c_3, eq_false c_4, eq_false c_5, eq_false c_6, eq_false c_7, eq_false c_8, eq_false c_9]
  exact gx_iret (pc := 61) hC dX2_numbersOf_61 (Nat.zero_le _) (Nat.zero_le _) (⟨by rw [e1], rfl⟩)
theorem pX2_standsNext : (parseMethodDescriptor yX2_standsNext.desc).map (fun d => d.parameters.length) = some 1 := by decide +kernel
theorem mX2_standsNext : gx_M yX2_standsNext cX2_standsNext 3 (some .boolean) := ⟨tb_613, tb_28, tb_72, tb_614, by decide, by decide⟩
set_option maxHeartbeats 4000000 in
set_option maxRecDepth 100000 in
theorem c_X2_standsNext (l : Launch) (K : gx_K) (v sg nu : Nat) (X : Nat → Int32) (ln : Nat) (N : Nat → Int32) (rd pl : Nat) (rs ca : Int32) (i : Nat) (h0 : ln ≤ 80) (h1 : rd ≤ 200) (h2 : chOk X) (h3 : i < 9) : gx_Ctr l K yX2_standsNext cX2_standsNext 3 (some .boolean) (rmm 5 85) [.ref v, .ref (K.2.2.1 i)] (wSc K v sg nu X ln N rd pl rs ca) (gx_D (some (.int (bI (swA X ln rd i)))) (wSc K v sg nu X ln N rd pl rs ca)) := by
  refine gx_of (by decide) (Nat.le_of_ble_eq_true rfl) (fun G hC => ?_)
  have hB := hC.b
  refine gx_lv (lv' := [(0, .ref v), (1, .ref (K.2.2.1 i))]) rfl ?_
  have hl6 := (gx_len_le i h3).1
  have hl4 := (gx_len_le i h3).2
  refine gx_aload_n (pc := 0) hB dX2_standsNext_0 1 rfl ?_
  refine gx_dT (pc := 1) (r := nI (gx_len.getD i 0)) hB i h3 (c_J0_length_8abf5 l K i h3) mJ0_length_8abf5 dX2_standsNext_1 tb_615 pJ0_length_8abf5 rfl ⟨Nat.le_of_ble_eq_true rfl, Nat.le_of_ble_eq_true rfl⟩ ⟨rfl, rfl⟩ ⟨Nat.zero_le _, Nat.zero_le _⟩ rfl (Nat.le_of_ble_eq_true rfl) [0, 1, 2] rfl (by decide) ?_
  refine gx_aload_n (pc := 4) hB dX2_standsNext_4 0 rfl ?_
  refine gx_get (pc := 5) hB dX2_standsNext_5 inX2 rfl 0 rfl 1 (by decide) tb_167 rfl rfl ?_
  refine gx_aload_n (pc := 8) hB dX2_standsNext_8 0 rfl ?_
  refine gx_get (pc := 9) hB dX2_standsNext_9 inX2 rfl 0 rfl 3 (by decide) tb_169 rfl rfl ?_
  refine gx_isub (pc := 12) hB dX2_standsNext_12 ?_
  refine gx_icmp_le (pc := 13) hB 18 dX2_standsNext_13 (by decide) (fun c_1 => ?_) (fun c_1 => ?_)
  · have h_l : ¬ (nI ln - nI rd < nI (gx_len.getD i 0)) := Int32.not_lt.mpr c_1
    refine gx_iconst (pc := 18) hB dX2_standsNext_18 0 (by decide) ?_
    refine gx_istore_n (pc := 19) hB dX2_standsNext_19 (by decide) [(2, .int 0), (0, .ref v), (1, .ref (K.2.2.1 i))] rfl ?_
    have loop_20 : ∀ f j : Nat, j + f = (gx_len.getD i 0) → swN X ln rd i j = true → G 0 0 (wSc K v sg nu X ln N rd pl rs ca) [(0, .ref v), (1, .ref (K.2.2.1 i)), (2, .int (nI j))] 20 [] := by
      intro f
      induction f with
      | zero =>
        intro j hj hs
        refine gx_iload_n (pc := 20) hB dX2_standsNext_20 2 rfl ?_
        refine gx_aload_n (pc := 21) hB dX2_standsNext_21 1 rfl ?_
        refine gx_dT (pc := 22) (r := nI (gx_len.getD i 0)) hB i h3 (c_J0_length_8abf5 l K i h3) mJ0_length_8abf5 dX2_standsNext_22 tb_615 pJ0_length_8abf5 rfl ⟨Nat.le_of_ble_eq_true rfl, Nat.le_of_ble_eq_true rfl⟩ ⟨rfl, rfl⟩ ⟨Nat.zero_le _, Nat.zero_le _⟩ rfl (Nat.le_of_ble_eq_true rfl) [0, 1, 2] rfl (by decide) ?_
        refine gx_icmp_ge (pc := 25) hB 54 dX2_standsNext_25 (by decide) (fun c_2 => ?_) (fun c_2 => ?_)
        · have s_f : swN X ln rd i (gx_len.getD i 0) = true := by rw [show (gx_len.getD i 0) = j by omega]; exact hs
          have s_A : swA X ln rd i = true := by unfold swA; rw [s_f, Bool.and_true]; exact decide_eq_true h_l
          refine gx_iconst (pc := 54) hB dX2_standsNext_54 1 (by decide) ?_
          have e1 : (bI (swA X ln rd i)) = 1 := by simp [bI, s_A]
          exact gx_zret (pc := 55) hC dX2_standsNext_55 (Nat.zero_le _) (Nat.zero_le _) (by decide) (⟨by rw [e1], rfl⟩)
        · exact absurd (nI_le (show (gx_len.getD i 0) ≤ j by omega) (by omega)) c_2
      | succ f ihf =>
        intro j hj hs
        refine gx_iload_n (pc := 20) hB dX2_standsNext_20 2 rfl ?_
        refine gx_aload_n (pc := 21) hB dX2_standsNext_21 1 rfl ?_
        refine gx_dT (pc := 22) (r := nI (gx_len.getD i 0)) hB i h3 (c_J0_length_8abf5 l K i h3) mJ0_length_8abf5 dX2_standsNext_22 tb_615 pJ0_length_8abf5 rfl ⟨Nat.le_of_ble_eq_true rfl, Nat.le_of_ble_eq_true rfl⟩ ⟨rfl, rfl⟩ ⟨Nat.zero_le _, Nat.zero_le _⟩ rfl (Nat.le_of_ble_eq_true rfl) [0, 1, 2] rfl (by decide) ?_
        refine gx_icmp_ge (pc := 25) hB 54 dX2_standsNext_25 (by decide) (fun c_3 => ?_) (fun c_3 => ?_)
        · exact absurd c_3 (nI_ge (by omega) (by omega))
        · refine gx_aload_n (pc := 28) hB dX2_standsNext_28 0 rfl ?_
          refine gx_aload_n (pc := 29) hB dX2_standsNext_29 0 rfl ?_
          refine gx_get (pc := 30) hB dX2_standsNext_30 inX2 rfl 0 rfl 3 (by decide) tb_169 rfl rfl ?_
          refine gx_iload_n (pc := 33) hB dX2_standsNext_33 2 rfl ?_
          refine gx_iadd (pc := 34) hB dX2_standsNext_34 ?_
          refine gx_top (show nI rd + nI j = nI (rd + j) from nI_add rd j) ?_
          refine gx_dVi (pc := 35) (r := sgn X ln (rd + j)) (wr := []) hB (c_X2_signAt l K v sg nu X ln N rd pl rs ca (rd + j) (by first | assumption | omega | decide) (by first | assumption | omega | decide) (by first | assumption | omega | decide)) mX2_signAt dX2_standsNext_35 tb_625 pX2_signAt ⟨Nat.le_of_ble_eq_true rfl, Nat.le_of_ble_eq_true rfl⟩ ⟨rfl, rfl⟩ ⟨Nat.zero_le _, Nat.zero_le _⟩ rfl (Nat.le_of_ble_eq_true rfl) [0, 1, 2] [] rfl rfl (by decide) (by decide) (by decide) rfl rfl [0, 1, 2] (by decide) (wSc K v sg nu X ln N rd pl rs ca) rfl ?_
          refine gx_aload_n (pc := 38) hB dX2_standsNext_38 1 rfl ?_
          refine gx_iload_n (pc := 39) hB dX2_standsNext_39 2 rfl ?_
          refine gx_dT (pc := 40) (r := (gx_byt.getD i []).getD j 0) hB i h3 (c_J0_charAt_5068e l K i j h3 (by omega)) mJ0_charAt_5068e dX2_standsNext_40 tb_632 pJ0_charAt_5068e rfl ⟨Nat.le_of_ble_eq_true rfl, Nat.le_of_ble_eq_true rfl⟩ ⟨rfl, rfl⟩ ⟨Nat.zero_le _, Nat.zero_le _⟩ rfl (Nat.le_of_ble_eq_true rfl) [0, 1, 2] rfl (by decide) ?_
          refine gx_icmp_eq (pc := 43) hB 48 dX2_standsNext_43 (by decide) (fun c_4 => ?_) (fun c_4 => ?_)
          · refine gx_iinc (pc := 48) hB dX2_standsNext_48 2 (by decide) rfl (nI (j + 1)) (nI_1 _) [(2, .int (nI (j + 1))), (0, .ref v), (1, .ref (K.2.2.1 i))] rfl ?_
            refine gx_goto (pc := 51) hB 20 dX2_standsNext_51 (by decide) ?_
            refine gx_sub hB (lv' := [(0, .ref v), (1, .ref (K.2.2.1 i)), (2, .int (nI (j + 1)))]) [1, 2, 0] rfl ?_
            exact ihf (j + 1) (by omega) (by show (swN X ln rd i j && _) = true; rw [hs]; exact decide_eq_true c_4)
          · have s_f0 : swN X ln rd i (j + 1) = false := by show (swN X ln rd i j && _) = false; rw [hs]; exact decide_eq_false c_4
            have s_f : swN X ln rd i (gx_len.getD i 0) = false := by have := swN_f s_f0 f; rwa [show j + 1 + f = (gx_len.getD i 0) by omega] at this
            have s_A : swA X ln rd i = false := by unfold swA; rw [s_f, Bool.and_false]
            refine gx_iconst (pc := 46) hB dX2_standsNext_46 0 (by decide) ?_
            have e1 : (bI (swA X ln rd i)) = 0 := by simp [bI, s_A]
            exact gx_zret (pc := 47) hC dX2_standsNext_47 (Nat.zero_le _) (Nat.zero_le _) (by decide) (⟨by rw [e1], rfl⟩)
    refine gx_sub hB (lv' := [(0, .ref v), (1, .ref (K.2.2.1 i)), (2, .int 0)]) [1, 2, 0] rfl ?_
    exact loop_20 (gx_len.getD i 0) 0 (Nat.zero_add _) rfl
  · have s_A : swA X ln rd i = false := by unfold swA; rw [decide_eq_false (fun q => q (Int32.not_le.mp c_1))]; rfl
    refine gx_iconst (pc := 16) hB dX2_standsNext_16 0 (by decide) ?_
    have e1 : (bI (swA X ln rd i)) = 0 := by simp [bI, s_A]
    exact gx_zret (pc := 17) hC dX2_standsNext_17 (Nat.zero_le _) (Nat.zero_le _) (by decide) (⟨by rw [e1], rfl⟩)
theorem pX2_readKind : (parseMethodDescriptor yX2_readKind.desc).map (fun d => d.parameters.length) = some 0 := by decide +kernel
theorem mX2_readKind : gx_M yX2_readKind cX2_readKind 3 (some .int) := ⟨tb_597, tb_27, tb_72, tb_598, by decide, by decide⟩
set_option maxHeartbeats 4000000 in
set_option maxRecDepth 100000 in
theorem c_X2_readKind (l : Launch) (K : gx_K) (v sg nu : Nat) (X : Nat → Int32) (ln : Nat) (N : Nat → Int32) (rd pl : Nat) (rs ca : Int32) (h0 : ln ≤ 80) (h1 : rd ≤ 200) (h2 : chOk X) : gx_Ctr l K yX2_readKind cX2_readKind 3 (some .int) (rmm 6 107) [.ref v] (wSc K v sg nu X ln N rd pl rs ca) (gx_D (some (.int (kdR X ln rd))) (wSc K v sg nu X ln N (kdP X ln rd) pl rs ca)) := by
  refine gx_of (by decide) (Nat.le_of_ble_eq_true rfl) (fun G hC => ?_)
  have hB := hC.b
  refine gx_lv (lv' := [(0, .ref v)]) rfl ?_
  refine gx_iconst (pc := 0) hB dX2_readKind_0 0 (by decide) ?_
  refine gx_istore_n (pc := 1) hB dX2_readKind_1 (by decide) [(1, .int 0), (0, .ref v)] rfl ?_
  have loop_2 : ∀ f i : Nat, i + f = 9 → kdF X ln rd f i = kdA X ln rd → G 0 0 (wSc K v sg nu X ln N rd pl rs ca) [(0, .ref v), (1, .int (nI i))] 2 [] := by
    intro f
    induction f with
    | zero =>
      intro i hi he
      refine gx_iload_n (pc := 2) hB dX2_readKind_2 1 rfl ?_
      refine gx_bipush (pc := 3) hB dX2_readKind_3 9 (by decide) ?_
      refine gx_icmp_ge (pc := 5) hB 42 dX2_readKind_5 (by decide) (fun c_1 => ?_) (fun c_1 => ?_)
      · have s_k : kdA X ln rd = 9 := by rw [← he]; show i = 9; omega
        refine gx_iconst (pc := 42) hB dX2_readKind_42 (-1) (by decide) ?_
        have e1 : (kdR X ln rd) = (-1) := by simp [kdR, kdP, s_k]
        have f0 : kdP X ln rd = rd := by simp [kdR, kdP, s_k]
        exact gx_iret (pc := 43) hC dX2_readKind_43 (Nat.zero_le _) (Nat.zero_le _) (⟨by rw [e1], by rw [f0]⟩)
      · exact absurd (by rw [show i = 9 by omega]; decide) c_1
    | succ f ihf =>
      intro i hi he
      refine gx_iload_n (pc := 2) hB dX2_readKind_2 1 rfl ?_
      refine gx_bipush (pc := 3) hB dX2_readKind_3 9 (by decide) ?_
      refine gx_icmp_ge (pc := 5) hB 42 dX2_readKind_5 (by decide) (fun c_2 => ?_) (fun c_2 => ?_)
      · exact absurd c_2 (nI_ge (b := 9) (by omega) (by decide))
      · refine gx_iload_n (pc := 8) hB dX2_readKind_8 1 rfl ?_
        refine gx_dSr (pc := 9) (r := (K.2.2.1 i)) (wr := [(v, .inr (2, [.ref sg, .int (nI ln), .ref nu, .int (nI rd), .int (nI pl), .int rs, .int ca])), (sg, .inl (K.2.1.1, 80, .inl X)), (nu, .inl (K.2.1.2.1, 4, .inl N))]) hB (c_X2_wordOf l K i (by omega)) mX2_wordOf dX2_readKind_9 tb_599 pX2_wordOf ⟨Nat.le_of_ble_eq_true rfl, Nat.le_of_ble_eq_true rfl⟩ ⟨rfl, rfl⟩ ⟨Nat.zero_le _, Nat.zero_le _⟩ rfl (Nat.le_of_ble_eq_true rfl) [] [0, 1, 2] rfl rfl (by decide) (by decide) (by decide) [0, 1, 2] (by decide) (wSc K v sg nu X ln N rd pl rs ca) rfl ?_
        refine gx_astore_n (pc := 12) hB dX2_readKind_12 (by decide) [(2, .ref (K.2.2.1 i)), (0, .ref v), (1, .int (nI i))] rfl ?_
        refine gx_aload_n (pc := 13) hB dX2_readKind_13 1 rfl ?_
        refine gx_aload_n (pc := 14) hB dX2_readKind_14 0 rfl ?_
        refine gx_dVi (pc := 15) (r := bI (swA X ln rd i)) (wr := []) hB (c_X2_standsNext l K v sg nu X ln N rd pl rs ca i (by first | assumption | omega | decide) (by first | assumption | omega | decide) (by first | assumption | omega | decide) (by omega)) mX2_standsNext dX2_readKind_15 tb_611 pX2_standsNext ⟨Nat.le_of_ble_eq_true rfl, Nat.le_of_ble_eq_true rfl⟩ ⟨rfl, rfl⟩ ⟨Nat.zero_le _, Nat.zero_le _⟩ rfl (Nat.le_of_ble_eq_true rfl) [0, 1, 2] [] rfl rfl (by decide) (by decide) (by decide) rfl rfl [0, 1, 2] (by decide) (wSc K v sg nu X ln N rd pl rs ca) rfl ?_
        refine gx_if_eq_b (pc := 18) hB 36 dX2_readKind_18 (by decide) (fun c_3 => ?_) (fun c_3 => ?_)
        · refine gx_iinc (pc := 36) hB dX2_readKind_36 2 (by decide) rfl (nI (i + 1)) (nI_1 _) [(1, .int (nI (i + 1))), (2, .ref (K.2.2.1 i)), (0, .ref v)] rfl ?_
          refine gx_goto (pc := 39) hB 2 dX2_readKind_39 (by decide) ?_
          refine gx_sub hB (lv' := [(0, .ref v), (1, .int (nI (i + 1)))]) [2, 0] rfl ?_
          exact ihf (i + 1) (by omega) (by rw [← he]; simp [kdF, c_3])
        · have hl6 := (gx_len_le i (by omega)).1
          have s_k : kdA X ln rd = i := by rw [← he]; simp [kdF, c_3]
          have s_9 : i < 9 := by omega
          refine gx_aload_n (pc := 21) hB dX2_readKind_21 1 rfl ?_
          refine gx_dup (pc := 22) hB dX2_readKind_22 rfl ?_
          refine gx_get (pc := 23) hB dX2_readKind_23 inX2 rfl 0 rfl 3 (by decide) tb_169 rfl rfl ?_
          refine gx_aload_n (pc := 26) hB dX2_readKind_26 0 rfl ?_
          refine gx_dT (pc := 27) (r := nI (gx_len.getD i 0)) hB i (show i < 9 by omega) (c_J0_length_8abf5 l K i (show i < 9 by omega)) mJ0_length_8abf5 dX2_readKind_27 tb_615 pJ0_length_8abf5 rfl ⟨Nat.le_of_ble_eq_true rfl, Nat.le_of_ble_eq_true rfl⟩ ⟨rfl, rfl⟩ ⟨Nat.zero_le _, Nat.zero_le _⟩ rfl (Nat.le_of_ble_eq_true rfl) [0, 1, 2] rfl (by decide) ?_
          refine gx_iadd (pc := 30) hB dX2_readKind_30 ?_
          refine gx_top (show nI rd + (nI (gx_len.getD i 0)) = nI (rd + (gx_len.getD i 0)) from nI_add rd (gx_len.getD i 0)) ?_
          refine gx_put (pc := 31) hB dX2_readKind_31 inX2 rfl tyX2 tyX2_ok nmX2 0 rfl 3 (by decide) tb_169 rfl rfl rfl rfl (Nat.le_of_ble_eq_true rfl) (wSc K v sg nu X ln N (rd + (gx_len.getD i 0)) pl rs ca) rfl ?_
          refine gx_iload_n (pc := 34) hB dX2_readKind_34 2 rfl ?_
          have e1 : (kdR X ln rd) = nI i := by simp [kdR, kdP, s_k, s_9]
          have f0 : kdP X ln rd = (rd + (gx_len.getD i 0)) := by simp [kdR, kdP, s_k, s_9]
          exact gx_iret (pc := 35) hC dX2_readKind_35 (Nat.zero_le _) (Nat.zero_le _) (⟨by rw [e1], by rw [f0]⟩)
  refine gx_sub hB (lv' := [(0, .ref v), (1, .int 0)]) [1, 0] rfl ?_
  exact loop_2 9 0 rfl rfl
theorem pX2_readCommand : (parseMethodDescriptor yX2_readCommand.desc).map (fun d => d.parameters.length) = some 0 := by decide +kernel
theorem mX2_readCommand : gx_M yX2_readCommand cX2_readCommand 4 (some .int) := ⟨tb_593, tb_26, tb_72, tb_594, by decide, by decide⟩
set_option maxHeartbeats 4000000 in
set_option maxRecDepth 100000 in
theorem c_X2_readCommand (l : Launch) (K : gx_K) (v sg nu : Nat) (X : Nat → Int32) (ln : Nat) (N : Nat → Int32) (rd pl : Nat) (rs ca : Int32) (h0 : ln ≤ 80) (h1 : rd ≤ 80) (h2 : chOk X) : gx_Ctr l K yX2_readCommand cX2_readCommand 4 (some .int) (rmm 7 129) [.ref v] (wSc K v sg nu X ln N rd pl rs ca) (gx_D (some (.int (rcK X ln rd N))) (wSc K v sg nu X ln (rcN X ln rd N) (rcP X ln rd N) pl rs ca)) := by
  refine gx_of (by decide) (Nat.le_of_ble_eq_true rfl) (fun G hC => ?_)
  have hB := hC.b
  refine gx_lv (lv' := [(0, .ref v)]) rfl ?_
  have hp6 := kdP_le (X := X) (ln := ln) h1
  have hb4 := nbM_le (kdA X ln rd)
  refine gx_aload_n (pc := 0) hB dX2_readCommand_0 0 rfl ?_
  refine gx_dVi (pc := 1) (r := (kdR X ln rd)) (wr := []) hB (c_X2_readKind l K v sg nu X ln N rd pl rs ca (by first | assumption | omega | decide) (by first | assumption | omega | decide) (by first | assumption | omega | decide)) mX2_readKind dX2_readCommand_1 tb_595 pX2_readKind ⟨Nat.le_of_ble_eq_true rfl, Nat.le_of_ble_eq_true rfl⟩ ⟨rfl, rfl⟩ ⟨Nat.zero_le _, Nat.zero_le _⟩ rfl (Nat.le_of_ble_eq_true rfl) [0, 1, 2] [] rfl rfl (by decide) (by decide) (by decide) rfl rfl [0, 1, 2] (by decide) (wSc K v sg nu X ln N (kdP X ln rd) pl rs ca) rfl ?_
  refine gx_istore_n (pc := 4) hB dX2_readCommand_4 (by decide) [(1, .int (kdR X ln rd)), (0, .ref v)] rfl ?_
  refine gx_iload_n (pc := 5) hB dX2_readCommand_5 0 rfl ?_
  refine gx_dSi (pc := 6) (r := (nbF (kdR X ln rd))) (wr := [(v, .inr (2, [.ref sg, .int (nI ln), .ref nu, .int (nI (kdP X ln rd)), .int (nI pl), .int rs, .int ca])), (sg, .inl (K.2.1.1, 80, .inl X)), (nu, .inl (K.2.1.2.1, 4, .inl N))]) hB (c_X2_numbersOf l K (kdR X ln rd) ) mX2_numbersOf dX2_readCommand_6 tb_670 pX2_numbersOf ⟨Nat.le_of_ble_eq_true rfl, Nat.le_of_ble_eq_true rfl⟩ ⟨rfl, rfl⟩ ⟨Nat.zero_le _, Nat.zero_le _⟩ rfl (Nat.le_of_ble_eq_true rfl) [] [0, 1, 2] rfl rfl (by decide) (by decide) (by decide) [0, 1, 2] (by decide) (wSc K v sg nu X ln N (kdP X ln rd) pl rs ca) rfl ?_
  refine gx_top (show (nbF (kdR X ln rd)) = nI (nbM (kdA X ln rd)) from nbF_kd) ?_
  refine gx_istore_n (pc := 9) hB dX2_readCommand_9 (by decide) [(2, .int (nI (nbM (kdA X ln rd)))), (1, .int (kdR X ln rd)), (0, .ref v)] rfl ?_
  refine gx_iconst (pc := 10) hB dX2_readCommand_10 0 (by decide) ?_
  refine gx_istore_n (pc := 11) hB dX2_readCommand_11 (by decide) [(3, .int 0), (2, .int (nI (nbM (kdA X ln rd)))), (1, .int (kdR X ln rd)), (0, .ref v)] rfl ?_
  have loop_12 : ∀ (f i r1 : Nat) (M1 : Nat → Int32), i + f = (nbM (kdA X ln rd)) → r1 ≤ 86 + 5 * i → rcL X ln f i r1 M1 = (rcA X ln rd N) → G 0 0 (wSc K v sg nu X ln M1 r1 pl rs ca) [(0, .ref v), (1, .int (kdR X ln rd)), (2, .int (nI (nbM (kdA X ln rd)))), (3, .int (nI i))] 12 [] := by
    intro f
    induction f with
    | zero =>
      intro i r1 M1 hi hr he
      refine gx_iload_n (pc := 12) hB dX2_readCommand_12 3 rfl ?_
      refine gx_iload_n (pc := 13) hB dX2_readCommand_13 2 rfl ?_
      refine gx_icmp_ge (pc := 14) hB 42 dX2_readCommand_14 (by decide) (fun c_1 => ?_) (fun c_1 => ?_)
      · have s_rc : (rcA X ln rd N) = (true, r1, M1) := by rw [← he]; rfl
        refine gx_aload_n (pc := 42) hB dX2_readCommand_42 0 rfl ?_
        refine gx_bipush (pc := 43) hB dX2_readCommand_43 59 (by decide) ?_
        refine gx_dVi (pc := 45) (r := bI (decide (sgn X ln r1 = 59))) (wr := []) hB (c_X2_readSign l K v sg nu X ln M1 r1 pl rs ca 59 (by first | assumption | omega | decide) (by first | assumption | omega | decide) (by first | assumption | omega | decide)) mX2_readSign dX2_readCommand_45 tb_673 pX2_readSign ⟨Nat.le_of_ble_eq_true rfl, Nat.le_of_ble_eq_true rfl⟩ ⟨rfl, rfl⟩ ⟨Nat.zero_le _, Nat.zero_le _⟩ rfl (Nat.le_of_ble_eq_true rfl) [0, 1, 2] [] rfl rfl (by decide) (by decide) (by decide) rfl rfl [0, 1, 2] (by decide) (wSc K v sg nu X ln M1 (if sgn X ln r1 = 59 then r1 + 1 else r1) pl rs ca) rfl ?_
        refine gx_if_eq_b (pc := 48) hB 55 dX2_readCommand_48 (by decide) (fun c_2 => ?_) (fun c_2 => ?_)
        · have s_59 : ¬ sgn X ln r1 = 59 := of_decide_eq_false c_2
          have q_3 : (if sgn X ln r1 = 59 then r1 + 1 else r1) = r1 := if_neg s_59
          refine gx_ws (ws' := wSc K v sg nu X ln M1 r1 pl rs ca) (by rw [q_3]) ?_
          refine gx_iconst (pc := 55) hB dX2_readCommand_55 (-1) (by decide) ?_
          have e1 : (rcK X ln rd N) = (-1) := by simp [rcK, rcP, rcN, s_rc, s_59]
          have f0 : rcN X ln rd N = M1 := by simp [rcK, rcP, rcN, s_rc, s_59]
          have f1 : rcP X ln rd N = r1 := by simp [rcK, rcP, rcN, s_rc, s_59]
          exact gx_iret (pc := 56) hC dX2_readCommand_56 (Nat.zero_le _) (Nat.zero_le _) (⟨by rw [e1], by rw [f0, f1]⟩)
        · have s_59 : sgn X ln r1 = 59 := of_decide_eq_true c_2
          have q_4 : (if sgn X ln r1 = 59 then r1 + 1 else r1) = (r1 + 1) := if_pos s_59
          refine gx_ws (ws' := wSc K v sg nu X ln M1 (r1 + 1) pl rs ca) (by rw [q_4]) ?_
          refine gx_iload_n (pc := 51) hB dX2_readCommand_51 1 rfl ?_
          refine gx_goto (pc := 52) hB 56 dX2_readCommand_52 (by decide) ?_
          have e1 : (rcK X ln rd N) = (kdR X ln rd) := by simp [rcK, rcP, rcN, s_rc, s_59]
          have f0 : rcN X ln rd N = M1 := by simp [rcK, rcP, rcN, s_rc, s_59]
          have f1 : rcP X ln rd N = (r1 + 1) := by simp [rcK, rcP, rcN, s_rc, s_59]
          exact gx_iret (pc := 56) hC dX2_readCommand_56 (Nat.zero_le _) (Nat.zero_le _) (⟨by rw [e1], by rw [f0, f1]⟩)
      · exact absurd (nI_le (show (nbM (kdA X ln rd)) ≤ i by omega) (by omega)) c_1
    | succ f ihf =>
      intro i r1 M1 hi hr he
      refine gx_iload_n (pc := 12) hB dX2_readCommand_12 3 rfl ?_
      refine gx_iload_n (pc := 13) hB dX2_readCommand_13 2 rfl ?_
      refine gx_icmp_ge (pc := 14) hB 42 dX2_readCommand_14 (by decide) (fun c_5 => ?_) (fun c_5 => ?_)
      · exact absurd c_5 (nI_ge (by omega) (by omega))
      · refine gx_aload_n (pc := 17) hB dX2_readCommand_17 0 rfl ?_
        refine gx_bipush (pc := 18) hB dX2_readCommand_18 32 (by decide) ?_
        refine gx_dVi (pc := 20) (r := bI (decide (sgn X ln r1 = 32))) (wr := []) hB (c_X2_readSign l K v sg nu X ln M1 r1 pl rs ca 32 (by first | assumption | omega | decide) (by first | assumption | omega | decide) (by first | assumption | omega | decide)) mX2_readSign dX2_readCommand_20 tb_673 pX2_readSign ⟨Nat.le_of_ble_eq_true rfl, Nat.le_of_ble_eq_true rfl⟩ ⟨rfl, rfl⟩ ⟨Nat.zero_le _, Nat.zero_le _⟩ rfl (Nat.le_of_ble_eq_true rfl) [0, 1, 2] [] rfl rfl (by decide) (by decide) (by decide) rfl rfl [0, 1, 2] (by decide) (wSc K v sg nu X ln M1 (if sgn X ln r1 = 32 then r1 + 1 else r1) pl rs ca) rfl ?_
        refine gx_if_eq_b (pc := 23) hB 34 dX2_readCommand_23 (by decide) (fun c_6 => ?_) (fun c_6 => ?_)
        · have s_32 : ¬ sgn X ln r1 = 32 := of_decide_eq_false c_6
          have q_7 : (if sgn X ln r1 = 32 then r1 + 1 else r1) = r1 := if_neg s_32
          refine gx_ws (ws' := wSc K v sg nu X ln M1 r1 pl rs ca) (by rw [q_7]) ?_
          have s_rc : (rcA X ln rd N) = (false, r1, M1) := by rw [← he]; simp [rcL, s_32]
          refine gx_iconst (pc := 34) hB dX2_readCommand_34 (-1) (by decide) ?_
          have e1 : (rcK X ln rd N) = (-1) := by simp [rcK, rcP, rcN, s_rc]
          have f0 : rcN X ln rd N = M1 := by simp [rcK, rcP, rcN, s_rc]
          have f1 : rcP X ln rd N = r1 := by simp [rcK, rcP, rcN, s_rc]
          exact gx_iret (pc := 35) hC dX2_readCommand_35 (Nat.zero_le _) (Nat.zero_le _) (⟨by rw [e1], by rw [f0, f1]⟩)
        · have s_32 : sgn X ln r1 = 32 := of_decide_eq_true c_6
          have q_8 : (if sgn X ln r1 = 32 then r1 + 1 else r1) = (r1 + 1) := if_pos s_32
          refine gx_ws (ws' := wSc K v sg nu X ln M1 (r1 + 1) pl rs ca) (by rw [q_8]) ?_
          refine gx_aload_n (pc := 26) hB dX2_readCommand_26 0 rfl ?_
          refine gx_iload_n (pc := 27) hB dX2_readCommand_27 3 rfl ?_
          refine gx_dVi (pc := 28) (r := bI (!decide ((dxN X ln (r1 + 1)) = 0) && bIn (nI i) 0 3)) (wr := []) hB (c_X2_readNumber l K v sg nu X ln M1 (r1 + 1) pl rs ca (nI i) (by first | assumption | omega | decide) (by first | assumption | omega | decide) (by first | assumption | omega | decide)) mX2_readNumber dX2_readCommand_28 tb_677 pX2_readNumber ⟨Nat.le_of_ble_eq_true rfl, Nat.le_of_ble_eq_true rfl⟩ ⟨rfl, rfl⟩ ⟨Nat.zero_le _, Nat.zero_le _⟩ rfl (Nat.le_of_ble_eq_true rfl) [0, 1, 2] [] rfl rfl (by decide) (by decide) (by decide) rfl rfl [0, 1, 2] (by decide) (wSc K v sg nu X ln (if (!decide ((dxN X ln (r1 + 1)) = 0) && bIn (nI i) 0 3) then upd M1 (nI i).toNatClampNeg (dxV X ln (r1 + 1) (dxN X ln (r1 + 1))) else M1) ((r1 + 1) + (dxN X ln (r1 + 1))) pl rs ca) rfl ?_
          refine gx_if_ne_b (pc := 31) hB 36 dX2_readCommand_31 (by decide) (fun c_9 => ?_) (fun c_9 => ?_)
          · have s_d : ¬ dxN X ln (r1 + 1) = 0 := by have q := c_9; rw [b03 (by omega), Bool.and_true, Bool.not_eq_true'] at q; exact of_decide_eq_false q
            have q_10 : (if (!decide ((dxN X ln (r1 + 1)) = 0) && bIn (nI i) 0 3) then upd M1 (nI i).toNatClampNeg (dxV X ln (r1 + 1) (dxN X ln (r1 + 1))) else M1) = (upd M1 i (dxV X ln (r1 + 1) (dxN X ln (r1 + 1)))) := by rw [if_pos c_9, nI_clamp (by omega)]
            refine gx_ws (ws' := wSc K v sg nu X ln (upd M1 i (dxV X ln (r1 + 1) (dxN X ln (r1 + 1)))) ((r1 + 1) + (dxN X ln (r1 + 1))) pl rs ca) (by rw [q_10]) ?_
            refine gx_iinc (pc := 36) hB dX2_readCommand_36 3 (by decide) rfl (nI (i + 1)) (nI_1 _) [(3, .int (nI (i + 1))), (0, .ref v), (1, .int (kdR X ln rd)), (2, .int (nI (nbM (kdA X ln rd))))] rfl ?_
            refine gx_goto (pc := 39) hB 12 dX2_readCommand_39 (by decide) ?_
            refine gx_sub hB (lv' := [(0, .ref v), (1, .int (kdR X ln rd)), (2, .int (nI (nbM (kdA X ln rd)))), (3, .int (nI (i + 1)))]) [1, 2, 3, 0] rfl ?_
            have h4 := @dxN_le X ln (r1 + 1)
            exact ihf (i + 1) _ _ (by omega) (by omega) (by rw [← he]; simp [rcL, s_32, s_d])
          · have s_d : dxN X ln (r1 + 1) = 0 := by have q := c_9; rw [b03 (by omega), Bool.and_true, Bool.not_eq_false'] at q; exact of_decide_eq_true q
            have q_11 : (if (!decide ((dxN X ln (r1 + 1)) = 0) && bIn (nI i) 0 3) then upd M1 (nI i).toNatClampNeg (dxV X ln (r1 + 1) (dxN X ln (r1 + 1))) else M1) = M1 := if_neg (by rw [c_9]; decide)
            refine gx_ws (ws' := wSc K v sg nu X ln M1 ((r1 + 1) + (dxN X ln (r1 + 1))) pl rs ca) (by rw [q_11]) ?_
            have s_rc : (rcA X ln rd N) = (false, r1 + 1 + dxN X ln (r1 + 1), M1) := by rw [← he]; simp [rcL, s_32, s_d]
            refine gx_iconst (pc := 34) hB dX2_readCommand_34 (-1) (by decide) ?_
            have e1 : (rcK X ln rd N) = (-1) := by simp [rcK, rcP, rcN, s_rc]
            have f0 : rcN X ln rd N = M1 := by simp [rcK, rcP, rcN, s_rc]
            have f1 : rcP X ln rd N = ((r1 + 1) + (dxN X ln (r1 + 1))) := by simp [rcK, rcP, rcN, s_rc]
            exact gx_iret (pc := 35) hC dX2_readCommand_35 (Nat.zero_le _) (Nat.zero_le _) (⟨by rw [e1], by rw [f0, f1]⟩)
  refine gx_sub hB (lv' := [(0, .ref v), (1, .int (kdR X ln rd)), (2, .int (nI (nbM (kdA X ln rd)))), (3, .int 0)]) [3, 2, 1, 0] rfl ?_
  exact loop_12 (nbM (kdA X ln rd)) 0 (kdP X ln rd) N (Nat.zero_add _) hp6 rfl
theorem pX2_perform : (parseMethodDescriptor yX2_perform.desc).map (fun d => d.parameters.length) = some 2 := by decide +kernel
theorem mX2_perform : gx_M yX2_perform cX2_perform 3 (some .int) := ⟨tb_687, tb_33, tb_72, tb_688, by decide, by decide⟩
set_option maxHeartbeats 4000000 in
set_option maxRecDepth 100000 in
theorem c_X2_perform (l : Launch) (K : gx_K) (v sg nu : Nat) (X : Nat → Int32) (ln : Nat) (N : Nat → Int32) (rd pl : Nat) (rs ca : Int32) (h t1 t2 t3 t4 c : Nat) (C : Nat → Int32) (x : Int32)  : gx_Ctr l K yX2_perform cX2_perform 3 (some .int) (rmm 5 97) [.ref v, .int x, .ref h] (wSB K v sg nu X ln N rd pl rs ca h t1 t2 t3 t4 c C) (gx_D (some (.int ((pfB C N x).1))) (wSB K v sg nu X ln N rd pl rs ca h t1 t2 t3 t4 c ((pfB C N x).2))) := by
  refine gx_of (by decide) (Nat.le_of_ble_eq_true rfl) (fun G hC => ?_)
  have hB := hC.b
  refine gx_lv (lv' := [(0, .ref v), (1, .int x), (2, .ref h)]) rfl ?_
  refine gx_iload_n (pc := 0) hB dX2_perform_0 1 rfl ?_
  by_cases c_1 : x = 0
  · refine gx_top c_1 ?_
    refine gx_tableIn (pc := 1) hB 52 dX2_perform_1 (by decide) (by decide) rfl (by decide) ?_
    have s_1 := c_1
    refine gx_aload_n (pc := 52) hB dX2_perform_52 2 rfl ?_
    refine gx_aload_n (pc := 53) hB dX2_perform_53 0 rfl ?_
    refine gx_get (pc := 54) hB dX2_perform_54 inX2 rfl 0 rfl 2 (by decide) tb_168 rfl rfl ?_
    refine gx_iconst (pc := 57) hB dX2_perform_57 0 (by decide) ?_
    refine gx_iald (pc := 58) hB dX2_perform_58 2 1 rfl rfl 0 rfl (by decide) (by decide) ?_
    refine gx_aload_n (pc := 59) hB dX2_perform_59 0 rfl ?_
    refine gx_get (pc := 60) hB dX2_perform_60 inX2 rfl 0 rfl 2 (by decide) tb_168 rfl rfl ?_
    refine gx_iconst (pc := 63) hB dX2_perform_63 1 (by decide) ?_
    refine gx_iald (pc := 64) hB dX2_perform_64 2 1 rfl rfl 1 rfl (by decide) (by decide) ?_
    refine gx_aload_n (pc := 65) hB dX2_perform_65 0 rfl ?_
    refine gx_get (pc := 66) hB dX2_perform_66 inX2 rfl 0 rfl 2 (by decide) tb_168 rfl rfl ?_
    refine gx_iconst (pc := 69) hB dX2_perform_69 2 (by decide) ?_
    refine gx_iald (pc := 70) hB dX2_perform_70 2 1 rfl rfl 2 rfl (by decide) (by decide) ?_
    refine gx_dVi (pc := 71) (r := (bGive C (N 0) (N 1) (N 2)).1) (wr := [(v, .inr (2, [.ref sg, .int (nI ln), .ref nu, .int (nI rd), .int (nI pl), .int rs, .int ca])), (sg, .inl (K.2.1.1, 80, .inl X)), (nu, .inl (K.2.1.2.1, 4, .inl N))]) hB (c_X0_addGift l K h t1 t2 t3 t4 c C (N 0) (N 1) (N 2) ) mX0_addGift dX2_perform_71 tb_689 pX0_addGift ⟨Nat.le_of_ble_eq_true rfl, Nat.le_of_ble_eq_true rfl⟩ ⟨rfl, rfl⟩ ⟨Nat.zero_le _, Nat.zero_le _⟩ rfl (Nat.le_of_ble_eq_true rfl) [3, 4, 5, 6, 7, 8] [0, 1, 2] rfl rfl (by decide) (by decide) (by decide) rfl rfl [0, 1, 2, 3, 4, 5, 6, 7, 8] (by decide) (wSB K v sg nu X ln N rd pl rs ca h t1 t2 t3 t4 c ((bGive C (N 0) (N 1) (N 2)).2)) rfl ?_
    have e1 : ((pfB C N x).1) = ((bGive C (N 0) (N 1) (N 2)).1) := by simp [pfB, s_1]
    have f0 : ((pfB C N x).2) = ((bGive C (N 0) (N 1) (N 2)).2) := by simp [pfB, s_1]
    exact gx_iret (pc := 74) hC dX2_perform_74 (Nat.zero_le _) (Nat.zero_le _) (⟨by rw [e1], by rw [f0]⟩)
  by_cases c_2 : x = 1
  · refine gx_top c_2 ?_
    refine gx_tableIn (pc := 1) hB 75 dX2_perform_1 (by decide) (by decide) rfl (by decide) ?_
    have s_2 := c_2
    refine gx_aload_n (pc := 75) hB dX2_perform_75 2 rfl ?_
    refine gx_aload_n (pc := 76) hB dX2_perform_76 0 rfl ?_
    refine gx_get (pc := 77) hB dX2_perform_77 inX2 rfl 0 rfl 2 (by decide) tb_168 rfl rfl ?_
    refine gx_iconst (pc := 80) hB dX2_perform_80 0 (by decide) ?_
    refine gx_iald (pc := 81) hB dX2_perform_81 2 1 rfl rfl 0 rfl (by decide) (by decide) ?_
    refine gx_aload_n (pc := 82) hB dX2_perform_82 0 rfl ?_
    refine gx_get (pc := 83) hB dX2_perform_83 inX2 rfl 0 rfl 2 (by decide) tb_168 rfl rfl ?_
    refine gx_iconst (pc := 86) hB dX2_perform_86 1 (by decide) ?_
    refine gx_iald (pc := 87) hB dX2_perform_87 2 1 rfl rfl 1 rfl (by decide) (by decide) ?_
    refine gx_aload_n (pc := 88) hB dX2_perform_88 0 rfl ?_
    refine gx_get (pc := 89) hB dX2_perform_89 inX2 rfl 0 rfl 2 (by decide) tb_168 rfl rfl ?_
    refine gx_iconst (pc := 92) hB dX2_perform_92 2 (by decide) ?_
    refine gx_iald (pc := 93) hB dX2_perform_93 2 1 rfl rfl 2 rfl (by decide) (by decide) ?_
    refine gx_aload_n (pc := 94) hB dX2_perform_94 0 rfl ?_
    refine gx_get (pc := 95) hB dX2_perform_95 inX2 rfl 0 rfl 2 (by decide) tb_168 rfl rfl ?_
    refine gx_iconst (pc := 98) hB dX2_perform_98 3 (by decide) ?_
    refine gx_iald (pc := 99) hB dX2_perform_99 2 1 rfl rfl 3 rfl (by decide) (by decide) ?_
    refine gx_dVi (pc := 100) (r := (bPledge C (N 0) (N 1) (N 2) (N 3)).1) (wr := [(v, .inr (2, [.ref sg, .int (nI ln), .ref nu, .int (nI rd), .int (nI pl), .int rs, .int ca])), (sg, .inl (K.2.1.1, 80, .inl X)), (nu, .inl (K.2.1.2.1, 4, .inl N))]) hB (c_X0_addPledge l K h t1 t2 t3 t4 c C (N 0) (N 1) (N 2) (N 3) ) mX0_addPledge dX2_perform_100 tb_690 pX0_addPledge ⟨Nat.le_of_ble_eq_true rfl, Nat.le_of_ble_eq_true rfl⟩ ⟨rfl, rfl⟩ ⟨Nat.zero_le _, Nat.zero_le _⟩ rfl (Nat.le_of_ble_eq_true rfl) [3, 4, 5, 6, 7, 8] [0, 1, 2] rfl rfl (by decide) (by decide) (by decide) rfl rfl [0, 1, 2, 3, 4, 5, 6, 7, 8] (by decide) (wSB K v sg nu X ln N rd pl rs ca h t1 t2 t3 t4 c ((bPledge C (N 0) (N 1) (N 2) (N 3)).2)) rfl ?_
    have e1 : ((pfB C N x).1) = ((bPledge C (N 0) (N 1) (N 2) (N 3)).1) := by simp [pfB, eq_false c_1, s_2]
    have f0 : ((pfB C N x).2) = ((bPledge C (N 0) (N 1) (N 2) (N 3)).2) := by simp [pfB, eq_false c_1, s_2]
    exact gx_iret (pc := 103) hC dX2_perform_103 (Nat.zero_le _) (Nat.zero_le _) (⟨by rw [e1], by rw [f0]⟩)
  by_cases c_3 : x = 2
  · refine gx_top c_3 ?_
    refine gx_tableIn (pc := 1) hB 104 dX2_perform_1 (by decide) (by decide) rfl (by decide) ?_
    have s_3 := c_3
    refine gx_aload_n (pc := 104) hB dX2_perform_104 2 rfl ?_
    refine gx_aload_n (pc := 105) hB dX2_perform_105 0 rfl ?_
    refine gx_get (pc := 106) hB dX2_perform_106 inX2 rfl 0 rfl 2 (by decide) tb_168 rfl rfl ?_
    refine gx_iconst (pc := 109) hB dX2_perform_109 0 (by decide) ?_
    refine gx_iald (pc := 110) hB dX2_perform_110 2 1 rfl rfl 0 rfl (by decide) (by decide) ?_
    refine gx_dVi (pc := 111) (r := (bMiss C (N 0)).1) (wr := [(v, .inr (2, [.ref sg, .int (nI ln), .ref nu, .int (nI rd), .int (nI pl), .int rs, .int ca])), (sg, .inl (K.2.1.1, 80, .inl X)), (nu, .inl (K.2.1.2.1, 4, .inl N))]) hB (c_X0_tellMiss l K h t1 t2 t3 t4 c C (N 0) ) mX0_tellMiss dX2_perform_111 tb_691 pX0_tellMiss ⟨Nat.le_of_ble_eq_true rfl, Nat.le_of_ble_eq_true rfl⟩ ⟨rfl, rfl⟩ ⟨Nat.zero_le _, Nat.zero_le _⟩ rfl (Nat.le_of_ble_eq_true rfl) [3, 4, 5, 6, 7, 8] [0, 1, 2] rfl rfl (by decide) (by decide) (by decide) rfl rfl [0, 1, 2, 3, 4, 5, 6, 7, 8] (by decide) (wSB K v sg nu X ln N rd pl rs ca h t1 t2 t3 t4 c ((bMiss C (N 0)).2)) rfl ?_
    have e1 : ((pfB C N x).1) = ((bMiss C (N 0)).1) := by simp [pfB, eq_false c_1, eq_false c_2, s_3]
    have f0 : ((pfB C N x).2) = ((bMiss C (N 0)).2) := by simp [pfB, eq_false c_1, eq_false c_2, s_3]
    exact gx_iret (pc := 114) hC dX2_perform_114 (Nat.zero_le _) (Nat.zero_le _) (⟨by rw [e1], by rw [f0]⟩)
  by_cases c_4 : x = 3
  · refine gx_top c_4 ?_
    refine gx_tableIn (pc := 1) hB 115 dX2_perform_1 (by decide) (by decide) rfl (by decide) ?_
    have s_4 := c_4
    refine gx_aload_n (pc := 115) hB dX2_perform_115 2 rfl ?_
    refine gx_iconst (pc := 116) hB dX2_perform_116 (-1) (by decide) ?_
    refine gx_dVi (pc := 117) (r := (bClaim C (-1)).1) (wr := [(v, .inr (2, [.ref sg, .int (nI ln), .ref nu, .int (nI rd), .int (nI pl), .int rs, .int ca])), (sg, .inl (K.2.1.1, 80, .inl X)), (nu, .inl (K.2.1.2.1, 4, .inl N))]) hB (c_X0_claimGifts l K h t1 t2 t3 t4 c C (-1) ) mX0_claimGifts dX2_perform_117 tb_692 pX0_claimGifts ⟨Nat.le_of_ble_eq_true rfl, Nat.le_of_ble_eq_true rfl⟩ ⟨rfl, rfl⟩ ⟨Nat.zero_le _, Nat.zero_le _⟩ rfl (Nat.le_of_ble_eq_true rfl) [3, 4, 5, 6, 7, 8] [0, 1, 2] rfl rfl (by decide) (by decide) (by decide) rfl rfl [0, 1, 2, 3, 4, 5, 6, 7, 8] (by decide) (wSB K v sg nu X ln N rd pl rs ca h t1 t2 t3 t4 c ((bClaim C (-1)).2)) rfl ?_
    have e1 : ((pfB C N x).1) = ((bClaim C (-1)).1) := by simp [pfB, eq_false c_1, eq_false c_2, eq_false c_3, s_4]
    have f0 : ((pfB C N x).2) = ((bClaim C (-1)).2) := by simp [pfB, eq_false c_1, eq_false c_2, eq_false c_3, s_4]
    exact gx_iret (pc := 120) hC dX2_perform_120 (Nat.zero_le _) (Nat.zero_le _) (⟨by rw [e1], by rw [f0]⟩)
  by_cases c_5 : x = 4
  · refine gx_top c_5 ?_
    refine gx_tableIn (pc := 1) hB 121 dX2_perform_1 (by decide) (by decide) rfl (by decide) ?_
    have s_5 := c_5
    refine gx_aload_n (pc := 121) hB dX2_perform_121 2 rfl ?_
    refine gx_aload_n (pc := 122) hB dX2_perform_122 0 rfl ?_
    refine gx_get (pc := 123) hB dX2_perform_123 inX2 rfl 0 rfl 2 (by decide) tb_168 rfl rfl ?_
    refine gx_iconst (pc := 126) hB dX2_perform_126 0 (by decide) ?_
    refine gx_iald (pc := 127) hB dX2_perform_127 2 1 rfl rfl 0 rfl (by decide) (by decide) ?_
    refine gx_aload_n (pc := 128) hB dX2_perform_128 0 rfl ?_
    refine gx_get (pc := 129) hB dX2_perform_129 inX2 rfl 0 rfl 2 (by decide) tb_168 rfl rfl ?_
    refine gx_iconst (pc := 132) hB dX2_perform_132 1 (by decide) ?_
    refine gx_iald (pc := 133) hB dX2_perform_133 2 1 rfl rfl 1 rfl (by decide) (by decide) ?_
    refine gx_dVi (pc := 134) (r := (bSpend C (N 0) (N 1)).1) (wr := [(v, .inr (2, [.ref sg, .int (nI ln), .ref nu, .int (nI rd), .int (nI pl), .int rs, .int ca])), (sg, .inl (K.2.1.1, 80, .inl X)), (nu, .inl (K.2.1.2.1, 4, .inl N))]) hB (c_X0_spendOn l K h t1 t2 t3 t4 c C (N 0) (N 1) ) mX0_spendOn dX2_perform_134 tb_693 pX0_spendOn ⟨Nat.le_of_ble_eq_true rfl, Nat.le_of_ble_eq_true rfl⟩ ⟨rfl, rfl⟩ ⟨Nat.zero_le _, Nat.zero_le _⟩ rfl (Nat.le_of_ble_eq_true rfl) [3, 4, 5, 6, 7, 8] [0, 1, 2] rfl rfl (by decide) (by decide) (by decide) rfl rfl [0, 1, 2, 3, 4, 5, 6, 7, 8] (by decide) (wSB K v sg nu X ln N rd pl rs ca h t1 t2 t3 t4 c ((bSpend C (N 0) (N 1)).2)) rfl ?_
    have e1 : ((pfB C N x).1) = ((bSpend C (N 0) (N 1)).1) := by simp [pfB, eq_false c_1, eq_false c_2, eq_false c_3, eq_false c_4, s_5]
    have f0 : ((pfB C N x).2) = ((bSpend C (N 0) (N 1)).2) := by simp [pfB, eq_false c_1, eq_false c_2, eq_false c_3, eq_false c_4, s_5]
    exact gx_iret (pc := 137) hC dX2_perform_137 (Nat.zero_le _) (Nat.zero_le _) (⟨by rw [e1], by rw [f0]⟩)
  by_cases c_6 : x = 5
  · refine gx_top c_6 ?_
    refine gx_tableIn (pc := 1) hB 138 dX2_perform_1 (by decide) (by decide) rfl (by decide) ?_
    have s_6 := c_6
    refine gx_aload_n (pc := 138) hB dX2_perform_138 2 rfl ?_
    refine gx_aload_n (pc := 139) hB dX2_perform_139 0 rfl ?_
    refine gx_get (pc := 140) hB dX2_perform_140 inX2 rfl 0 rfl 2 (by decide) tb_168 rfl rfl ?_
    refine gx_iconst (pc := 143) hB dX2_perform_143 0 (by decide) ?_
    refine gx_iald (pc := 144) hB dX2_perform_144 2 1 rfl rfl 0 rfl (by decide) (by decide) ?_
    refine gx_aload_n (pc := 145) hB dX2_perform_145 0 rfl ?_
    refine gx_get (pc := 146) hB dX2_perform_146 inX2 rfl 0 rfl 2 (by decide) tb_168 rfl rfl ?_
    refine gx_iconst (pc := 149) hB dX2_perform_149 1 (by decide) ?_
    refine gx_iald (pc := 150) hB dX2_perform_150 2 1 rfl rfl 1 rfl (by decide) (by decide) ?_
    refine gx_aload_n (pc := 151) hB dX2_perform_151 0 rfl ?_
    refine gx_get (pc := 152) hB dX2_perform_152 inX2 rfl 0 rfl 2 (by decide) tb_168 rfl rfl ?_
    refine gx_iconst (pc := 155) hB dX2_perform_155 2 (by decide) ?_
    refine gx_iald (pc := 156) hB dX2_perform_156 2 1 rfl rfl 2 rfl (by decide) (by decide) ?_
    refine gx_dVi (pc := 157) (r := (bAgree C (N 0) (N 1) (N 2)).1) (wr := [(v, .inr (2, [.ref sg, .int (nI ln), .ref nu, .int (nI rd), .int (nI pl), .int rs, .int ca])), (sg, .inl (K.2.1.1, 80, .inl X)), (nu, .inl (K.2.1.2.1, 4, .inl N))]) hB (c_X0_consentTo l K h t1 t2 t3 t4 c C (N 0) (N 1) (N 2) ) mX0_consentTo dX2_perform_157 tb_694 pX0_consentTo ⟨Nat.le_of_ble_eq_true rfl, Nat.le_of_ble_eq_true rfl⟩ ⟨rfl, rfl⟩ ⟨Nat.zero_le _, Nat.zero_le _⟩ rfl (Nat.le_of_ble_eq_true rfl) [3, 4, 5, 6, 7, 8] [0, 1, 2] rfl rfl (by decide) (by decide) (by decide) rfl rfl [0, 1, 2, 3, 4, 5, 6, 7, 8] (by decide) (wSB K v sg nu X ln N rd pl rs ca h t1 t2 t3 t4 c ((bAgree C (N 0) (N 1) (N 2)).2)) rfl ?_
    have e1 : ((pfB C N x).1) = ((bAgree C (N 0) (N 1) (N 2)).1) := by simp [pfB, eq_false c_1, eq_false c_2, eq_false c_3, eq_false c_4, eq_false c_5, s_6]
    have f0 : ((pfB C N x).2) = ((bAgree C (N 0) (N 1) (N 2)).2) := by simp [pfB, eq_false c_1, eq_false c_2, eq_false c_3, eq_false c_4, eq_false c_5, s_6]
    exact gx_iret (pc := 160) hC dX2_perform_160 (Nat.zero_le _) (Nat.zero_le _) (⟨by rw [e1], by rw [f0]⟩)
  by_cases c_7 : x = 6
  · refine gx_top c_7 ?_
    refine gx_tableIn (pc := 1) hB 161 dX2_perform_1 (by decide) (by decide) rfl (by decide) ?_
    have s_7 := c_7
    refine gx_aload_n (pc := 161) hB dX2_perform_161 2 rfl ?_
    refine gx_aload_n (pc := 162) hB dX2_perform_162 0 rfl ?_
    refine gx_get (pc := 163) hB dX2_perform_163 inX2 rfl 0 rfl 2 (by decide) tb_168 rfl rfl ?_
    refine gx_iconst (pc := 166) hB dX2_perform_166 0 (by decide) ?_
    refine gx_iald (pc := 167) hB dX2_perform_167 2 1 rfl rfl 0 rfl (by decide) (by decide) ?_
    refine gx_aload_n (pc := 168) hB dX2_perform_168 0 rfl ?_
    refine gx_get (pc := 169) hB dX2_perform_169 inX2 rfl 0 rfl 2 (by decide) tb_168 rfl rfl ?_
    refine gx_iconst (pc := 172) hB dX2_perform_172 1 (by decide) ?_
    refine gx_iald (pc := 173) hB dX2_perform_173 2 1 rfl rfl 1 rfl (by decide) (by decide) ?_
    refine gx_dVi (pc := 174) (r := (bMerge C (N 0) (N 1)).1) (wr := [(v, .inr (2, [.ref sg, .int (nI ln), .ref nu, .int (nI rd), .int (nI pl), .int rs, .int ca])), (sg, .inl (K.2.1.1, 80, .inl X)), (nu, .inl (K.2.1.2.1, 4, .inl N))]) hB (c_X0_mergePurpose l K h t1 t2 t3 t4 c C (N 0) (N 1) ) mX0_mergePurpose dX2_perform_174 tb_695 pX0_mergePurpose ⟨Nat.le_of_ble_eq_true rfl, Nat.le_of_ble_eq_true rfl⟩ ⟨rfl, rfl⟩ ⟨Nat.zero_le _, Nat.zero_le _⟩ rfl (Nat.le_of_ble_eq_true rfl) [3, 4, 5, 6, 7, 8] [0, 1, 2] rfl rfl (by decide) (by decide) (by decide) rfl rfl [0, 1, 2, 3, 4, 5, 6, 7, 8] (by decide) (wSB K v sg nu X ln N rd pl rs ca h t1 t2 t3 t4 c ((bMerge C (N 0) (N 1)).2)) rfl ?_
    have e1 : ((pfB C N x).1) = ((bMerge C (N 0) (N 1)).1) := by simp [pfB, eq_false c_1, eq_false c_2, eq_false c_3, eq_false c_4, eq_false c_5, eq_false c_6, s_7]
    have f0 : ((pfB C N x).2) = ((bMerge C (N 0) (N 1)).2) := by simp [pfB, eq_false c_1, eq_false c_2, eq_false c_3, eq_false c_4, eq_false c_5, eq_false c_6, s_7]
    exact gx_iret (pc := 177) hC dX2_perform_177 (Nat.zero_le _) (Nat.zero_le _) (⟨by rw [e1], by rw [f0]⟩)
  by_cases c_8 : x = 7
  · refine gx_top c_8 ?_
    refine gx_tableIn (pc := 1) hB 178 dX2_perform_1 (by decide) (by decide) rfl (by decide) ?_
    have s_8 := c_8
    refine gx_aload_n (pc := 178) hB dX2_perform_178 2 rfl ?_
    refine gx_aload_n (pc := 179) hB dX2_perform_179 0 rfl ?_
    refine gx_get (pc := 180) hB dX2_perform_180 inX2 rfl 0 rfl 2 (by decide) tb_168 rfl rfl ?_
    refine gx_iconst (pc := 183) hB dX2_perform_183 0 (by decide) ?_
    refine gx_iald (pc := 184) hB dX2_perform_184 2 1 rfl rfl 0 rfl (by decide) (by decide) ?_
    refine gx_dVi (pc := 185) (r := (bRefund C (N 0)).1) (wr := [(v, .inr (2, [.ref sg, .int (nI ln), .ref nu, .int (nI rd), .int (nI pl), .int rs, .int ca])), (sg, .inl (K.2.1.1, 80, .inl X)), (nu, .inl (K.2.1.2.1, 4, .inl N))]) hB (c_X0_refundGift l K h t1 t2 t3 t4 c C (N 0) ) mX0_refundGift dX2_perform_185 tb_696 pX0_refundGift ⟨Nat.le_of_ble_eq_true rfl, Nat.le_of_ble_eq_true rfl⟩ ⟨rfl, rfl⟩ ⟨Nat.zero_le _, Nat.zero_le _⟩ rfl (Nat.le_of_ble_eq_true rfl) [3, 4, 5, 6, 7, 8] [0, 1, 2] rfl rfl (by decide) (by decide) (by decide) rfl rfl [0, 1, 2, 3, 4, 5, 6, 7, 8] (by decide) (wSB K v sg nu X ln N rd pl rs ca h t1 t2 t3 t4 c ((bRefund C (N 0)).2)) rfl ?_
    have e1 : ((pfB C N x).1) = ((bRefund C (N 0)).1) := by simp [pfB, eq_false c_1, eq_false c_2, eq_false c_3, eq_false c_4, eq_false c_5, eq_false c_6, eq_false c_7, s_8]
    have f0 : ((pfB C N x).2) = ((bRefund C (N 0)).2) := by simp [pfB, eq_false c_1, eq_false c_2, eq_false c_3, eq_false c_4, eq_false c_5, eq_false c_6, eq_false c_7, s_8]
    exact gx_iret (pc := 188) hC dX2_perform_188 (Nat.zero_le _) (Nat.zero_le _) (⟨by rw [e1], by rw [f0]⟩)
  by_cases c_9 : x = 8
  · refine gx_top c_9 ?_
    refine gx_tableIn (pc := 1) hB 189 dX2_perform_1 (by decide) (by decide) rfl (by decide) ?_
    have s_9 := c_9
    refine gx_aload_n (pc := 189) hB dX2_perform_189 2 rfl ?_
    refine gx_aload_n (pc := 190) hB dX2_perform_190 0 rfl ?_
    refine gx_get (pc := 191) hB dX2_perform_191 inX2 rfl 0 rfl 2 (by decide) tb_168 rfl rfl ?_
    refine gx_iconst (pc := 194) hB dX2_perform_194 0 (by decide) ?_
    refine gx_iald (pc := 195) hB dX2_perform_195 2 1 rfl rfl 0 rfl (by decide) (by decide) ?_
    refine gx_sipush (pc := 196) hB dX2_perform_196 999 (by decide) ?_
    refine gx_dVi (pc := 199) (r := (bPass C (N 0) 999).1) (wr := [(v, .inr (2, [.ref sg, .int (nI ln), .ref nu, .int (nI rd), .int (nI pl), .int rs, .int ca])), (sg, .inl (K.2.1.1, 80, .inl X)), (nu, .inl (K.2.1.2.1, 4, .inl N))]) hB (c_X0_passMonths l K h t1 t2 t3 t4 c C (N 0) 999 ) mX0_passMonths dX2_perform_199 tb_697 pX0_passMonths ⟨Nat.le_of_ble_eq_true rfl, Nat.le_of_ble_eq_true rfl⟩ ⟨rfl, rfl⟩ ⟨Nat.zero_le _, Nat.zero_le _⟩ rfl (Nat.le_of_ble_eq_true rfl) [3, 4, 5, 6, 7, 8] [0, 1, 2] rfl rfl (by decide) (by decide) (by decide) rfl rfl [0, 1, 2, 3, 4, 5, 6, 7, 8] (by decide) (wSB K v sg nu X ln N rd pl rs ca h t1 t2 t3 t4 c ((bPass C (N 0) 999).2)) rfl ?_
    have e1 : ((pfB C N x).1) = ((bPass C (N 0) 999).1) := by simp [pfB, eq_false c_1, eq_false c_2, eq_false c_3, eq_false c_4, eq_false c_5, eq_false c_6, eq_false c_7, eq_false c_8, s_9]
    have f0 : ((pfB C N x).2) = ((bPass C (N 0) 999).2) := by simp [pfB, eq_false c_1, eq_false c_2, eq_false c_3, eq_false c_4, eq_false c_5, eq_false c_6, eq_false c_7, eq_false c_8, s_9]
    exact gx_iret (pc := 202) hC dX2_perform_202 (Nat.zero_le _) (Nat.zero_le _) (⟨by rw [e1], by rw [f0]⟩)
  have hout : (x).toInt < 0 ∨ 8 < (x).toInt := by
    have zc_1 : ¬ 0 = (x).toInt := fun q => c_1 (Int32.toInt_inj.mp q.symm)
    have zc_2 : ¬ 1 = (x).toInt := fun q => c_2 (Int32.toInt_inj.mp q.symm)
    have zc_3 : ¬ 2 = (x).toInt := fun q => c_3 (Int32.toInt_inj.mp q.symm)
    have zc_4 : ¬ 3 = (x).toInt := fun q => c_4 (Int32.toInt_inj.mp q.symm)
    have zc_5 : ¬ 4 = (x).toInt := fun q => c_5 (Int32.toInt_inj.mp q.symm)
    have zc_6 : ¬ 5 = (x).toInt := fun q => c_6 (Int32.toInt_inj.mp q.symm)
    have zc_7 : ¬ 6 = (x).toInt := fun q => c_7 (Int32.toInt_inj.mp q.symm)
    have zc_8 : ¬ 7 = (x).toInt := fun q => c_8 (Int32.toInt_inj.mp q.symm)
    have zc_9 : ¬ 8 = (x).toInt := fun q => c_9 (Int32.toInt_inj.mp q.symm)
    omega
  refine gx_tableOut (pc := 1) hB 203 dX2_perform_1 hout (by decide) ?_
  refine gx_iconst (pc := 203) hB dX2_perform_203 (-1) (by decide) ?_
  have e1 : ((pfB C N x).1) = (-1) := by simp [pfB, eq_false c_1, eq_false c_2, eq_false c_3, eq_false c_4, eq_false c_5, eq_false c_6, eq_false c_7, eq_false c_8, eq_false c_9]
  have f0 : ((pfB C N x).2) = C := by simp [pfB, eq_false c_1, eq_false c_2, eq_false c_3, eq_false c_4, eq_false c_5, eq_false c_6, eq_false c_7, eq_false c_8, eq_false c_9]
  exact gx_iret (pc := 204) hC dX2_perform_204 (Nat.zero_le _) (Nat.zero_le _) (⟨by rw [e1], by rw [f0]⟩)
theorem pX2_runOn : (parseMethodDescriptor yX2_runOn.desc).map (fun d => d.parameters.length) = some 1 := by decide +kernel
theorem mX2_runOn : gx_M yX2_runOn cX2_runOn 5 (some .int) := ⟨tb_588, tb_589, tb_72, tb_590, by decide, by decide⟩
set_option maxHeartbeats 4000000 in
set_option maxRecDepth 100000 in
theorem c_X2_runOn (l : Launch) (K : gx_K) (v sg nu : Nat) (X : Nat → Int32) (ln : Nat) (N : Nat → Int32) (rd pl : Nat) (rs ca : Int32) (h t1 t2 t3 t4 c : Nat) (C : Nat → Int32) (h0 : ln ≤ 80) (h1 : chOk X) : gx_Ctr l K yX2_runOn cX2_runOn 5 (some .int) (rmm 8 152) [.ref v, .ref h] (wSB K v sg nu X ln N rd pl rs ca h t1 t2 t3 t4 c C) (gx_D (some (.int ((roL X ln ca 80 0 C N 0 pl).1))) (wSB K v sg nu X ln ((roL X ln ca 80 0 C N 0 pl).2.2.2.2.1) ((roL X ln ca 80 0 C N 0 pl).2.2.2.2.2.1) ((roL X ln ca 80 0 C N 0 pl).2.2.2.2.2.2) ((roL X ln ca 80 0 C N 0 pl).2.1) ((roL X ln ca 80 0 C N 0 pl).2.2.1) h t1 t2 t3 t4 c ((roL X ln ca 80 0 C N 0 pl).2.2.2.1))) := by
  refine gx_of (by decide) (Nat.le_of_ble_eq_true rfl) (fun G hC => ?_)
  have hB := hC.b
  refine gx_lv (lv' := [(0, .ref v), (1, .ref h)]) rfl ?_
  refine gx_aload_n (pc := 0) hB dX2_runOn_0 0 rfl ?_
  refine gx_iconst (pc := 1) hB dX2_runOn_1 0 (by decide) ?_
  refine gx_put (pc := 2) hB dX2_runOn_2 inX2 rfl tyX2 tyX2_ok nmX2 0 rfl 3 (by decide) tb_169 rfl rfl rfl rfl (Nat.le_of_ble_eq_true rfl) (wSB K v sg nu X ln N 0 pl rs ca h t1 t2 t3 t4 c C) rfl ?_
  refine gx_aload_n (pc := 5) hB dX2_runOn_5 0 rfl ?_
  refine gx_iconst (pc := 6) hB dX2_runOn_6 0 (by decide) ?_
  refine gx_put (pc := 7) hB dX2_runOn_7 inX2 rfl tyX2 tyX2_ok nmX2 0 rfl 5 (by decide) tb_171 rfl rfl rfl rfl (Nat.le_of_ble_eq_true rfl) (wSB K v sg nu X ln N 0 pl 0 ca h t1 t2 t3 t4 c C) rfl ?_
  refine gx_iconst (pc := 10) hB dX2_runOn_10 0 (by decide) ?_
  refine gx_istore_n (pc := 11) hB dX2_runOn_11 (by decide) [(2, .int 0), (0, .ref v), (1, .ref h)] rfl ?_
  have loop_12 : ∀ (f k : Nat) (C1 N1 : Nat → Int32) (r1 p1 : Nat), k + f = 80 → r1 ≤ 107 → roL X ln ca f k C1 N1 r1 p1 = (roL X ln ca 80 0 C N 0 pl) → G 0 0 (wSB K v sg nu X ln N1 r1 p1 0 ca h t1 t2 t3 t4 c C1) [(0, .ref v), (1, .ref h), (2, .int (nI k))] 12 [] := by
    intro f
    induction f with
    | zero =>
      intro k C1 N1 r1 p1 hi hr he
      refine gx_iload_n (pc := 12) hB dX2_runOn_12 2 rfl ?_
      refine gx_bipush (pc := 13) hB dX2_runOn_13 80 (by decide) ?_
      refine gx_icmp_ge (pc := 15) hB 82 dX2_runOn_15 (by decide) (fun c_1 => ?_) (fun c_1 => ?_)
      · have s_ro : (roL X ln ca 80 0 C N 0 pl) = ⟨nI k, 0, ca, C1, N1, r1, p1⟩ := he.symm
        refine gx_iload_n (pc := 82) hB dX2_runOn_82 2 rfl ?_
        have e1 : ((roL X ln ca 80 0 C N 0 pl).1) = nI k := by simp [s_ro]
        have f0 : ((roL X ln ca 80 0 C N 0 pl).2.2.2.2.2.1) = r1 := by simp [s_ro]
        have f1 : ((roL X ln ca 80 0 C N 0 pl).2.2.2.2.2.2) = p1 := by simp [s_ro]
        have f2 : ((roL X ln ca 80 0 C N 0 pl).2.2.2.2.1) = N1 := by simp [s_ro]
        have f3 : ((roL X ln ca 80 0 C N 0 pl).2.2.2.1) = C1 := by simp [s_ro]
        have f4 : ((roL X ln ca 80 0 C N 0 pl).2.2.1) = ca := by simp [s_ro]
        have f5 : ((roL X ln ca 80 0 C N 0 pl).2.1) = 0 := by simp [s_ro]
        exact gx_iret (pc := 83) hC dX2_runOn_83 (Nat.zero_le _) (Nat.zero_le _) (⟨by rw [e1], by rw [f0, f1, f2, f3, f4, f5]⟩)
      · exact absurd (by rw [show k = 80 by omega]; decide) c_1
    | succ f ihf =>
      intro k C1 N1 r1 p1 hi hr he
      refine gx_iload_n (pc := 12) hB dX2_runOn_12 2 rfl ?_
      refine gx_bipush (pc := 13) hB dX2_runOn_13 80 (by decide) ?_
      refine gx_icmp_ge (pc := 15) hB 82 dX2_runOn_15 (by decide) (fun c_2 => ?_) (fun c_2 => ?_)
      · exact absurd c_2 (nI_ge (b := 80) (by omega) (by decide))
      · refine gx_aload_n (pc := 18) hB dX2_runOn_18 0 rfl ?_
        refine gx_get (pc := 19) hB dX2_runOn_19 inX2 rfl 0 rfl 3 (by decide) tb_169 rfl rfl ?_
        refine gx_aload_n (pc := 22) hB dX2_runOn_22 0 rfl ?_
        refine gx_get (pc := 23) hB dX2_runOn_23 inX2 rfl 0 rfl 1 (by decide) tb_167 rfl rfl ?_
        refine gx_icmp_ge (pc := 26) hB 82 dX2_runOn_26 (by decide) (fun c_3 => ?_) (fun c_3 => ?_)
        · have s_lt : ¬ r1 < ln := fun q => nI_ge q (by omega) c_3
          have s_ro : (roL X ln ca 80 0 C N 0 pl) = ⟨nI k, 0, ca, C1, N1, r1, p1⟩ := by rw [← he]; simp [roL, s_lt]
          refine gx_iload_n (pc := 82) hB dX2_runOn_82 2 rfl ?_
          have e1 : ((roL X ln ca 80 0 C N 0 pl).1) = nI k := by simp [s_ro]
          have f0 : ((roL X ln ca 80 0 C N 0 pl).2.2.2.2.2.1) = r1 := by simp [s_ro]
          have f1 : ((roL X ln ca 80 0 C N 0 pl).2.2.2.2.2.2) = p1 := by simp [s_ro]
          have f2 : ((roL X ln ca 80 0 C N 0 pl).2.2.2.2.1) = N1 := by simp [s_ro]
          have f3 : ((roL X ln ca 80 0 C N 0 pl).2.2.2.1) = C1 := by simp [s_ro]
          have f4 : ((roL X ln ca 80 0 C N 0 pl).2.2.1) = ca := by simp [s_ro]
          have f5 : ((roL X ln ca 80 0 C N 0 pl).2.1) = 0 := by simp [s_ro]
          exact gx_iret (pc := 83) hC dX2_runOn_83 (Nat.zero_le _) (Nat.zero_le _) (⟨by rw [e1], by rw [f0, f1, f2, f3, f4, f5]⟩)
        · have s_lt : r1 < ln := by rcases Nat.lt_or_ge r1 ln with q | q; exact q; exact absurd (nI_le q (by omega)) c_3
          refine gx_aload_n (pc := 29) hB dX2_runOn_29 0 rfl ?_
          refine gx_aload_n (pc := 30) hB dX2_runOn_30 0 rfl ?_
          refine gx_get (pc := 31) hB dX2_runOn_31 inX2 rfl 0 rfl 3 (by decide) tb_169 rfl rfl ?_
          refine gx_put (pc := 34) hB dX2_runOn_34 inX2 rfl tyX2 tyX2_ok nmX2 0 rfl 4 (by decide) tb_170 rfl rfl rfl rfl (Nat.le_of_ble_eq_true rfl) (wSB K v sg nu X ln N1 r1 r1 0 ca h t1 t2 t3 t4 c C1) rfl ?_
          refine gx_aload_n (pc := 37) hB dX2_runOn_37 0 rfl ?_
          refine gx_dVi (pc := 38) (r := (rcK X ln r1 N1)) (wr := [(h, .inr (0, [.ref c, .ref t1, .ref t2, .ref t3, .ref t4])), (t1, .inr (3, [.ref c, .int (nI 3), .int (nI 6), .int (nI 12)])), (t2, .inr (3, [.ref c, .int (nI 76), .int (nI 8), .int (nI 7)])), (t3, .inr (3, [.ref c, .int (nI 133), .int (nI 24), .int (nI 7)])), (t4, .inr (3, [.ref c, .int (nI 302), .int (nI 6), .int (nI 8)])), (c, .inl (K.2.1.2.1, 351, .inl C1))]) hB (c_X2_readCommand l K v sg nu X ln N1 r1 r1 0 ca h0 (by omega) h1) mX2_readCommand dX2_runOn_38 tb_591 pX2_readCommand ⟨Nat.le_of_ble_eq_true rfl, Nat.le_of_ble_eq_true rfl⟩ ⟨rfl, rfl⟩ ⟨Nat.zero_le _, Nat.zero_le _⟩ rfl (Nat.le_of_ble_eq_true rfl) [0, 1, 2] [3, 4, 5, 6, 7, 8] rfl rfl (by decide) (by decide) (by decide) rfl rfl [6, 7, 8, 0, 1, 2, 3, 4, 5] (by decide) (wSB K v sg nu X ln (rcN X ln r1 N1) (rcP X ln r1 N1) r1 0 ca h t1 t2 t3 t4 c C1) rfl ?_
          refine gx_istore_n (pc := 41) hB dX2_runOn_41 (by decide) [(3, .int (rcK X ln r1 N1)), (0, .ref v), (1, .ref h), (2, .int (nI k))] rfl ?_
          refine gx_iload_n (pc := 42) hB dX2_runOn_42 0 rfl ?_
          refine gx_iconst (pc := 43) hB dX2_runOn_43 (-1) (by decide) ?_
          refine gx_icmp_ne (pc := 44) hB 55 dX2_runOn_44 (by decide) (fun c_4 => ?_) (fun c_4 => ?_)
          · have s_k : ¬ (rcK X ln r1 N1) = -1 := c_4
            refine gx_aload_n (pc := 55) hB dX2_runOn_55 1 rfl ?_
            refine gx_iload_n (pc := 56) hB dX2_runOn_56 0 rfl ?_
            refine gx_aload_n (pc := 57) hB dX2_runOn_57 2 rfl ?_
            refine gx_dVi (pc := 58) (r := (pfB C1 (rcN X ln r1 N1) (rcK X ln r1 N1)).1) (wr := []) hB (c_X2_perform l K v sg nu X ln (rcN X ln r1 N1) (rcP X ln r1 N1) r1 0 ca h t1 t2 t3 t4 c C1 (rcK X ln r1 N1) ) mX2_perform dX2_runOn_58 tb_685 pX2_perform ⟨Nat.le_of_ble_eq_true rfl, Nat.le_of_ble_eq_true rfl⟩ ⟨rfl, rfl⟩ ⟨Nat.zero_le _, Nat.zero_le _⟩ rfl (Nat.le_of_ble_eq_true rfl) [0, 1, 2, 3, 4, 5, 6, 7, 8] [] rfl rfl (by decide) (by decide) (by decide) rfl rfl [0, 1, 2, 3, 4, 5, 6, 7, 8] (by decide) (wSB K v sg nu X ln (rcN X ln r1 N1) (rcP X ln r1 N1) r1 0 ca h t1 t2 t3 t4 c ((pfB C1 (rcN X ln r1 N1) (rcK X ln r1 N1)).2)) rfl ?_
            refine gx_istore (pc := 61) hB dX2_runOn_61 (by decide) [(4, .int ((pfB C1 (rcN X ln r1 N1) (rcK X ln r1 N1)).1)), (3, .int (rcK X ln r1 N1)), (0, .ref v), (1, .ref h), (2, .int (nI k))] rfl ?_
            refine gx_iload (pc := 63) hB dX2_runOn_63 0 rfl ?_
            refine gx_if_ge (pc := 65) hB 76 dX2_runOn_65 (by decide) (fun c_5 => ?_) (fun c_5 => ?_)
            · refine gx_iinc (pc := 76) hB dX2_runOn_76 4 (by decide) rfl (nI (k + 1)) (nI_1 _) [(2, .int (nI (k + 1))), (4, .int ((pfB C1 (rcN X ln r1 N1) (rcK X ln r1 N1)).1)), (3, .int (rcK X ln r1 N1)), (0, .ref v), (1, .ref h)] rfl ?_
              refine gx_goto (pc := 79) hB 12 dX2_runOn_79 (by decide) ?_
              refine gx_sub hB (lv' := [(0, .ref v), (1, .ref h), (2, .int (nI (k + 1)))]) [3, 4, 0] rfl ?_
              have s_p : ¬ (pfB C1 (rcN X ln r1 N1) (rcK X ln r1 N1)).1 < 0 := by first | exact c_5 | exact Int32.not_lt.mpr c_5
              exact ihf (k + 1) _ _ _ _ (by omega) (rcP_le (by omega)) (by rw [← he]; simp [roL, s_lt, s_k, s_p])
            · have s_p : (pfB C1 (rcN X ln r1 N1) (rcK X ln r1 N1)).1 < 0 := by first | exact c_5 | exact Int32.not_le.mp c_5
              have s_ro : (roL X ln ca 80 0 C N 0 pl) = ⟨-1, 2, (pfB C1 (rcN X ln r1 N1) (rcK X ln r1 N1)).1, (pfB C1 (rcN X ln r1 N1) (rcK X ln r1 N1)).2, (rcN X ln r1 N1), (rcP X ln r1 N1), r1⟩ := by rw [← he]; simp [roL, s_lt, s_k, s_p]
              refine gx_aload_n (pc := 68) hB dX2_runOn_68 2 rfl ?_
              refine gx_iconst (pc := 69) hB dX2_runOn_69 2 (by decide) ?_
              refine gx_iload (pc := 70) hB dX2_runOn_70 0 rfl ?_
              refine gx_dVi (pc := 72) (r := (-1)) (wr := [(h, .inr (0, [.ref c, .ref t1, .ref t2, .ref t3, .ref t4])), (t1, .inr (3, [.ref c, .int (nI 3), .int (nI 6), .int (nI 12)])), (t2, .inr (3, [.ref c, .int (nI 76), .int (nI 8), .int (nI 7)])), (t3, .inr (3, [.ref c, .int (nI 133), .int (nI 24), .int (nI 7)])), (t4, .inr (3, [.ref c, .int (nI 302), .int (nI 6), .int (nI 8)])), (c, .inl (K.2.1.2.1, 351, .inl ((pfB C1 (rcN X ln r1 N1) (rcK X ln r1 N1)).2)))]) hB (c_X2_fail l K v sg nu X ln (rcN X ln r1 N1) (rcP X ln r1 N1) r1 0 ca 2 ((pfB C1 (rcN X ln r1 N1) (rcK X ln r1 N1)).1) ) mX2_fail dX2_runOn_72 tb_681 pX2_fail ⟨Nat.le_of_ble_eq_true rfl, Nat.le_of_ble_eq_true rfl⟩ ⟨rfl, rfl⟩ ⟨Nat.zero_le _, Nat.zero_le _⟩ rfl (Nat.le_of_ble_eq_true rfl) [0, 1, 2] [3, 4, 5, 6, 7, 8] rfl rfl (by decide) (by decide) (by decide) rfl rfl [6, 7, 8, 0, 1, 2, 3, 4, 5] (by decide) (wSB K v sg nu X ln (rcN X ln r1 N1) (rcP X ln r1 N1) r1 2 ((pfB C1 (rcN X ln r1 N1) (rcK X ln r1 N1)).1) h t1 t2 t3 t4 c ((pfB C1 (rcN X ln r1 N1) (rcK X ln r1 N1)).2)) rfl ?_
              have e1 : ((roL X ln ca 80 0 C N 0 pl).1) = (-1) := by simp [s_ro]
              have f0 : ((roL X ln ca 80 0 C N 0 pl).2.2.2.2.2.1) = rcP X ln r1 N1 := by simp [s_ro]
              have f1 : ((roL X ln ca 80 0 C N 0 pl).2.2.2.2.2.2) = r1 := by simp [s_ro]
              have f2 : ((roL X ln ca 80 0 C N 0 pl).2.2.2.2.1) = rcN X ln r1 N1 := by simp [s_ro]
              have f3 : ((roL X ln ca 80 0 C N 0 pl).2.2.2.1) = ((pfB C1 (rcN X ln r1 N1) (rcK X ln r1 N1)).2) := by simp [s_ro]
              have f4 : ((roL X ln ca 80 0 C N 0 pl).2.2.1) = ((pfB C1 (rcN X ln r1 N1) (rcK X ln r1 N1)).1) := by simp [s_ro]
              have f5 : ((roL X ln ca 80 0 C N 0 pl).2.1) = 2 := by simp [s_ro]
              exact gx_iret (pc := 75) hC dX2_runOn_75 (Nat.zero_le _) (Nat.zero_le _) (⟨by rw [e1], by rw [f0, f1, f2, f3, f4, f5]⟩)
          · have s_k : (rcK X ln r1 N1) = -1 := by first | exact c_4 | exact Classical.not_not.mp c_4
            have s_ro : (roL X ln ca 80 0 C N 0 pl) = ⟨-1, 1, -4, C1, (rcN X ln r1 N1), (rcP X ln r1 N1), r1⟩ := by rw [← he]; simp [roL, s_lt, s_k]
            refine gx_aload_n (pc := 47) hB dX2_runOn_47 1 rfl ?_
            refine gx_iconst (pc := 48) hB dX2_runOn_48 1 (by decide) ?_
            refine gx_bipush (pc := 49) hB dX2_runOn_49 (-4) (by decide) ?_
            refine gx_dVi (pc := 51) (r := (-1)) (wr := [(h, .inr (0, [.ref c, .ref t1, .ref t2, .ref t3, .ref t4])), (t1, .inr (3, [.ref c, .int (nI 3), .int (nI 6), .int (nI 12)])), (t2, .inr (3, [.ref c, .int (nI 76), .int (nI 8), .int (nI 7)])), (t3, .inr (3, [.ref c, .int (nI 133), .int (nI 24), .int (nI 7)])), (t4, .inr (3, [.ref c, .int (nI 302), .int (nI 6), .int (nI 8)])), (c, .inl (K.2.1.2.1, 351, .inl C1))]) hB (c_X2_fail l K v sg nu X ln (rcN X ln r1 N1) (rcP X ln r1 N1) r1 0 ca 1 (-4) ) mX2_fail dX2_runOn_51 tb_681 pX2_fail ⟨Nat.le_of_ble_eq_true rfl, Nat.le_of_ble_eq_true rfl⟩ ⟨rfl, rfl⟩ ⟨Nat.zero_le _, Nat.zero_le _⟩ rfl (Nat.le_of_ble_eq_true rfl) [0, 1, 2] [3, 4, 5, 6, 7, 8] rfl rfl (by decide) (by decide) (by decide) rfl rfl [6, 7, 8, 0, 1, 2, 3, 4, 5] (by decide) (wSB K v sg nu X ln (rcN X ln r1 N1) (rcP X ln r1 N1) r1 1 (-4) h t1 t2 t3 t4 c C1) rfl ?_
            have e1 : ((roL X ln ca 80 0 C N 0 pl).1) = (-1) := by simp [s_ro]
            have f0 : ((roL X ln ca 80 0 C N 0 pl).2.2.2.2.2.1) = rcP X ln r1 N1 := by simp [s_ro]
            have f1 : ((roL X ln ca 80 0 C N 0 pl).2.2.2.2.2.2) = r1 := by simp [s_ro]
            have f2 : ((roL X ln ca 80 0 C N 0 pl).2.2.2.2.1) = rcN X ln r1 N1 := by simp [s_ro]
            have f3 : ((roL X ln ca 80 0 C N 0 pl).2.2.2.1) = C1 := by simp [s_ro]
            have f4 : ((roL X ln ca 80 0 C N 0 pl).2.2.1) = (-4) := by simp [s_ro]
            have f5 : ((roL X ln ca 80 0 C N 0 pl).2.1) = 1 := by simp [s_ro]
            exact gx_iret (pc := 54) hC dX2_runOn_54 (Nat.zero_le _) (Nat.zero_le _) (⟨by rw [e1], by rw [f0, f1, f2, f3, f4, f5]⟩)
  refine gx_sub hB (lv' := [(0, .ref v), (1, .ref h), (2, .int 0)]) [1, 2, 0] rfl ?_
  exact loop_12 80 0 C N 0 pl rfl (by decide) rfl
