def mCount (S : Nat → Int32) (a n ty : Nat) (x : Int32) : Int32 :=
  if x = 0 then S 2 else if x = 1 then S 3 else if x = 2 then S 4 else if x = 3 then S 5 else if x = 4 then S 6
  else if x = 5 then mAllN S 0 a else if x = 6 then mAllN S 3 a else if x = 7 then mAllN S 2 a else if x = 8 then mAllN S 6 a else if x = 9 then mAllN S 5 a
  else if x = 10 then mAllN S 9 a else if x = 11 then nI n else if x = 12 then nI ty else if x = 13 then S 0 else if x = 14 then S 1 else (-1)
def mCall (S : Nat → Int32) (b c e : Nat) (Z : Nat → Int32) (x : Int32) : gx_M3 :=
  if x = 0 then mGive S c (Z 0) (Z 1) (Z 2) else if x = 1 then mPledge S e (Z 0) (Z 1) (Z 2) (Z 3) else if x = 2 then mMiss S (Z 0) else if x = 3 then mClaim S c
  else if x = 4 then mSpend S (Z 0) (Z 1) else if x = 5 then mAgree S c (Z 0) (Z 1) (Z 2) else if x = 6 then mMerge S b c e (Z 0) (Z 1) else if x = 7 then mRefund S (Z 0) else mPass S c e (Z 0)
theorem pX5_undo : (parseMethodDescriptor yX5_undo.desc).map (fun d => d.parameters.length) = some 0 := by decide +kernel
theorem mX5_undo : gx_M yX5_undo cX5_undo 2 (some .int) := ⟨tb_972, tb_973, tb_73, tb_974, by decide, by decide⟩
set_option maxHeartbeats 4000000 in
set_option maxRecDepth 100000 in
theorem c_X5_undo (l : Launch) (K : gx_K) (m q1 q2 q3 q4 q5 q6 q7 q8 : Nat) (S P H T X Z : Nat → Int32) (n : Nat) (ru : Bool) (ty : Nat) (cl : Int32) (sp : Nat) (ca : Int32) (co : Nat)  (h0 : n ≤ 4) : gx_Ctr l K yX5_undo cX5_undo 2 (some .int) (rmm 1 0) [.ref m] (wM K m q1 q2 q3 q4 q5 q6 q7 q8 S P H T X Z n ru ty cl sp ca co) (gx_D (some (.int (if n = 0 then (-2) else nI (n - 1)))) (wM K m q1 q2 q3 q4 q5 q6 q7 q8 (if n = 0 then S else fun j => P (345 * (n - 1) + j)) P H T X Z (n - 1) ru ty cl sp ca co)) := by
  refine gx_of (by decide) (Nat.le_of_ble_eq_true rfl) (fun G hC => ?_)
  have hB := hC.b
  refine gx_lv (lv' := [(0, .ref m)]) rfl ?_
  refine gx_aload_n (pc := 0) hB dX5_undo_0 0 rfl ?_
  refine gx_get (pc := 1) hB dX5_undo_1 inX5 rfl 0 rfl 4 (by decide) tb_730 rfl rfl ?_
  refine gx_if_ne (pc := 4) hB 10 dX5_undo_4 (by decide) (fun c_1 => ?_) (fun c_1 => ?_)
  · obtain ⟨k, rfl⟩ : ∃ k, n = k + 1 := ⟨n - 1, by rcases Nat.eq_zero_or_pos n with q | q; exact absurd (by rw [q]; rfl) c_1; omega⟩
    refine gx_aload_n (pc := 10) hB dX5_undo_10 0 rfl ?_
    refine gx_dup (pc := 11) hB dX5_undo_11 rfl ?_
    refine gx_get (pc := 12) hB dX5_undo_12 inX5 rfl 0 rfl 4 (by decide) tb_730 rfl rfl ?_
    refine gx_iconst (pc := 15) hB dX5_undo_15 1 (by decide) ?_
    refine gx_isub (pc := 16) hB dX5_undo_16 ?_
    refine gx_top (show (nI (k + 1)) - 1 = nI k from nI_pred k) ?_
    refine gx_put (pc := 17) hB dX5_undo_17 inX5 rfl tyX5 tyX5_ok nmX5 0 rfl 4 (by decide) tb_730 rfl rfl rfl rfl (Nat.le_of_ble_eq_true rfl) (wM K m q1 q2 q3 q4 q5 q6 q7 q8 S P H T X Z k ru ty cl sp ca co) rfl ?_
    refine gx_iconst (pc := 20) hB dX5_undo_20 0 (by decide) ?_
    refine gx_istore_n (pc := 21) hB dX5_undo_21 (by decide) [(1, .int 0), (0, .ref m)] rfl ?_
    have loop_22 : ∀ dq i : Nat, i + dq = 345 → G 0 0 (wM K m q1 q2 q3 q4 q5 q6 q7 q8 (gtN S P k i) P H T X Z k ru ty cl sp ca co) [(0, .ref m), (1, .int (nI i))] 22 [] := by
      intro dq
      induction dq with
      | zero =>
        intro i hi22
        obtain rfl : 345 = i := by omega
        refine gx_iload_n (pc := 22) hB dX5_undo_22 1 rfl ?_
        refine gx_sipush (pc := 23) hB dX5_undo_23 345 (by decide) ?_
        refine gx_icmp_ge (pc := 26) hB 56 dX5_undo_26 (by decide) (fun c_2 => ?_) (fun c_2 => ?_)
        · refine gx_arr hB 1 rfl (fun j => P (345 * k + j)) (fun j hj => if_pos hj) (wM K m q1 q2 q3 q4 q5 q6 q7 q8 (fun j => P (345 * k + j)) P H T X Z k ru ty cl sp ca co) rfl ?_
          refine gx_aload_n (pc := 56) hB dX5_undo_56 0 rfl ?_
          refine gx_get (pc := 57) hB dX5_undo_57 inX5 rfl 0 rfl 4 (by decide) tb_730 rfl rfl ?_
          have e1 : (if (k + 1) = 0 then (-2) else nI ((k + 1) - 1)) = nI k := by simp [c_2, eq_false (Int32.not_lt.mpr c_2)]
          have f0 : (if (k + 1) = 0 then S else fun j => P (345 * ((k + 1) - 1) + j)) = (fun j => P (345 * k + j)) := by simp [c_2, eq_false (Int32.not_lt.mpr c_2)]
          have f1 : ((k + 1) - 1) = k := by simp [c_2, eq_false (Int32.not_lt.mpr c_2)]
          exact gx_iret (pc := 60) hC dX5_undo_60 (Nat.zero_le _) (Nat.zero_le _) (⟨by rw [e1], by rw [f0, f1]⟩)
        · exact absurd (lpT (x := 345) hi22) c_2
      | succ dq ih22 =>
        intro i hi22
        refine gx_iload_n (pc := 22) hB dX5_undo_22 1 rfl ?_
        refine gx_sipush (pc := 23) hB dX5_undo_23 345 (by decide) ?_
        refine gx_icmp_ge (pc := 26) hB 56 dX5_undo_26 (by decide) (fun c_3 => ?_) (fun c_3 => ?_)
        · exact absurd c_3 (lpF (x := 345) hi22)
        · refine gx_aload_n (pc := 29) hB dX5_undo_29 0 rfl ?_
          refine gx_get (pc := 30) hB dX5_undo_30 inX5 rfl 0 rfl 0 (by decide) tb_726 rfl rfl ?_
          refine gx_iload_n (pc := 33) hB dX5_undo_33 1 rfl ?_
          refine gx_aload_n (pc := 34) hB dX5_undo_34 0 rfl ?_
          refine gx_get (pc := 35) hB dX5_undo_35 inX5 rfl 0 rfl 1 (by decide) tb_727 rfl rfl ?_
          refine gx_sipush (pc := 38) hB dX5_undo_38 345 (by decide) ?_
          refine gx_aload_n (pc := 41) hB dX5_undo_41 0 rfl ?_
          refine gx_get (pc := 42) hB dX5_undo_42 inX5 rfl 0 rfl 4 (by decide) tb_730 rfl rfl ?_
          refine gx_imul (pc := 45) hB dX5_undo_45 ?_
          refine gx_top (show 345 * nI k = nI (345 * k) from pk_mul 345 k) ?_
          refine gx_iload_n (pc := 46) hB dX5_undo_46 1 rfl ?_
          refine gx_iadd (pc := 47) hB dX5_undo_47 ?_
          refine gx_top (show (nI (345 * k)) + nI i = nI (345 * k + i) from nI_add (345 * k) i) ?_
          refine gx_iald (pc := 48) hB dX5_undo_48 2 1 rfl rfl (345 * k + i) rfl (by omega) (by decide) ?_
          refine gx_iast (pc := 49) hB dX5_undo_49 1 1 rfl rfl i rfl (by omega) (by decide) (wM K m q1 q2 q3 q4 q5 q6 q7 q8 (upd (gtN S P k i) i (P (345 * k + i))) P H T X Z k ru ty cl sp ca co) rfl ?_
          refine gx_iinc (pc := 50) hB dX5_undo_50 1 (by decide) rfl (nI (i + 1)) (nI_1 _) [(1, .int (nI (i + 1))), (0, .ref m)] rfl ?_
          refine gx_goto (pc := 53) hB 22 dX5_undo_53 (by decide) ?_
          have w0 : upd (gtN S P k i) i (P (345 * k + i)) = gtN S P k (i + 1) := by simp [Int32.not_le.mp c_3, eq_false c_3, gtN_s]
          refine gx_sub hB (lv' := [(0, .ref m), (1, .int (nI (i + 1)))]) [1, 0] rfl ?_
          refine gx_all (ws' := wM K m q1 q2 q3 q4 q5 q6 q7 q8 (gtN S P k (i + 1)) P H T X Z k ru ty cl sp ca co) (lv' := [(0, .ref m), (1, .int (nI (i + 1)))]) (by rw [← w0]) (rfl) ?_
          exact ih22 (i + 1) (by omega)
    refine gx_sub hB (lv' := [(0, .ref m), (1, .int 0)]) [1, 0] rfl ?_
    refine gx_all (ws' := wM K m q1 q2 q3 q4 q5 q6 q7 q8 (gtN S P k 0) P H T X Z k ru ty cl sp ca co) (lv' := [(0, .ref m), (1, .int (nI 0))]) (by rw [← gtN_0]) (rfl) ?_
    exact loop_22 (345) 0 (by omega)
  · obtain rfl : n = 0 := (nI_eq (a := n) (b := 0) (by omega) (by decide)).mp c_1
    refine gx_bipush (pc := 7) hB dX5_undo_7 (-2) (by decide) ?_
    have e1 : (if 0 = 0 then (-2) else nI (0 - 1)) = (-2) := by simp []
    have f0 : (if 0 = 0 then S else fun j => P (345 * (0 - 1) + j)) = S := by simp []
    have f1 : (0 - 1) = 0 := by simp []
    exact gx_iret (pc := 9) hC dX5_undo_9 (Nat.zero_le _) (Nat.zero_le _) (⟨by rw [e1], by rw [f0, f1]⟩)
theorem pX5_count : (parseMethodDescriptor yX5_count.desc).map (fun d => d.parameters.length) = some 1 := by decide +kernel
theorem mX5_count : gx_M yX5_count cX5_count 2 (some .int) := ⟨tb_956, tb_957, tb_73, tb_958, by decide, by decide⟩
set_option maxHeartbeats 4000000 in
set_option maxRecDepth 100000 in
theorem c_X5_count (l : Launch) (K : gx_K) (m q1 q2 q3 q4 q5 q6 q7 q8 : Nat) (S P H T X Z : Nat → Int32) (n : Nat) (ru : Bool) (ty : Nat) (cl : Int32) (sp : Nat) (ca : Int32) (co : Nat) (a b c e : Nat) (x : Int32) (h0 : sOk S a b c e) : gx_Ctr l K yX5_count cX5_count 2 (some .int) (rmm 4 66) [.ref m, .int x] (wM K m q1 q2 q3 q4 q5 q6 q7 q8 S P H T X Z n ru ty cl sp ca co) (gx_D (some (.int (mCount S a n ty x))) (wM K m q1 q2 q3 q4 q5 q6 q7 q8 S P H T X Z n ru ty cl sp ca co)) := by
  refine gx_of (by decide) (Nat.le_of_ble_eq_true rfl) (fun G hC => ?_)
  have hB := hC.b
  refine gx_lv (lv' := [(0, .ref m), (1, .int x)]) rfl ?_
  have hb0 := h0.1
  refine gx_iload_n (pc := 0) hB dX5_count_0 1 rfl ?_
  by_cases c_1 : x = 0
  · subst c_1
    refine gx_tableIn (pc := 1) hB 76 dX5_count_1 (by decide) (by decide) rfl (by decide) ?_
    refine gx_aload_n (pc := 76) hB dX5_count_76 0 rfl ?_
    refine gx_get (pc := 77) hB dX5_count_77 inX5 rfl 0 rfl 0 (by decide) tb_726 rfl rfl ?_
    refine gx_iconst (pc := 80) hB dX5_count_80 2 (by decide) ?_
    refine gx_iload_n (pc := 81) hB dX5_count_81 1 rfl ?_
    refine gx_iadd (pc := 82) hB dX5_count_82 ?_
    refine gx_top (show 2 + 0 = 2 by decide) ?_
    refine gx_iald (pc := 83) hB dX5_count_83 1 1 rfl rfl 2 rfl (by decide) (by decide) ?_
    have e1 : (mCount S a n ty (0 : Int32)) = S 2 := by simp [mCount]
    exact gx_iret (pc := 84) hC dX5_count_84 (Nat.zero_le _) (Nat.zero_le _) (⟨by rw [e1], rfl⟩)
  by_cases c_2 : x = 1
  · subst c_2
    refine gx_tableIn (pc := 1) hB 76 dX5_count_1 (by decide) (by decide) rfl (by decide) ?_
    refine gx_aload_n (pc := 76) hB dX5_count_76 0 rfl ?_
    refine gx_get (pc := 77) hB dX5_count_77 inX5 rfl 0 rfl 0 (by decide) tb_726 rfl rfl ?_
    refine gx_iconst (pc := 80) hB dX5_count_80 2 (by decide) ?_
    refine gx_iload_n (pc := 81) hB dX5_count_81 1 rfl ?_
    refine gx_iadd (pc := 82) hB dX5_count_82 ?_
    refine gx_top (show 2 + 1 = 3 by decide) ?_
    refine gx_iald (pc := 83) hB dX5_count_83 1 1 rfl rfl 3 rfl (by decide) (by decide) ?_
    have e1 : (mCount S a n ty (1 : Int32)) = S 3 := by simp [mCount, eq_false c_1]
    exact gx_iret (pc := 84) hC dX5_count_84 (Nat.zero_le _) (Nat.zero_le _) (⟨by rw [e1], rfl⟩)
  by_cases c_3 : x = 2
  · subst c_3
    refine gx_tableIn (pc := 1) hB 76 dX5_count_1 (by decide) (by decide) rfl (by decide) ?_
    refine gx_aload_n (pc := 76) hB dX5_count_76 0 rfl ?_
    refine gx_get (pc := 77) hB dX5_count_77 inX5 rfl 0 rfl 0 (by decide) tb_726 rfl rfl ?_
    refine gx_iconst (pc := 80) hB dX5_count_80 2 (by decide) ?_
    refine gx_iload_n (pc := 81) hB dX5_count_81 1 rfl ?_
    refine gx_iadd (pc := 82) hB dX5_count_82 ?_
    refine gx_top (show 2 + 2 = 4 by decide) ?_
    refine gx_iald (pc := 83) hB dX5_count_83 1 1 rfl rfl 4 rfl (by decide) (by decide) ?_
    have e1 : (mCount S a n ty (2 : Int32)) = S 4 := by simp [mCount, eq_false c_1, eq_false c_2]
    exact gx_iret (pc := 84) hC dX5_count_84 (Nat.zero_le _) (Nat.zero_le _) (⟨by rw [e1], rfl⟩)
  by_cases c_4 : x = 3
  · subst c_4
    refine gx_tableIn (pc := 1) hB 76 dX5_count_1 (by decide) (by decide) rfl (by decide) ?_
    refine gx_aload_n (pc := 76) hB dX5_count_76 0 rfl ?_
    refine gx_get (pc := 77) hB dX5_count_77 inX5 rfl 0 rfl 0 (by decide) tb_726 rfl rfl ?_
    refine gx_iconst (pc := 80) hB dX5_count_80 2 (by decide) ?_
    refine gx_iload_n (pc := 81) hB dX5_count_81 1 rfl ?_
    refine gx_iadd (pc := 82) hB dX5_count_82 ?_
    refine gx_top (show 2 + 3 = 5 by decide) ?_
    refine gx_iald (pc := 83) hB dX5_count_83 1 1 rfl rfl 5 rfl (by decide) (by decide) ?_
    have e1 : (mCount S a n ty (3 : Int32)) = S 5 := by simp [mCount, eq_false c_1, eq_false c_2, eq_false c_3]
    exact gx_iret (pc := 84) hC dX5_count_84 (Nat.zero_le _) (Nat.zero_le _) (⟨by rw [e1], rfl⟩)
  by_cases c_5 : x = 4
  · subst c_5
    refine gx_tableIn (pc := 1) hB 76 dX5_count_1 (by decide) (by decide) rfl (by decide) ?_
    refine gx_aload_n (pc := 76) hB dX5_count_76 0 rfl ?_
    refine gx_get (pc := 77) hB dX5_count_77 inX5 rfl 0 rfl 0 (by decide) tb_726 rfl rfl ?_
    refine gx_iconst (pc := 80) hB dX5_count_80 2 (by decide) ?_
    refine gx_iload_n (pc := 81) hB dX5_count_81 1 rfl ?_
    refine gx_iadd (pc := 82) hB dX5_count_82 ?_
    refine gx_top (show 2 + 4 = 6 by decide) ?_
    refine gx_iald (pc := 83) hB dX5_count_83 1 1 rfl rfl 6 rfl (by decide) (by decide) ?_
    have e1 : (mCount S a n ty (4 : Int32)) = S 6 := by simp [mCount, eq_false c_1, eq_false c_2, eq_false c_3, eq_false c_4]
    exact gx_iret (pc := 84) hC dX5_count_84 (Nat.zero_le _) (Nat.zero_le _) (⟨by rw [e1], rfl⟩)
  by_cases c_6 : x = 5
  · subst c_6
    refine gx_tableIn (pc := 1) hB 85 dX5_count_1 (by decide) (by decide) rfl (by decide) ?_
    refine gx_aload_n (pc := 85) hB dX5_count_85 0 rfl ?_
    refine gx_iconst (pc := 86) hB dX5_count_86 0 (by decide) ?_
    refine gx_dVi (pc := 87) (r := mAllN S 0 a) (wr := []) hB (c_X5_all l K m q1 q2 q3 q4 q5 q6 q7 q8 S P H T X Z n ru ty cl sp ca co a 0 h0.1.1 (by first | assumption | omega | decide) (by first | assumption | omega | decide)) mX5_all dX5_count_87 tb_959 pX5_all ⟨Nat.le_of_ble_eq_true rfl, Nat.le_of_ble_eq_true rfl⟩ ⟨rfl, rfl⟩ ⟨Nat.zero_le _, Nat.zero_le _⟩ rfl (Nat.le_of_ble_eq_true rfl) [0, 1, 2, 3, 4, 5, 6, 7, 8] [] rfl rfl (by decide) (by decide) (by decide) rfl rfl [0, 1, 2, 3, 4, 5, 6, 7, 8] (by decide) (wM K m q1 q2 q3 q4 q5 q6 q7 q8 S P H T X Z n ru ty cl sp ca co) rfl ?_
    have e1 : (mCount S a n ty (5 : Int32)) = mAllN S 0 a := by simp [mCount, eq_false c_1, eq_false c_2, eq_false c_3, eq_false c_4, eq_false c_5]
    exact gx_iret (pc := 90) hC dX5_count_90 (Nat.zero_le _) (Nat.zero_le _) (⟨by rw [e1], rfl⟩)
  by_cases c_7 : x = 6
  · subst c_7
    refine gx_tableIn (pc := 1) hB 91 dX5_count_1 (by decide) (by decide) rfl (by decide) ?_
    refine gx_aload_n (pc := 91) hB dX5_count_91 0 rfl ?_
    refine gx_iconst (pc := 92) hB dX5_count_92 3 (by decide) ?_
    refine gx_dVi (pc := 93) (r := mAllN S 3 a) (wr := []) hB (c_X5_all l K m q1 q2 q3 q4 q5 q6 q7 q8 S P H T X Z n ru ty cl sp ca co a 3 h0.1.1 (by first | assumption | omega | decide) (by first | assumption | omega | decide)) mX5_all dX5_count_93 tb_959 pX5_all ⟨Nat.le_of_ble_eq_true rfl, Nat.le_of_ble_eq_true rfl⟩ ⟨rfl, rfl⟩ ⟨Nat.zero_le _, Nat.zero_le _⟩ rfl (Nat.le_of_ble_eq_true rfl) [0, 1, 2, 3, 4, 5, 6, 7, 8] [] rfl rfl (by decide) (by decide) (by decide) rfl rfl [0, 1, 2, 3, 4, 5, 6, 7, 8] (by decide) (wM K m q1 q2 q3 q4 q5 q6 q7 q8 S P H T X Z n ru ty cl sp ca co) rfl ?_
    have e1 : (mCount S a n ty (6 : Int32)) = mAllN S 3 a := by simp [mCount, eq_false c_1, eq_false c_2, eq_false c_3, eq_false c_4, eq_false c_5, eq_false c_6]
    exact gx_iret (pc := 96) hC dX5_count_96 (Nat.zero_le _) (Nat.zero_le _) (⟨by rw [e1], rfl⟩)
  by_cases c_8 : x = 7
  · subst c_8
    refine gx_tableIn (pc := 1) hB 97 dX5_count_1 (by decide) (by decide) rfl (by decide) ?_
    refine gx_aload_n (pc := 97) hB dX5_count_97 0 rfl ?_
    refine gx_iconst (pc := 98) hB dX5_count_98 2 (by decide) ?_
    refine gx_dVi (pc := 99) (r := mAllN S 2 a) (wr := []) hB (c_X5_all l K m q1 q2 q3 q4 q5 q6 q7 q8 S P H T X Z n ru ty cl sp ca co a 2 h0.1.1 (by first | assumption | omega | decide) (by first | assumption | omega | decide)) mX5_all dX5_count_99 tb_959 pX5_all ⟨Nat.le_of_ble_eq_true rfl, Nat.le_of_ble_eq_true rfl⟩ ⟨rfl, rfl⟩ ⟨Nat.zero_le _, Nat.zero_le _⟩ rfl (Nat.le_of_ble_eq_true rfl) [0, 1, 2, 3, 4, 5, 6, 7, 8] [] rfl rfl (by decide) (by decide) (by decide) rfl rfl [0, 1, 2, 3, 4, 5, 6, 7, 8] (by decide) (wM K m q1 q2 q3 q4 q5 q6 q7 q8 S P H T X Z n ru ty cl sp ca co) rfl ?_
    have e1 : (mCount S a n ty (7 : Int32)) = mAllN S 2 a := by simp [mCount, eq_false c_1, eq_false c_2, eq_false c_3, eq_false c_4, eq_false c_5, eq_false c_6, eq_false c_7]
    exact gx_iret (pc := 102) hC dX5_count_102 (Nat.zero_le _) (Nat.zero_le _) (⟨by rw [e1], rfl⟩)
  by_cases c_9 : x = 8
  · subst c_9
    refine gx_tableIn (pc := 1) hB 103 dX5_count_1 (by decide) (by decide) rfl (by decide) ?_
    refine gx_aload_n (pc := 103) hB dX5_count_103 0 rfl ?_
    refine gx_bipush (pc := 104) hB dX5_count_104 6 (by decide) ?_
    refine gx_dVi (pc := 106) (r := mAllN S 6 a) (wr := []) hB (c_X5_all l K m q1 q2 q3 q4 q5 q6 q7 q8 S P H T X Z n ru ty cl sp ca co a 6 h0.1.1 (by first | assumption | omega | decide) (by first | assumption | omega | decide)) mX5_all dX5_count_106 tb_959 pX5_all ⟨Nat.le_of_ble_eq_true rfl, Nat.le_of_ble_eq_true rfl⟩ ⟨rfl, rfl⟩ ⟨Nat.zero_le _, Nat.zero_le _⟩ rfl (Nat.le_of_ble_eq_true rfl) [0, 1, 2, 3, 4, 5, 6, 7, 8] [] rfl rfl (by decide) (by decide) (by decide) rfl rfl [0, 1, 2, 3, 4, 5, 6, 7, 8] (by decide) (wM K m q1 q2 q3 q4 q5 q6 q7 q8 S P H T X Z n ru ty cl sp ca co) rfl ?_
    have e1 : (mCount S a n ty (8 : Int32)) = mAllN S 6 a := by simp [mCount, eq_false c_1, eq_false c_2, eq_false c_3, eq_false c_4, eq_false c_5, eq_false c_6, eq_false c_7, eq_false c_8]
    exact gx_iret (pc := 109) hC dX5_count_109 (Nat.zero_le _) (Nat.zero_le _) (⟨by rw [e1], rfl⟩)
  by_cases c_10 : x = 9
  · subst c_10
    refine gx_tableIn (pc := 1) hB 110 dX5_count_1 (by decide) (by decide) rfl (by decide) ?_
    refine gx_aload_n (pc := 110) hB dX5_count_110 0 rfl ?_
    refine gx_iconst (pc := 111) hB dX5_count_111 5 (by decide) ?_
    refine gx_dVi (pc := 112) (r := mAllN S 5 a) (wr := []) hB (c_X5_all l K m q1 q2 q3 q4 q5 q6 q7 q8 S P H T X Z n ru ty cl sp ca co a 5 h0.1.1 (by first | assumption | omega | decide) (by first | assumption | omega | decide)) mX5_all dX5_count_112 tb_959 pX5_all ⟨Nat.le_of_ble_eq_true rfl, Nat.le_of_ble_eq_true rfl⟩ ⟨rfl, rfl⟩ ⟨Nat.zero_le _, Nat.zero_le _⟩ rfl (Nat.le_of_ble_eq_true rfl) [0, 1, 2, 3, 4, 5, 6, 7, 8] [] rfl rfl (by decide) (by decide) (by decide) rfl rfl [0, 1, 2, 3, 4, 5, 6, 7, 8] (by decide) (wM K m q1 q2 q3 q4 q5 q6 q7 q8 S P H T X Z n ru ty cl sp ca co) rfl ?_
    have e1 : (mCount S a n ty (9 : Int32)) = mAllN S 5 a := by simp [mCount, eq_false c_1, eq_false c_2, eq_false c_3, eq_false c_4, eq_false c_5, eq_false c_6, eq_false c_7, eq_false c_8, eq_false c_9]
    exact gx_iret (pc := 115) hC dX5_count_115 (Nat.zero_le _) (Nat.zero_le _) (⟨by rw [e1], rfl⟩)
  by_cases c_11 : x = 10
  · subst c_11
    refine gx_tableIn (pc := 1) hB 116 dX5_count_1 (by decide) (by decide) rfl (by decide) ?_
    refine gx_aload_n (pc := 116) hB dX5_count_116 0 rfl ?_
    refine gx_bipush (pc := 117) hB dX5_count_117 9 (by decide) ?_
    refine gx_dVi (pc := 119) (r := mAllN S 9 a) (wr := []) hB (c_X5_all l K m q1 q2 q3 q4 q5 q6 q7 q8 S P H T X Z n ru ty cl sp ca co a 9 h0.1.1 (by first | assumption | omega | decide) (by first | assumption | omega | decide)) mX5_all dX5_count_119 tb_959 pX5_all ⟨Nat.le_of_ble_eq_true rfl, Nat.le_of_ble_eq_true rfl⟩ ⟨rfl, rfl⟩ ⟨Nat.zero_le _, Nat.zero_le _⟩ rfl (Nat.le_of_ble_eq_true rfl) [0, 1, 2, 3, 4, 5, 6, 7, 8] [] rfl rfl (by decide) (by decide) (by decide) rfl rfl [0, 1, 2, 3, 4, 5, 6, 7, 8] (by decide) (wM K m q1 q2 q3 q4 q5 q6 q7 q8 S P H T X Z n ru ty cl sp ca co) rfl ?_
    have e1 : (mCount S a n ty (10 : Int32)) = mAllN S 9 a := by simp [mCount, eq_false c_1, eq_false c_2, eq_false c_3, eq_false c_4, eq_false c_5, eq_false c_6, eq_false c_7, eq_false c_8, eq_false c_9, eq_false c_10]
    exact gx_iret (pc := 122) hC dX5_count_122 (Nat.zero_le _) (Nat.zero_le _) (⟨by rw [e1], rfl⟩)
  by_cases c_12 : x = 11
  · subst c_12
    refine gx_tableIn (pc := 1) hB 123 dX5_count_1 (by decide) (by decide) rfl (by decide) ?_
    refine gx_aload_n (pc := 123) hB dX5_count_123 0 rfl ?_
    refine gx_get (pc := 124) hB dX5_count_124 inX5 rfl 0 rfl 4 (by decide) tb_730 rfl rfl ?_
    have e1 : (mCount S a n ty (11 : Int32)) = nI n := by simp [mCount, eq_false c_1, eq_false c_2, eq_false c_3, eq_false c_4, eq_false c_5, eq_false c_6, eq_false c_7, eq_false c_8, eq_false c_9, eq_false c_10, eq_false c_11]
    exact gx_iret (pc := 127) hC dX5_count_127 (Nat.zero_le _) (Nat.zero_le _) (⟨by rw [e1], rfl⟩)
  by_cases c_13 : x = 12
  · subst c_13
    refine gx_tableIn (pc := 1) hB 128 dX5_count_1 (by decide) (by decide) rfl (by decide) ?_
    refine gx_aload_n (pc := 128) hB dX5_count_128 0 rfl ?_
    refine gx_get (pc := 129) hB dX5_count_129 inX5 rfl 0 rfl 7 (by decide) tb_733 rfl rfl ?_
    have e1 : (mCount S a n ty (12 : Int32)) = nI ty := by simp [mCount, eq_false c_1, eq_false c_2, eq_false c_3, eq_false c_4, eq_false c_5, eq_false c_6, eq_false c_7, eq_false c_8, eq_false c_9, eq_false c_10, eq_false c_11, eq_false c_12]
    exact gx_iret (pc := 132) hC dX5_count_132 (Nat.zero_le _) (Nat.zero_le _) (⟨by rw [e1], rfl⟩)
  by_cases c_14 : x = 13
  · subst c_14
    refine gx_tableIn (pc := 1) hB 133 dX5_count_1 (by decide) (by decide) rfl (by decide) ?_
    refine gx_aload_n (pc := 133) hB dX5_count_133 0 rfl ?_
    refine gx_get (pc := 134) hB dX5_count_134 inX5 rfl 0 rfl 0 (by decide) tb_726 rfl rfl ?_
    refine gx_iload_n (pc := 137) hB dX5_count_137 1 rfl ?_
    refine gx_bipush (pc := 138) hB dX5_count_138 13 (by decide) ?_
    refine gx_isub (pc := 140) hB dX5_count_140 ?_
    refine gx_top (show 13 - 13 = 0 by decide) ?_
    refine gx_iald (pc := 141) hB dX5_count_141 1 1 rfl rfl 0 rfl (by decide) (by decide) ?_
    have e1 : (mCount S a n ty (13 : Int32)) = S 0 := by simp [mCount, eq_false c_1, eq_false c_2, eq_false c_3, eq_false c_4, eq_false c_5, eq_false c_6, eq_false c_7, eq_false c_8, eq_false c_9, eq_false c_10, eq_false c_11, eq_false c_12, eq_false c_13]
    exact gx_iret (pc := 142) hC dX5_count_142 (Nat.zero_le _) (Nat.zero_le _) (⟨by rw [e1], rfl⟩)
  by_cases c_15 : x = 14
  · subst c_15
    refine gx_tableIn (pc := 1) hB 133 dX5_count_1 (by decide) (by decide) rfl (by decide) ?_
    refine gx_aload_n (pc := 133) hB dX5_count_133 0 rfl ?_
    refine gx_get (pc := 134) hB dX5_count_134 inX5 rfl 0 rfl 0 (by decide) tb_726 rfl rfl ?_
    refine gx_iload_n (pc := 137) hB dX5_count_137 1 rfl ?_
    refine gx_bipush (pc := 138) hB dX5_count_138 13 (by decide) ?_
    refine gx_isub (pc := 140) hB dX5_count_140 ?_
    refine gx_top (show 14 - 13 = 1 by decide) ?_
    refine gx_iald (pc := 141) hB dX5_count_141 1 1 rfl rfl 1 rfl (by decide) (by decide) ?_
    have e1 : (mCount S a n ty (14 : Int32)) = S 1 := by simp [mCount, eq_false c_1, eq_false c_2, eq_false c_3, eq_false c_4, eq_false c_5, eq_false c_6, eq_false c_7, eq_false c_8, eq_false c_9, eq_false c_10, eq_false c_11, eq_false c_12, eq_false c_13, eq_false c_14]
    exact gx_iret (pc := 142) hC dX5_count_142 (Nat.zero_le _) (Nat.zero_le _) (⟨by rw [e1], rfl⟩)
  have hout : (x).toInt < 0 ∨ 14 < (x).toInt := by
    have zc_1 : (x).toInt ≠ 0 := fun q => c_1 (Int32.toInt_inj.mp q)
    have zc_2 : (x).toInt ≠ 1 := fun q => c_2 (Int32.toInt_inj.mp q)
    have zc_3 : (x).toInt ≠ 2 := fun q => c_3 (Int32.toInt_inj.mp q)
    have zc_4 : (x).toInt ≠ 3 := fun q => c_4 (Int32.toInt_inj.mp q)
    have zc_5 : (x).toInt ≠ 4 := fun q => c_5 (Int32.toInt_inj.mp q)
    have zc_6 : (x).toInt ≠ 5 := fun q => c_6 (Int32.toInt_inj.mp q)
    have zc_7 : (x).toInt ≠ 6 := fun q => c_7 (Int32.toInt_inj.mp q)
    have zc_8 : (x).toInt ≠ 7 := fun q => c_8 (Int32.toInt_inj.mp q)
    have zc_9 : (x).toInt ≠ 8 := fun q => c_9 (Int32.toInt_inj.mp q)
    have zc_10 : (x).toInt ≠ 9 := fun q => c_10 (Int32.toInt_inj.mp q)
    have zc_11 : (x).toInt ≠ 10 := fun q => c_11 (Int32.toInt_inj.mp q)
    have zc_12 : (x).toInt ≠ 11 := fun q => c_12 (Int32.toInt_inj.mp q)
    have zc_13 : (x).toInt ≠ 12 := fun q => c_13 (Int32.toInt_inj.mp q)
    have zc_14 : (x).toInt ≠ 13 := fun q => c_14 (Int32.toInt_inj.mp q)
    have zc_15 : (x).toInt ≠ 14 := fun q => c_15 (Int32.toInt_inj.mp q)
    omega
  refine gx_tableOut (pc := 1) hB 143 dX5_count_1 hout (by decide) ?_
  refine gx_iconst (pc := 143) hB dX5_count_143 (-1) (by decide) ?_
  have e1 : mCount S a n ty x = (-1) := by simp [mCount, eq_false c_1, eq_false c_2, eq_false c_3, eq_false c_4, eq_false c_5, eq_false c_6, eq_false c_7, eq_false c_8, eq_false c_9, eq_false c_10, eq_false c_11, eq_false c_12, eq_false c_13, eq_false c_14, eq_false c_15]
  exact gx_iret (pc := 144) hC dX5_count_144 (Nat.zero_le _) (Nat.zero_le _) (⟨by rw [e1], rfl⟩)
theorem pX5_reads : (parseMethodDescriptor yX5_reads.desc).map (fun d => d.parameters.length) = some 0 := by decide +kernel
theorem mX5_reads : gx_M yX5_reads cX5_reads 4 (some .int) := ⟨tb_993, tb_61, tb_73, tb_994, by decide, by decide⟩
set_option maxHeartbeats 4000000 in
set_option maxRecDepth 100000 in
theorem c_X5_reads (l : Launch) (K : gx_K) (m q1 q2 q3 q4 q5 q6 q7 q8 : Nat) (S P H T X Z : Nat → Int32) (n : Nat) (ru : Bool) (ty : Nat) (cl : Int32) (sp : Nat) (ca : Int32) (co : Nat)  (h0 : ty ≤ 80) (h1 : sp ≤ 100) : gx_Ctr l K yX5_reads cX5_reads 4 (some .int) (rmm 4 69) [.ref m] (wM K m q1 q2 q3 q4 q5 q6 q7 q8 S P H T X Z n ru ty cl sp ca co) (gx_D (some (.int ((rdR X ty Z sp).1))) (wM K m q1 q2 q3 q4 q5 q6 q7 q8 S P H T X ((rdR X ty Z sp).2.2) n ru ty cl ((rdR X ty Z sp).2.1) ca co)) := by
  refine gx_of (by decide) (Nat.le_of_ble_eq_true rfl) (fun G hC => ?_)
  have hB := hC.b
  refine gx_lv (lv' := [(0, .ref m)]) rfl ?_
  refine gx_aload_n (pc := 0) hB dX5_reads_0 0 rfl ?_
  refine gx_dVi (pc := 1) (r := woF X ty sp) (wr := []) hB (c_X5_word l K m q1 q2 q3 q4 q5 q6 q7 q8 S P H T X Z n ru ty cl sp ca co (by first | assumption | omega | decide) (by first | assumption | omega | decide)) mX5_word dX5_reads_1 tb_995 pX5_word ⟨Nat.le_of_ble_eq_true rfl, Nat.le_of_ble_eq_true rfl⟩ ⟨rfl, rfl⟩ ⟨Nat.zero_le _, Nat.zero_le _⟩ rfl (Nat.le_of_ble_eq_true rfl) [0, 1, 2, 3, 4, 5, 6, 7, 8] [] rfl rfl (by decide) (by decide) (by decide) rfl rfl [0, 1, 2, 3, 4, 5, 6, 7, 8] (by decide) (wM K m q1 q2 q3 q4 q5 q6 q7 q8 S P H T X Z n ru ty cl (sp + (woC X ty sp)) ca co) rfl ?_
  refine gx_istore_n (pc := 4) hB dX5_reads_4 (by decide) [(1, .int (woF X ty sp)), (0, .ref m)] rfl ?_
  refine gx_iload_n (pc := 5) hB dX5_reads_5 0 rfl ?_
  refine gx_if_lt (pc := 6) hB 13 dX5_reads_6 (by decide) (fun c_1 => ?_) (fun c_1 => ?_)
  · refine gx_iconst (pc := 13) hB dX5_reads_13 0 (by decide) ?_
    refine gx_istore_n (pc := 14) hB dX5_reads_14 (by decide) [(2, .int 0), (1, .int (woF X ty sp)), (0, .ref m)] rfl ?_
    refine gx_iconst (pc := 15) hB dX5_reads_15 0 (by decide) ?_
    refine gx_istore_n (pc := 16) hB dX5_reads_16 (by decide) [(3, .int 0), (2, .int 0), (1, .int (woF X ty sp)), (0, .ref m)] rfl ?_
    refine gx_iload_n (pc := 17) hB dX5_reads_17 1 rfl ?_
    refine gx_if_eq (pc := 18) hB 60 dX5_reads_18 (by decide) (fun c_2 => ?_) (fun c_2 => ?_)
    · refine gx_iload_n (pc := 60) hB dX5_reads_60 1 rfl ?_
      refine gx_if_eq (pc := 61) hB 77 dX5_reads_61 (by decide) (fun c_3 => ?_) (fun c_3 => ?_)
      · refine gx_bipush (pc := 77) hB dX5_reads_77 (-4) (by decide) ?_
        have e1 : ((rdR X ty Z sp).1) = (-4) := by simp [rdR, c_1, eq_false (Int32.not_le.mpr c_1)]
        have f0 : ((rdR X ty Z sp).2.2) = Z := by simp [rdR, c_1, eq_false (Int32.not_le.mpr c_1)]
        have f1 : ((rdR X ty Z sp).2.1) = (sp + (woC X ty sp)) := by simp [rdR, c_1, eq_false (Int32.not_le.mpr c_1)]
        exact gx_iret (pc := 79) hC dX5_reads_79 (Nat.zero_le _) (Nat.zero_le _) (⟨by rw [e1], by rw [f0, f1]⟩)
      · exact absurd c_3 (by decide)
    · exact absurd c_2 (by decide)
  · obtain ⟨w, hw, s_ew⟩ := woF_of c_1
    have s_w : (nI w).toNatClampNeg = w := nI_clamp (by omega)
    have s_ng : (nI w < 0) = False := eq_false (nI_pos (by omega))
    obtain ⟨hm4, hmN⟩ := mN_le w hw
    refine gx_lv (lv' := [(1, .int (nI w)), (0, .ref m)]) (by rw [s_ew]) ?_
    refine gx_iconst (pc := 9) hB dX5_reads_9 1 (by decide) ?_
    refine gx_goto (pc := 10) hB 14 dX5_reads_10 (by decide) ?_
    refine gx_istore_n (pc := 14) hB dX5_reads_14 (by decide) [(2, .int 1), (1, .int (nI w)), (0, .ref m)] rfl ?_
    refine gx_iconst (pc := 15) hB dX5_reads_15 0 (by decide) ?_
    refine gx_istore_n (pc := 16) hB dX5_reads_16 (by decide) [(3, .int 0), (2, .int 1), (1, .int (nI w)), (0, .ref m)] rfl ?_
    have loop_17 : ∀ f k : Nat, k + f = (mN w).toNatClampNeg → G 0 0 (wM K m q1 q2 q3 q4 q5 q6 q7 q8 S P H T X ((rdN X ty Z (sp + woC X ty sp) k).2.2) n ru ty cl ((rdN X ty Z (sp + woC X ty sp) k).2.1) ca co) [(0, .ref m), (1, .int (nI w)), (2, .int (bI ((rdN X ty Z (sp + woC X ty sp) k).1))), (3, .int (nI k))] 17 [] := by
      intro f
      induction f with
      | zero =>
        intro k hi
        have hsp : (rdN X ty Z (sp + woC X ty sp) k).2.1 ≤ sp + woC X ty sp + 5 * k := rdN_sp k
        have hwc : woC X ty sp ≤ 7 := woC_le
        refine gx_iload_n (pc := 17) hB dX5_reads_17 2 rfl ?_
        refine gx_if_eq_b (pc := 18) hB 60 dX5_reads_18 (by decide) (fun c_4 => ?_) (fun c_4 => ?_)
        · have e_r : (rdN X ty Z (sp + woC X ty sp) k) = (rdE X ty Z sp w) := by unfold rdE; rw [show k = (mN w).toNatClampNeg by omega]
          have s_r1 : (rdE X ty Z sp w).1 = false := by rw [← e_r]; exact c_4
          refine gx_all (ws' := wM K m q1 q2 q3 q4 q5 q6 q7 q8 S P H T X ((rdE X ty Z sp w).2.2) n ru ty cl ((rdE X ty Z sp w).2.1) ca co) (lv' := [(0, .ref m), (1, .int (nI w)), (2, .int (bI ((rdE X ty Z sp w).1))), (3, .int (nI k))]) (by rw [e_r]) (by rw [e_r]) ?_
          have hsp2 : (rdE X ty Z sp w).2.1 ≤ sp + 27 := by rw [← e_r]; omega
          refine gx_iload_n (pc := 60) hB dX5_reads_60 2 rfl ?_
          refine gx_if_eq_b (pc := 61) hB 77 dX5_reads_61 (by decide) (fun c_5 => ?_) (fun c_5 => ?_)
          · refine gx_bipush (pc := 77) hB dX5_reads_77 (-4) (by decide) ?_
            have e1 : ((rdR X ty Z sp).1) = (-4) := by simp [rdR, s_ew, s_w, s_ng, s_r1, c_5]
            have f0 : ((rdR X ty Z sp).2.2) = ((rdE X ty Z sp w).2.2) := by simp [rdR, s_ew, s_w, s_ng, s_r1, c_5]
            have f1 : ((rdR X ty Z sp).2.1) = ((rdE X ty Z sp w).2.1) := by simp [rdR, s_ew, s_w, s_ng, s_r1, c_5]
            exact gx_iret (pc := 79) hC dX5_reads_79 (Nat.zero_le _) (Nat.zero_le _) (⟨by rw [e1], by rw [f0, f1]⟩)
          · exact absurd (c_5.symm.trans s_r1) (by decide)
        · refine gx_iload_n (pc := 21) hB dX5_reads_21 3 rfl ?_
          refine gx_aload_n (pc := 22) hB dX5_reads_22 0 rfl ?_
          refine gx_get (pc := 23) hB dX5_reads_23 inX5 rfl 0 rfl 9 (by decide) tb_735 rfl rfl ?_
          refine gx_iload_n (pc := 26) hB dX5_reads_26 1 rfl ?_
          refine gx_iald (pc := 27) hB dX5_reads_27 7 1 rfl rfl w rfl (by omega) (by decide) ?_
          refine gx_icmp_ge (pc := 28) hB 60 dX5_reads_28 (by decide) (fun c_6 => ?_) (fun c_6 => ?_)
          · have e_r : (rdN X ty Z (sp + woC X ty sp) k) = (rdE X ty Z sp w) := by unfold rdE; rw [show k = (mN w).toNatClampNeg by omega]
            have s_r1 : (rdE X ty Z sp w).1 = true := by rw [← e_r]; exact c_4
            refine gx_all (ws' := wM K m q1 q2 q3 q4 q5 q6 q7 q8 S P H T X ((rdE X ty Z sp w).2.2) n ru ty cl ((rdE X ty Z sp w).2.1) ca co) (lv' := [(0, .ref m), (1, .int (nI w)), (2, .int (bI ((rdE X ty Z sp w).1))), (3, .int (nI k))]) (by rw [e_r]) (by rw [e_r]) ?_
            have hsp2 : (rdE X ty Z sp w).2.1 ≤ sp + 27 := by rw [← e_r]; omega
            refine gx_iload_n (pc := 60) hB dX5_reads_60 2 rfl ?_
            refine gx_if_eq_b (pc := 61) hB 77 dX5_reads_61 (by decide) (fun c_7 => ?_) (fun c_7 => ?_)
            · exact absurd (c_7.symm.trans s_r1) (by decide)
            · refine gx_aload_n (pc := 64) hB dX5_reads_64 0 rfl ?_
              refine gx_bipush (pc := 65) hB dX5_reads_65 59 (by decide) ?_
              refine gx_dVi (pc := 67) (r := bI (xAt X ty ((rdE X ty Z sp w).2.1) 59 59)) (wr := []) hB (c_X5_passes l K m q1 q2 q3 q4 q5 q6 q7 q8 S P H T X ((rdE X ty Z sp w).2.2) n ru ty cl ((rdE X ty Z sp w).2.1) ca co 59 (by first | assumption | omega | decide) (by first | assumption | omega | decide)) mX5_passes dX5_reads_67 tb_1004 pX5_passes ⟨Nat.le_of_ble_eq_true rfl, Nat.le_of_ble_eq_true rfl⟩ ⟨rfl, rfl⟩ ⟨Nat.zero_le _, Nat.zero_le _⟩ rfl (Nat.le_of_ble_eq_true rfl) [0, 1, 2, 3, 4, 5, 6, 7, 8] [] rfl rfl (by decide) (by decide) (by decide) rfl rfl [0, 1, 2, 3, 4, 5, 6, 7, 8] (by decide) (wM K m q1 q2 q3 q4 q5 q6 q7 q8 S P H T X ((rdE X ty Z sp w).2.2) n ru ty cl (if xAt X ty ((rdE X ty Z sp w).2.1) 59 59 then ((rdE X ty Z sp w).2.1) + 1 else ((rdE X ty Z sp w).2.1)) ca co) rfl ?_
              refine gx_if_eq_b (pc := 70) hB 77 dX5_reads_70 (by decide) (fun c_8 => ?_) (fun c_8 => ?_)
              · refine gx_ws (ws' := wM K m q1 q2 q3 q4 q5 q6 q7 q8 S P H T X ((rdE X ty Z sp w).2.2) n ru ty cl ((rdE X ty Z sp w).2.1) ca co) (by simp [c_8]) ?_
                refine gx_bipush (pc := 77) hB dX5_reads_77 (-4) (by decide) ?_
                have e1 : ((rdR X ty Z sp).1) = (-4) := by simp [rdR, s_ew, s_w, s_ng, s_r1, c_7, c_8]
                have f0 : ((rdR X ty Z sp).2.2) = ((rdE X ty Z sp w).2.2) := by simp [rdR, s_ew, s_w, s_ng, s_r1, c_7, c_8]
                have f1 : ((rdR X ty Z sp).2.1) = ((rdE X ty Z sp w).2.1) := by simp [rdR, s_ew, s_w, s_ng, s_r1, c_7, c_8]
                exact gx_iret (pc := 79) hC dX5_reads_79 (Nat.zero_le _) (Nat.zero_le _) (⟨by rw [e1], by rw [f0, f1]⟩)
              · refine gx_ws (ws' := wM K m q1 q2 q3 q4 q5 q6 q7 q8 S P H T X ((rdE X ty Z sp w).2.2) n ru ty cl ((rdE X ty Z sp w).2.1 + 1) ca co) (by simp [c_8]) ?_
                refine gx_iload_n (pc := 73) hB dX5_reads_73 1 rfl ?_
                refine gx_goto (pc := 74) hB 79 dX5_reads_74 (by decide) ?_
                have e1 : ((rdR X ty Z sp).1) = nI w := by simp [rdR, s_ew, s_w, s_ng, s_r1, c_7, c_8]
                have f0 : ((rdR X ty Z sp).2.2) = ((rdE X ty Z sp w).2.2) := by simp [rdR, s_ew, s_w, s_ng, s_r1, c_7, c_8]
                have f1 : ((rdR X ty Z sp).2.1) = ((rdE X ty Z sp w).2.1 + 1) := by simp [rdR, s_ew, s_w, s_ng, s_r1, c_7, c_8]
                exact gx_iret (pc := 79) hC dX5_reads_79 (Nat.zero_le _) (Nat.zero_le _) (⟨by rw [e1], by rw [f0, f1]⟩)
          · exact absurd (lpT (x := mN w) hi) c_6
      | succ f ihf =>
        intro k hi
        have hsp : (rdN X ty Z (sp + woC X ty sp) k).2.1 ≤ sp + woC X ty sp + 5 * k := rdN_sp k
        have hwc : woC X ty sp ≤ 7 := woC_le
        refine gx_iload_n (pc := 17) hB dX5_reads_17 2 rfl ?_
        refine gx_if_eq_b (pc := 18) hB 60 dX5_reads_18 (by decide) (fun c_9 => ?_) (fun c_9 => ?_)
        · have e_r : (rdN X ty Z (sp + woC X ty sp) k) = (rdE X ty Z sp w) := by unfold rdE; rw [← hi]; exact (rdN_stay c_9 _).symm
          have s_r1 : (rdE X ty Z sp w).1 = false := by rw [← e_r]; exact c_9
          refine gx_all (ws' := wM K m q1 q2 q3 q4 q5 q6 q7 q8 S P H T X ((rdE X ty Z sp w).2.2) n ru ty cl ((rdE X ty Z sp w).2.1) ca co) (lv' := [(0, .ref m), (1, .int (nI w)), (2, .int (bI ((rdE X ty Z sp w).1))), (3, .int (nI k))]) (by rw [e_r]) (by rw [e_r]) ?_
          have hsp2 : (rdE X ty Z sp w).2.1 ≤ sp + 27 := by rw [← e_r]; omega
          refine gx_iload_n (pc := 60) hB dX5_reads_60 2 rfl ?_
          refine gx_if_eq_b (pc := 61) hB 77 dX5_reads_61 (by decide) (fun c_10 => ?_) (fun c_10 => ?_)
          · refine gx_bipush (pc := 77) hB dX5_reads_77 (-4) (by decide) ?_
            have e1 : ((rdR X ty Z sp).1) = (-4) := by simp [rdR, s_ew, s_w, s_ng, s_r1, c_10]
            have f0 : ((rdR X ty Z sp).2.2) = ((rdE X ty Z sp w).2.2) := by simp [rdR, s_ew, s_w, s_ng, s_r1, c_10]
            have f1 : ((rdR X ty Z sp).2.1) = ((rdE X ty Z sp w).2.1) := by simp [rdR, s_ew, s_w, s_ng, s_r1, c_10]
            exact gx_iret (pc := 79) hC dX5_reads_79 (Nat.zero_le _) (Nat.zero_le _) (⟨by rw [e1], by rw [f0, f1]⟩)
          · exact absurd (c_10.symm.trans s_r1) (by decide)
        · refine gx_iload_n (pc := 21) hB dX5_reads_21 3 rfl ?_
          refine gx_aload_n (pc := 22) hB dX5_reads_22 0 rfl ?_
          refine gx_get (pc := 23) hB dX5_reads_23 inX5 rfl 0 rfl 9 (by decide) tb_735 rfl rfl ?_
          refine gx_iload_n (pc := 26) hB dX5_reads_26 1 rfl ?_
          refine gx_iald (pc := 27) hB dX5_reads_27 7 1 rfl rfl w rfl (by omega) (by decide) ?_
          refine gx_icmp_ge (pc := 28) hB 60 dX5_reads_28 (by decide) (fun c_11 => ?_) (fun c_11 => ?_)
          · exact absurd c_11 (lpF (x := mN w) hi)
          · refine gx_aload_n (pc := 31) hB dX5_reads_31 0 rfl ?_
            refine gx_bipush (pc := 32) hB dX5_reads_32 32 (by decide) ?_
            refine gx_dVi (pc := 34) (r := bI (xAt X ty ((rdN X ty Z (sp + woC X ty sp) k).2.1) 32 32)) (wr := []) hB (c_X5_passes l K m q1 q2 q3 q4 q5 q6 q7 q8 S P H T X ((rdN X ty Z (sp + woC X ty sp) k).2.2) n ru ty cl ((rdN X ty Z (sp + woC X ty sp) k).2.1) ca co 32 (by first | assumption | omega | decide) (by first | assumption | omega | decide)) mX5_passes dX5_reads_34 tb_1004 pX5_passes ⟨Nat.le_of_ble_eq_true rfl, Nat.le_of_ble_eq_true rfl⟩ ⟨rfl, rfl⟩ ⟨Nat.zero_le _, Nat.zero_le _⟩ rfl (Nat.le_of_ble_eq_true rfl) [0, 1, 2, 3, 4, 5, 6, 7, 8] [] rfl rfl (by decide) (by decide) (by decide) rfl rfl [0, 1, 2, 3, 4, 5, 6, 7, 8] (by decide) (wM K m q1 q2 q3 q4 q5 q6 q7 q8 S P H T X ((rdN X ty Z (sp + woC X ty sp) k).2.2) n ru ty cl (if xAt X ty ((rdN X ty Z (sp + woC X ty sp) k).2.1) 32 32 then ((rdN X ty Z (sp + woC X ty sp) k).2.1) + 1 else ((rdN X ty Z (sp + woC X ty sp) k).2.1)) ca co) rfl ?_
            refine gx_if_eq_b (pc := 37) hB 52 dX5_reads_37 (by decide) (fun c_12 => ?_) (fun c_12 => ?_)
            · refine gx_ws (ws' := wM K m q1 q2 q3 q4 q5 q6 q7 q8 S P H T X ((rdN X ty Z (sp + woC X ty sp) k).2.2) n ru ty cl ((rdN X ty Z (sp + woC X ty sp) k).2.1) ca co) (by simp [c_12]) ?_
              refine gx_iconst (pc := 52) hB dX5_reads_52 0 (by decide) ?_
              refine gx_istore_n (pc := 53) hB dX5_reads_53 (by decide) [(2, .int 0), (0, .ref m), (1, .int (nI w)), (3, .int (nI k))] rfl ?_
              refine gx_iinc (pc := 54) hB dX5_reads_54 3 (by decide) rfl (nI (k + 1)) (nI_1 _) [(3, .int (nI (k + 1))), (2, .int 0), (0, .ref m), (1, .int (nI w))] rfl ?_
              refine gx_goto (pc := 57) hB 17 dX5_reads_57 (by decide) ?_
              refine gx_sub hB (lv' := [(0, .ref m), (1, .int (nI w)), (2, .int 0), (3, .int (nI (k + 1)))]) [2, 3, 1, 0] rfl ?_
              refine gx_all (ws' := wM K m q1 q2 q3 q4 q5 q6 q7 q8 S P H T X ((rdN X ty Z (sp + woC X ty sp) (k + 1)).2.2) n ru ty cl ((rdN X ty Z (sp + woC X ty sp) (k + 1)).2.1) ca co) (lv' := [(0, .ref m), (1, .int (nI w)), (2, .int (bI ((rdN X ty Z (sp + woC X ty sp) (k + 1)).1))), (3, .int (nI (k + 1)))]) (by simp [rdN, rd1, bI, s_ew, s_w, s_ng, c_9, Int32.not_le.mp c_11, eq_false c_11, c_12]) (by simp [rdN, rd1, bI, s_ew, s_w, s_ng, c_9, Int32.not_le.mp c_11, eq_false c_11, c_12]) ?_
              exact ihf (k + 1) (by omega)
            · refine gx_ws (ws' := wM K m q1 q2 q3 q4 q5 q6 q7 q8 S P H T X ((rdN X ty Z (sp + woC X ty sp) k).2.2) n ru ty cl ((rdN X ty Z (sp + woC X ty sp) k).2.1 + 1) ca co) (by simp [c_12]) ?_
              refine gx_aload_n (pc := 40) hB dX5_reads_40 0 rfl ?_
              refine gx_iload_n (pc := 41) hB dX5_reads_41 3 rfl ?_
              refine gx_dVi (pc := 42) (r := bI (decide (0 < nuC X ty ((rdN X ty Z (sp + woC X ty sp) k).2.1 + 1)))) (wr := []) hB (c_X5_number l K m q1 q2 q3 q4 q5 q6 q7 q8 S P H T X ((rdN X ty Z (sp + woC X ty sp) k).2.2) n ru ty cl ((rdN X ty Z (sp + woC X ty sp) k).2.1 + 1) ca co k (by first | assumption | omega | decide) (by first | assumption | omega | decide) (by first | assumption | omega | decide)) mX5_number dX5_reads_42 tb_1008 pX5_number ⟨Nat.le_of_ble_eq_true rfl, Nat.le_of_ble_eq_true rfl⟩ ⟨rfl, rfl⟩ ⟨Nat.zero_le _, Nat.zero_le _⟩ rfl (Nat.le_of_ble_eq_true rfl) [0, 1, 2, 3, 4, 5, 6, 7, 8] [] rfl rfl (by decide) (by decide) (by decide) rfl rfl [0, 1, 2, 3, 4, 5, 6, 7, 8] (by decide) (wM K m q1 q2 q3 q4 q5 q6 q7 q8 S P H T X (upd ((rdN X ty Z (sp + woC X ty sp) k).2.2) k (nuV X ((rdN X ty Z (sp + woC X ty sp) k).2.1 + 1) (nuC X ty ((rdN X ty Z (sp + woC X ty sp) k).2.1 + 1)))) n ru ty cl (((rdN X ty Z (sp + woC X ty sp) k).2.1 + 1) + (nuC X ty ((rdN X ty Z (sp + woC X ty sp) k).2.1 + 1))) ca co) rfl ?_
              refine gx_if_eq_b (pc := 45) hB 52 dX5_reads_45 (by decide) (fun c_13 => ?_) (fun c_13 => ?_)
              · refine gx_iconst (pc := 52) hB dX5_reads_52 0 (by decide) ?_
                refine gx_istore_n (pc := 53) hB dX5_reads_53 (by decide) [(2, .int 0), (0, .ref m), (1, .int (nI w)), (3, .int (nI k))] rfl ?_
                refine gx_iinc (pc := 54) hB dX5_reads_54 3 (by decide) rfl (nI (k + 1)) (nI_1 _) [(3, .int (nI (k + 1))), (2, .int 0), (0, .ref m), (1, .int (nI w))] rfl ?_
                refine gx_goto (pc := 57) hB 17 dX5_reads_57 (by decide) ?_
                refine gx_sub hB (lv' := [(0, .ref m), (1, .int (nI w)), (2, .int 0), (3, .int (nI (k + 1)))]) [2, 3, 1, 0] rfl ?_
                refine gx_all (ws' := wM K m q1 q2 q3 q4 q5 q6 q7 q8 S P H T X ((rdN X ty Z (sp + woC X ty sp) (k + 1)).2.2) n ru ty cl ((rdN X ty Z (sp + woC X ty sp) (k + 1)).2.1) ca co) (lv' := [(0, .ref m), (1, .int (nI w)), (2, .int (bI ((rdN X ty Z (sp + woC X ty sp) (k + 1)).1))), (3, .int (nI (k + 1)))]) (by simp [rdN, rd1, bI, s_ew, s_w, s_ng, c_9, Int32.not_le.mp c_11, eq_false c_11, c_12, c_13]) (by simp [rdN, rd1, bI, s_ew, s_w, s_ng, c_9, Int32.not_le.mp c_11, eq_false c_11, c_12, c_13]) ?_
                exact ihf (k + 1) (by omega)
              · refine gx_iconst (pc := 48) hB dX5_reads_48 1 (by decide) ?_
                refine gx_goto (pc := 49) hB 53 dX5_reads_49 (by decide) ?_
                refine gx_istore_n (pc := 53) hB dX5_reads_53 (by decide) [(2, .int 1), (0, .ref m), (1, .int (nI w)), (3, .int (nI k))] rfl ?_
                refine gx_iinc (pc := 54) hB dX5_reads_54 3 (by decide) rfl (nI (k + 1)) (nI_1 _) [(3, .int (nI (k + 1))), (2, .int 1), (0, .ref m), (1, .int (nI w))] rfl ?_
                refine gx_goto (pc := 57) hB 17 dX5_reads_57 (by decide) ?_
                refine gx_sub hB (lv' := [(0, .ref m), (1, .int (nI w)), (2, .int 1), (3, .int (nI (k + 1)))]) [2, 3, 1, 0] rfl ?_
                refine gx_all (ws' := wM K m q1 q2 q3 q4 q5 q6 q7 q8 S P H T X ((rdN X ty Z (sp + woC X ty sp) (k + 1)).2.2) n ru ty cl ((rdN X ty Z (sp + woC X ty sp) (k + 1)).2.1) ca co) (lv' := [(0, .ref m), (1, .int (nI w)), (2, .int (bI ((rdN X ty Z (sp + woC X ty sp) (k + 1)).1))), (3, .int (nI (k + 1)))]) (by simp [rdN, rd1, bI, s_ew, s_w, s_ng, c_9, Int32.not_le.mp c_11, eq_false c_11, c_12, c_13]) (by simp [rdN, rd1, bI, s_ew, s_w, s_ng, c_9, Int32.not_le.mp c_11, eq_false c_11, c_12, c_13]) ?_
                exact ihf (k + 1) (by omega)
    refine gx_sub hB (lv' := [(0, .ref m), (1, .int (nI w)), (2, .int 1), (3, .int 0)]) [3, 2, 1, 0] rfl ?_
    exact loop_17 (mN w).toNatClampNeg 0 (by omega)
theorem pX5_calls : (parseMethodDescriptor yX5_calls.desc).map (fun d => d.parameters.length) = some 1 := by decide +kernel
theorem mX5_calls : gx_M yX5_calls cX5_calls 2 (some .int) := ⟨tb_1014, tb_66, tb_73, tb_1015, by decide, by decide⟩
set_option maxHeartbeats 4000000 in
set_option maxRecDepth 100000 in
theorem c_X5_calls (l : Launch) (K : gx_K) (m q1 q2 q3 q4 q5 q6 q7 q8 : Nat) (S P H T X Z : Nat → Int32) (n : Nat) (ru : Bool) (ty : Nat) (cl : Int32) (sp : Nat) (ca : Int32) (co : Nat) (a b c e : Nat) (x : Int32) (h0 : sOk S a b c e) (h1 : n ≤ 4) : gx_Ctr l K yX5_calls cX5_calls 2 (some .int) (rmm 6 115) [.ref m, .int x] (wM K m q1 q2 q3 q4 q5 q6 q7 q8 S P H T X Z n ru ty cl sp ca co) (gx_D (some (.int ((mCall S b c e Z x).1))) (wM K m q1 q2 q3 q4 q5 q6 q7 q8 ((mCall S b c e Z x).2.2) (kpP (mCall S b c e Z x).2.1 ru n P S) H (if x = 3 then S else T) X Z (kpn (mCall S b c e Z x).2.1 ru n) ru ty (if x = 3 then (mClN S c (-1) c).2.1 else cl) sp ca co)) := by
  refine gx_of (by decide) (Nat.le_of_ble_eq_true rfl) (fun G hC => ?_)
  have hB := hC.b
  refine gx_lv (lv' := [(0, .ref m), (1, .int x)]) rfl ?_
  have hb0 := h0.1
  refine gx_iload_n (pc := 0) hB dX5_calls_0 1 rfl ?_
  by_cases c_1 : x = 0
  · subst c_1
    refine gx_tableIn (pc := 1) hB 48 dX5_calls_1 (by decide) (by decide) rfl (by decide) ?_
    refine gx_aload_n (pc := 48) hB dX5_calls_48 0 rfl ?_
    refine gx_aload_n (pc := 49) hB dX5_calls_49 0 rfl ?_
    refine gx_get (pc := 50) hB dX5_calls_50 inX5 rfl 0 rfl 14 (by decide) tb_740 rfl rfl ?_
    refine gx_iconst (pc := 53) hB dX5_calls_53 0 (by decide) ?_
    refine gx_iald (pc := 54) hB dX5_calls_54 8 1 rfl rfl 0 rfl (by decide) (by decide) ?_
    refine gx_aload_n (pc := 55) hB dX5_calls_55 0 rfl ?_
    refine gx_get (pc := 56) hB dX5_calls_56 inX5 rfl 0 rfl 14 (by decide) tb_740 rfl rfl ?_
    refine gx_iconst (pc := 59) hB dX5_calls_59 1 (by decide) ?_
    refine gx_iald (pc := 60) hB dX5_calls_60 8 1 rfl rfl 1 rfl (by decide) (by decide) ?_
    refine gx_aload_n (pc := 61) hB dX5_calls_61 0 rfl ?_
    refine gx_get (pc := 62) hB dX5_calls_62 inX5 rfl 0 rfl 14 (by decide) tb_740 rfl rfl ?_
    refine gx_iconst (pc := 65) hB dX5_calls_65 2 (by decide) ?_
    refine gx_iald (pc := 66) hB dX5_calls_66 8 1 rfl rfl 2 rfl (by decide) (by decide) ?_
    refine gx_dVi (pc := 67) (r := (mGive S c (Z 0) (Z 1) (Z 2)).1) (wr := []) hB (c_X5_give l K m q1 q2 q3 q4 q5 q6 q7 q8 S P H T X Z n ru ty cl sp ca co a b c e (Z 0) (Z 1) (Z 2) (by first | assumption | omega | decide) (by first | assumption | omega | decide)) mX5_give dX5_calls_67 tb_1016 pX5_give ⟨Nat.le_of_ble_eq_true rfl, Nat.le_of_ble_eq_true rfl⟩ ⟨rfl, rfl⟩ ⟨Nat.zero_le _, Nat.zero_le _⟩ rfl (Nat.le_of_ble_eq_true rfl) [0, 1, 2, 3, 4, 5, 6, 7, 8] [] rfl rfl (by decide) (by decide) (by decide) rfl rfl [0, 1, 2, 3, 4, 5, 6, 7, 8] (by decide) (wM K m q1 q2 q3 q4 q5 q6 q7 q8 ((mGive S c (Z 0) (Z 1) (Z 2)).2.2) (kpP (mGive S c (Z 0) (Z 1) (Z 2)).2.1 ru n P S) H T X Z (kpn (mGive S c (Z 0) (Z 1) (Z 2)).2.1 ru n) ru ty cl sp ca co) rfl ?_
    have e1 : ((mCall S b c e Z (0 : Int32)).1) = ((mGive S c (Z 0) (Z 1) (Z 2)).1) := by simp [mCall]
    have f0 : ((mCall S b c e Z (0 : Int32)).2.2) = ((mGive S c (Z 0) (Z 1) (Z 2)).2.2) := by simp [mCall]
    have f1 : (kpP (mCall S b c e Z (0 : Int32)).2.1 ru n P S) = (kpP (mGive S c (Z 0) (Z 1) (Z 2)).2.1 ru n P S) := by simp [mCall]
    have f2 : (if (0 : Int32) = 3 then S else T) = T := by simp [mCall]
    have f3 : (kpn (mCall S b c e Z (0 : Int32)).2.1 ru n) = (kpn (mGive S c (Z 0) (Z 1) (Z 2)).2.1 ru n) := by simp [mCall]
    have f4 : (if (0 : Int32) = 3 then (mClN S c (-1) c).2.1 else cl) = cl := by simp [mCall]
    exact gx_iret (pc := 70) hC dX5_calls_70 (Nat.zero_le _) (Nat.zero_le _) (⟨by rw [e1], by rw [f0, f1, f2, f3, f4]⟩)
  by_cases c_2 : x = 1
  · subst c_2
    refine gx_tableIn (pc := 1) hB 71 dX5_calls_1 (by decide) (by decide) rfl (by decide) ?_
    refine gx_aload_n (pc := 71) hB dX5_calls_71 0 rfl ?_
    refine gx_aload_n (pc := 72) hB dX5_calls_72 0 rfl ?_
    refine gx_get (pc := 73) hB dX5_calls_73 inX5 rfl 0 rfl 14 (by decide) tb_740 rfl rfl ?_
    refine gx_iconst (pc := 76) hB dX5_calls_76 0 (by decide) ?_
    refine gx_iald (pc := 77) hB dX5_calls_77 8 1 rfl rfl 0 rfl (by decide) (by decide) ?_
    refine gx_aload_n (pc := 78) hB dX5_calls_78 0 rfl ?_
    refine gx_get (pc := 79) hB dX5_calls_79 inX5 rfl 0 rfl 14 (by decide) tb_740 rfl rfl ?_
    refine gx_iconst (pc := 82) hB dX5_calls_82 1 (by decide) ?_
    refine gx_iald (pc := 83) hB dX5_calls_83 8 1 rfl rfl 1 rfl (by decide) (by decide) ?_
    refine gx_aload_n (pc := 84) hB dX5_calls_84 0 rfl ?_
    refine gx_get (pc := 85) hB dX5_calls_85 inX5 rfl 0 rfl 14 (by decide) tb_740 rfl rfl ?_
    refine gx_iconst (pc := 88) hB dX5_calls_88 2 (by decide) ?_
    refine gx_iald (pc := 89) hB dX5_calls_89 8 1 rfl rfl 2 rfl (by decide) (by decide) ?_
    refine gx_aload_n (pc := 90) hB dX5_calls_90 0 rfl ?_
    refine gx_get (pc := 91) hB dX5_calls_91 inX5 rfl 0 rfl 14 (by decide) tb_740 rfl rfl ?_
    refine gx_iconst (pc := 94) hB dX5_calls_94 3 (by decide) ?_
    refine gx_iald (pc := 95) hB dX5_calls_95 8 1 rfl rfl 3 rfl (by decide) (by decide) ?_
    refine gx_dVi (pc := 96) (r := (mPledge S e (Z 0) (Z 1) (Z 2) (Z 3)).1) (wr := []) hB (c_X5_pledge l K m q1 q2 q3 q4 q5 q6 q7 q8 S P H T X Z n ru ty cl sp ca co a b c e (Z 0) (Z 1) (Z 2) (Z 3) (by first | assumption | omega | decide) (by first | assumption | omega | decide)) mX5_pledge dX5_calls_96 tb_1017 pX5_pledge ⟨Nat.le_of_ble_eq_true rfl, Nat.le_of_ble_eq_true rfl⟩ ⟨rfl, rfl⟩ ⟨Nat.zero_le _, Nat.zero_le _⟩ rfl (Nat.le_of_ble_eq_true rfl) [0, 1, 2, 3, 4, 5, 6, 7, 8] [] rfl rfl (by decide) (by decide) (by decide) rfl rfl [0, 1, 2, 3, 4, 5, 6, 7, 8] (by decide) (wM K m q1 q2 q3 q4 q5 q6 q7 q8 ((mPledge S e (Z 0) (Z 1) (Z 2) (Z 3)).2.2) (kpP (mPledge S e (Z 0) (Z 1) (Z 2) (Z 3)).2.1 ru n P S) H T X Z (kpn (mPledge S e (Z 0) (Z 1) (Z 2) (Z 3)).2.1 ru n) ru ty cl sp ca co) rfl ?_
    have e1 : ((mCall S b c e Z (1 : Int32)).1) = ((mPledge S e (Z 0) (Z 1) (Z 2) (Z 3)).1) := by simp [mCall, eq_false c_1]
    have f0 : ((mCall S b c e Z (1 : Int32)).2.2) = ((mPledge S e (Z 0) (Z 1) (Z 2) (Z 3)).2.2) := by simp [mCall, eq_false c_1]
    have f1 : (kpP (mCall S b c e Z (1 : Int32)).2.1 ru n P S) = (kpP (mPledge S e (Z 0) (Z 1) (Z 2) (Z 3)).2.1 ru n P S) := by simp [mCall, eq_false c_1]
    have f2 : (if (1 : Int32) = 3 then S else T) = T := by simp [mCall, eq_false c_1]
    have f3 : (kpn (mCall S b c e Z (1 : Int32)).2.1 ru n) = (kpn (mPledge S e (Z 0) (Z 1) (Z 2) (Z 3)).2.1 ru n) := by simp [mCall, eq_false c_1]
    have f4 : (if (1 : Int32) = 3 then (mClN S c (-1) c).2.1 else cl) = cl := by simp [mCall, eq_false c_1]
    exact gx_iret (pc := 99) hC dX5_calls_99 (Nat.zero_le _) (Nat.zero_le _) (⟨by rw [e1], by rw [f0, f1, f2, f3, f4]⟩)
  by_cases c_3 : x = 2
  · subst c_3
    refine gx_tableIn (pc := 1) hB 100 dX5_calls_1 (by decide) (by decide) rfl (by decide) ?_
    refine gx_aload_n (pc := 100) hB dX5_calls_100 0 rfl ?_
    refine gx_aload_n (pc := 101) hB dX5_calls_101 0 rfl ?_
    refine gx_get (pc := 102) hB dX5_calls_102 inX5 rfl 0 rfl 14 (by decide) tb_740 rfl rfl ?_
    refine gx_iconst (pc := 105) hB dX5_calls_105 0 (by decide) ?_
    refine gx_iald (pc := 106) hB dX5_calls_106 8 1 rfl rfl 0 rfl (by decide) (by decide) ?_
    refine gx_dVi (pc := 107) (r := (mMiss S (Z 0)).1) (wr := []) hB (c_X5_miss l K m q1 q2 q3 q4 q5 q6 q7 q8 S P H T X Z n ru ty cl sp ca co a b c e (Z 0) (by first | assumption | omega | decide) (by first | assumption | omega | decide)) mX5_miss dX5_calls_107 tb_1018 pX5_miss ⟨Nat.le_of_ble_eq_true rfl, Nat.le_of_ble_eq_true rfl⟩ ⟨rfl, rfl⟩ ⟨Nat.zero_le _, Nat.zero_le _⟩ rfl (Nat.le_of_ble_eq_true rfl) [0, 1, 2, 3, 4, 5, 6, 7, 8] [] rfl rfl (by decide) (by decide) (by decide) rfl rfl [0, 1, 2, 3, 4, 5, 6, 7, 8] (by decide) (wM K m q1 q2 q3 q4 q5 q6 q7 q8 ((mMiss S (Z 0)).2.2) (kpP (mMiss S (Z 0)).2.1 ru n P S) H T X Z (kpn (mMiss S (Z 0)).2.1 ru n) ru ty cl sp ca co) rfl ?_
    have e1 : ((mCall S b c e Z (2 : Int32)).1) = ((mMiss S (Z 0)).1) := by simp [mCall, eq_false c_1, eq_false c_2]
    have f0 : ((mCall S b c e Z (2 : Int32)).2.2) = ((mMiss S (Z 0)).2.2) := by simp [mCall, eq_false c_1, eq_false c_2]
    have f1 : (kpP (mCall S b c e Z (2 : Int32)).2.1 ru n P S) = (kpP (mMiss S (Z 0)).2.1 ru n P S) := by simp [mCall, eq_false c_1, eq_false c_2]
    have f2 : (if (2 : Int32) = 3 then S else T) = T := by simp [mCall, eq_false c_1, eq_false c_2]
    have f3 : (kpn (mCall S b c e Z (2 : Int32)).2.1 ru n) = (kpn (mMiss S (Z 0)).2.1 ru n) := by simp [mCall, eq_false c_1, eq_false c_2]
    have f4 : (if (2 : Int32) = 3 then (mClN S c (-1) c).2.1 else cl) = cl := by simp [mCall, eq_false c_1, eq_false c_2]
    exact gx_iret (pc := 110) hC dX5_calls_110 (Nat.zero_le _) (Nat.zero_le _) (⟨by rw [e1], by rw [f0, f1, f2, f3, f4]⟩)
  by_cases c_4 : x = 3
  · subst c_4
    refine gx_tableIn (pc := 1) hB 111 dX5_calls_1 (by decide) (by decide) rfl (by decide) ?_
    refine gx_aload_n (pc := 111) hB dX5_calls_111 0 rfl ?_
    refine gx_dVi (pc := 112) (r := (mClaim S c).1) (wr := []) hB (c_X5_claim l K m q1 q2 q3 q4 q5 q6 q7 q8 S P H T X Z n ru ty cl sp ca co a b c e (by first | assumption | omega | decide) (by first | assumption | omega | decide)) mX5_claim dX5_calls_112 tb_1019 pX5_claim ⟨Nat.le_of_ble_eq_true rfl, Nat.le_of_ble_eq_true rfl⟩ ⟨rfl, rfl⟩ ⟨Nat.zero_le _, Nat.zero_le _⟩ rfl (Nat.le_of_ble_eq_true rfl) [0, 1, 2, 3, 4, 5, 6, 7, 8] [] rfl rfl (by decide) (by decide) (by decide) rfl rfl [0, 1, 2, 3, 4, 5, 6, 7, 8] (by decide) (wM K m q1 q2 q3 q4 q5 q6 q7 q8 ((mClaim S c).2.2) (kpP (mClaim S c).2.1 ru n P S) H S X Z (kpn (mClaim S c).2.1 ru n) ru ty ((mClN S c (-1) c).2.1) sp ca co) rfl ?_
    have e1 : ((mCall S b c e Z (3 : Int32)).1) = ((mClaim S c).1) := by simp [mCall, eq_false c_1, eq_false c_2, eq_false c_3]
    have f0 : ((mCall S b c e Z (3 : Int32)).2.2) = ((mClaim S c).2.2) := by simp [mCall, eq_false c_1, eq_false c_2, eq_false c_3]
    have f1 : (kpP (mCall S b c e Z (3 : Int32)).2.1 ru n P S) = (kpP (mClaim S c).2.1 ru n P S) := by simp [mCall, eq_false c_1, eq_false c_2, eq_false c_3]
    have f2 : (if (3 : Int32) = 3 then S else T) = S := by simp [mCall, eq_false c_1, eq_false c_2, eq_false c_3]
    have f3 : (kpn (mCall S b c e Z (3 : Int32)).2.1 ru n) = (kpn (mClaim S c).2.1 ru n) := by simp [mCall, eq_false c_1, eq_false c_2, eq_false c_3]
    have f4 : (if (3 : Int32) = 3 then (mClN S c (-1) c).2.1 else cl) = ((mClN S c (-1) c).2.1) := by simp [mCall, eq_false c_1, eq_false c_2, eq_false c_3]
    exact gx_iret (pc := 115) hC dX5_calls_115 (Nat.zero_le _) (Nat.zero_le _) (⟨by rw [e1], by rw [f0, f1, f2, f3, f4]⟩)
  by_cases c_5 : x = 4
  · subst c_5
    refine gx_tableIn (pc := 1) hB 116 dX5_calls_1 (by decide) (by decide) rfl (by decide) ?_
    refine gx_aload_n (pc := 116) hB dX5_calls_116 0 rfl ?_
    refine gx_aload_n (pc := 117) hB dX5_calls_117 0 rfl ?_
    refine gx_get (pc := 118) hB dX5_calls_118 inX5 rfl 0 rfl 14 (by decide) tb_740 rfl rfl ?_
    refine gx_iconst (pc := 121) hB dX5_calls_121 0 (by decide) ?_
    refine gx_iald (pc := 122) hB dX5_calls_122 8 1 rfl rfl 0 rfl (by decide) (by decide) ?_
    refine gx_aload_n (pc := 123) hB dX5_calls_123 0 rfl ?_
    refine gx_get (pc := 124) hB dX5_calls_124 inX5 rfl 0 rfl 14 (by decide) tb_740 rfl rfl ?_
    refine gx_iconst (pc := 127) hB dX5_calls_127 1 (by decide) ?_
    refine gx_iald (pc := 128) hB dX5_calls_128 8 1 rfl rfl 1 rfl (by decide) (by decide) ?_
    refine gx_dVi (pc := 129) (r := (mSpend S (Z 0) (Z 1)).1) (wr := []) hB (c_X5_spend l K m q1 q2 q3 q4 q5 q6 q7 q8 S P H T X Z n ru ty cl sp ca co a b c e (Z 0) (Z 1) (by first | assumption | omega | decide) (by first | assumption | omega | decide)) mX5_spend dX5_calls_129 tb_1020 pX5_spend ⟨Nat.le_of_ble_eq_true rfl, Nat.le_of_ble_eq_true rfl⟩ ⟨rfl, rfl⟩ ⟨Nat.zero_le _, Nat.zero_le _⟩ rfl (Nat.le_of_ble_eq_true rfl) [0, 1, 2, 3, 4, 5, 6, 7, 8] [] rfl rfl (by decide) (by decide) (by decide) rfl rfl [0, 1, 2, 3, 4, 5, 6, 7, 8] (by decide) (wM K m q1 q2 q3 q4 q5 q6 q7 q8 ((mSpend S (Z 0) (Z 1)).2.2) (kpP (mSpend S (Z 0) (Z 1)).2.1 ru n P S) H T X Z (kpn (mSpend S (Z 0) (Z 1)).2.1 ru n) ru ty cl sp ca co) rfl ?_
    have e1 : ((mCall S b c e Z (4 : Int32)).1) = ((mSpend S (Z 0) (Z 1)).1) := by simp [mCall, eq_false c_1, eq_false c_2, eq_false c_3, eq_false c_4]
    have f0 : ((mCall S b c e Z (4 : Int32)).2.2) = ((mSpend S (Z 0) (Z 1)).2.2) := by simp [mCall, eq_false c_1, eq_false c_2, eq_false c_3, eq_false c_4]
    have f1 : (kpP (mCall S b c e Z (4 : Int32)).2.1 ru n P S) = (kpP (mSpend S (Z 0) (Z 1)).2.1 ru n P S) := by simp [mCall, eq_false c_1, eq_false c_2, eq_false c_3, eq_false c_4]
    have f2 : (if (4 : Int32) = 3 then S else T) = T := by simp [mCall, eq_false c_1, eq_false c_2, eq_false c_3, eq_false c_4]
    have f3 : (kpn (mCall S b c e Z (4 : Int32)).2.1 ru n) = (kpn (mSpend S (Z 0) (Z 1)).2.1 ru n) := by simp [mCall, eq_false c_1, eq_false c_2, eq_false c_3, eq_false c_4]
    have f4 : (if (4 : Int32) = 3 then (mClN S c (-1) c).2.1 else cl) = cl := by simp [mCall, eq_false c_1, eq_false c_2, eq_false c_3, eq_false c_4]
    exact gx_iret (pc := 132) hC dX5_calls_132 (Nat.zero_le _) (Nat.zero_le _) (⟨by rw [e1], by rw [f0, f1, f2, f3, f4]⟩)
  by_cases c_6 : x = 5
  · subst c_6
    refine gx_tableIn (pc := 1) hB 133 dX5_calls_1 (by decide) (by decide) rfl (by decide) ?_
    refine gx_aload_n (pc := 133) hB dX5_calls_133 0 rfl ?_
    refine gx_aload_n (pc := 134) hB dX5_calls_134 0 rfl ?_
    refine gx_get (pc := 135) hB dX5_calls_135 inX5 rfl 0 rfl 14 (by decide) tb_740 rfl rfl ?_
    refine gx_iconst (pc := 138) hB dX5_calls_138 0 (by decide) ?_
    refine gx_iald (pc := 139) hB dX5_calls_139 8 1 rfl rfl 0 rfl (by decide) (by decide) ?_
    refine gx_aload_n (pc := 140) hB dX5_calls_140 0 rfl ?_
    refine gx_get (pc := 141) hB dX5_calls_141 inX5 rfl 0 rfl 14 (by decide) tb_740 rfl rfl ?_
    refine gx_iconst (pc := 144) hB dX5_calls_144 1 (by decide) ?_
    refine gx_iald (pc := 145) hB dX5_calls_145 8 1 rfl rfl 1 rfl (by decide) (by decide) ?_
    refine gx_aload_n (pc := 146) hB dX5_calls_146 0 rfl ?_
    refine gx_get (pc := 147) hB dX5_calls_147 inX5 rfl 0 rfl 14 (by decide) tb_740 rfl rfl ?_
    refine gx_iconst (pc := 150) hB dX5_calls_150 2 (by decide) ?_
    refine gx_iald (pc := 151) hB dX5_calls_151 8 1 rfl rfl 2 rfl (by decide) (by decide) ?_
    refine gx_dVi (pc := 152) (r := (mAgree S c (Z 0) (Z 1) (Z 2)).1) (wr := []) hB (c_X5_agree l K m q1 q2 q3 q4 q5 q6 q7 q8 S P H T X Z n ru ty cl sp ca co a b c e (Z 0) (Z 1) (Z 2) (by first | assumption | omega | decide) (by first | assumption | omega | decide)) mX5_agree dX5_calls_152 tb_1021 pX5_agree ⟨Nat.le_of_ble_eq_true rfl, Nat.le_of_ble_eq_true rfl⟩ ⟨rfl, rfl⟩ ⟨Nat.zero_le _, Nat.zero_le _⟩ rfl (Nat.le_of_ble_eq_true rfl) [0, 1, 2, 3, 4, 5, 6, 7, 8] [] rfl rfl (by decide) (by decide) (by decide) rfl rfl [0, 1, 2, 3, 4, 5, 6, 7, 8] (by decide) (wM K m q1 q2 q3 q4 q5 q6 q7 q8 ((mAgree S c (Z 0) (Z 1) (Z 2)).2.2) (kpP (mAgree S c (Z 0) (Z 1) (Z 2)).2.1 ru n P S) H T X Z (kpn (mAgree S c (Z 0) (Z 1) (Z 2)).2.1 ru n) ru ty cl sp ca co) rfl ?_
    have e1 : ((mCall S b c e Z (5 : Int32)).1) = ((mAgree S c (Z 0) (Z 1) (Z 2)).1) := by simp [mCall, eq_false c_1, eq_false c_2, eq_false c_3, eq_false c_4, eq_false c_5]
    have f0 : ((mCall S b c e Z (5 : Int32)).2.2) = ((mAgree S c (Z 0) (Z 1) (Z 2)).2.2) := by simp [mCall, eq_false c_1, eq_false c_2, eq_false c_3, eq_false c_4, eq_false c_5]
    have f1 : (kpP (mCall S b c e Z (5 : Int32)).2.1 ru n P S) = (kpP (mAgree S c (Z 0) (Z 1) (Z 2)).2.1 ru n P S) := by simp [mCall, eq_false c_1, eq_false c_2, eq_false c_3, eq_false c_4, eq_false c_5]
    have f2 : (if (5 : Int32) = 3 then S else T) = T := by simp [mCall, eq_false c_1, eq_false c_2, eq_false c_3, eq_false c_4, eq_false c_5]
    have f3 : (kpn (mCall S b c e Z (5 : Int32)).2.1 ru n) = (kpn (mAgree S c (Z 0) (Z 1) (Z 2)).2.1 ru n) := by simp [mCall, eq_false c_1, eq_false c_2, eq_false c_3, eq_false c_4, eq_false c_5]
    have f4 : (if (5 : Int32) = 3 then (mClN S c (-1) c).2.1 else cl) = cl := by simp [mCall, eq_false c_1, eq_false c_2, eq_false c_3, eq_false c_4, eq_false c_5]
    exact gx_iret (pc := 155) hC dX5_calls_155 (Nat.zero_le _) (Nat.zero_le _) (⟨by rw [e1], by rw [f0, f1, f2, f3, f4]⟩)
  by_cases c_7 : x = 6
  · subst c_7
    refine gx_tableIn (pc := 1) hB 156 dX5_calls_1 (by decide) (by decide) rfl (by decide) ?_
    refine gx_aload_n (pc := 156) hB dX5_calls_156 0 rfl ?_
    refine gx_aload_n (pc := 157) hB dX5_calls_157 0 rfl ?_
    refine gx_get (pc := 158) hB dX5_calls_158 inX5 rfl 0 rfl 14 (by decide) tb_740 rfl rfl ?_
    refine gx_iconst (pc := 161) hB dX5_calls_161 0 (by decide) ?_
    refine gx_iald (pc := 162) hB dX5_calls_162 8 1 rfl rfl 0 rfl (by decide) (by decide) ?_
    refine gx_aload_n (pc := 163) hB dX5_calls_163 0 rfl ?_
    refine gx_get (pc := 164) hB dX5_calls_164 inX5 rfl 0 rfl 14 (by decide) tb_740 rfl rfl ?_
    refine gx_iconst (pc := 167) hB dX5_calls_167 1 (by decide) ?_
    refine gx_iald (pc := 168) hB dX5_calls_168 8 1 rfl rfl 1 rfl (by decide) (by decide) ?_
    refine gx_dVi (pc := 169) (r := (mMerge S b c e (Z 0) (Z 1)).1) (wr := []) hB (c_X5_merge l K m q1 q2 q3 q4 q5 q6 q7 q8 S P H T X Z n ru ty cl sp ca co a b c e (Z 0) (Z 1) (by first | assumption | omega | decide) (by first | assumption | omega | decide)) mX5_merge dX5_calls_169 tb_1022 pX5_merge ⟨Nat.le_of_ble_eq_true rfl, Nat.le_of_ble_eq_true rfl⟩ ⟨rfl, rfl⟩ ⟨Nat.zero_le _, Nat.zero_le _⟩ rfl (Nat.le_of_ble_eq_true rfl) [0, 1, 2, 3, 4, 5, 6, 7, 8] [] rfl rfl (by decide) (by decide) (by decide) rfl rfl [0, 1, 2, 3, 4, 5, 6, 7, 8] (by decide) (wM K m q1 q2 q3 q4 q5 q6 q7 q8 ((mMerge S b c e (Z 0) (Z 1)).2.2) (kpP (mMerge S b c e (Z 0) (Z 1)).2.1 ru n P S) H T X Z (kpn (mMerge S b c e (Z 0) (Z 1)).2.1 ru n) ru ty cl sp ca co) rfl ?_
    have e1 : ((mCall S b c e Z (6 : Int32)).1) = ((mMerge S b c e (Z 0) (Z 1)).1) := by simp [mCall, eq_false c_1, eq_false c_2, eq_false c_3, eq_false c_4, eq_false c_5, eq_false c_6]
    have f0 : ((mCall S b c e Z (6 : Int32)).2.2) = ((mMerge S b c e (Z 0) (Z 1)).2.2) := by simp [mCall, eq_false c_1, eq_false c_2, eq_false c_3, eq_false c_4, eq_false c_5, eq_false c_6]
    have f1 : (kpP (mCall S b c e Z (6 : Int32)).2.1 ru n P S) = (kpP (mMerge S b c e (Z 0) (Z 1)).2.1 ru n P S) := by simp [mCall, eq_false c_1, eq_false c_2, eq_false c_3, eq_false c_4, eq_false c_5, eq_false c_6]
    have f2 : (if (6 : Int32) = 3 then S else T) = T := by simp [mCall, eq_false c_1, eq_false c_2, eq_false c_3, eq_false c_4, eq_false c_5, eq_false c_6]
    have f3 : (kpn (mCall S b c e Z (6 : Int32)).2.1 ru n) = (kpn (mMerge S b c e (Z 0) (Z 1)).2.1 ru n) := by simp [mCall, eq_false c_1, eq_false c_2, eq_false c_3, eq_false c_4, eq_false c_5, eq_false c_6]
    have f4 : (if (6 : Int32) = 3 then (mClN S c (-1) c).2.1 else cl) = cl := by simp [mCall, eq_false c_1, eq_false c_2, eq_false c_3, eq_false c_4, eq_false c_5, eq_false c_6]
    exact gx_iret (pc := 172) hC dX5_calls_172 (Nat.zero_le _) (Nat.zero_le _) (⟨by rw [e1], by rw [f0, f1, f2, f3, f4]⟩)
  by_cases c_8 : x = 7
  · subst c_8
    refine gx_tableIn (pc := 1) hB 173 dX5_calls_1 (by decide) (by decide) rfl (by decide) ?_
    refine gx_aload_n (pc := 173) hB dX5_calls_173 0 rfl ?_
    refine gx_aload_n (pc := 174) hB dX5_calls_174 0 rfl ?_
    refine gx_get (pc := 175) hB dX5_calls_175 inX5 rfl 0 rfl 14 (by decide) tb_740 rfl rfl ?_
    refine gx_iconst (pc := 178) hB dX5_calls_178 0 (by decide) ?_
    refine gx_iald (pc := 179) hB dX5_calls_179 8 1 rfl rfl 0 rfl (by decide) (by decide) ?_
    refine gx_dVi (pc := 180) (r := (mRefund S (Z 0)).1) (wr := []) hB (c_X5_refund l K m q1 q2 q3 q4 q5 q6 q7 q8 S P H T X Z n ru ty cl sp ca co a b c e (Z 0) (by first | assumption | omega | decide) (by first | assumption | omega | decide)) mX5_refund dX5_calls_180 tb_1023 pX5_refund ⟨Nat.le_of_ble_eq_true rfl, Nat.le_of_ble_eq_true rfl⟩ ⟨rfl, rfl⟩ ⟨Nat.zero_le _, Nat.zero_le _⟩ rfl (Nat.le_of_ble_eq_true rfl) [0, 1, 2, 3, 4, 5, 6, 7, 8] [] rfl rfl (by decide) (by decide) (by decide) rfl rfl [0, 1, 2, 3, 4, 5, 6, 7, 8] (by decide) (wM K m q1 q2 q3 q4 q5 q6 q7 q8 ((mRefund S (Z 0)).2.2) (kpP (mRefund S (Z 0)).2.1 ru n P S) H T X Z (kpn (mRefund S (Z 0)).2.1 ru n) ru ty cl sp ca co) rfl ?_
    have e1 : ((mCall S b c e Z (7 : Int32)).1) = ((mRefund S (Z 0)).1) := by simp [mCall, eq_false c_1, eq_false c_2, eq_false c_3, eq_false c_4, eq_false c_5, eq_false c_6, eq_false c_7]
    have f0 : ((mCall S b c e Z (7 : Int32)).2.2) = ((mRefund S (Z 0)).2.2) := by simp [mCall, eq_false c_1, eq_false c_2, eq_false c_3, eq_false c_4, eq_false c_5, eq_false c_6, eq_false c_7]
    have f1 : (kpP (mCall S b c e Z (7 : Int32)).2.1 ru n P S) = (kpP (mRefund S (Z 0)).2.1 ru n P S) := by simp [mCall, eq_false c_1, eq_false c_2, eq_false c_3, eq_false c_4, eq_false c_5, eq_false c_6, eq_false c_7]
    have f2 : (if (7 : Int32) = 3 then S else T) = T := by simp [mCall, eq_false c_1, eq_false c_2, eq_false c_3, eq_false c_4, eq_false c_5, eq_false c_6, eq_false c_7]
    have f3 : (kpn (mCall S b c e Z (7 : Int32)).2.1 ru n) = (kpn (mRefund S (Z 0)).2.1 ru n) := by simp [mCall, eq_false c_1, eq_false c_2, eq_false c_3, eq_false c_4, eq_false c_5, eq_false c_6, eq_false c_7]
    have f4 : (if (7 : Int32) = 3 then (mClN S c (-1) c).2.1 else cl) = cl := by simp [mCall, eq_false c_1, eq_false c_2, eq_false c_3, eq_false c_4, eq_false c_5, eq_false c_6, eq_false c_7]
    exact gx_iret (pc := 183) hC dX5_calls_183 (Nat.zero_le _) (Nat.zero_le _) (⟨by rw [e1], by rw [f0, f1, f2, f3, f4]⟩)
  have hout : (x).toInt < 0 ∨ 7 < (x).toInt := by
    have zc_1 : (x).toInt ≠ 0 := fun q => c_1 (Int32.toInt_inj.mp q)
    have zc_2 : (x).toInt ≠ 1 := fun q => c_2 (Int32.toInt_inj.mp q)
    have zc_3 : (x).toInt ≠ 2 := fun q => c_3 (Int32.toInt_inj.mp q)
    have zc_4 : (x).toInt ≠ 3 := fun q => c_4 (Int32.toInt_inj.mp q)
    have zc_5 : (x).toInt ≠ 4 := fun q => c_5 (Int32.toInt_inj.mp q)
    have zc_6 : (x).toInt ≠ 5 := fun q => c_6 (Int32.toInt_inj.mp q)
    have zc_7 : (x).toInt ≠ 6 := fun q => c_7 (Int32.toInt_inj.mp q)
    have zc_8 : (x).toInt ≠ 7 := fun q => c_8 (Int32.toInt_inj.mp q)
    omega
  refine gx_tableOut (pc := 1) hB 184 dX5_calls_1 hout (by decide) ?_
  refine gx_aload_n (pc := 184) hB dX5_calls_184 0 rfl ?_
  refine gx_aload_n (pc := 185) hB dX5_calls_185 0 rfl ?_
  refine gx_get (pc := 186) hB dX5_calls_186 inX5 rfl 0 rfl 14 (by decide) tb_740 rfl rfl ?_
  refine gx_iconst (pc := 189) hB dX5_calls_189 0 (by decide) ?_
  refine gx_iald (pc := 190) hB dX5_calls_190 8 1 rfl rfl 0 rfl (by decide) (by decide) ?_
  refine gx_dVi (pc := 191) (r := (mPass S c e (Z 0)).1) (wr := []) hB (c_X5_pass l K m q1 q2 q3 q4 q5 q6 q7 q8 S P H T X Z n ru ty cl sp ca co a b c e (Z 0) (by first | assumption | omega | decide) (by first | assumption | omega | decide)) mX5_pass dX5_calls_191 tb_1024 pX5_pass ⟨Nat.le_of_ble_eq_true rfl, Nat.le_of_ble_eq_true rfl⟩ ⟨rfl, rfl⟩ ⟨Nat.zero_le _, Nat.zero_le _⟩ rfl (Nat.le_of_ble_eq_true rfl) [0, 1, 2, 3, 4, 5, 6, 7, 8] [] rfl rfl (by decide) (by decide) (by decide) rfl rfl [0, 1, 2, 3, 4, 5, 6, 7, 8] (by decide) (wM K m q1 q2 q3 q4 q5 q6 q7 q8 ((mPass S c e (Z 0)).2.2) (kpP (mPass S c e (Z 0)).2.1 ru n P S) H T X Z (kpn (mPass S c e (Z 0)).2.1 ru n) ru ty cl sp ca co) rfl ?_
  have e1 : ((mCall S b c e Z x).1) = ((mPass S c e (Z 0)).1) := by simp [mCall, eq_false c_1, eq_false c_2, eq_false c_3, eq_false c_4, eq_false c_5, eq_false c_6, eq_false c_7, eq_false c_8]
  have f0 : ((mCall S b c e Z x).2.2) = ((mPass S c e (Z 0)).2.2) := by simp [mCall, eq_false c_1, eq_false c_2, eq_false c_3, eq_false c_4, eq_false c_5, eq_false c_6, eq_false c_7, eq_false c_8]
  have f1 : (kpP (mCall S b c e Z x).2.1 ru n P S) = (kpP (mPass S c e (Z 0)).2.1 ru n P S) := by simp [mCall, eq_false c_1, eq_false c_2, eq_false c_3, eq_false c_4, eq_false c_5, eq_false c_6, eq_false c_7, eq_false c_8]
  have f2 : (if x = 3 then S else T) = T := by simp [mCall, eq_false c_1, eq_false c_2, eq_false c_3, eq_false c_4, eq_false c_5, eq_false c_6, eq_false c_7, eq_false c_8]
  have f3 : (kpn (mCall S b c e Z x).2.1 ru n) = (kpn (mPass S c e (Z 0)).2.1 ru n) := by simp [mCall, eq_false c_1, eq_false c_2, eq_false c_3, eq_false c_4, eq_false c_5, eq_false c_6, eq_false c_7, eq_false c_8]
  have f4 : (if x = 3 then (mClN S c (-1) c).2.1 else cl) = cl := by simp [mCall, eq_false c_1, eq_false c_2, eq_false c_3, eq_false c_4, eq_false c_5, eq_false c_6, eq_false c_7, eq_false c_8]
  exact gx_iret (pc := 194) hC dX5_calls_194 (Nat.zero_le _) (Nat.zero_le _) (⟨by rw [e1], by rw [f0, f1, f2, f3, f4]⟩)
