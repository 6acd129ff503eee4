theorem pX5_isAt : (parseMethodDescriptor yX5_isAt.desc).map (fun d => d.parameters.length) = some 2 := by decide +kernel
theorem mX5_isAt : gx_M yX5_isAt cX5_isAt 3 (some .boolean) := ⟨tb_1001, tb_63, tb_73, tb_1002, by decide, by decide⟩
set_option maxHeartbeats 4000000 in
set_option maxRecDepth 100000 in
theorem c_X5_isAt (l : Launch) (K : gx_K) (m q1 q2 q3 q4 q5 q6 q7 q8 : Nat) (S P H T X Z : Nat → Int32) (n : Nat) (ru : Bool) (ty : Nat) (cl : Int32) (sp : Nat) (ca : Int32) (co : Nat) (x y : Int32) (h0 : ty ≤ 80) (h1 : sp ≤ 200) : gx_Ctr l K yX5_isAt cX5_isAt 3 (some .boolean) (rmm 2 22) [.ref m, .int x, .int y] (wM K m q1 q2 q3 q4 q5 q6 q7 q8 S P H T X Z n ru ty cl sp ca co) (gx_D (some (.int (bI (xAt X ty sp x y)))) (wM K m q1 q2 q3 q4 q5 q6 q7 q8 S P H T X Z n ru ty cl sp ca co)) := by
  refine gx_of (by decide) (Nat.le_of_ble_eq_true rfl) (fun G hC => ?_)
  have hB := hC.b
  refine gx_lv (lv' := [(0, .ref m), (1, .int x), (2, .int y)]) rfl ?_
  refine gx_aload_n (pc := 0) hB dX5_isAt_0 0 rfl ?_
  refine gx_get (pc := 1) hB dX5_isAt_1 inX5 rfl 0 rfl 11 (by decide) tb_737 rfl rfl ?_
  refine gx_aload_n (pc := 4) hB dX5_isAt_4 0 rfl ?_
  refine gx_get (pc := 5) hB dX5_isAt_5 inX5 rfl 0 rfl 7 (by decide) tb_733 rfl rfl ?_
  refine gx_icmp_ge (pc := 8) hB 32 dX5_isAt_8 (by decide) (fun c_1 => ?_) (fun c_1 => ?_)
  · have s_st : (sp < ty) = False := eq_false (fun q => nI_ge q (by omega) c_1)
    refine gx_iconst (pc := 32) hB dX5_isAt_32 0 (by decide) ?_
    have e1 : (bI (xAt X ty sp x y)) = 0 := by simp [xAt, bI, c_1, eq_false (Int32.not_lt.mpr c_1), s_st]
    exact gx_zret (pc := 33) hC dX5_isAt_33 (Nat.zero_le _) (Nat.zero_le _) (by decide) (⟨by rw [e1], rfl⟩)
  · have s_st : sp < ty := Nat.lt_of_not_le (fun q => c_1 (nI_le q (by omega)))
    refine gx_aload_n (pc := 11) hB dX5_isAt_11 0 rfl ?_
    refine gx_get (pc := 12) hB dX5_isAt_12 inX5 rfl 0 rfl 6 (by decide) tb_732 rfl rfl ?_
    refine gx_aload_n (pc := 15) hB dX5_isAt_15 0 rfl ?_
    refine gx_get (pc := 16) hB dX5_isAt_16 inX5 rfl 0 rfl 11 (by decide) tb_737 rfl rfl ?_
    refine gx_iald (pc := 19) hB dX5_isAt_19 5 1 rfl rfl sp rfl (by omega) (by decide) ?_
    refine gx_iload_n (pc := 20) hB dX5_isAt_20 1 rfl ?_
    refine gx_iload_n (pc := 21) hB dX5_isAt_21 2 rfl ?_
    refine gx_dSi (pc := 22) (r := bI (bIn (X sp) x y)) (wr := [(m, .inr (5, [.ref q1, .ref q2, .ref q3, .ref q4, .int (nI n), .int (bI ru), .ref q5, .int (nI ty), .ref q6, .ref q7, .int cl, .int (nI sp), .int ca, .int (nI co), .ref q8])), (q1, .inl (K.2.1.2.1, 345, .inl S)), (q2, .inl (K.2.1.2.1, 1380, .inl P)), (q3, .inl (K.2.1.2.1, 345, .inl H)), (q4, .inl (K.2.1.2.1, 345, .inl T)), (q5, .inl (K.2.1.2.1, 80, .inl X)), (q6, .inl (K.2.1.2.2.1, 9, .inr (.inl mW))), (q7, .inl (K.2.1.2.1, 9, .inl mN)), (q8, .inl (K.2.1.2.1, 4, .inl Z))]) hB (c_X5_in l K (X sp) x y ) mX5_in dX5_isAt_22 tb_797 pX5_in ⟨Nat.le_of_ble_eq_true rfl, Nat.le_of_ble_eq_true rfl⟩ ⟨rfl, rfl⟩ ⟨Nat.zero_le _, Nat.zero_le _⟩ rfl (Nat.le_of_ble_eq_true rfl) [] [0, 1, 2, 3, 4, 5, 6, 7, 8] rfl rfl (by decide) (by decide) (by decide) [0, 1, 2, 3, 4, 5, 6, 7, 8] (by decide) (wM K m q1 q2 q3 q4 q5 q6 q7 q8 S P H T X Z n ru ty cl sp ca co) rfl ?_
    refine gx_if_eq_b (pc := 25) hB 32 dX5_isAt_25 (by decide) (fun c_2 => ?_) (fun c_2 => ?_)
    · refine gx_iconst (pc := 32) hB dX5_isAt_32 0 (by decide) ?_
      have e1 : (bI (xAt X ty sp x y)) = 0 := by simp [xAt, bI, Int32.not_le.mp c_1, eq_false c_1, s_st, c_2]
      exact gx_zret (pc := 33) hC dX5_isAt_33 (Nat.zero_le _) (Nat.zero_le _) (by decide) (⟨by rw [e1], rfl⟩)
    · refine gx_iconst (pc := 28) hB dX5_isAt_28 1 (by decide) ?_
      refine gx_goto (pc := 29) hB 33 dX5_isAt_29 (by decide) ?_
      have e1 : (bI (xAt X ty sp x y)) = 1 := by simp [xAt, bI, Int32.not_le.mp c_1, eq_false c_1, s_st, c_2]
      exact gx_zret (pc := 33) hC dX5_isAt_33 (Nat.zero_le _) (Nat.zero_le _) (by decide) (⟨by rw [e1], rfl⟩)
theorem pX5_passes : (parseMethodDescriptor yX5_passes.desc).map (fun d => d.parameters.length) = some 1 := by decide +kernel
theorem mX5_passes : gx_M yX5_passes cX5_passes 3 (some .boolean) := ⟨tb_1006, tb_64, tb_73, tb_1007, by decide, by decide⟩
set_option maxHeartbeats 4000000 in
set_option maxRecDepth 100000 in
theorem c_X5_passes (l : Launch) (K : gx_K) (m q1 q2 q3 q4 q5 q6 q7 q8 : Nat) (S P H T X Z : Nat → Int32) (n : Nat) (ru : Bool) (ty : Nat) (cl : Int32) (sp : Nat) (ca : Int32) (co : Nat) (x : Int32) (h0 : ty ≤ 80) (h1 : sp ≤ 200) : gx_Ctr l K yX5_passes cX5_passes 3 (some .boolean) (rmm 3 44) [.ref m, .int x] (wM K m q1 q2 q3 q4 q5 q6 q7 q8 S P H T X Z n ru ty cl sp ca co) (gx_D (some (.int (bI (xAt X ty sp x x)))) (wM K m q1 q2 q3 q4 q5 q6 q7 q8 S P H T X Z n ru ty cl (if xAt X ty sp x x then sp + 1 else sp) ca co)) := by
  refine gx_of (by decide) (Nat.le_of_ble_eq_true rfl) (fun G hC => ?_)
  have hB := hC.b
  refine gx_lv (lv' := [(0, .ref m), (1, .int x)]) rfl ?_
  refine gx_aload_n (pc := 0) hB dX5_passes_0 0 rfl ?_
  refine gx_iload_n (pc := 1) hB dX5_passes_1 1 rfl ?_
  refine gx_iload_n (pc := 2) hB dX5_passes_2 1 rfl ?_
  refine gx_dVi (pc := 3) (r := bI (xAt X ty sp x x)) (wr := []) hB (c_X5_isAt l K m q1 q2 q3 q4 q5 q6 q7 q8 S P H T X Z n ru ty cl sp ca co x x (by first | assumption | omega | decide) (by first | assumption | omega | decide)) mX5_isAt dX5_passes_3 tb_999 pX5_isAt ⟨Nat.le_of_ble_eq_true rfl, Nat.le_of_ble_eq_true rfl⟩ ⟨rfl, rfl⟩ ⟨Nat.zero_le _, Nat.zero_le _⟩ rfl (Nat.le_of_ble_eq_true rfl) [0, 1, 2, 3, 4, 5, 6, 7, 8] [] rfl rfl (by decide) (by decide) (by decide) rfl rfl [0, 1, 2, 3, 4, 5, 6, 7, 8] (by decide) (wM K m q1 q2 q3 q4 q5 q6 q7 q8 S P H T X Z n ru ty cl sp ca co) rfl ?_
  refine gx_istore_n (pc := 6) hB dX5_passes_6 (by decide) [(2, .int (bI (xAt X ty sp x x))), (0, .ref m), (1, .int x)] rfl ?_
  refine gx_aload_n (pc := 7) hB dX5_passes_7 1 rfl ?_
  refine gx_dup (pc := 8) hB dX5_passes_8 rfl ?_
  refine gx_get (pc := 9) hB dX5_passes_9 inX5 rfl 0 rfl 11 (by decide) tb_737 rfl rfl ?_
  refine gx_iload_n (pc := 12) hB dX5_passes_12 0 rfl ?_
  refine gx_if_eq_b (pc := 13) hB 20 dX5_passes_13 (by decide) (fun c_1 => ?_) (fun c_1 => ?_)
  · refine gx_iconst (pc := 20) hB dX5_passes_20 0 (by decide) ?_
    refine gx_iadd (pc := 21) hB dX5_passes_21 ?_
    refine gx_top (show nI sp + 0 = (nI sp) from Int32.add_zero _) ?_
    refine gx_put (pc := 22) hB dX5_passes_22 inX5 rfl tyX5 tyX5_ok nmX5 0 rfl 11 (by decide) tb_737 rfl rfl rfl rfl (Nat.le_of_ble_eq_true rfl) (wM K m q1 q2 q3 q4 q5 q6 q7 q8 S P H T X Z n ru ty cl sp ca co) rfl ?_
    refine gx_iload_n (pc := 25) hB dX5_passes_25 0 rfl ?_
    have f0 : (if xAt X ty sp x x then sp + 1 else sp) = sp := by simp [c_1]
    exact gx_zret (pc := 26) hC dX5_passes_26 (Nat.zero_le _) (Nat.zero_le _) (bI_01 _) (⟨rfl, by rw [f0]⟩)
  · refine gx_iconst (pc := 16) hB dX5_passes_16 1 (by decide) ?_
    refine gx_goto (pc := 17) hB 21 dX5_passes_17 (by decide) ?_
    refine gx_iadd (pc := 21) hB dX5_passes_21 ?_
    refine gx_top (show nI sp + 1 = nI (sp + 1) from nI_add sp 1) ?_
    refine gx_put (pc := 22) hB dX5_passes_22 inX5 rfl tyX5 tyX5_ok nmX5 0 rfl 11 (by decide) tb_737 rfl rfl rfl rfl (Nat.le_of_ble_eq_true rfl) (wM K m q1 q2 q3 q4 q5 q6 q7 q8 S P H T X Z n ru ty cl (sp + 1) ca co) rfl ?_
    refine gx_iload_n (pc := 25) hB dX5_passes_25 0 rfl ?_
    have f0 : (if xAt X ty sp x x then sp + 1 else sp) = (sp + 1) := by simp [c_1]
    exact gx_zret (pc := 26) hC dX5_passes_26 (Nat.zero_le _) (Nat.zero_le _) (bI_01 _) (⟨rfl, by rw [f0]⟩)
theorem pX5_number : (parseMethodDescriptor yX5_number.desc).map (fun d => d.parameters.length) = some 1 := by decide +kernel
theorem mX5_number : gx_M yX5_number cX5_number 3 (some .boolean) := ⟨tb_1010, tb_65, tb_73, tb_1011, by decide, by decide⟩
set_option maxHeartbeats 4000000 in
set_option maxRecDepth 100000 in
theorem c_X5_number (l : Launch) (K : gx_K) (m q1 q2 q3 q4 q5 q6 q7 q8 : Nat) (S P H T X Z : Nat → Int32) (n : Nat) (ru : Bool) (ty : Nat) (cl : Int32) (sp : Nat) (ca : Int32) (co : Nat) (k : Nat) (h0 : ty ≤ 80) (h1 : sp ≤ 190) (h2 : k < 4) : gx_Ctr l K yX5_number cX5_number 3 (some .boolean) (rmm 3 44) [.ref m, .int (nI k)] (wM K m q1 q2 q3 q4 q5 q6 q7 q8 S P H T X Z n ru ty cl sp ca co) (gx_D (some (.int (bI (decide (0 < nuC X ty sp))))) (wM K m q1 q2 q3 q4 q5 q6 q7 q8 S P H T X (upd Z k (nuV X sp (nuC X ty sp))) n ru ty cl (sp + (nuC X ty sp)) ca co)) := by
  refine gx_of (by decide) (Nat.le_of_ble_eq_true rfl) (fun G hC => ?_)
  have hB := hC.b
  refine gx_lv (lv' := [(0, .ref m), (1, .int (nI k))]) rfl ?_
  refine gx_aload_n (pc := 0) hB dX5_number_0 0 rfl ?_
  refine gx_get (pc := 1) hB dX5_number_1 inX5 rfl 0 rfl 11 (by decide) tb_737 rfl rfl ?_
  refine gx_istore_n (pc := 4) hB dX5_number_4 (by decide) [(2, .int (nI sp)), (0, .ref m), (1, .int (nI k))] rfl ?_
  refine gx_aload_n (pc := 5) hB dX5_number_5 1 rfl ?_
  refine gx_get (pc := 6) hB dX5_number_6 inX5 rfl 0 rfl 14 (by decide) tb_740 rfl rfl ?_
  refine gx_iload_n (pc := 9) hB dX5_number_9 2 rfl ?_
  refine gx_iconst (pc := 10) hB dX5_number_10 0 (by decide) ?_
  refine gx_iast (pc := 11) hB dX5_number_11 8 1 rfl rfl k rfl (by omega) (by decide) (wM K m q1 q2 q3 q4 q5 q6 q7 q8 S P H T X (upd Z k 0) n ru ty cl sp ca co) rfl ?_
  have loop_12 : ∀ f i : Nat, i + f = 4 → scC X ty sp 48 57 f i = (nuC X ty sp) → G 0 0 (wM K m q1 q2 q3 q4 q5 q6 q7 q8 S P H T X (upd Z k (nuV X sp i)) n ru ty cl (sp + i) ca co) [(0, .ref m), (1, .int (nI k)), (2, .int (nI sp))] 12 [] := by
    intro f
    induction f with
    | zero =>
      intro i hi he
      refine gx_aload_n (pc := 12) hB dX5_number_12 0 rfl ?_
      refine gx_bipush (pc := 13) hB dX5_number_13 48 (by decide) ?_
      refine gx_bipush (pc := 15) hB dX5_number_15 57 (by decide) ?_
      refine gx_dVi (pc := 17) (r := bI (xAt X ty (sp + i) 48 57)) (wr := []) hB (c_X5_isAt l K m q1 q2 q3 q4 q5 q6 q7 q8 S P H T X (upd Z k (nuV X sp i)) n ru ty cl (sp + i) ca co 48 57 (by first | assumption | omega | decide) (by first | assumption | omega | decide)) mX5_isAt dX5_number_17 tb_999 pX5_isAt ⟨Nat.le_of_ble_eq_true rfl, Nat.le_of_ble_eq_true rfl⟩ ⟨rfl, rfl⟩ ⟨Nat.zero_le _, Nat.zero_le _⟩ rfl (Nat.le_of_ble_eq_true rfl) [0, 1, 2, 3, 4, 5, 6, 7, 8] [] rfl rfl (by decide) (by decide) (by decide) rfl rfl [0, 1, 2, 3, 4, 5, 6, 7, 8] (by decide) (wM K m q1 q2 q3 q4 q5 q6 q7 q8 S P H T X (upd Z k (nuV X sp i)) n ru ty cl (sp + i) ca co) rfl ?_
      refine gx_if_eq_b (pc := 20) hB 74 dX5_number_20 (by decide) (fun c_1 => ?_) (fun c_1 => ?_)
      · have s_ei : (nuC X ty sp) = i := he.symm
        refine gx_aload_n (pc := 74) hB dX5_number_74 0 rfl ?_
        refine gx_get (pc := 75) hB dX5_number_75 inX5 rfl 0 rfl 11 (by decide) tb_737 rfl rfl ?_
        refine gx_iload_n (pc := 78) hB dX5_number_78 2 rfl ?_
        refine gx_icmp_le (pc := 79) hB 86 dX5_number_79 (by decide) (fun c_2 => ?_) (fun c_2 => ?_)
        · have s_hp : (0 < i) = False := eq_false (fun q => nI_ge (by omega) (by omega) c_2)
          refine gx_iconst (pc := 86) hB dX5_number_86 0 (by decide) ?_
          have e1 : (bI (decide (0 < nuC X ty sp))) = 0 := by simp [bI, c_1, s_ei, c_2, eq_false (Int32.not_lt.mpr c_2), s_hp]
          have f0 : (upd Z k (nuV X sp (nuC X ty sp))) = (upd Z k (nuV X sp i)) := by simp [bI, c_1, s_ei, c_2, eq_false (Int32.not_lt.mpr c_2), s_hp]
          have f1 : (sp + (nuC X ty sp)) = (sp + i) := by simp [bI, c_1, s_ei, c_2, eq_false (Int32.not_lt.mpr c_2), s_hp]
          exact gx_zret (pc := 87) hC dX5_number_87 (Nat.zero_le _) (Nat.zero_le _) (by decide) (⟨by rw [e1], by rw [f0, f1]⟩)
        · have s_hp : 0 < i := Nat.pos_of_ne_zero (fun q => c_2 (by rw [q]; exact nI_le (by omega) (by omega)))
          refine gx_iconst (pc := 82) hB dX5_number_82 1 (by decide) ?_
          refine gx_goto (pc := 83) hB 87 dX5_number_83 (by decide) ?_
          have e1 : (bI (decide (0 < nuC X ty sp))) = 1 := by simp [bI, c_1, s_ei, Int32.not_le.mp c_2, eq_false c_2, s_hp]
          have f0 : (upd Z k (nuV X sp (nuC X ty sp))) = (upd Z k (nuV X sp i)) := by simp [bI, c_1, s_ei, Int32.not_le.mp c_2, eq_false c_2, s_hp]
          have f1 : (sp + (nuC X ty sp)) = (sp + i) := by simp [bI, c_1, s_ei, Int32.not_le.mp c_2, eq_false c_2, s_hp]
          exact gx_zret (pc := 87) hC dX5_number_87 (Nat.zero_le _) (Nat.zero_le _) (by decide) (⟨by rw [e1], by rw [f0, f1]⟩)
      · refine gx_aload_n (pc := 23) hB dX5_number_23 0 rfl ?_
        refine gx_get (pc := 24) hB dX5_number_24 inX5 rfl 0 rfl 11 (by decide) tb_737 rfl rfl ?_
        refine gx_iload_n (pc := 27) hB dX5_number_27 2 rfl ?_
        refine gx_isub (pc := 28) hB dX5_number_28 ?_
        refine gx_top (show (nI (sp + i)) - nI sp = nI i from sub_sp) ?_
        refine gx_iconst (pc := 29) hB dX5_number_29 4 (by decide) ?_
        refine gx_icmp_ge (pc := 30) hB 74 dX5_number_30 (by decide) (fun c_3 => ?_) (fun c_3 => ?_)
        · have s_ei : (nuC X ty sp) = i := he.symm
          refine gx_aload_n (pc := 74) hB dX5_number_74 0 rfl ?_
          refine gx_get (pc := 75) hB dX5_number_75 inX5 rfl 0 rfl 11 (by decide) tb_737 rfl rfl ?_
          refine gx_iload_n (pc := 78) hB dX5_number_78 2 rfl ?_
          refine gx_icmp_le (pc := 79) hB 86 dX5_number_79 (by decide) (fun c_4 => ?_) (fun c_4 => ?_)
          · have s_hp : (0 < i) = False := eq_false (fun q => nI_ge (by omega) (by omega) c_4)
            refine gx_iconst (pc := 86) hB dX5_number_86 0 (by decide) ?_
            have e1 : (bI (decide (0 < nuC X ty sp))) = 0 := by simp [bI, c_1, c_3, eq_false (Int32.not_lt.mpr c_3), s_ei, c_4, eq_false (Int32.not_lt.mpr c_4), s_hp]
            have f0 : (upd Z k (nuV X sp (nuC X ty sp))) = (upd Z k (nuV X sp i)) := by simp [bI, c_1, c_3, eq_false (Int32.not_lt.mpr c_3), s_ei, c_4, eq_false (Int32.not_lt.mpr c_4), s_hp]
            have f1 : (sp + (nuC X ty sp)) = (sp + i) := by simp [bI, c_1, c_3, eq_false (Int32.not_lt.mpr c_3), s_ei, c_4, eq_false (Int32.not_lt.mpr c_4), s_hp]
            exact gx_zret (pc := 87) hC dX5_number_87 (Nat.zero_le _) (Nat.zero_le _) (by decide) (⟨by rw [e1], by rw [f0, f1]⟩)
          · have s_hp : 0 < i := Nat.pos_of_ne_zero (fun q => c_4 (by rw [q]; exact nI_le (by omega) (by omega)))
            refine gx_iconst (pc := 82) hB dX5_number_82 1 (by decide) ?_
            refine gx_goto (pc := 83) hB 87 dX5_number_83 (by decide) ?_
            have e1 : (bI (decide (0 < nuC X ty sp))) = 1 := by simp [bI, c_1, c_3, eq_false (Int32.not_lt.mpr c_3), s_ei, Int32.not_le.mp c_4, eq_false c_4, s_hp]
            have f0 : (upd Z k (nuV X sp (nuC X ty sp))) = (upd Z k (nuV X sp i)) := by simp [bI, c_1, c_3, eq_false (Int32.not_lt.mpr c_3), s_ei, Int32.not_le.mp c_4, eq_false c_4, s_hp]
            have f1 : (sp + (nuC X ty sp)) = (sp + i) := by simp [bI, c_1, c_3, eq_false (Int32.not_lt.mpr c_3), s_ei, Int32.not_le.mp c_4, eq_false c_4, s_hp]
            exact gx_zret (pc := 87) hC dX5_number_87 (Nat.zero_le _) (Nat.zero_le _) (by decide) (⟨by rw [e1], by rw [f0, f1]⟩)
        · exact absurd (by rw [show i = 4 by omega]; decide) c_3
    | succ f ihf =>
      intro i hi he
      refine gx_aload_n (pc := 12) hB dX5_number_12 0 rfl ?_
      refine gx_bipush (pc := 13) hB dX5_number_13 48 (by decide) ?_
      refine gx_bipush (pc := 15) hB dX5_number_15 57 (by decide) ?_
      refine gx_dVi (pc := 17) (r := bI (xAt X ty (sp + i) 48 57)) (wr := []) hB (c_X5_isAt l K m q1 q2 q3 q4 q5 q6 q7 q8 S P H T X (upd Z k (nuV X sp i)) n ru ty cl (sp + i) ca co 48 57 (by first | assumption | omega | decide) (by first | assumption | omega | decide)) mX5_isAt dX5_number_17 tb_999 pX5_isAt ⟨Nat.le_of_ble_eq_true rfl, Nat.le_of_ble_eq_true rfl⟩ ⟨rfl, rfl⟩ ⟨Nat.zero_le _, Nat.zero_le _⟩ rfl (Nat.le_of_ble_eq_true rfl) [0, 1, 2, 3, 4, 5, 6, 7, 8] [] rfl rfl (by decide) (by decide) (by decide) rfl rfl [0, 1, 2, 3, 4, 5, 6, 7, 8] (by decide) (wM K m q1 q2 q3 q4 q5 q6 q7 q8 S P H T X (upd Z k (nuV X sp i)) n ru ty cl (sp + i) ca co) rfl ?_
      refine gx_if_eq_b (pc := 20) hB 74 dX5_number_20 (by decide) (fun c_5 => ?_) (fun c_5 => ?_)
      · have s_ei : (nuC X ty sp) = i := by rw [← he]; simp [scC, c_5]
        refine gx_aload_n (pc := 74) hB dX5_number_74 0 rfl ?_
        refine gx_get (pc := 75) hB dX5_number_75 inX5 rfl 0 rfl 11 (by decide) tb_737 rfl rfl ?_
        refine gx_iload_n (pc := 78) hB dX5_number_78 2 rfl ?_
        refine gx_icmp_le (pc := 79) hB 86 dX5_number_79 (by decide) (fun c_6 => ?_) (fun c_6 => ?_)
        · have s_hp : (0 < i) = False := eq_false (fun q => nI_ge (by omega) (by omega) c_6)
          refine gx_iconst (pc := 86) hB dX5_number_86 0 (by decide) ?_
          have e1 : (bI (decide (0 < nuC X ty sp))) = 0 := by simp [bI, c_5, s_ei, c_6, eq_false (Int32.not_lt.mpr c_6), s_hp]
          have f0 : (upd Z k (nuV X sp (nuC X ty sp))) = (upd Z k (nuV X sp i)) := by simp [bI, c_5, s_ei, c_6, eq_false (Int32.not_lt.mpr c_6), s_hp]
          have f1 : (sp + (nuC X ty sp)) = (sp + i) := by simp [bI, c_5, s_ei, c_6, eq_false (Int32.not_lt.mpr c_6), s_hp]
          exact gx_zret (pc := 87) hC dX5_number_87 (Nat.zero_le _) (Nat.zero_le _) (by decide) (⟨by rw [e1], by rw [f0, f1]⟩)
        · have s_hp : 0 < i := Nat.pos_of_ne_zero (fun q => c_6 (by rw [q]; exact nI_le (by omega) (by omega)))
          refine gx_iconst (pc := 82) hB dX5_number_82 1 (by decide) ?_
          refine gx_goto (pc := 83) hB 87 dX5_number_83 (by decide) ?_
          have e1 : (bI (decide (0 < nuC X ty sp))) = 1 := by simp [bI, c_5, s_ei, Int32.not_le.mp c_6, eq_false c_6, s_hp]
          have f0 : (upd Z k (nuV X sp (nuC X ty sp))) = (upd Z k (nuV X sp i)) := by simp [bI, c_5, s_ei, Int32.not_le.mp c_6, eq_false c_6, s_hp]
          have f1 : (sp + (nuC X ty sp)) = (sp + i) := by simp [bI, c_5, s_ei, Int32.not_le.mp c_6, eq_false c_6, s_hp]
          exact gx_zret (pc := 87) hC dX5_number_87 (Nat.zero_le _) (Nat.zero_le _) (by decide) (⟨by rw [e1], by rw [f0, f1]⟩)
      · refine gx_aload_n (pc := 23) hB dX5_number_23 0 rfl ?_
        refine gx_get (pc := 24) hB dX5_number_24 inX5 rfl 0 rfl 11 (by decide) tb_737 rfl rfl ?_
        refine gx_iload_n (pc := 27) hB dX5_number_27 2 rfl ?_
        refine gx_isub (pc := 28) hB dX5_number_28 ?_
        refine gx_top (show (nI (sp + i)) - nI sp = nI i from sub_sp) ?_
        refine gx_iconst (pc := 29) hB dX5_number_29 4 (by decide) ?_
        refine gx_icmp_ge (pc := 30) hB 74 dX5_number_30 (by decide) (fun c_7 => ?_) (fun c_7 => ?_)
        · exact absurd c_7 (nI_ge (b := 4) (by omega) (by decide))
        · have hst : sp + i < ty := by have := c_5; simp only [xAt, Bool.and_eq_true, decide_eq_true_eq] at this; exact this.1
          refine gx_aload_n (pc := 33) hB dX5_number_33 0 rfl ?_
          refine gx_get (pc := 34) hB dX5_number_34 inX5 rfl 0 rfl 14 (by decide) tb_740 rfl rfl ?_
          refine gx_iload_n (pc := 37) hB dX5_number_37 1 rfl ?_
          refine gx_bipush (pc := 38) hB dX5_number_38 10 (by decide) ?_
          refine gx_aload_n (pc := 40) hB dX5_number_40 0 rfl ?_
          refine gx_get (pc := 41) hB dX5_number_41 inX5 rfl 0 rfl 14 (by decide) tb_740 rfl rfl ?_
          refine gx_iload_n (pc := 44) hB dX5_number_44 1 rfl ?_
          refine gx_iald (pc := 45) hB dX5_number_45 8 1 rfl rfl k rfl (by omega) (by decide) ?_
          refine gx_imul (pc := 46) hB dX5_number_46 ?_
          refine gx_aload_n (pc := 47) hB dX5_number_47 0 rfl ?_
          refine gx_get (pc := 48) hB dX5_number_48 inX5 rfl 0 rfl 6 (by decide) tb_732 rfl rfl ?_
          refine gx_aload_n (pc := 51) hB dX5_number_51 0 rfl ?_
          refine gx_get (pc := 52) hB dX5_number_52 inX5 rfl 0 rfl 11 (by decide) tb_737 rfl rfl ?_
          refine gx_iald (pc := 55) hB dX5_number_55 5 1 rfl rfl (sp + i) rfl (by omega) (by decide) ?_
          refine gx_iadd (pc := 56) hB dX5_number_56 ?_
          refine gx_bipush (pc := 57) hB dX5_number_57 48 (by decide) ?_
          refine gx_isub (pc := 59) hB dX5_number_59 ?_
          refine gx_iast (pc := 60) hB dX5_number_60 8 1 rfl rfl k rfl (by omega) (by decide) (wM K m q1 q2 q3 q4 q5 q6 q7 q8 S P H T X (upd (upd Z k (nuV X sp i)) k (((10 * ((upd Z k (nuV X sp i)) k)) + (X (sp + i))) - 48)) n ru ty cl (sp + i) ca co) rfl ?_
          refine gx_aload_n (pc := 61) hB dX5_number_61 0 rfl ?_
          refine gx_dup (pc := 62) hB dX5_number_62 rfl ?_
          refine gx_get (pc := 63) hB dX5_number_63 inX5 rfl 0 rfl 11 (by decide) tb_737 rfl rfl ?_
          refine gx_iconst (pc := 66) hB dX5_number_66 1 (by decide) ?_
          refine gx_iadd (pc := 67) hB dX5_number_67 ?_
          refine gx_top (show (nI (sp + i)) + 1 = nI (sp + i + 1) from nI_add (sp + i) 1) ?_
          refine gx_put (pc := 68) hB dX5_number_68 inX5 rfl tyX5 tyX5_ok nmX5 0 rfl 11 (by decide) tb_737 rfl rfl rfl rfl (Nat.le_of_ble_eq_true rfl) (wM K m q1 q2 q3 q4 q5 q6 q7 q8 S P H T X (upd (upd Z k (nuV X sp i)) k (((10 * ((upd Z k (nuV X sp i)) k)) + (X (sp + i))) - 48)) n ru ty cl (sp + i + 1) ca co) rfl ?_
          refine gx_goto (pc := 71) hB 12 dX5_number_71 (by decide) ?_
          refine gx_sub hB (lv' := [(0, .ref m), (1, .int (nI k)), (2, .int (nI sp))]) [0, 1, 2] rfl ?_
          refine gx_all (ws' := wM K m q1 q2 q3 q4 q5 q6 q7 q8 S P H T X (upd Z k (nuV X sp (i + 1))) n ru ty cl (sp + (i + 1)) ca co) (lv' := [(0, .ref m), (1, .int (nI k)), (2, .int (nI sp))]) (by simp only [nuV, woV, upd_upd, upd_eq, Nat.add_assoc]) (by simp only [nuV, woV, Nat.add_assoc]) ?_
          exact ihf (i + 1) (by omega) (by rw [← he]; simp [scC, c_5])
  refine gx_sub hB (lv' := [(0, .ref m), (1, .int (nI k)), (2, .int (nI sp))]) [1, 2, 0] rfl ?_
  refine gx_all (ws' := wM K m q1 q2 q3 q4 q5 q6 q7 q8 S P H T X (upd Z k (nuV X sp 0)) n ru ty cl (sp + 0) ca co) (lv' := [(0, .ref m), (1, .int (nI k)), (2, .int (nI sp))]) rfl rfl ?_
  exact loop_12 4 0 rfl rfl
theorem pX5_word : (parseMethodDescriptor yX5_word.desc).map (fun d => d.parameters.length) = some 0 := by decide +kernel
theorem mX5_word : gx_M yX5_word cX5_word 6 (some .int) := ⟨tb_997, tb_62, tb_73, tb_998, by decide, by decide⟩
set_option maxHeartbeats 4000000 in
set_option maxRecDepth 100000 in
theorem c_X5_word (l : Launch) (K : gx_K) (m q1 q2 q3 q4 q5 q6 q7 q8 : Nat) (S P H T X Z : Nat → Int32) (n : Nat) (ru : Bool) (ty : Nat) (cl : Int32) (sp : Nat) (ca : Int32) (co : Nat)  (h0 : ty ≤ 80) (h1 : sp ≤ 150) : gx_Ctr l K yX5_word cX5_word 6 (some .int) (rmm 3 44) [.ref m] (wM K m q1 q2 q3 q4 q5 q6 q7 q8 S P H T X Z n ru ty cl sp ca co) (gx_D (some (.int (woF X ty sp))) (wM K m q1 q2 q3 q4 q5 q6 q7 q8 S P H T X Z n ru ty cl (sp + (woC X ty sp)) ca co)) := by
  refine gx_of (by decide) (Nat.le_of_ble_eq_true rfl) (fun G hC => ?_)
  have hB := hC.b
  refine gx_lv (lv' := [(0, .ref m)]) rfl ?_
  refine gx_lconst (pc := 0) hB dX5_word_0 0 rfl ?_
  refine gx_lstore_n (pc := 1) hB dX5_word_1 (by decide) [(1, .long 0), (0, .ref m)] rfl ?_
  refine gx_aload_n (pc := 2) hB dX5_word_2 1 rfl ?_
  refine gx_get (pc := 3) hB dX5_word_3 inX5 rfl 0 rfl 11 (by decide) tb_737 rfl rfl ?_
  refine gx_istore_n (pc := 6) hB dX5_word_6 (by decide) [(3, .int (nI sp)), (1, .long 0), (0, .ref m)] rfl ?_
  have loop_7 : ∀ f i : Nat, i + f = 7 → scC X ty sp 97 122 f i = (woC X ty sp) → G 0 0 (wM K m q1 q2 q3 q4 q5 q6 q7 q8 S P H T X Z n ru ty cl (sp + i) ca co) [(0, .ref m), (1, .long (woV X sp i)), (3, .int (nI sp))] 7 [] := by
    intro f
    induction f with
    | zero =>
      intro i hi he
      refine gx_aload_n (pc := 7) hB dX5_word_7 0 rfl ?_
      refine gx_bipush (pc := 8) hB dX5_word_8 97 (by decide) ?_
      refine gx_bipush (pc := 10) hB dX5_word_10 122 (by decide) ?_
      refine gx_dVi (pc := 12) (r := bI (xAt X ty (sp + i) 97 122)) (wr := []) hB (c_X5_isAt l K m q1 q2 q3 q4 q5 q6 q7 q8 S P H T X Z n ru ty cl (sp + i) ca co 97 122 (by first | assumption | omega | decide) (by first | assumption | omega | decide)) mX5_isAt dX5_word_12 tb_999 pX5_isAt ⟨Nat.le_of_ble_eq_true rfl, Nat.le_of_ble_eq_true rfl⟩ ⟨rfl, rfl⟩ ⟨Nat.zero_le _, Nat.zero_le _⟩ rfl (Nat.le_of_ble_eq_true rfl) [0, 1, 2, 3, 4, 5, 6, 7, 8] [] rfl rfl (by decide) (by decide) (by decide) rfl rfl [0, 1, 2, 3, 4, 5, 6, 7, 8] (by decide) (wM K m q1 q2 q3 q4 q5 q6 q7 q8 S P H T X Z n ru ty cl (sp + i) ca co) rfl ?_
      refine gx_if_eq_b (pc := 15) hB 59 dX5_word_15 (by decide) (fun c_1 => ?_) (fun c_1 => ?_)
      · have s_ei : (woC X ty sp) = i := he.symm
        refine gx_all (ws' := wM K m q1 q2 q3 q4 q5 q6 q7 q8 S P H T X Z n ru ty cl (sp + (woC X ty sp)) ca co) (lv' := [(0, .ref m), (1, .long (woV X sp (woC X ty sp))), (3, .int (nI sp))]) (by rw [s_ei]) (by rw [s_ei]) ?_
        refine gx_bipush (pc := 59) hB dX5_word_59 (-4) (by decide) ?_
        refine gx_istore (pc := 61) hB dX5_word_61 (by decide) [(4, .int (-4)), (0, .ref m), (1, .long (woV X sp (woC X ty sp))), (3, .int (nI sp))] rfl ?_
        refine gx_iconst (pc := 63) hB dX5_word_63 0 (by decide) ?_
        refine gx_istore (pc := 64) hB dX5_word_64 (by decide) [(5, .int 0), (4, .int (-4)), (0, .ref m), (1, .long (woV X sp (woC X ty sp))), (3, .int (nI sp))] rfl ?_
        have loop_66 : ∀ dq i : Nat, i + dq = 9 → G 0 0 (wM K m q1 q2 q3 q4 q5 q6 q7 q8 S P H T X Z n ru ty cl (sp + (woC X ty sp)) ca co) [(0, .ref m), (1, .long (woV X sp (woC X ty sp))), (3, .int (nI sp)), (4, .int (fdN (woV X sp (woC X ty sp)) i)), (5, .int (nI i))] 66 [] := by
          intro dq
          induction dq with
          | zero =>
            intro i hi66
            obtain rfl : 9 = i := by omega
            refine gx_iload (pc := 66) hB dX5_word_66 4 rfl ?_
            refine gx_bipush (pc := 68) hB dX5_word_68 9 (by decide) ?_
            refine gx_icmp_ge (pc := 70) hB 100 dX5_word_70 (by decide) (fun c_2 => ?_) (fun c_2 => ?_)
            · refine gx_iload (pc := 100) hB dX5_word_100 3 rfl ?_
              have e1 : woF X ty sp = (fdN (woV X sp (woC X ty sp)) 9) := by simp [woF, c_2, eq_false (Int32.not_lt.mpr c_2)]
              exact gx_iret (pc := 102) hC dX5_word_102 (Nat.zero_le _) (Nat.zero_le _) (⟨by rw [e1], rfl⟩)
            · exact absurd (lpT (x := 9) hi66) c_2
          | succ dq ih66 =>
            intro i hi66
            refine gx_iload (pc := 66) hB dX5_word_66 4 rfl ?_
            refine gx_bipush (pc := 68) hB dX5_word_68 9 (by decide) ?_
            refine gx_icmp_ge (pc := 70) hB 100 dX5_word_70 (by decide) (fun c_3 => ?_) (fun c_3 => ?_)
            · exact absurd c_3 (lpF (x := 9) hi66)
            · refine gx_aload_n (pc := 73) hB dX5_word_73 0 rfl ?_
              refine gx_get (pc := 74) hB dX5_word_74 inX5 rfl 0 rfl 8 (by decide) tb_734 rfl rfl ?_
              refine gx_iload (pc := 77) hB dX5_word_77 4 rfl ?_
              refine gx_lald (pc := 79) hB dX5_word_79 6 2 rfl rfl i rfl (by omega) (by decide) ?_
              refine gx_lload_n (pc := 80) hB dX5_word_80 1 rfl ?_
              refine gx_lcmp (pc := 81) hB dX5_word_81 ?_
              refine gx_if_ne (pc := 82) hB 90 dX5_word_82 (by decide) (fun c_4 => ?_) (fun c_4 => ?_)
              · have s_eq : (mW i = woV X sp (woC X ty sp)) = False := eq_false (fun q => c_4 (lg_cmp0.mpr q))
                refine gx_iload (pc := 90) hB dX5_word_90 3 rfl ?_
                refine gx_istore (pc := 92) hB dX5_word_92 (by decide) [(4, .int (fdN (woV X sp (woC X ty sp)) i)), (0, .ref m), (1, .long (woV X sp (woC X ty sp))), (3, .int (nI sp)), (5, .int (nI i))] rfl ?_
                refine gx_iinc (pc := 94) hB dX5_word_94 4 (by decide) rfl (nI (i + 1)) (nI_1 _) [(5, .int (nI (i + 1))), (4, .int (fdN (woV X sp (woC X ty sp)) i)), (0, .ref m), (1, .long (woV X sp (woC X ty sp))), (3, .int (nI sp))] rfl ?_
                refine gx_goto (pc := 97) hB 66 dX5_word_97 (by decide) ?_
                have g3 : fdN (woV X sp (woC X ty sp)) i = fdN (woV X sp (woC X ty sp)) (i + 1) := by simp [woF, fdN, Int32.not_le.mp c_3, eq_false c_3, eq_false c_4, s_eq]
                refine gx_sub hB (lv' := [(0, .ref m), (1, .long (woV X sp (woC X ty sp))), (3, .int (nI sp)), (4, .int (fdN (woV X sp (woC X ty sp)) i)), (5, .int (nI (i + 1)))]) [2, 3, 4, 1, 0] rfl ?_
                refine gx_all (ws' := wM K m q1 q2 q3 q4 q5 q6 q7 q8 S P H T X Z n ru ty cl (sp + (woC X ty sp)) ca co) (lv' := [(0, .ref m), (1, .long (woV X sp (woC X ty sp))), (3, .int (nI sp)), (4, .int (fdN (woV X sp (woC X ty sp)) (i + 1))), (5, .int (nI (i + 1)))]) (rfl) (by rw [← g3]) ?_
                exact ih66 (i + 1) (by omega)
              · have s_eq : mW i = woV X sp (woC X ty sp) := lg_cmp0.mp c_4
                refine gx_iload (pc := 85) hB dX5_word_85 4 rfl ?_
                refine gx_goto (pc := 87) hB 92 dX5_word_87 (by decide) ?_
                refine gx_istore (pc := 92) hB dX5_word_92 (by decide) [(4, .int (nI i)), (0, .ref m), (1, .long (woV X sp (woC X ty sp))), (3, .int (nI sp)), (5, .int (nI i))] rfl ?_
                refine gx_iinc (pc := 94) hB dX5_word_94 4 (by decide) rfl (nI (i + 1)) (nI_1 _) [(5, .int (nI (i + 1))), (4, .int (nI i)), (0, .ref m), (1, .long (woV X sp (woC X ty sp))), (3, .int (nI sp))] rfl ?_
                refine gx_goto (pc := 97) hB 66 dX5_word_97 (by decide) ?_
                have g3 : nI i = fdN (woV X sp (woC X ty sp)) (i + 1) := by simp [woF, fdN, Int32.not_le.mp c_3, eq_false c_3, eq_true c_4, s_eq]
                refine gx_sub hB (lv' := [(0, .ref m), (1, .long (woV X sp (woC X ty sp))), (3, .int (nI sp)), (4, .int (nI i)), (5, .int (nI (i + 1)))]) [2, 3, 4, 1, 0] rfl ?_
                refine gx_all (ws' := wM K m q1 q2 q3 q4 q5 q6 q7 q8 S P H T X Z n ru ty cl (sp + (woC X ty sp)) ca co) (lv' := [(0, .ref m), (1, .long (woV X sp (woC X ty sp))), (3, .int (nI sp)), (4, .int (fdN (woV X sp (woC X ty sp)) (i + 1))), (5, .int (nI (i + 1)))]) (rfl) (by rw [← g3]) ?_
                exact ih66 (i + 1) (by omega)
        refine gx_sub hB (lv' := [(0, .ref m), (1, .long (woV X sp (woC X ty sp))), (3, .int (nI sp)), (4, .int (-4)), (5, .int 0)]) [2, 3, 4, 1, 0] rfl ?_
        refine gx_all (ws' := wM K m q1 q2 q3 q4 q5 q6 q7 q8 S P H T X Z n ru ty cl (sp + (woC X ty sp)) ca co) (lv' := [(0, .ref m), (1, .long (woV X sp (woC X ty sp))), (3, .int (nI sp)), (4, .int (fdN (woV X sp (woC X ty sp)) 0)), (5, .int (nI 0))]) (rfl) (rfl) ?_
        exact loop_66 (9) 0 (by omega)
      · refine gx_aload_n (pc := 18) hB dX5_word_18 0 rfl ?_
        refine gx_get (pc := 19) hB dX5_word_19 inX5 rfl 0 rfl 11 (by decide) tb_737 rfl rfl ?_
        refine gx_iload_n (pc := 22) hB dX5_word_22 2 rfl ?_
        refine gx_isub (pc := 23) hB dX5_word_23 ?_
        refine gx_top (show (nI (sp + i)) - nI sp = nI i from sub_sp) ?_
        refine gx_bipush (pc := 24) hB dX5_word_24 7 (by decide) ?_
        refine gx_icmp_ge (pc := 26) hB 59 dX5_word_26 (by decide) (fun c_5 => ?_) (fun c_5 => ?_)
        · have s_ei : (woC X ty sp) = i := he.symm
          refine gx_all (ws' := wM K m q1 q2 q3 q4 q5 q6 q7 q8 S P H T X Z n ru ty cl (sp + (woC X ty sp)) ca co) (lv' := [(0, .ref m), (1, .long (woV X sp (woC X ty sp))), (3, .int (nI sp))]) (by rw [s_ei]) (by rw [s_ei]) ?_
          refine gx_bipush (pc := 59) hB dX5_word_59 (-4) (by decide) ?_
          refine gx_istore (pc := 61) hB dX5_word_61 (by decide) [(4, .int (-4)), (0, .ref m), (1, .long (woV X sp (woC X ty sp))), (3, .int (nI sp))] rfl ?_
          refine gx_iconst (pc := 63) hB dX5_word_63 0 (by decide) ?_
          refine gx_istore (pc := 64) hB dX5_word_64 (by decide) [(5, .int 0), (4, .int (-4)), (0, .ref m), (1, .long (woV X sp (woC X ty sp))), (3, .int (nI sp))] rfl ?_
          have loop_66 : ∀ dq i : Nat, i + dq = 9 → G 0 0 (wM K m q1 q2 q3 q4 q5 q6 q7 q8 S P H T X Z n ru ty cl (sp + (woC X ty sp)) ca co) [(0, .ref m), (1, .long (woV X sp (woC X ty sp))), (3, .int (nI sp)), (4, .int (fdN (woV X sp (woC X ty sp)) i)), (5, .int (nI i))] 66 [] := by
            intro dq
            induction dq with
            | zero =>
              intro i hi66
              obtain rfl : 9 = i := by omega
              refine gx_iload (pc := 66) hB dX5_word_66 4 rfl ?_
              refine gx_bipush (pc := 68) hB dX5_word_68 9 (by decide) ?_
              refine gx_icmp_ge (pc := 70) hB 100 dX5_word_70 (by decide) (fun c_6 => ?_) (fun c_6 => ?_)
              · refine gx_iload (pc := 100) hB dX5_word_100 3 rfl ?_
                have e1 : woF X ty sp = (fdN (woV X sp (woC X ty sp)) 9) := by simp [woF, c_6, eq_false (Int32.not_lt.mpr c_6)]
                exact gx_iret (pc := 102) hC dX5_word_102 (Nat.zero_le _) (Nat.zero_le _) (⟨by rw [e1], rfl⟩)
              · exact absurd (lpT (x := 9) hi66) c_6
            | succ dq ih66 =>
              intro i hi66
              refine gx_iload (pc := 66) hB dX5_word_66 4 rfl ?_
              refine gx_bipush (pc := 68) hB dX5_word_68 9 (by decide) ?_
              refine gx_icmp_ge (pc := 70) hB 100 dX5_word_70 (by decide) (fun c_7 => ?_) (fun c_7 => ?_)
              · exact absurd c_7 (lpF (x := 9) hi66)
              · refine gx_aload_n (pc := 73) hB dX5_word_73 0 rfl ?_
                refine gx_get (pc := 74) hB dX5_word_74 inX5 rfl 0 rfl 8 (by decide) tb_734 rfl rfl ?_
                refine gx_iload (pc := 77) hB dX5_word_77 4 rfl ?_
                refine gx_lald (pc := 79) hB dX5_word_79 6 2 rfl rfl i rfl (by omega) (by decide) ?_
                refine gx_lload_n (pc := 80) hB dX5_word_80 1 rfl ?_
                refine gx_lcmp (pc := 81) hB dX5_word_81 ?_
                refine gx_if_ne (pc := 82) hB 90 dX5_word_82 (by decide) (fun c_8 => ?_) (fun c_8 => ?_)
                · have s_eq : (mW i = woV X sp (woC X ty sp)) = False := eq_false (fun q => c_8 (lg_cmp0.mpr q))
                  refine gx_iload (pc := 90) hB dX5_word_90 3 rfl ?_
                  refine gx_istore (pc := 92) hB dX5_word_92 (by decide) [(4, .int (fdN (woV X sp (woC X ty sp)) i)), (0, .ref m), (1, .long (woV X sp (woC X ty sp))), (3, .int (nI sp)), (5, .int (nI i))] rfl ?_
                  refine gx_iinc (pc := 94) hB dX5_word_94 4 (by decide) rfl (nI (i + 1)) (nI_1 _) [(5, .int (nI (i + 1))), (4, .int (fdN (woV X sp (woC X ty sp)) i)), (0, .ref m), (1, .long (woV X sp (woC X ty sp))), (3, .int (nI sp))] rfl ?_
                  refine gx_goto (pc := 97) hB 66 dX5_word_97 (by decide) ?_
                  have g3 : fdN (woV X sp (woC X ty sp)) i = fdN (woV X sp (woC X ty sp)) (i + 1) := by simp [woF, fdN, Int32.not_le.mp c_7, eq_false c_7, eq_false c_8, s_eq]
                  refine gx_sub hB (lv' := [(0, .ref m), (1, .long (woV X sp (woC X ty sp))), (3, .int (nI sp)), (4, .int (fdN (woV X sp (woC X ty sp)) i)), (5, .int (nI (i + 1)))]) [2, 3, 4, 1, 0] rfl ?_
                  refine gx_all (ws' := wM K m q1 q2 q3 q4 q5 q6 q7 q8 S P H T X Z n ru ty cl (sp + (woC X ty sp)) ca co) (lv' := [(0, .ref m), (1, .long (woV X sp (woC X ty sp))), (3, .int (nI sp)), (4, .int (fdN (woV X sp (woC X ty sp)) (i + 1))), (5, .int (nI (i + 1)))]) (rfl) (by rw [← g3]) ?_
                  exact ih66 (i + 1) (by omega)
                · have s_eq : mW i = woV X sp (woC X ty sp) := lg_cmp0.mp c_8
                  refine gx_iload (pc := 85) hB dX5_word_85 4 rfl ?_
                  refine gx_goto (pc := 87) hB 92 dX5_word_87 (by decide) ?_
                  refine gx_istore (pc := 92) hB dX5_word_92 (by decide) [(4, .int (nI i)), (0, .ref m), (1, .long (woV X sp (woC X ty sp))), (3, .int (nI sp)), (5, .int (nI i))] rfl ?_
                  refine gx_iinc (pc := 94) hB dX5_word_94 4 (by decide) rfl (nI (i + 1)) (nI_1 _) [(5, .int (nI (i + 1))), (4, .int (nI i)), (0, .ref m), (1, .long (woV X sp (woC X ty sp))), (3, .int (nI sp))] rfl ?_
                  refine gx_goto (pc := 97) hB 66 dX5_word_97 (by decide) ?_
                  have g3 : nI i = fdN (woV X sp (woC X ty sp)) (i + 1) := by simp [woF, fdN, Int32.not_le.mp c_7, eq_false c_7, eq_true c_8, s_eq]
                  refine gx_sub hB (lv' := [(0, .ref m), (1, .long (woV X sp (woC X ty sp))), (3, .int (nI sp)), (4, .int (nI i)), (5, .int (nI (i + 1)))]) [2, 3, 4, 1, 0] rfl ?_
                  refine gx_all (ws' := wM K m q1 q2 q3 q4 q5 q6 q7 q8 S P H T X Z n ru ty cl (sp + (woC X ty sp)) ca co) (lv' := [(0, .ref m), (1, .long (woV X sp (woC X ty sp))), (3, .int (nI sp)), (4, .int (fdN (woV X sp (woC X ty sp)) (i + 1))), (5, .int (nI (i + 1)))]) (rfl) (by rw [← g3]) ?_
                  exact ih66 (i + 1) (by omega)
          refine gx_sub hB (lv' := [(0, .ref m), (1, .long (woV X sp (woC X ty sp))), (3, .int (nI sp)), (4, .int (-4)), (5, .int 0)]) [2, 3, 4, 1, 0] rfl ?_
          refine gx_all (ws' := wM K m q1 q2 q3 q4 q5 q6 q7 q8 S P H T X Z n ru ty cl (sp + (woC X ty sp)) ca co) (lv' := [(0, .ref m), (1, .long (woV X sp (woC X ty sp))), (3, .int (nI sp)), (4, .int (fdN (woV X sp (woC X ty sp)) 0)), (5, .int (nI 0))]) (rfl) (rfl) ?_
          exact loop_66 (9) 0 (by omega)
        · exact absurd (by rw [show i = 7 by omega]; decide) c_5
    | succ f ihf =>
      intro i hi he
      refine gx_aload_n (pc := 7) hB dX5_word_7 0 rfl ?_
      refine gx_bipush (pc := 8) hB dX5_word_8 97 (by decide) ?_
      refine gx_bipush (pc := 10) hB dX5_word_10 122 (by decide) ?_
      refine gx_dVi (pc := 12) (r := bI (xAt X ty (sp + i) 97 122)) (wr := []) hB (c_X5_isAt l K m q1 q2 q3 q4 q5 q6 q7 q8 S P H T X Z n ru ty cl (sp + i) ca co 97 122 (by first | assumption | omega | decide) (by first | assumption | omega | decide)) mX5_isAt dX5_word_12 tb_999 pX5_isAt ⟨Nat.le_of_ble_eq_true rfl, Nat.le_of_ble_eq_true rfl⟩ ⟨rfl, rfl⟩ ⟨Nat.zero_le _, Nat.zero_le _⟩ rfl (Nat.le_of_ble_eq_true rfl) [0, 1, 2, 3, 4, 5, 6, 7, 8] [] rfl rfl (by decide) (by decide) (by decide) rfl rfl [0, 1, 2, 3, 4, 5, 6, 7, 8] (by decide) (wM K m q1 q2 q3 q4 q5 q6 q7 q8 S P H T X Z n ru ty cl (sp + i) ca co) rfl ?_
      refine gx_if_eq_b (pc := 15) hB 59 dX5_word_15 (by decide) (fun c_9 => ?_) (fun c_9 => ?_)
      · have s_ei : (woC X ty sp) = i := by rw [← he]; simp [scC, c_9]
        refine gx_all (ws' := wM K m q1 q2 q3 q4 q5 q6 q7 q8 S P H T X Z n ru ty cl (sp + (woC X ty sp)) ca co) (lv' := [(0, .ref m), (1, .long (woV X sp (woC X ty sp))), (3, .int (nI sp))]) (by rw [s_ei]) (by rw [s_ei]) ?_
        refine gx_bipush (pc := 59) hB dX5_word_59 (-4) (by decide) ?_
        refine gx_istore (pc := 61) hB dX5_word_61 (by decide) [(4, .int (-4)), (0, .ref m), (1, .long (woV X sp (woC X ty sp))), (3, .int (nI sp))] rfl ?_
        refine gx_iconst (pc := 63) hB dX5_word_63 0 (by decide) ?_
        refine gx_istore (pc := 64) hB dX5_word_64 (by decide) [(5, .int 0), (4, .int (-4)), (0, .ref m), (1, .long (woV X sp (woC X ty sp))), (3, .int (nI sp))] rfl ?_
        have loop_66 : ∀ dq i : Nat, i + dq = 9 → G 0 0 (wM K m q1 q2 q3 q4 q5 q6 q7 q8 S P H T X Z n ru ty cl (sp + (woC X ty sp)) ca co) [(0, .ref m), (1, .long (woV X sp (woC X ty sp))), (3, .int (nI sp)), (4, .int (fdN (woV X sp (woC X ty sp)) i)), (5, .int (nI i))] 66 [] := by
          intro dq
          induction dq with
          | zero =>
            intro i hi66
            obtain rfl : 9 = i := by omega
            refine gx_iload (pc := 66) hB dX5_word_66 4 rfl ?_
            refine gx_bipush (pc := 68) hB dX5_word_68 9 (by decide) ?_
            refine gx_icmp_ge (pc := 70) hB 100 dX5_word_70 (by decide) (fun c_10 => ?_) (fun c_10 => ?_)
            · refine gx_iload (pc := 100) hB dX5_word_100 3 rfl ?_
              have e1 : woF X ty sp = (fdN (woV X sp (woC X ty sp)) 9) := by simp [woF, c_10, eq_false (Int32.not_lt.mpr c_10)]
              exact gx_iret (pc := 102) hC dX5_word_102 (Nat.zero_le _) (Nat.zero_le _) (⟨by rw [e1], rfl⟩)
            · exact absurd (lpT (x := 9) hi66) c_10
          | succ dq ih66 =>
            intro i hi66
            refine gx_iload (pc := 66) hB dX5_word_66 4 rfl ?_
            refine gx_bipush (pc := 68) hB dX5_word_68 9 (by decide) ?_
            refine gx_icmp_ge (pc := 70) hB 100 dX5_word_70 (by decide) (fun c_11 => ?_) (fun c_11 => ?_)
            · exact absurd c_11 (lpF (x := 9) hi66)
            · refine gx_aload_n (pc := 73) hB dX5_word_73 0 rfl ?_
              refine gx_get (pc := 74) hB dX5_word_74 inX5 rfl 0 rfl 8 (by decide) tb_734 rfl rfl ?_
              refine gx_iload (pc := 77) hB dX5_word_77 4 rfl ?_
              refine gx_lald (pc := 79) hB dX5_word_79 6 2 rfl rfl i rfl (by omega) (by decide) ?_
              refine gx_lload_n (pc := 80) hB dX5_word_80 1 rfl ?_
              refine gx_lcmp (pc := 81) hB dX5_word_81 ?_
              refine gx_if_ne (pc := 82) hB 90 dX5_word_82 (by decide) (fun c_12 => ?_) (fun c_12 => ?_)
              · have s_eq : (mW i = woV X sp (woC X ty sp)) = False := eq_false (fun q => c_12 (lg_cmp0.mpr q))
                refine gx_iload (pc := 90) hB dX5_word_90 3 rfl ?_
                refine gx_istore (pc := 92) hB dX5_word_92 (by decide) [(4, .int (fdN (woV X sp (woC X ty sp)) i)), (0, .ref m), (1, .long (woV X sp (woC X ty sp))), (3, .int (nI sp)), (5, .int (nI i))] rfl ?_
                refine gx_iinc (pc := 94) hB dX5_word_94 4 (by decide) rfl (nI (i + 1)) (nI_1 _) [(5, .int (nI (i + 1))), (4, .int (fdN (woV X sp (woC X ty sp)) i)), (0, .ref m), (1, .long (woV X sp (woC X ty sp))), (3, .int (nI sp))] rfl ?_
                refine gx_goto (pc := 97) hB 66 dX5_word_97 (by decide) ?_
                have g3 : fdN (woV X sp (woC X ty sp)) i = fdN (woV X sp (woC X ty sp)) (i + 1) := by simp [woF, fdN, Int32.not_le.mp c_11, eq_false c_11, eq_false c_12, s_eq]
                refine gx_sub hB (lv' := [(0, .ref m), (1, .long (woV X sp (woC X ty sp))), (3, .int (nI sp)), (4, .int (fdN (woV X sp (woC X ty sp)) i)), (5, .int (nI (i + 1)))]) [2, 3, 4, 1, 0] rfl ?_
                refine gx_all (ws' := wM K m q1 q2 q3 q4 q5 q6 q7 q8 S P H T X Z n ru ty cl (sp + (woC X ty sp)) ca co) (lv' := [(0, .ref m), (1, .long (woV X sp (woC X ty sp))), (3, .int (nI sp)), (4, .int (fdN (woV X sp (woC X ty sp)) (i + 1))), (5, .int (nI (i + 1)))]) (rfl) (by rw [← g3]) ?_
                exact ih66 (i + 1) (by omega)
              · have s_eq : mW i = woV X sp (woC X ty sp) := lg_cmp0.mp c_12
                refine gx_iload (pc := 85) hB dX5_word_85 4 rfl ?_
                refine gx_goto (pc := 87) hB 92 dX5_word_87 (by decide) ?_
                refine gx_istore (pc := 92) hB dX5_word_92 (by decide) [(4, .int (nI i)), (0, .ref m), (1, .long (woV X sp (woC X ty sp))), (3, .int (nI sp)), (5, .int (nI i))] rfl ?_
                refine gx_iinc (pc := 94) hB dX5_word_94 4 (by decide) rfl (nI (i + 1)) (nI_1 _) [(5, .int (nI (i + 1))), (4, .int (nI i)), (0, .ref m), (1, .long (woV X sp (woC X ty sp))), (3, .int (nI sp))] rfl ?_
                refine gx_goto (pc := 97) hB 66 dX5_word_97 (by decide) ?_
                have g3 : nI i = fdN (woV X sp (woC X ty sp)) (i + 1) := by simp [woF, fdN, Int32.not_le.mp c_11, eq_false c_11, eq_true c_12, s_eq]
                refine gx_sub hB (lv' := [(0, .ref m), (1, .long (woV X sp (woC X ty sp))), (3, .int (nI sp)), (4, .int (nI i)), (5, .int (nI (i + 1)))]) [2, 3, 4, 1, 0] rfl ?_
                refine gx_all (ws' := wM K m q1 q2 q3 q4 q5 q6 q7 q8 S P H T X Z n ru ty cl (sp + (woC X ty sp)) ca co) (lv' := [(0, .ref m), (1, .long (woV X sp (woC X ty sp))), (3, .int (nI sp)), (4, .int (fdN (woV X sp (woC X ty sp)) (i + 1))), (5, .int (nI (i + 1)))]) (rfl) (by rw [← g3]) ?_
                exact ih66 (i + 1) (by omega)
        refine gx_sub hB (lv' := [(0, .ref m), (1, .long (woV X sp (woC X ty sp))), (3, .int (nI sp)), (4, .int (-4)), (5, .int 0)]) [2, 3, 4, 1, 0] rfl ?_
        refine gx_all (ws' := wM K m q1 q2 q3 q4 q5 q6 q7 q8 S P H T X Z n ru ty cl (sp + (woC X ty sp)) ca co) (lv' := [(0, .ref m), (1, .long (woV X sp (woC X ty sp))), (3, .int (nI sp)), (4, .int (fdN (woV X sp (woC X ty sp)) 0)), (5, .int (nI 0))]) (rfl) (rfl) ?_
        exact loop_66 (9) 0 (by omega)
      · refine gx_aload_n (pc := 18) hB dX5_word_18 0 rfl ?_
        refine gx_get (pc := 19) hB dX5_word_19 inX5 rfl 0 rfl 11 (by decide) tb_737 rfl rfl ?_
        refine gx_iload_n (pc := 22) hB dX5_word_22 2 rfl ?_
        refine gx_isub (pc := 23) hB dX5_word_23 ?_
        refine gx_top (show (nI (sp + i)) - nI sp = nI i from sub_sp) ?_
        refine gx_bipush (pc := 24) hB dX5_word_24 7 (by decide) ?_
        refine gx_icmp_ge (pc := 26) hB 59 dX5_word_26 (by decide) (fun c_13 => ?_) (fun c_13 => ?_)
        · exact absurd c_13 (nI_ge (b := 7) (by omega) (by decide))
        · have hst : sp + i < ty := by have := c_9; simp only [xAt, Bool.and_eq_true, decide_eq_true_eq] at this; exact this.1
          refine gx_lload_n (pc := 29) hB dX5_word_29 1 rfl ?_
          refine gx_ldc2 (pc := 30) hB dX5_word_30 tb_1003 ?_
          refine gx_lmul (pc := 33) hB dX5_word_33 ?_
          refine gx_aload_n (pc := 34) hB dX5_word_34 0 rfl ?_
          refine gx_get (pc := 35) hB dX5_word_35 inX5 rfl 0 rfl 6 (by decide) tb_732 rfl rfl ?_
          refine gx_aload_n (pc := 38) hB dX5_word_38 0 rfl ?_
          refine gx_get (pc := 39) hB dX5_word_39 inX5 rfl 0 rfl 11 (by decide) tb_737 rfl rfl ?_
          refine gx_iald (pc := 42) hB dX5_word_42 5 1 rfl rfl (sp + i) rfl (by omega) (by decide) ?_
          refine gx_i2l (pc := 43) hB dX5_word_43 ?_
          refine gx_ladd (pc := 44) hB dX5_word_44 ?_
          refine gx_lstore_n (pc := 45) hB dX5_word_45 (by decide) [(1, .long ((woV X sp i * 256) + ((X (sp + i)).toInt64))), (0, .ref m), (3, .int (nI sp))] rfl ?_
          refine gx_aload_n (pc := 46) hB dX5_word_46 1 rfl ?_
          refine gx_dup (pc := 47) hB dX5_word_47 rfl ?_
          refine gx_get (pc := 48) hB dX5_word_48 inX5 rfl 0 rfl 11 (by decide) tb_737 rfl rfl ?_
          refine gx_iconst (pc := 51) hB dX5_word_51 1 (by decide) ?_
          refine gx_iadd (pc := 52) hB dX5_word_52 ?_
          refine gx_top (show (nI (sp + i)) + 1 = nI (sp + i + 1) from nI_add (sp + i) 1) ?_
          refine gx_put (pc := 53) hB dX5_word_53 inX5 rfl tyX5 tyX5_ok nmX5 0 rfl 11 (by decide) tb_737 rfl rfl rfl rfl (Nat.le_of_ble_eq_true rfl) (wM K m q1 q2 q3 q4 q5 q6 q7 q8 S P H T X Z n ru ty cl (sp + i + 1) ca co) rfl ?_
          refine gx_goto (pc := 56) hB 7 dX5_word_56 (by decide) ?_
          refine gx_sub hB (lv' := [(0, .ref m), (1, .long ((woV X sp i * 256) + ((X (sp + i)).toInt64))), (3, .int (nI sp))]) [1, 0, 2] rfl ?_
          refine gx_all (ws' := wM K m q1 q2 q3 q4 q5 q6 q7 q8 S P H T X Z n ru ty cl (sp + (i + 1)) ca co) (lv' := [(0, .ref m), (1, .long (woV X sp (i + 1))), (3, .int (nI sp))]) (by simp only [nuV, woV, upd_upd, upd_eq, Nat.add_assoc]) (by simp only [nuV, woV, Nat.add_assoc]) ?_
          exact ihf (i + 1) (by omega) (by rw [← he]; simp [scC, c_9])
  refine gx_sub hB (lv' := [(0, .ref m), (1, .long 0), (3, .int (nI sp))]) [2, 1, 0] rfl ?_
  refine gx_all (ws' := wM K m q1 q2 q3 q4 q5 q6 q7 q8 S P H T X Z n ru ty cl (sp + 0) ca co) (lv' := [(0, .ref m), (1, .long (woV X sp 0)), (3, .int (nI sp))]) rfl rfl ?_
  exact loop_7 7 0 rfl rfl
theorem pX5_type : (parseMethodDescriptor yX5_type.desc).map (fun d => d.parameters.length) = some 1 := by decide +kernel
theorem mX5_type : gx_M yX5_type cX5_type 2 (some .int) := ⟨tb_976, tb_977, tb_73, tb_978, by decide, by decide⟩
set_option maxHeartbeats 4000000 in
set_option maxRecDepth 100000 in
theorem c_X5_type (l : Launch) (K : gx_K) (m q1 q2 q3 q4 q5 q6 q7 q8 : Nat) (S P H T X Z : Nat → Int32) (n : Nat) (ru : Bool) (ty : Nat) (cl : Int32) (sp : Nat) (ca : Int32) (co : Nat) (x : Int32) (h0 : ty ≤ 80) : gx_Ctr l K yX5_type cX5_type 2 (some .int) (rmm 2 22) [.ref m, .int x] (wM K m q1 q2 q3 q4 q5 q6 q7 q8 S P H T X Z n ru ty cl sp ca co) (gx_D (some (.int (if bIn x 32 126 then (if ty = 80 then (-3) else nI (ty + 1)) else (-1)))) (wM K m q1 q2 q3 q4 q5 q6 q7 q8 S P H T (if bIn x 32 126 then (if ty = 80 then X else upd X ty x) else X) Z n ru (if bIn x 32 126 then (if ty = 80 then ty else ty + 1) else ty) cl sp ca co)) := by
  refine gx_of (by decide) (Nat.le_of_ble_eq_true rfl) (fun G hC => ?_)
  have hB := hC.b
  refine gx_lv (lv' := [(0, .ref m), (1, .int x)]) rfl ?_
  refine gx_iload_n (pc := 0) hB dX5_type_0 1 rfl ?_
  refine gx_bipush (pc := 1) hB dX5_type_1 32 (by decide) ?_
  refine gx_bipush (pc := 3) hB dX5_type_3 126 (by decide) ?_
  refine gx_dSi (pc := 5) (r := bI (bIn x 32 126)) (wr := [(m, .inr (5, [.ref q1, .ref q2, .ref q3, .ref q4, .int (nI n), .int (bI ru), .ref q5, .int (nI ty), .ref q6, .ref q7, .int cl, .int (nI sp), .int ca, .int (nI co), .ref q8])), (q1, .inl (K.2.1.2.1, 345, .inl S)), (q2, .inl (K.2.1.2.1, 1380, .inl P)), (q3, .inl (K.2.1.2.1, 345, .inl H)), (q4, .inl (K.2.1.2.1, 345, .inl T)), (q5, .inl (K.2.1.2.1, 80, .inl X)), (q6, .inl (K.2.1.2.2.1, 9, .inr (.inl mW))), (q7, .inl (K.2.1.2.1, 9, .inl mN)), (q8, .inl (K.2.1.2.1, 4, .inl Z))]) hB (c_X5_in l K x 32 126 ) mX5_in dX5_type_5 tb_797 pX5_in ⟨Nat.le_of_ble_eq_true rfl, Nat.le_of_ble_eq_true rfl⟩ ⟨rfl, rfl⟩ ⟨Nat.zero_le _, Nat.zero_le _⟩ rfl (Nat.le_of_ble_eq_true rfl) [] [0, 1, 2, 3, 4, 5, 6, 7, 8] rfl rfl (by decide) (by decide) (by decide) [0, 1, 2, 3, 4, 5, 6, 7, 8] (by decide) (wM K m q1 q2 q3 q4 q5 q6 q7 q8 S P H T X Z n ru ty cl sp ca co) rfl ?_
  refine gx_if_ne_b (pc := 8) hB 13 dX5_type_8 (by decide) (fun c_1 => ?_) (fun c_1 => ?_)
  · refine gx_aload_n (pc := 13) hB dX5_type_13 0 rfl ?_
    refine gx_get (pc := 14) hB dX5_type_14 inX5 rfl 0 rfl 7 (by decide) tb_733 rfl rfl ?_
    refine gx_bipush (pc := 17) hB dX5_type_17 80 (by decide) ?_
    refine gx_icmp_ne (pc := 19) hB 25 dX5_type_19 (by decide) (fun c_2 => ?_) (fun c_2 => ?_)
    · have hty : ty < 80 := nI_ne (n := 80) c_2 (by omega)
      have s_ty : (ty = 80) = False := eq_false (by omega)
      refine gx_aload_n (pc := 25) hB dX5_type_25 0 rfl ?_
      refine gx_get (pc := 26) hB dX5_type_26 inX5 rfl 0 rfl 6 (by decide) tb_732 rfl rfl ?_
      refine gx_aload_n (pc := 29) hB dX5_type_29 0 rfl ?_
      refine gx_get (pc := 30) hB dX5_type_30 inX5 rfl 0 rfl 7 (by decide) tb_733 rfl rfl ?_
      refine gx_iload_n (pc := 33) hB dX5_type_33 1 rfl ?_
      refine gx_iast (pc := 34) hB dX5_type_34 5 1 rfl rfl ty rfl (by omega) (by decide) (wM K m q1 q2 q3 q4 q5 q6 q7 q8 S P H T (upd X ty x) Z n ru ty cl sp ca co) rfl ?_
      refine gx_aload_n (pc := 35) hB dX5_type_35 0 rfl ?_
      refine gx_dup (pc := 36) hB dX5_type_36 rfl ?_
      refine gx_get (pc := 37) hB dX5_type_37 inX5 rfl 0 rfl 7 (by decide) tb_733 rfl rfl ?_
      refine gx_iconst (pc := 40) hB dX5_type_40 1 (by decide) ?_
      refine gx_iadd (pc := 41) hB dX5_type_41 ?_
      refine gx_top (show nI ty + 1 = nI (ty + 1) from nI_add ty 1) ?_
      refine gx_put (pc := 42) hB dX5_type_42 inX5 rfl tyX5 tyX5_ok nmX5 0 rfl 7 (by decide) tb_733 rfl rfl rfl rfl (Nat.le_of_ble_eq_true rfl) (wM K m q1 q2 q3 q4 q5 q6 q7 q8 S P H T (upd X ty x) Z n ru (ty + 1) cl sp ca co) rfl ?_
      refine gx_aload_n (pc := 45) hB dX5_type_45 0 rfl ?_
      refine gx_get (pc := 46) hB dX5_type_46 inX5 rfl 0 rfl 7 (by decide) tb_733 rfl rfl ?_
      have e1 : (if bIn x 32 126 then (if ty = 80 then (-3) else nI (ty + 1)) else (-1)) = (nI (ty + 1)) := by simp [c_1, eq_false c_2, s_ty]
      have f0 : (if bIn x 32 126 then (if ty = 80 then X else upd X ty x) else X) = upd X ty x := by simp [c_1, eq_false c_2, s_ty]
      have f1 : (if bIn x 32 126 then (if ty = 80 then ty else ty + 1) else ty) = (ty + 1) := by simp [c_1, eq_false c_2, s_ty]
      exact gx_iret (pc := 49) hC dX5_type_49 (Nat.zero_le _) (Nat.zero_le _) (⟨by rw [e1], by rw [f0, f1]⟩)
    · have s_ty : ty = 80 := (nI_eq (a := ty) (b := 80) (by omega) (by decide)).mp c_2
      refine gx_bipush (pc := 22) hB dX5_type_22 (-3) (by decide) ?_
      have e1 : (if bIn x 32 126 then (if ty = 80 then (-3) else nI (ty + 1)) else (-1)) = (-3) := by simp [c_1, eq_true c_2, s_ty]
      have f0 : (if bIn x 32 126 then (if ty = 80 then X else upd X ty x) else X) = X := by simp [c_1, eq_true c_2, s_ty]
      have f1 : (if bIn x 32 126 then (if ty = 80 then ty else ty + 1) else ty) = ty := by simp [c_1, eq_true c_2, s_ty]
      exact gx_iret (pc := 24) hC dX5_type_24 (Nat.zero_le _) (Nat.zero_le _) (⟨by rw [e1], by rw [f0, f1]⟩)
  · refine gx_iconst (pc := 11) hB dX5_type_11 (-1) (by decide) ?_
    have e1 : (if bIn x 32 126 then (if ty = 80 then (-3) else nI (ty + 1)) else (-1)) = (-1) := by simp [c_1]
    have f0 : (if bIn x 32 126 then (if ty = 80 then X else upd X ty x) else X) = X := by simp [c_1]
    have f1 : (if bIn x 32 126 then (if ty = 80 then ty else ty + 1) else ty) = ty := by simp [c_1]
    exact gx_iret (pc := 12) hC dX5_type_12 (Nat.zero_le _) (Nat.zero_le _) (⟨by rw [e1], by rw [f0, f1]⟩)
theorem pX5_clearText : (parseMethodDescriptor yX5_clearText.desc).map (fun d => d.parameters.length) = some 0 := by decide +kernel
theorem mX5_clearText : gx_M yX5_clearText cX5_clearText 2 (some .int) := ⟨tb_980, tb_981, tb_73, tb_982, by decide, by decide⟩
set_option maxHeartbeats 4000000 in
set_option maxRecDepth 100000 in
theorem c_X5_clearText (l : Launch) (K : gx_K) (m q1 q2 q3 q4 q5 q6 q7 q8 : Nat) (S P H T X Z : Nat → Int32) (n : Nat) (ru : Bool) (ty : Nat) (cl : Int32) (sp : Nat) (ca : Int32) (co : Nat)   : gx_Ctr l K yX5_clearText cX5_clearText 2 (some .int) (rmm 1 0) [.ref m] (wM K m q1 q2 q3 q4 q5 q6 q7 q8 S P H T X Z n ru ty cl sp ca co) (gx_D (some (.int (nI ty))) (wM K m q1 q2 q3 q4 q5 q6 q7 q8 S P H T X Z n ru 0 cl sp ca co)) := by
  refine gx_of (by decide) (Nat.le_of_ble_eq_true rfl) (fun G hC => ?_)
  have hB := hC.b
  refine gx_lv (lv' := [(0, .ref m)]) rfl ?_
  refine gx_aload_n (pc := 0) hB dX5_clearText_0 0 rfl ?_
  refine gx_get (pc := 1) hB dX5_clearText_1 inX5 rfl 0 rfl 7 (by decide) tb_733 rfl rfl ?_
  refine gx_istore_n (pc := 4) hB dX5_clearText_4 (by decide) [(1, .int (nI ty)), (0, .ref m)] rfl ?_
  refine gx_aload_n (pc := 5) hB dX5_clearText_5 1 rfl ?_
  refine gx_iconst (pc := 6) hB dX5_clearText_6 0 (by decide) ?_
  refine gx_put (pc := 7) hB dX5_clearText_7 inX5 rfl tyX5 tyX5_ok nmX5 0 rfl 7 (by decide) tb_733 rfl rfl rfl rfl (Nat.le_of_ble_eq_true rfl) (wM K m q1 q2 q3 q4 q5 q6 q7 q8 S P H T X Z n ru 0 cl sp ca co) rfl ?_
  refine gx_iload_n (pc := 10) hB dX5_clearText_10 0 rfl ?_
  exact gx_iret (pc := 11) hC dX5_clearText_11 (Nat.zero_le _) (Nat.zero_le _) (⟨rfl, rfl⟩)
