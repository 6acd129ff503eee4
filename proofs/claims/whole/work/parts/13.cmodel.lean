theorem pX5_in : (parseMethodDescriptor yX5_in.desc).map (fun d => d.parameters.length) = some 3 := by decide +kernel
theorem mX5_in : gx_MS yX5_in cX5_in 3 (some .boolean) := ⟨tb_798, tb_73, tb_799, by decide, by decide⟩
set_option maxHeartbeats 4000000 in
set_option maxRecDepth 100000 in
theorem c_X5_in (l : Launch) (K : gx_K) (x y z : Int32)  : gx_Ctr l K yX5_in cX5_in 3 (some .boolean) (rmm 1 0) [.int x, .int y, .int z] [] (gx_D (some (.int (bI (bIn x y z)))) []) := by
  refine gx_of (by decide) (Nat.le_of_ble_eq_true rfl) (fun G hC => ?_)
  have hB := hC.b
  refine gx_lv (lv' := [(0, .int x), (1, .int y), (2, .int z)]) rfl ?_
  refine gx_iload_n (pc := 0) hB dX5_in_0 0 rfl ?_
  refine gx_iload_n (pc := 1) hB dX5_in_1 1 rfl ?_
  refine gx_icmp_lt (pc := 2) hB 14 dX5_in_2 (by decide) (fun c_1 => ?_) (fun c_1 => ?_)
  · refine gx_iconst (pc := 14) hB dX5_in_14 0 (by decide) ?_
    have e1 : (bI (bIn x y z)) = 0 := by simp [bIn, bI, c_1, eq_false (Int32.not_le.mpr c_1)]
    exact gx_zret (pc := 15) hC dX5_in_15 (Nat.zero_le _) (Nat.zero_le _) (by decide) (⟨by rw [e1], rfl⟩)
  · refine gx_iload_n (pc := 5) hB dX5_in_5 0 rfl ?_
    refine gx_iload_n (pc := 6) hB dX5_in_6 2 rfl ?_
    refine gx_icmp_gt (pc := 7) hB 14 dX5_in_7 (by decide) (fun c_2 => ?_) (fun c_2 => ?_)
    · refine gx_iconst (pc := 14) hB dX5_in_14 0 (by decide) ?_
      have e1 : (bI (bIn x y z)) = 0 := by simp [bIn, bI, Int32.not_lt.mp c_1, eq_false c_1, c_2, eq_false (Int32.not_le.mpr c_2)]
      exact gx_zret (pc := 15) hC dX5_in_15 (Nat.zero_le _) (Nat.zero_le _) (by decide) (⟨by rw [e1], rfl⟩)
    · refine gx_iconst (pc := 10) hB dX5_in_10 1 (by decide) ?_
      refine gx_goto (pc := 11) hB 15 dX5_in_11 (by decide) ?_
      have e1 : (bI (bIn x y z)) = 1 := by simp [bIn, bI, Int32.not_lt.mp c_1, eq_false c_1, Int32.not_lt.mp c_2, eq_false c_2]
      exact gx_zret (pc := 15) hC dX5_in_15 (Nat.zero_le _) (Nat.zero_le _) (by decide) (⟨by rw [e1], rfl⟩)
theorem pX5_copies : (parseMethodDescriptor yX5_copies.desc).map (fun d => d.parameters.length) = some 2 := by decide +kernel
theorem mX5_copies : gx_MS yX5_copies cX5_copies 3 none := ⟨tb_861, tb_73, tb_862, by decide, by decide⟩
set_option maxHeartbeats 4000000 in
set_option maxRecDepth 100000 in
theorem c_X5_copies (l : Launch) (K : gx_K) (f t : Nat) (F E : Nat → Int32)  : gx_Ctr l K yX5_copies cX5_copies 3 none (rmm 1 0) [.ref f, .ref t] (wC2 K f t F E) (gx_D none (wC2 K f t F F)) := by
  refine gx_of (by decide) (Nat.le_of_ble_eq_true rfl) (fun G hC => ?_)
  have hB := hC.b
  refine gx_lv (lv' := [(0, .ref f), (1, .ref t)]) rfl ?_
  refine gx_iconst (pc := 0) hB dX5_copies_0 0 (by decide) ?_
  refine gx_istore_n (pc := 1) hB dX5_copies_1 (by decide) [(2, .int 0), (0, .ref f), (1, .ref t)] rfl ?_
  have loop_2 : ∀ dq i : Nat, i + dq = 345 → G 0 0 (wC2 K f t F (cpN F E i)) [(0, .ref f), (1, .ref t), (2, .int (nI i))] 2 [] := by
    intro dq
    induction dq with
    | zero =>
      intro i hi2
      obtain rfl : 345 = i := by omega
      refine gx_iload_n (pc := 2) hB dX5_copies_2 2 rfl ?_
      refine gx_sipush (pc := 3) hB dX5_copies_3 345 (by decide) ?_
      refine gx_icmp_ge (pc := 6) hB 21 dX5_copies_6 (by decide) (fun c_1 => ?_) (fun c_1 => ?_)
      · refine gx_arr hB 1 rfl F (fun j hj => if_pos hj) (wC2 K f t F F) rfl ?_
        exact gx_vret (pc := 21) hC dX5_copies_21 (Nat.zero_le _) (Nat.zero_le _) (⟨rfl, rfl⟩)
      · exact absurd (lpT (x := 345) hi2) c_1
    | succ dq ih2 =>
      intro i hi2
      refine gx_iload_n (pc := 2) hB dX5_copies_2 2 rfl ?_
      refine gx_sipush (pc := 3) hB dX5_copies_3 345 (by decide) ?_
      refine gx_icmp_ge (pc := 6) hB 21 dX5_copies_6 (by decide) (fun c_2 => ?_) (fun c_2 => ?_)
      · exact absurd c_2 (lpF (x := 345) hi2)
      · refine gx_aload_n (pc := 9) hB dX5_copies_9 1 rfl ?_
        refine gx_iload_n (pc := 10) hB dX5_copies_10 2 rfl ?_
        refine gx_aload_n (pc := 11) hB dX5_copies_11 0 rfl ?_
        refine gx_iload_n (pc := 12) hB dX5_copies_12 2 rfl ?_
        refine gx_iald (pc := 13) hB dX5_copies_13 0 1 rfl rfl i rfl (by omega) (by decide) ?_
        refine gx_iast (pc := 14) hB dX5_copies_14 1 1 rfl rfl i rfl (by omega) (by decide) (wC2 K f t F (upd (cpN F E i) i (F i))) rfl ?_
        refine gx_iinc (pc := 15) hB dX5_copies_15 2 (by decide) rfl (nI (i + 1)) (nI_1 _) [(2, .int (nI (i + 1))), (0, .ref f), (1, .ref t)] rfl ?_
        refine gx_goto (pc := 18) hB 2 dX5_copies_18 (by decide) ?_
        have w0 : upd (cpN F E i) i (F i) = cpN F E (i + 1) := by simp [Int32.not_le.mp c_2, eq_false c_2, cpN_s]
        refine gx_sub hB (lv' := [(0, .ref f), (1, .ref t), (2, .int (nI (i + 1)))]) [1, 2, 0] rfl ?_
        refine gx_all (ws' := wC2 K f t F (cpN F E (i + 1))) (lv' := [(0, .ref f), (1, .ref t), (2, .int (nI (i + 1)))]) (by rw [← w0]) (rfl) ?_
        exact ih2 (i + 1) (by omega)
  refine gx_sub hB (lv' := [(0, .ref f), (1, .ref t), (2, .int 0)]) [1, 2, 0] rfl ?_
  refine gx_all (ws' := wC2 K f t F (cpN F E 0)) (lv' := [(0, .ref f), (1, .ref t), (2, .int (nI 0))]) (by rw [← cpN_0]) (rfl) ?_
  exact loop_2 (345) 0 (by omega)
theorem pX5_ofPurpose : (parseMethodDescriptor yX5_ofPurpose.desc).map (fun d => d.parameters.length) = some 2 := by decide +kernel
theorem mX5_ofPurpose : gx_M yX5_ofPurpose cX5_ofPurpose 3 (some .int) := ⟨tb_818, tb_41, tb_73, tb_819, by decide, by decide⟩
set_option maxHeartbeats 4000000 in
set_option maxRecDepth 100000 in
theorem c_X5_ofPurpose (l : Launch) (K : gx_K) (m q1 q2 q3 q4 q5 q6 q7 q8 : Nat) (S P H T X Z : Nat → Int32) (n : Nat) (ru : Bool) (ty : Nat) (cl : Int32) (sp : Nat) (ca : Int32) (co : Nat) (p k : Nat) (h0 : p < 6) (h1 : k < 11) : gx_Ctr l K yX5_ofPurpose cX5_ofPurpose 3 (some .int) (rmm 1 0) [.ref m, .int (nI p), .int (nI k)] (wM K m q1 q2 q3 q4 q5 q6 q7 q8 S P H T X Z n ru ty cl sp ca co) (gx_D (some (.int (sP S p k))) (wM K m q1 q2 q3 q4 q5 q6 q7 q8 S P H T X Z n ru ty cl sp ca co)) := by
  refine gx_of (by decide) (Nat.le_of_ble_eq_true rfl) (fun G hC => ?_)
  have hB := hC.b
  refine gx_lv (lv' := [(0, .ref m), (1, .int (nI p)), (2, .int (nI k))]) rfl ?_
  refine gx_aload_n (pc := 0) hB dX5_ofPurpose_0 0 rfl ?_
  refine gx_get (pc := 1) hB dX5_ofPurpose_1 inX5 rfl 0 rfl 0 (by decide) tb_726 rfl rfl ?_
  refine gx_bipush (pc := 4) hB dX5_ofPurpose_4 7 (by decide) ?_
  refine gx_bipush (pc := 6) hB dX5_ofPurpose_6 11 (by decide) ?_
  refine gx_iload_n (pc := 8) hB dX5_ofPurpose_8 1 rfl ?_
  refine gx_imul (pc := 9) hB dX5_ofPurpose_9 ?_
  refine gx_top (show 11 * nI p = nI (11 * p) from pk_mul 11 p) ?_
  refine gx_iadd (pc := 10) hB dX5_ofPurpose_10 ?_
  refine gx_top (show 7 + (nI (11 * p)) = nI (7 + (11 * p)) from nI_add 7 (11 * p)) ?_
  refine gx_iload_n (pc := 11) hB dX5_ofPurpose_11 2 rfl ?_
  refine gx_iadd (pc := 12) hB dX5_ofPurpose_12 ?_
  refine gx_top (show (nI (7 + (11 * p))) + nI k = nI (7 + (11 * p) + k) from nI_add (7 + (11 * p)) k) ?_
  refine gx_iald (pc := 13) hB dX5_ofPurpose_13 1 1 rfl rfl (7 + (11 * p) + k) rfl (by omega) (by decide) ?_
  have e1 : sP S p k = (S (7 + (11 * p) + k)) := by simp [sP]
  exact gx_iret (pc := 14) hC dX5_ofPurpose_14 (Nat.zero_le _) (Nat.zero_le _) (⟨by rw [e1], rfl⟩)
theorem pX5_putsPurpose : (parseMethodDescriptor yX5_putsPurpose.desc).map (fun d => d.parameters.length) = some 3 := by decide +kernel
theorem mX5_putsPurpose : gx_M yX5_putsPurpose cX5_putsPurpose 4 none := ⟨tb_715, tb_34, tb_73, tb_716, by decide, by decide⟩
set_option maxHeartbeats 4000000 in
set_option maxRecDepth 100000 in
theorem c_X5_putsPurpose (l : Launch) (K : gx_K) (m q1 q2 q3 q4 q5 q6 q7 q8 : Nat) (S P H T X Z : Nat → Int32) (n : Nat) (ru : Bool) (ty : Nat) (cl : Int32) (sp : Nat) (ca : Int32) (co : Nat) (p k : Nat) (v : Int32) (h0 : p < 6) (h1 : k < 11) : gx_Ctr l K yX5_putsPurpose cX5_putsPurpose 4 none (rmm 1 0) [.ref m, .int (nI p), .int (nI k), .int v] (wM K m q1 q2 q3 q4 q5 q6 q7 q8 S P H T X Z n ru ty cl sp ca co) (gx_D none (wM K m q1 q2 q3 q4 q5 q6 q7 q8 (uP S p k v) P H T X Z n ru ty cl sp ca co)) := by
  refine gx_of (by decide) (Nat.le_of_ble_eq_true rfl) (fun G hC => ?_)
  have hB := hC.b
  refine gx_lv (lv' := [(0, .ref m), (1, .int (nI p)), (2, .int (nI k)), (3, .int v)]) rfl ?_
  refine gx_aload_n (pc := 0) hB dX5_putsPurpose_0 0 rfl ?_
  refine gx_get (pc := 1) hB dX5_putsPurpose_1 inX5 rfl 0 rfl 0 (by decide) tb_726 rfl rfl ?_
  refine gx_bipush (pc := 4) hB dX5_putsPurpose_4 7 (by decide) ?_
  refine gx_bipush (pc := 6) hB dX5_putsPurpose_6 11 (by decide) ?_
  refine gx_iload_n (pc := 8) hB dX5_putsPurpose_8 1 rfl ?_
  refine gx_imul (pc := 9) hB dX5_putsPurpose_9 ?_
  refine gx_top (show 11 * nI p = nI (11 * p) from pk_mul 11 p) ?_
  refine gx_iadd (pc := 10) hB dX5_putsPurpose_10 ?_
  refine gx_top (show 7 + (nI (11 * p)) = nI (7 + (11 * p)) from nI_add 7 (11 * p)) ?_
  refine gx_iload_n (pc := 11) hB dX5_putsPurpose_11 2 rfl ?_
  refine gx_iadd (pc := 12) hB dX5_putsPurpose_12 ?_
  refine gx_top (show (nI (7 + (11 * p))) + nI k = nI (7 + (11 * p) + k) from nI_add (7 + (11 * p)) k) ?_
  refine gx_iload_n (pc := 13) hB dX5_putsPurpose_13 3 rfl ?_
  refine gx_iast (pc := 14) hB dX5_putsPurpose_14 1 1 rfl rfl (7 + (11 * p) + k) rfl (by omega) (by decide) (wM K m q1 q2 q3 q4 q5 q6 q7 q8 (upd S (7 + (11 * p) + k) v) P H T X Z n ru ty cl sp ca co) rfl ?_
  have f0 : uP S p k v = (upd S (7 + (11 * p) + k) v) := by simp [uP]
  exact gx_vret (pc := 15) hC dX5_putsPurpose_15 (Nat.zero_le _) (Nat.zero_le _) (⟨rfl, by rw [f0]⟩)
theorem pX5_adds : (parseMethodDescriptor yX5_adds.desc).map (fun d => d.parameters.length) = some 3 := by decide +kernel
theorem mX5_adds : gx_M yX5_adds cX5_adds 4 none := ⟨tb_826, tb_43, tb_73, tb_827, by decide, by decide⟩
set_option maxHeartbeats 4000000 in
set_option maxRecDepth 100000 in
theorem c_X5_adds (l : Launch) (K : gx_K) (m q1 q2 q3 q4 q5 q6 q7 q8 : Nat) (S P H T X Z : Nat → Int32) (n : Nat) (ru : Bool) (ty : Nat) (cl : Int32) (sp : Nat) (ca : Int32) (co : Nat) (p k : Nat) (v : Int32) (h0 : p < 6) (h1 : k < 11) : gx_Ctr l K yX5_adds cX5_adds 4 none (rmm 1 0) [.ref m, .int (nI p), .int (nI k), .int v] (wM K m q1 q2 q3 q4 q5 q6 q7 q8 S P H T X Z n ru ty cl sp ca co) (gx_D none (wM K m q1 q2 q3 q4 q5 q6 q7 q8 (aP S p k v) P H T X Z n ru ty cl sp ca co)) := by
  refine gx_of (by decide) (Nat.le_of_ble_eq_true rfl) (fun G hC => ?_)
  have hB := hC.b
  refine gx_lv (lv' := [(0, .ref m), (1, .int (nI p)), (2, .int (nI k)), (3, .int v)]) rfl ?_
  refine gx_aload_n (pc := 0) hB dX5_adds_0 0 rfl ?_
  refine gx_get (pc := 1) hB dX5_adds_1 inX5 rfl 0 rfl 0 (by decide) tb_726 rfl rfl ?_
  refine gx_bipush (pc := 4) hB dX5_adds_4 7 (by decide) ?_
  refine gx_bipush (pc := 6) hB dX5_adds_6 11 (by decide) ?_
  refine gx_iload_n (pc := 8) hB dX5_adds_8 1 rfl ?_
  refine gx_imul (pc := 9) hB dX5_adds_9 ?_
  refine gx_top (show 11 * nI p = nI (11 * p) from pk_mul 11 p) ?_
  refine gx_iadd (pc := 10) hB dX5_adds_10 ?_
  refine gx_top (show 7 + (nI (11 * p)) = nI (7 + (11 * p)) from nI_add 7 (11 * p)) ?_
  refine gx_iload_n (pc := 11) hB dX5_adds_11 2 rfl ?_
  refine gx_iadd (pc := 12) hB dX5_adds_12 ?_
  refine gx_top (show (nI (7 + (11 * p))) + nI k = nI (7 + (11 * p) + k) from nI_add (7 + (11 * p)) k) ?_
  refine gx_dup2 (pc := 13) hB dX5_adds_13 rfl rfl ?_
  refine gx_iald (pc := 14) hB dX5_adds_14 1 1 rfl rfl (7 + (11 * p) + k) rfl (by omega) (by decide) ?_
  refine gx_iload_n (pc := 15) hB dX5_adds_15 3 rfl ?_
  refine gx_iadd (pc := 16) hB dX5_adds_16 ?_
  refine gx_iast (pc := 17) hB dX5_adds_17 1 1 rfl rfl (7 + (11 * p) + k) rfl (by omega) (by decide) (wM K m q1 q2 q3 q4 q5 q6 q7 q8 (upd S (7 + (11 * p) + k) ((S (7 + (11 * p) + k)) + v)) P H T X Z n ru ty cl sp ca co) rfl ?_
  have f0 : aP S p k v = (upd S (7 + (11 * p) + k) ((S (7 + (11 * p) + k)) + v)) := by simp [aP]
  exact gx_vret (pc := 18) hC dX5_adds_18 (Nat.zero_le _) (Nat.zero_le _) (⟨rfl, by rw [f0]⟩)
theorem pX5_ofDonor : (parseMethodDescriptor yX5_ofDonor.desc).map (fun d => d.parameters.length) = some 2 := by decide +kernel
theorem mX5_ofDonor : gx_M yX5_ofDonor cX5_ofDonor 3 (some .int) := ⟨tb_802, tb_38, tb_73, tb_803, by decide, by decide⟩
set_option maxHeartbeats 4000000 in
set_option maxRecDepth 100000 in
theorem c_X5_ofDonor (l : Launch) (K : gx_K) (m q1 q2 q3 q4 q5 q6 q7 q8 : Nat) (S P H T X Z : Nat → Int32) (n : Nat) (ru : Bool) (ty : Nat) (cl : Int32) (sp : Nat) (ca : Int32) (co : Nat) (p k : Nat) (h0 : p < 8) (h1 : k < 7) : gx_Ctr l K yX5_ofDonor cX5_ofDonor 3 (some .int) (rmm 1 0) [.ref m, .int (nI p), .int (nI k)] (wM K m q1 q2 q3 q4 q5 q6 q7 q8 S P H T X Z n ru ty cl sp ca co) (gx_D (some (.int (sD S p k))) (wM K m q1 q2 q3 q4 q5 q6 q7 q8 S P H T X Z n ru ty cl sp ca co)) := by
  refine gx_of (by decide) (Nat.le_of_ble_eq_true rfl) (fun G hC => ?_)
  have hB := hC.b
  refine gx_lv (lv' := [(0, .ref m), (1, .int (nI p)), (2, .int (nI k))]) rfl ?_
  refine gx_aload_n (pc := 0) hB dX5_ofDonor_0 0 rfl ?_
  refine gx_get (pc := 1) hB dX5_ofDonor_1 inX5 rfl 0 rfl 0 (by decide) tb_726 rfl rfl ?_
  refine gx_bipush (pc := 4) hB dX5_ofDonor_4 73 (by decide) ?_
  refine gx_bipush (pc := 6) hB dX5_ofDonor_6 7 (by decide) ?_
  refine gx_iload_n (pc := 8) hB dX5_ofDonor_8 1 rfl ?_
  refine gx_imul (pc := 9) hB dX5_ofDonor_9 ?_
  refine gx_top (show 7 * nI p = nI (7 * p) from pk_mul 7 p) ?_
  refine gx_iadd (pc := 10) hB dX5_ofDonor_10 ?_
  refine gx_top (show 73 + (nI (7 * p)) = nI (73 + (7 * p)) from nI_add 73 (7 * p)) ?_
  refine gx_iload_n (pc := 11) hB dX5_ofDonor_11 2 rfl ?_
  refine gx_iadd (pc := 12) hB dX5_ofDonor_12 ?_
  refine gx_top (show (nI (73 + (7 * p))) + nI k = nI (73 + (7 * p) + k) from nI_add (73 + (7 * p)) k) ?_
  refine gx_iald (pc := 13) hB dX5_ofDonor_13 1 1 rfl rfl (73 + (7 * p) + k) rfl (by omega) (by decide) ?_
  have e1 : sD S p k = (S (73 + (7 * p) + k)) := by simp [sD]
  exact gx_iret (pc := 14) hC dX5_ofDonor_14 (Nat.zero_le _) (Nat.zero_le _) (⟨by rw [e1], rfl⟩)
theorem pX5_putsDonor : (parseMethodDescriptor yX5_putsDonor.desc).map (fun d => d.parameters.length) = some 3 := by decide +kernel
theorem mX5_putsDonor : gx_M yX5_putsDonor cX5_putsDonor 4 none := ⟨tb_783, tb_36, tb_73, tb_784, by decide, by decide⟩
set_option maxHeartbeats 4000000 in
set_option maxRecDepth 100000 in
theorem c_X5_putsDonor (l : Launch) (K : gx_K) (m q1 q2 q3 q4 q5 q6 q7 q8 : Nat) (S P H T X Z : Nat → Int32) (n : Nat) (ru : Bool) (ty : Nat) (cl : Int32) (sp : Nat) (ca : Int32) (co : Nat) (p k : Nat) (v : Int32) (h0 : p < 8) (h1 : k < 7) : gx_Ctr l K yX5_putsDonor cX5_putsDonor 4 none (rmm 1 0) [.ref m, .int (nI p), .int (nI k), .int v] (wM K m q1 q2 q3 q4 q5 q6 q7 q8 S P H T X Z n ru ty cl sp ca co) (gx_D none (wM K m q1 q2 q3 q4 q5 q6 q7 q8 (uD S p k v) P H T X Z n ru ty cl sp ca co)) := by
  refine gx_of (by decide) (Nat.le_of_ble_eq_true rfl) (fun G hC => ?_)
  have hB := hC.b
  refine gx_lv (lv' := [(0, .ref m), (1, .int (nI p)), (2, .int (nI k)), (3, .int v)]) rfl ?_
  refine gx_aload_n (pc := 0) hB dX5_putsDonor_0 0 rfl ?_
  refine gx_get (pc := 1) hB dX5_putsDonor_1 inX5 rfl 0 rfl 0 (by decide) tb_726 rfl rfl ?_
  refine gx_bipush (pc := 4) hB dX5_putsDonor_4 73 (by decide) ?_
  refine gx_bipush (pc := 6) hB dX5_putsDonor_6 7 (by decide) ?_
  refine gx_iload_n (pc := 8) hB dX5_putsDonor_8 1 rfl ?_
  refine gx_imul (pc := 9) hB dX5_putsDonor_9 ?_
  refine gx_top (show 7 * nI p = nI (7 * p) from pk_mul 7 p) ?_
  refine gx_iadd (pc := 10) hB dX5_putsDonor_10 ?_
  refine gx_top (show 73 + (nI (7 * p)) = nI (73 + (7 * p)) from nI_add 73 (7 * p)) ?_
  refine gx_iload_n (pc := 11) hB dX5_putsDonor_11 2 rfl ?_
  refine gx_iadd (pc := 12) hB dX5_putsDonor_12 ?_
  refine gx_top (show (nI (73 + (7 * p))) + nI k = nI (73 + (7 * p) + k) from nI_add (73 + (7 * p)) k) ?_
  refine gx_iload_n (pc := 13) hB dX5_putsDonor_13 3 rfl ?_
  refine gx_iast (pc := 14) hB dX5_putsDonor_14 1 1 rfl rfl (73 + (7 * p) + k) rfl (by omega) (by decide) (wM K m q1 q2 q3 q4 q5 q6 q7 q8 (upd S (73 + (7 * p) + k) v) P H T X Z n ru ty cl sp ca co) rfl ?_
  have f0 : uD S p k v = (upd S (73 + (7 * p) + k) v) := by simp [uD]
  exact gx_vret (pc := 15) hC dX5_putsDonor_15 (Nat.zero_le _) (Nat.zero_le _) (⟨rfl, by rw [f0]⟩)
theorem pX5_ofGift : (parseMethodDescriptor yX5_ofGift.desc).map (fun d => d.parameters.length) = some 2 := by decide +kernel
theorem mX5_ofGift : gx_M yX5_ofGift cX5_ofGift 3 (some .int) := ⟨tb_869, tb_49, tb_73, tb_870, by decide, by decide⟩
set_option maxHeartbeats 4000000 in
set_option maxRecDepth 100000 in
theorem c_X5_ofGift (l : Launch) (K : gx_K) (m q1 q2 q3 q4 q5 q6 q7 q8 : Nat) (S P H T X Z : Nat → Int32) (n : Nat) (ru : Bool) (ty : Nat) (cl : Int32) (sp : Nat) (ca : Int32) (co : Nat) (p k : Nat) (h0 : p < 24) (h1 : k < 7) : gx_Ctr l K yX5_ofGift cX5_ofGift 3 (some .int) (rmm 1 0) [.ref m, .int (nI p), .int (nI k)] (wM K m q1 q2 q3 q4 q5 q6 q7 q8 S P H T X Z n ru ty cl sp ca co) (gx_D (some (.int (sG S p k))) (wM K m q1 q2 q3 q4 q5 q6 q7 q8 S P H T X Z n ru ty cl sp ca co)) := by
  refine gx_of (by decide) (Nat.le_of_ble_eq_true rfl) (fun G hC => ?_)
  have hB := hC.b
  refine gx_lv (lv' := [(0, .ref m), (1, .int (nI p)), (2, .int (nI k))]) rfl ?_
  refine gx_aload_n (pc := 0) hB dX5_ofGift_0 0 rfl ?_
  refine gx_get (pc := 1) hB dX5_ofGift_1 inX5 rfl 0 rfl 0 (by decide) tb_726 rfl rfl ?_
  refine gx_sipush (pc := 4) hB dX5_ofGift_4 129 (by decide) ?_
  refine gx_bipush (pc := 7) hB dX5_ofGift_7 7 (by decide) ?_
  refine gx_iload_n (pc := 9) hB dX5_ofGift_9 1 rfl ?_
  refine gx_imul (pc := 10) hB dX5_ofGift_10 ?_
  refine gx_top (show 7 * nI p = nI (7 * p) from pk_mul 7 p) ?_
  refine gx_iadd (pc := 11) hB dX5_ofGift_11 ?_
  refine gx_top (show 129 + (nI (7 * p)) = nI (129 + (7 * p)) from nI_add 129 (7 * p)) ?_
  refine gx_iload_n (pc := 12) hB dX5_ofGift_12 2 rfl ?_
  refine gx_iadd (pc := 13) hB dX5_ofGift_13 ?_
  refine gx_top (show (nI (129 + (7 * p))) + nI k = nI (129 + (7 * p) + k) from nI_add (129 + (7 * p)) k) ?_
  refine gx_iald (pc := 14) hB dX5_ofGift_14 1 1 rfl rfl (129 + (7 * p) + k) rfl (by omega) (by decide) ?_
  have e1 : sG S p k = (S (129 + (7 * p) + k)) := by simp [sG]
  exact gx_iret (pc := 15) hC dX5_ofGift_15 (Nat.zero_le _) (Nat.zero_le _) (⟨by rw [e1], rfl⟩)
theorem pX5_ofPledge : (parseMethodDescriptor yX5_ofPledge.desc).map (fun d => d.parameters.length) = some 2 := by decide +kernel
theorem mX5_ofPledge : gx_M yX5_ofPledge cX5_ofPledge 3 (some .int) := ⟨tb_846, tb_46, tb_73, tb_847, by decide, by decide⟩
set_option maxHeartbeats 4000000 in
set_option maxRecDepth 100000 in
theorem c_X5_ofPledge (l : Launch) (K : gx_K) (m q1 q2 q3 q4 q5 q6 q7 q8 : Nat) (S P H T X Z : Nat → Int32) (n : Nat) (ru : Bool) (ty : Nat) (cl : Int32) (sp : Nat) (ca : Int32) (co : Nat) (p k : Nat) (h0 : p < 6) (h1 : k < 8) : gx_Ctr l K yX5_ofPledge cX5_ofPledge 3 (some .int) (rmm 1 0) [.ref m, .int (nI p), .int (nI k)] (wM K m q1 q2 q3 q4 q5 q6 q7 q8 S P H T X Z n ru ty cl sp ca co) (gx_D (some (.int (sK S p k))) (wM K m q1 q2 q3 q4 q5 q6 q7 q8 S P H T X Z n ru ty cl sp ca co)) := by
  refine gx_of (by decide) (Nat.le_of_ble_eq_true rfl) (fun G hC => ?_)
  have hB := hC.b
  refine gx_lv (lv' := [(0, .ref m), (1, .int (nI p)), (2, .int (nI k))]) rfl ?_
  refine gx_aload_n (pc := 0) hB dX5_ofPledge_0 0 rfl ?_
  refine gx_get (pc := 1) hB dX5_ofPledge_1 inX5 rfl 0 rfl 0 (by decide) tb_726 rfl rfl ?_
  refine gx_sipush (pc := 4) hB dX5_ofPledge_4 297 (by decide) ?_
  refine gx_bipush (pc := 7) hB dX5_ofPledge_7 8 (by decide) ?_
  refine gx_iload_n (pc := 9) hB dX5_ofPledge_9 1 rfl ?_
  refine gx_imul (pc := 10) hB dX5_ofPledge_10 ?_
  refine gx_top (show 8 * nI p = nI (8 * p) from pk_mul 8 p) ?_
  refine gx_iadd (pc := 11) hB dX5_ofPledge_11 ?_
  refine gx_top (show 297 + (nI (8 * p)) = nI (297 + (8 * p)) from nI_add 297 (8 * p)) ?_
  refine gx_iload_n (pc := 12) hB dX5_ofPledge_12 2 rfl ?_
  refine gx_iadd (pc := 13) hB dX5_ofPledge_13 ?_
  refine gx_top (show (nI (297 + (8 * p))) + nI k = nI (297 + (8 * p) + k) from nI_add (297 + (8 * p)) k) ?_
  refine gx_iald (pc := 14) hB dX5_ofPledge_14 1 1 rfl rfl (297 + (8 * p) + k) rfl (by omega) (by decide) ?_
  have e1 : sK S p k = (S (297 + (8 * p) + k)) := by simp [sK]
  exact gx_iret (pc := 15) hC dX5_ofPledge_15 (Nat.zero_le _) (Nat.zero_le _) (⟨by rw [e1], rfl⟩)
theorem pX5_putsPledge : (parseMethodDescriptor yX5_putsPledge.desc).map (fun d => d.parameters.length) = some 3 := by decide +kernel
theorem mX5_putsPledge : gx_M yX5_putsPledge cX5_putsPledge 4 none := ⟨tb_834, tb_44, tb_73, tb_835, by decide, by decide⟩
set_option maxHeartbeats 4000000 in
set_option maxRecDepth 100000 in
theorem c_X5_putsPledge (l : Launch) (K : gx_K) (m q1 q2 q3 q4 q5 q6 q7 q8 : Nat) (S P H T X Z : Nat → Int32) (n : Nat) (ru : Bool) (ty : Nat) (cl : Int32) (sp : Nat) (ca : Int32) (co : Nat) (p k : Nat) (v : Int32) (h0 : p < 6) (h1 : k < 8) : gx_Ctr l K yX5_putsPledge cX5_putsPledge 4 none (rmm 1 0) [.ref m, .int (nI p), .int (nI k), .int v] (wM K m q1 q2 q3 q4 q5 q6 q7 q8 S P H T X Z n ru ty cl sp ca co) (gx_D none (wM K m q1 q2 q3 q4 q5 q6 q7 q8 (uK S p k v) P H T X Z n ru ty cl sp ca co)) := by
  refine gx_of (by decide) (Nat.le_of_ble_eq_true rfl) (fun G hC => ?_)
  have hB := hC.b
  refine gx_lv (lv' := [(0, .ref m), (1, .int (nI p)), (2, .int (nI k)), (3, .int v)]) rfl ?_
  refine gx_aload_n (pc := 0) hB dX5_putsPledge_0 0 rfl ?_
  refine gx_get (pc := 1) hB dX5_putsPledge_1 inX5 rfl 0 rfl 0 (by decide) tb_726 rfl rfl ?_
  refine gx_sipush (pc := 4) hB dX5_putsPledge_4 297 (by decide) ?_
  refine gx_bipush (pc := 7) hB dX5_putsPledge_7 8 (by decide) ?_
  refine gx_iload_n (pc := 9) hB dX5_putsPledge_9 1 rfl ?_
  refine gx_imul (pc := 10) hB dX5_putsPledge_10 ?_
  refine gx_top (show 8 * nI p = nI (8 * p) from pk_mul 8 p) ?_
  refine gx_iadd (pc := 11) hB dX5_putsPledge_11 ?_
  refine gx_top (show 297 + (nI (8 * p)) = nI (297 + (8 * p)) from nI_add 297 (8 * p)) ?_
  refine gx_iload_n (pc := 12) hB dX5_putsPledge_12 2 rfl ?_
  refine gx_iadd (pc := 13) hB dX5_putsPledge_13 ?_
  refine gx_top (show (nI (297 + (8 * p))) + nI k = nI (297 + (8 * p) + k) from nI_add (297 + (8 * p)) k) ?_
  refine gx_iload_n (pc := 14) hB dX5_putsPledge_14 3 rfl ?_
  refine gx_iast (pc := 15) hB dX5_putsPledge_15 1 1 rfl rfl (297 + (8 * p) + k) rfl (by omega) (by decide) (wM K m q1 q2 q3 q4 q5 q6 q7 q8 (upd S (297 + (8 * p) + k) v) P H T X Z n ru ty cl sp ca co) rfl ?_
  have f0 : uK S p k v = (upd S (297 + (8 * p) + k) v) := by simp [uK]
  exact gx_vret (pc := 16) hC dX5_putsPledge_16 (Nat.zero_le _) (Nat.zero_le _) (⟨rfl, by rw [f0]⟩)
theorem pX5_isPurpose : (parseMethodDescriptor yX5_isPurpose.desc).map (fun d => d.parameters.length) = some 1 := by decide +kernel
theorem mX5_isPurpose : gx_M yX5_isPurpose cX5_isPurpose 2 (some .boolean) := ⟨tb_810, tb_39, tb_73, tb_811, by decide, by decide⟩
set_option maxHeartbeats 4000000 in
set_option maxRecDepth 100000 in
theorem c_X5_isPurpose (l : Launch) (K : gx_K) (m q1 q2 q3 q4 q5 q6 q7 q8 : Nat) (S P H T X Z : Nat → Int32) (n : Nat) (ru : Bool) (ty : Nat) (cl : Int32) (sp : Nat) (ca : Int32) (co : Nat) (x : Int32)  : gx_Ctr l K yX5_isPurpose cX5_isPurpose 2 (some .boolean) (rmm 1 0) [.ref m, .int x] (wM K m q1 q2 q3 q4 q5 q6 q7 q8 S P H T X Z n ru ty cl sp ca co) (gx_D (some (.int (bI (sIsP S x)))) (wM K m q1 q2 q3 q4 q5 q6 q7 q8 S P H T X Z n ru ty cl sp ca co)) := by
  refine gx_of (by decide) (Nat.le_of_ble_eq_true rfl) (fun G hC => ?_)
  have hB := hC.b
  refine gx_lv (lv' := [(0, .ref m), (1, .int x)]) rfl ?_
  refine gx_iload_n (pc := 0) hB dX5_isPurpose_0 1 rfl ?_
  refine gx_if_lt (pc := 1) hB 18 dX5_isPurpose_1 (by decide) (fun c_1 => ?_) (fun c_1 => ?_)
  · refine gx_iconst (pc := 18) hB dX5_isPurpose_18 0 (by decide) ?_
    have e1 : (bI (sIsP S x)) = 0 := by simp [sIsP, bI, c_1, eq_false (Int32.not_le.mpr c_1)]
    exact gx_zret (pc := 19) hC dX5_isPurpose_19 (Nat.zero_le _) (Nat.zero_le _) (by decide) (⟨by rw [e1], rfl⟩)
  · refine gx_iload_n (pc := 4) hB dX5_isPurpose_4 1 rfl ?_
    refine gx_aload_n (pc := 5) hB dX5_isPurpose_5 0 rfl ?_
    refine gx_get (pc := 6) hB dX5_isPurpose_6 inX5 rfl 0 rfl 0 (by decide) tb_726 rfl rfl ?_
    refine gx_iconst (pc := 9) hB dX5_isPurpose_9 2 (by decide) ?_
    refine gx_iald (pc := 10) hB dX5_isPurpose_10 1 1 rfl rfl 2 rfl (by decide) (by decide) ?_
    refine gx_icmp_ge (pc := 11) hB 18 dX5_isPurpose_11 (by decide) (fun c_2 => ?_) (fun c_2 => ?_)
    · refine gx_iconst (pc := 18) hB dX5_isPurpose_18 0 (by decide) ?_
      have e1 : (bI (sIsP S x)) = 0 := by simp [sIsP, bI, Int32.not_lt.mp c_1, eq_false c_1, c_2, eq_false (Int32.not_lt.mpr c_2)]
      exact gx_zret (pc := 19) hC dX5_isPurpose_19 (Nat.zero_le _) (Nat.zero_le _) (by decide) (⟨by rw [e1], rfl⟩)
    · refine gx_iconst (pc := 14) hB dX5_isPurpose_14 1 (by decide) ?_
      refine gx_goto (pc := 15) hB 19 dX5_isPurpose_15 (by decide) ?_
      have e1 : (bI (sIsP S x)) = 1 := by simp [sIsP, bI, Int32.not_lt.mp c_1, eq_false c_1, Int32.not_le.mp c_2, eq_false c_2]
      exact gx_zret (pc := 19) hC dX5_isPurpose_19 (Nat.zero_le _) (Nat.zero_le _) (by decide) (⟨by rw [e1], rfl⟩)
theorem pX5_isDonor : (parseMethodDescriptor yX5_isDonor.desc).map (fun d => d.parameters.length) = some 1 := by decide +kernel
theorem mX5_isDonor : gx_M yX5_isDonor cX5_isDonor 2 (some .boolean) := ⟨tb_795, tb_37, tb_73, tb_796, by decide, by decide⟩
set_option maxHeartbeats 4000000 in
set_option maxRecDepth 100000 in
theorem c_X5_isDonor (l : Launch) (K : gx_K) (m q1 q2 q3 q4 q5 q6 q7 q8 : Nat) (S P H T X Z : Nat → Int32) (n : Nat) (ru : Bool) (ty : Nat) (cl : Int32) (sp : Nat) (ca : Int32) (co : Nat) (x : Int32)  : gx_Ctr l K yX5_isDonor cX5_isDonor 2 (some .boolean) (rmm 1 0) [.ref m, .int x] (wM K m q1 q2 q3 q4 q5 q6 q7 q8 S P H T X Z n ru ty cl sp ca co) (gx_D (some (.int (bI (sIsD S x)))) (wM K m q1 q2 q3 q4 q5 q6 q7 q8 S P H T X Z n ru ty cl sp ca co)) := by
  refine gx_of (by decide) (Nat.le_of_ble_eq_true rfl) (fun G hC => ?_)
  have hB := hC.b
  refine gx_lv (lv' := [(0, .ref m), (1, .int x)]) rfl ?_
  refine gx_iload_n (pc := 0) hB dX5_isDonor_0 1 rfl ?_
  refine gx_if_lt (pc := 1) hB 18 dX5_isDonor_1 (by decide) (fun c_1 => ?_) (fun c_1 => ?_)
  · refine gx_iconst (pc := 18) hB dX5_isDonor_18 0 (by decide) ?_
    have e1 : (bI (sIsD S x)) = 0 := by simp [sIsD, bI, c_1, eq_false (Int32.not_le.mpr c_1)]
    exact gx_zret (pc := 19) hC dX5_isDonor_19 (Nat.zero_le _) (Nat.zero_le _) (by decide) (⟨by rw [e1], rfl⟩)
  · refine gx_iload_n (pc := 4) hB dX5_isDonor_4 1 rfl ?_
    refine gx_aload_n (pc := 5) hB dX5_isDonor_5 0 rfl ?_
    refine gx_get (pc := 6) hB dX5_isDonor_6 inX5 rfl 0 rfl 0 (by decide) tb_726 rfl rfl ?_
    refine gx_iconst (pc := 9) hB dX5_isDonor_9 3 (by decide) ?_
    refine gx_iald (pc := 10) hB dX5_isDonor_10 1 1 rfl rfl 3 rfl (by decide) (by decide) ?_
    refine gx_icmp_ge (pc := 11) hB 18 dX5_isDonor_11 (by decide) (fun c_2 => ?_) (fun c_2 => ?_)
    · refine gx_iconst (pc := 18) hB dX5_isDonor_18 0 (by decide) ?_
      have e1 : (bI (sIsD S x)) = 0 := by simp [sIsD, bI, Int32.not_lt.mp c_1, eq_false c_1, c_2, eq_false (Int32.not_lt.mpr c_2)]
      exact gx_zret (pc := 19) hC dX5_isDonor_19 (Nat.zero_le _) (Nat.zero_le _) (by decide) (⟨by rw [e1], rfl⟩)
    · refine gx_iconst (pc := 14) hB dX5_isDonor_14 1 (by decide) ?_
      refine gx_goto (pc := 15) hB 19 dX5_isDonor_15 (by decide) ?_
      have e1 : (bI (sIsD S x)) = 1 := by simp [sIsD, bI, Int32.not_lt.mp c_1, eq_false c_1, Int32.not_le.mp c_2, eq_false c_2]
      exact gx_zret (pc := 19) hC dX5_isDonor_19 (Nat.zero_le _) (Nat.zero_le _) (by decide) (⟨by rw [e1], rfl⟩)
theorem pX5_isPledge : (parseMethodDescriptor yX5_isPledge.desc).map (fun d => d.parameters.length) = some 1 := by decide +kernel
theorem mX5_isPledge : gx_M yX5_isPledge cX5_isPledge 2 (some .boolean) := ⟨tb_842, tb_45, tb_73, tb_843, by decide, by decide⟩
set_option maxHeartbeats 4000000 in
set_option maxRecDepth 100000 in
theorem c_X5_isPledge (l : Launch) (K : gx_K) (m q1 q2 q3 q4 q5 q6 q7 q8 : Nat) (S P H T X Z : Nat → Int32) (n : Nat) (ru : Bool) (ty : Nat) (cl : Int32) (sp : Nat) (ca : Int32) (co : Nat) (x : Int32)  : gx_Ctr l K yX5_isPledge cX5_isPledge 2 (some .boolean) (rmm 1 0) [.ref m, .int x] (wM K m q1 q2 q3 q4 q5 q6 q7 q8 S P H T X Z n ru ty cl sp ca co) (gx_D (some (.int (bI (sIsK S x)))) (wM K m q1 q2 q3 q4 q5 q6 q7 q8 S P H T X Z n ru ty cl sp ca co)) := by
  refine gx_of (by decide) (Nat.le_of_ble_eq_true rfl) (fun G hC => ?_)
  have hB := hC.b
  refine gx_lv (lv' := [(0, .ref m), (1, .int x)]) rfl ?_
  refine gx_iload_n (pc := 0) hB dX5_isPledge_0 1 rfl ?_
  refine gx_if_lt (pc := 1) hB 18 dX5_isPledge_1 (by decide) (fun c_1 => ?_) (fun c_1 => ?_)
  · refine gx_iconst (pc := 18) hB dX5_isPledge_18 0 (by decide) ?_
    have e1 : (bI (sIsK S x)) = 0 := by simp [sIsK, bI, c_1, eq_false (Int32.not_le.mpr c_1)]
    exact gx_zret (pc := 19) hC dX5_isPledge_19 (Nat.zero_le _) (Nat.zero_le _) (by decide) (⟨by rw [e1], rfl⟩)
  · refine gx_iload_n (pc := 4) hB dX5_isPledge_4 1 rfl ?_
    refine gx_aload_n (pc := 5) hB dX5_isPledge_5 0 rfl ?_
    refine gx_get (pc := 6) hB dX5_isPledge_6 inX5 rfl 0 rfl 0 (by decide) tb_726 rfl rfl ?_
    refine gx_iconst (pc := 9) hB dX5_isPledge_9 5 (by decide) ?_
    refine gx_iald (pc := 10) hB dX5_isPledge_10 1 1 rfl rfl 5 rfl (by decide) (by decide) ?_
    refine gx_icmp_ge (pc := 11) hB 18 dX5_isPledge_11 (by decide) (fun c_2 => ?_) (fun c_2 => ?_)
    · refine gx_iconst (pc := 18) hB dX5_isPledge_18 0 (by decide) ?_
      have e1 : (bI (sIsK S x)) = 0 := by simp [sIsK, bI, Int32.not_lt.mp c_1, eq_false c_1, c_2, eq_false (Int32.not_lt.mpr c_2)]
      exact gx_zret (pc := 19) hC dX5_isPledge_19 (Nat.zero_le _) (Nat.zero_le _) (by decide) (⟨by rw [e1], rfl⟩)
    · refine gx_iconst (pc := 14) hB dX5_isPledge_14 1 (by decide) ?_
      refine gx_goto (pc := 15) hB 19 dX5_isPledge_15 (by decide) ?_
      have e1 : (bI (sIsK S x)) = 1 := by simp [sIsK, bI, Int32.not_lt.mp c_1, eq_false c_1, Int32.not_le.mp c_2, eq_false c_2]
      exact gx_zret (pc := 19) hC dX5_isPledge_19 (Nat.zero_le _) (Nat.zero_le _) (by decide) (⟨by rw [e1], rfl⟩)
theorem pX5_isClosed : (parseMethodDescriptor yX5_isClosed.desc).map (fun d => d.parameters.length) = some 1 := by decide +kernel
theorem mX5_isClosed : gx_M yX5_isClosed cX5_isClosed 2 (some .boolean) := ⟨tb_814, tb_40, tb_73, tb_815, by decide, by decide⟩
set_option maxHeartbeats 4000000 in
set_option maxRecDepth 100000 in
theorem c_X5_isClosed (l : Launch) (K : gx_K) (m q1 q2 q3 q4 q5 q6 q7 q8 : Nat) (S P H T X Z : Nat → Int32) (n : Nat) (ru : Bool) (ty : Nat) (cl : Int32) (sp : Nat) (ca : Int32) (co : Nat) (p : Nat) (h0 : p < 6) : gx_Ctr l K yX5_isClosed cX5_isClosed 2 (some .boolean) (rmm 2 22) [.ref m, .int (nI p)] (wM K m q1 q2 q3 q4 q5 q6 q7 q8 S P H T X Z n ru ty cl sp ca co) (gx_D (some (.int (bI (sClosed S p)))) (wM K m q1 q2 q3 q4 q5 q6 q7 q8 S P H T X Z n ru ty cl sp ca co)) := by
  refine gx_of (by decide) (Nat.le_of_ble_eq_true rfl) (fun G hC => ?_)
  have hB := hC.b
  refine gx_lv (lv' := [(0, .ref m), (1, .int (nI p))]) rfl ?_
  refine gx_aload_n (pc := 0) hB dX5_isClosed_0 0 rfl ?_
  refine gx_iload_n (pc := 1) hB dX5_isClosed_1 1 rfl ?_
  refine gx_bipush (pc := 2) hB dX5_isClosed_2 9 (by decide) ?_
  refine gx_dVi (pc := 4) (r := sP S p 9) (wr := []) hB (c_X5_ofPurpose l K m q1 q2 q3 q4 q5 q6 q7 q8 S P H T X Z n ru ty cl sp ca co p 9 (by first | assumption | omega | decide) (by first | assumption | omega | decide)) mX5_ofPurpose dX5_isClosed_4 tb_816 pX5_ofPurpose ⟨Nat.le_of_ble_eq_true rfl, Nat.le_of_ble_eq_true rfl⟩ ⟨rfl, rfl⟩ ⟨Nat.zero_le _, Nat.zero_le _⟩ rfl (Nat.le_of_ble_eq_true rfl) [0, 1, 2, 3, 4, 5, 6, 7, 8] [] rfl rfl (by decide) (by decide) (by decide) rfl rfl [0, 1, 2, 3, 4, 5, 6, 7, 8] (by decide) (wM K m q1 q2 q3 q4 q5 q6 q7 q8 S P H T X Z n ru ty cl sp ca co) rfl ?_
  refine gx_if_lt (pc := 7) hB 14 dX5_isClosed_7 (by decide) (fun c_1 => ?_) (fun c_1 => ?_)
  · refine gx_iconst (pc := 14) hB dX5_isClosed_14 0 (by decide) ?_
    have e1 : (bI (sClosed S p)) = 0 := by simp [sClosed, bI, c_1, eq_false (Int32.not_le.mpr c_1)]
    exact gx_zret (pc := 15) hC dX5_isClosed_15 (Nat.zero_le _) (Nat.zero_le _) (by decide) (⟨by rw [e1], rfl⟩)
  · refine gx_iconst (pc := 10) hB dX5_isClosed_10 1 (by decide) ?_
    refine gx_goto (pc := 11) hB 15 dX5_isClosed_11 (by decide) ?_
    have e1 : (bI (sClosed S p)) = 1 := by simp [sClosed, bI, Int32.not_lt.mp c_1, eq_false c_1]
    exact gx_zret (pc := 15) hC dX5_isClosed_15 (Nat.zero_le _) (Nat.zero_le _) (by decide) (⟨by rw [e1], rfl⟩)
theorem pX5_areTwo : (parseMethodDescriptor yX5_areTwo.desc).map (fun d => d.parameters.length) = some 2 := by decide +kernel
theorem mX5_areTwo : gx_M yX5_areTwo cX5_areTwo 3 (some .boolean) := ⟨tb_896, tb_52, tb_73, tb_897, by decide, by decide⟩
set_option maxHeartbeats 4000000 in
set_option maxRecDepth 100000 in
theorem c_X5_areTwo (l : Launch) (K : gx_K) (m q1 q2 q3 q4 q5 q6 q7 q8 : Nat) (S P H T X Z : Nat → Int32) (n : Nat) (ru : Bool) (ty : Nat) (cl : Int32) (sp : Nat) (ca : Int32) (co : Nat) (x y : Int32)  : gx_Ctr l K yX5_areTwo cX5_areTwo 3 (some .boolean) (rmm 2 21) [.ref m, .int x, .int y] (wM K m q1 q2 q3 q4 q5 q6 q7 q8 S P H T X Z n ru ty cl sp ca co) (gx_D (some (.int (bI (sTwo S x y)))) (wM K m q1 q2 q3 q4 q5 q6 q7 q8 S P H T X Z n ru ty cl sp ca co)) := by
  refine gx_of (by decide) (Nat.le_of_ble_eq_true rfl) (fun G hC => ?_)
  have hB := hC.b
  refine gx_lv (lv' := [(0, .ref m), (1, .int x), (2, .int y)]) rfl ?_
  refine gx_aload_n (pc := 0) hB dX5_areTwo_0 0 rfl ?_
  refine gx_iload_n (pc := 1) hB dX5_areTwo_1 1 rfl ?_
  refine gx_dVi (pc := 2) (r := bI (sIsP S x)) (wr := []) hB (c_X5_isPurpose l K m q1 q2 q3 q4 q5 q6 q7 q8 S P H T X Z n ru ty cl sp ca co x ) mX5_isPurpose dX5_areTwo_2 tb_808 pX5_isPurpose ⟨Nat.le_of_ble_eq_true rfl, Nat.le_of_ble_eq_true rfl⟩ ⟨rfl, rfl⟩ ⟨Nat.zero_le _, Nat.zero_le _⟩ rfl (Nat.le_of_ble_eq_true rfl) [0, 1, 2, 3, 4, 5, 6, 7, 8] [] rfl rfl (by decide) (by decide) (by decide) rfl rfl [0, 1, 2, 3, 4, 5, 6, 7, 8] (by decide) (wM K m q1 q2 q3 q4 q5 q6 q7 q8 S P H T X Z n ru ty cl sp ca co) rfl ?_
  refine gx_if_eq_b (pc := 5) hB 25 dX5_areTwo_5 (by decide) (fun c_1 => ?_) (fun c_1 => ?_)
  · refine gx_iconst (pc := 25) hB dX5_areTwo_25 0 (by decide) ?_
    have e1 : (bI (sTwo S x y)) = 0 := by simp [sTwo, bI, c_1]
    exact gx_zret (pc := 26) hC dX5_areTwo_26 (Nat.zero_le _) (Nat.zero_le _) (by decide) (⟨by rw [e1], rfl⟩)
  · refine gx_aload_n (pc := 8) hB dX5_areTwo_8 0 rfl ?_
    refine gx_iload_n (pc := 9) hB dX5_areTwo_9 2 rfl ?_
    refine gx_dVi (pc := 10) (r := bI (sIsP S y)) (wr := []) hB (c_X5_isPurpose l K m q1 q2 q3 q4 q5 q6 q7 q8 S P H T X Z n ru ty cl sp ca co y ) mX5_isPurpose dX5_areTwo_10 tb_808 pX5_isPurpose ⟨Nat.le_of_ble_eq_true rfl, Nat.le_of_ble_eq_true rfl⟩ ⟨rfl, rfl⟩ ⟨Nat.zero_le _, Nat.zero_le _⟩ rfl (Nat.le_of_ble_eq_true rfl) [0, 1, 2, 3, 4, 5, 6, 7, 8] [] rfl rfl (by decide) (by decide) (by decide) rfl rfl [0, 1, 2, 3, 4, 5, 6, 7, 8] (by decide) (wM K m q1 q2 q3 q4 q5 q6 q7 q8 S P H T X Z n ru ty cl sp ca co) rfl ?_
    refine gx_if_eq_b (pc := 13) hB 25 dX5_areTwo_13 (by decide) (fun c_2 => ?_) (fun c_2 => ?_)
    · refine gx_iconst (pc := 25) hB dX5_areTwo_25 0 (by decide) ?_
      have e1 : (bI (sTwo S x y)) = 0 := by simp [sTwo, bI, c_1, c_2]
      exact gx_zret (pc := 26) hC dX5_areTwo_26 (Nat.zero_le _) (Nat.zero_le _) (by decide) (⟨by rw [e1], rfl⟩)
    · refine gx_iload_n (pc := 16) hB dX5_areTwo_16 1 rfl ?_
      refine gx_iload_n (pc := 17) hB dX5_areTwo_17 2 rfl ?_
      refine gx_icmp_eq (pc := 18) hB 25 dX5_areTwo_18 (by decide) (fun c_3 => ?_) (fun c_3 => ?_)
      · refine gx_iconst (pc := 25) hB dX5_areTwo_25 0 (by decide) ?_
        have e1 : (bI (sTwo S x y)) = 0 := by simp [sTwo, bI, c_1, c_2, eq_true c_3]
        exact gx_zret (pc := 26) hC dX5_areTwo_26 (Nat.zero_le _) (Nat.zero_le _) (by decide) (⟨by rw [e1], rfl⟩)
      · refine gx_iconst (pc := 21) hB dX5_areTwo_21 1 (by decide) ?_
        refine gx_goto (pc := 22) hB 26 dX5_areTwo_22 (by decide) ?_
        have e1 : (bI (sTwo S x y)) = 1 := by simp [sTwo, bI, c_1, c_2, eq_false c_3]
        exact gx_zret (pc := 26) hC dX5_areTwo_26 (Nat.zero_le _) (Nat.zero_le _) (by decide) (⟨by rw [e1], rfl⟩)
theorem pX5_tax : (parseMethodDescriptor yX5_tax.desc).map (fun d => d.parameters.length) = some 1 := by decide +kernel
theorem mX5_tax : gx_MS yX5_tax cX5_tax 1 (some .int) := ⟨tb_876, tb_73, tb_877, by decide, by decide⟩
set_option maxHeartbeats 4000000 in
set_option maxRecDepth 100000 in
theorem c_X5_tax (l : Launch) (K : gx_K) (x : Int32)  : gx_Ctr l K yX5_tax cX5_tax 1 (some .int) (rmm 1 0) [.int x] [] (gx_D (some (.int (x / 4))) []) := by
  refine gx_of (by decide) (Nat.le_of_ble_eq_true rfl) (fun G hC => ?_)
  have hB := hC.b
  refine gx_lv (lv' := [(0, .int x)]) rfl ?_
  refine gx_iload_n (pc := 0) hB dX5_tax_0 0 rfl ?_
  refine gx_iconst (pc := 1) hB dX5_tax_1 4 (by decide) ?_
  refine gx_idiv (pc := 2) hB dX5_tax_2 (by decide) ?_
  exact gx_iret (pc := 3) hC dX5_tax_3 (Nat.zero_le _) (Nat.zero_le _) (⟨rfl, rfl⟩)
theorem pX5_ends : (parseMethodDescriptor yX5_ends.desc).map (fun d => d.parameters.length) = some 2 := by decide +kernel
theorem mX5_ends : gx_M yX5_ends cX5_ends 3 none := ⟨tb_854, tb_47, tb_73, tb_855, by decide, by decide⟩
set_option maxHeartbeats 4000000 in
set_option maxRecDepth 100000 in
theorem c_X5_ends (l : Launch) (K : gx_K) (m q1 q2 q3 q4 q5 q6 q7 q8 : Nat) (S P H T X Z : Nat → Int32) (n : Nat) (ru : Bool) (ty : Nat) (cl : Int32) (sp : Nat) (ca : Int32) (co : Nat) (p : Nat) (v : Int32) (h0 : p < 6) : gx_Ctr l K yX5_ends cX5_ends 3 none (rmm 2 23) [.ref m, .int (nI p), .int v] (wM K m q1 q2 q3 q4 q5 q6 q7 q8 S P H T X Z n ru ty cl sp ca co) (gx_D none (wM K m q1 q2 q3 q4 q5 q6 q7 q8 (mEnds S p v) P H T X Z n ru ty cl sp ca co)) := by
  refine gx_of (by decide) (Nat.le_of_ble_eq_true rfl) (fun G hC => ?_)
  have hB := hC.b
  refine gx_lv (lv' := [(0, .ref m), (1, .int (nI p)), (2, .int v)]) rfl ?_
  refine gx_aload_n (pc := 0) hB dX5_ends_0 0 rfl ?_
  refine gx_iload_n (pc := 1) hB dX5_ends_1 1 rfl ?_
  refine gx_iconst (pc := 2) hB dX5_ends_2 5 (by decide) ?_
  refine gx_iload_n (pc := 3) hB dX5_ends_3 2 rfl ?_
  refine gx_dVv (pc := 4) (wr := []) hB (c_X5_putsPledge l K m q1 q2 q3 q4 q5 q6 q7 q8 S P H T X Z n ru ty cl sp ca co p 5 v (by first | assumption | omega | decide) (by first | assumption | omega | decide)) mX5_putsPledge dX5_ends_4 tb_832 pX5_putsPledge ⟨Nat.le_of_ble_eq_true rfl, Nat.le_of_ble_eq_true rfl⟩ ⟨rfl, rfl⟩ ⟨Nat.zero_le _, Nat.zero_le _⟩ rfl (Nat.le_of_ble_eq_true rfl) [0, 1, 2, 3, 4, 5, 6, 7, 8] [] rfl rfl (by decide) (by decide) (by decide) rfl rfl [0, 1, 2, 3, 4, 5, 6, 7, 8] (by decide) (wM K m q1 q2 q3 q4 q5 q6 q7 q8 (uK S p 5 v) P H T X Z n ru ty cl sp ca co) rfl ?_
  refine gx_aload_n (pc := 7) hB dX5_ends_7 0 rfl ?_
  refine gx_iload_n (pc := 8) hB dX5_ends_8 1 rfl ?_
  refine gx_bipush (pc := 9) hB dX5_ends_9 7 (by decide) ?_
  refine gx_iconst (pc := 11) hB dX5_ends_11 0 (by decide) ?_
  refine gx_dVv (pc := 12) (wr := []) hB (c_X5_putsPledge l K m q1 q2 q3 q4 q5 q6 q7 q8 (uK S p 5 v) P H T X Z n ru ty cl sp ca co p 7 0 (by first | assumption | omega | decide) (by first | assumption | omega | decide)) mX5_putsPledge dX5_ends_12 tb_832 pX5_putsPledge ⟨Nat.le_of_ble_eq_true rfl, Nat.le_of_ble_eq_true rfl⟩ ⟨rfl, rfl⟩ ⟨Nat.zero_le _, Nat.zero_le _⟩ rfl (Nat.le_of_ble_eq_true rfl) [0, 1, 2, 3, 4, 5, 6, 7, 8] [] rfl rfl (by decide) (by decide) (by decide) rfl rfl [0, 1, 2, 3, 4, 5, 6, 7, 8] (by decide) (wM K m q1 q2 q3 q4 q5 q6 q7 q8 (uK (uK S p 5 v) p 7 0) P H T X Z n ru ty cl sp ca co) rfl ?_
  have f0 : mEnds S p v = (uK (uK S p 5 v) p 7 0) := by simp [mEnds]
  exact gx_vret (pc := 15) hC dX5_ends_15 (Nat.zero_le _) (Nat.zero_le _) (⟨rfl, by rw [f0]⟩)
theorem pX5_changes : (parseMethodDescriptor yX5_changes.desc).map (fun d => d.parameters.length) = some 0 := by decide +kernel
theorem mX5_changes : gx_M yX5_changes cX5_changes 2 none := ⟨tb_779, tb_35, tb_73, tb_780, by decide, by decide⟩
set_option maxHeartbeats 4000000 in
set_option maxRecDepth 100000 in
theorem c_X5_changes (l : Launch) (K : gx_K) (m q1 q2 q3 q4 q5 q6 q7 q8 : Nat) (S P H T X Z : Nat → Int32) (n : Nat) (ru : Bool) (ty : Nat) (cl : Int32) (sp : Nat) (ca : Int32) (co : Nat)  (h0 : n ≤ 4) : gx_Ctr l K yX5_changes cX5_changes 2 none (rmm 1 0) [.ref m] (wM K m q1 q2 q3 q4 q5 q6 q7 q8 S P H T X Z n ru ty cl sp ca co) (gx_D none (wM K m q1 q2 q3 q4 q5 q6 q7 q8 S (chP ru n P S) H T X Z (chn ru n) ru ty cl sp ca co)) := by
  refine gx_of (by decide) (Nat.le_of_ble_eq_true rfl) (fun G hC => ?_)
  have hB := hC.b
  refine gx_lv (lv' := [(0, .ref m)]) rfl ?_
  refine gx_aload_n (pc := 0) hB dX5_changes_0 0 rfl ?_
  refine gx_get (pc := 1) hB dX5_changes_1 inX5 rfl 0 rfl 5 (by decide) tb_731 rfl rfl ?_
  refine gx_if_eq_b (pc := 4) hB 8 dX5_changes_4 (by decide) (fun c_1 => ?_) (fun c_1 => ?_)
  · refine gx_aload_n (pc := 8) hB dX5_changes_8 0 rfl ?_
    refine gx_get (pc := 9) hB dX5_changes_9 inX5 rfl 0 rfl 4 (by decide) tb_730 rfl rfl ?_
    refine gx_iconst (pc := 12) hB dX5_changes_12 4 (by decide) ?_
    refine gx_icmp_ne (pc := 13) hB 57 dX5_changes_13 (by decide) (fun c_2 => ?_) (fun c_2 => ?_)
    · have hn4 : n < 4 := nI_ne (n := 4) c_2 (by omega)
      have hnn : ¬ n = 4 := by omega
      refine gx_iconst (pc := 57) hB dX5_changes_57 0 (by decide) ?_
      refine gx_istore_n (pc := 58) hB dX5_changes_58 (by decide) [(1, .int 0), (0, .ref m)] rfl ?_
      have loop_59 : ∀ dq i : Nat, i + dq = 345 → G 0 0 (wM K m q1 q2 q3 q4 q5 q6 q7 q8 S (ptN P S n i) H T X Z n ru ty cl sp ca co) [(0, .ref m), (1, .int (nI i))] 59 [] := by
        intro dq
        induction dq with
        | zero =>
          intro i hi59
          obtain rfl : 345 = i := by omega
          refine gx_iload_n (pc := 59) hB dX5_changes_59 1 rfl ?_
          refine gx_sipush (pc := 60) hB dX5_changes_60 345 (by decide) ?_
          refine gx_icmp_ge (pc := 63) hB 93 dX5_changes_63 (by decide) (fun c_3 => ?_) (fun c_3 => ?_)
          · refine gx_aload_n (pc := 93) hB dX5_changes_93 0 rfl ?_
            refine gx_dup (pc := 94) hB dX5_changes_94 rfl ?_
            refine gx_get (pc := 95) hB dX5_changes_95 inX5 rfl 0 rfl 4 (by decide) tb_730 rfl rfl ?_
            refine gx_iconst (pc := 98) hB dX5_changes_98 1 (by decide) ?_
            refine gx_iadd (pc := 99) hB dX5_changes_99 ?_
            refine gx_top (show nI n + 1 = nI (n + 1) from nI_add n 1) ?_
            refine gx_put (pc := 100) hB dX5_changes_100 inX5 rfl tyX5 tyX5_ok nmX5 0 rfl 4 (by decide) tb_730 rfl rfl rfl rfl (Nat.le_of_ble_eq_true rfl) (wM K m q1 q2 q3 q4 q5 q6 q7 q8 S (ptN P S n 345) H T X Z (n + 1) ru ty cl sp ca co) rfl ?_
            have f0 : chP ru n P S = ptN P S n 345 := by simp [chP, chn, c_1, eq_false c_2, eq_false hnn, c_3, eq_false (Int32.not_lt.mpr c_3)]
            have f1 : chn ru n = (n + 1) := by simp [chP, chn, c_1, eq_false c_2, eq_false hnn, c_3, eq_false (Int32.not_lt.mpr c_3)]
            exact gx_vret (pc := 103) hC dX5_changes_103 (Nat.zero_le _) (Nat.zero_le _) (⟨rfl, by rw [f0, f1]⟩)
          · exact absurd (lpT (x := 345) hi59) c_3
        | succ dq ih59 =>
          intro i hi59
          refine gx_iload_n (pc := 59) hB dX5_changes_59 1 rfl ?_
          refine gx_sipush (pc := 60) hB dX5_changes_60 345 (by decide) ?_
          refine gx_icmp_ge (pc := 63) hB 93 dX5_changes_63 (by decide) (fun c_4 => ?_) (fun c_4 => ?_)
          · exact absurd c_4 (lpF (x := 345) hi59)
          · refine gx_aload_n (pc := 66) hB dX5_changes_66 0 rfl ?_
            refine gx_get (pc := 67) hB dX5_changes_67 inX5 rfl 0 rfl 1 (by decide) tb_727 rfl rfl ?_
            refine gx_sipush (pc := 70) hB dX5_changes_70 345 (by decide) ?_
            refine gx_aload_n (pc := 73) hB dX5_changes_73 0 rfl ?_
            refine gx_get (pc := 74) hB dX5_changes_74 inX5 rfl 0 rfl 4 (by decide) tb_730 rfl rfl ?_
            refine gx_imul (pc := 77) hB dX5_changes_77 ?_
            refine gx_top (show 345 * nI n = nI (345 * n) from pk_mul 345 n) ?_
            refine gx_iload_n (pc := 78) hB dX5_changes_78 1 rfl ?_
            refine gx_iadd (pc := 79) hB dX5_changes_79 ?_
            refine gx_top (show (nI (345 * n)) + nI i = nI (345 * n + i) from nI_add (345 * n) i) ?_
            refine gx_aload_n (pc := 80) hB dX5_changes_80 0 rfl ?_
            refine gx_get (pc := 81) hB dX5_changes_81 inX5 rfl 0 rfl 0 (by decide) tb_726 rfl rfl ?_
            refine gx_iload_n (pc := 84) hB dX5_changes_84 1 rfl ?_
            refine gx_iald (pc := 85) hB dX5_changes_85 1 1 rfl rfl i rfl (by omega) (by decide) ?_
            refine gx_iast (pc := 86) hB dX5_changes_86 2 1 rfl rfl (345 * n + i) rfl (by omega) (by decide) (wM K m q1 q2 q3 q4 q5 q6 q7 q8 S (upd (ptN P S n i) (345 * n + i) (S i)) H T X Z n ru ty cl sp ca co) rfl ?_
            refine gx_iinc (pc := 87) hB dX5_changes_87 1 (by decide) rfl (nI (i + 1)) (nI_1 _) [(1, .int (nI (i + 1))), (0, .ref m)] rfl ?_
            refine gx_goto (pc := 90) hB 59 dX5_changes_90 (by decide) ?_
            have w0 : upd (ptN P S n i) (345 * n + i) (S i) = ptN P S n (i + 1) := by simp [chP, chn, c_1, eq_false c_2, eq_false hnn, Int32.not_le.mp c_4, eq_false c_4, ptN_s, ptN_3]
            refine gx_sub hB (lv' := [(0, .ref m), (1, .int (nI (i + 1)))]) [1, 0] rfl ?_
            refine gx_all (ws' := wM K m q1 q2 q3 q4 q5 q6 q7 q8 S (ptN P S n (i + 1)) H T X Z n ru ty cl sp ca co) (lv' := [(0, .ref m), (1, .int (nI (i + 1)))]) (by rw [← w0]) (rfl) ?_
            exact ih59 (i + 1) (by omega)
      refine gx_sub hB (lv' := [(0, .ref m), (1, .int 0)]) [1, 0] rfl ?_
      refine gx_all (ws' := wM K m q1 q2 q3 q4 q5 q6 q7 q8 S (ptN P S n 0) H T X Z n ru ty cl sp ca co) (lv' := [(0, .ref m), (1, .int (nI 0))]) (by rw [← ptN_0]) (rfl) ?_
      exact loop_59 (345) 0 (by omega)
    · obtain rfl : n = 4 := (nI_eq (a := n) (b := 4) (by omega) (by decide)).mp c_2
      refine gx_iconst (pc := 16) hB dX5_changes_16 0 (by decide) ?_
      refine gx_istore_n (pc := 17) hB dX5_changes_17 (by decide) [(1, .int 0), (0, .ref m)] rfl ?_
      have loop_18 : ∀ dq i : Nat, i + dq = 1035 → G 0 0 (wM K m q1 q2 q3 q4 q5 q6 q7 q8 S (shN P i) H T X Z 4 ru ty cl sp ca co) [(0, .ref m), (1, .int (nI i))] 18 [] := by
        intro dq
        induction dq with
        | zero =>
          intro i hi18
          obtain rfl : 1035 = i := by omega
          refine gx_iload_n (pc := 18) hB dX5_changes_18 1 rfl ?_
          refine gx_sipush (pc := 19) hB dX5_changes_19 1035 (by decide) ?_
          refine gx_icmp_ge (pc := 22) hB 47 dX5_changes_22 (by decide) (fun c_5 => ?_) (fun c_5 => ?_)
          · refine gx_aload_n (pc := 47) hB dX5_changes_47 0 rfl ?_
            refine gx_dup (pc := 48) hB dX5_changes_48 rfl ?_
            refine gx_get (pc := 49) hB dX5_changes_49 inX5 rfl 0 rfl 4 (by decide) tb_730 rfl rfl ?_
            refine gx_iconst (pc := 52) hB dX5_changes_52 1 (by decide) ?_
            refine gx_isub (pc := 53) hB dX5_changes_53 ?_
            refine gx_top (show 4 - 1 = 3 by decide) ?_
            refine gx_put (pc := 54) hB dX5_changes_54 inX5 rfl tyX5 tyX5_ok nmX5 0 rfl 4 (by decide) tb_730 rfl rfl rfl rfl (Nat.le_of_ble_eq_true rfl) (wM K m q1 q2 q3 q4 q5 q6 q7 q8 S (shN P 1035) H T X Z 3 ru ty cl sp ca co) rfl ?_
            refine gx_iconst (pc := 57) hB dX5_changes_57 0 (by decide) ?_
            refine gx_istore_n (pc := 58) hB dX5_changes_58 (by decide) [(1, .int 0), (0, .ref m)] rfl ?_
            have loop_59 : ∀ dq i : Nat, i + dq = 345 → G 0 0 (wM K m q1 q2 q3 q4 q5 q6 q7 q8 S (ptN (shN P 1035) S 3 i) H T X Z 3 ru ty cl sp ca co) [(0, .ref m), (1, .int (nI i))] 59 [] := by
              intro dq
              induction dq with
              | zero =>
                intro i hi59
                obtain rfl : 345 = i := by omega
                refine gx_iload_n (pc := 59) hB dX5_changes_59 1 rfl ?_
                refine gx_sipush (pc := 60) hB dX5_changes_60 345 (by decide) ?_
                refine gx_icmp_ge (pc := 63) hB 93 dX5_changes_63 (by decide) (fun c_6 => ?_) (fun c_6 => ?_)
                · refine gx_aload_n (pc := 93) hB dX5_changes_93 0 rfl ?_
                  refine gx_dup (pc := 94) hB dX5_changes_94 rfl ?_
                  refine gx_get (pc := 95) hB dX5_changes_95 inX5 rfl 0 rfl 4 (by decide) tb_730 rfl rfl ?_
                  refine gx_iconst (pc := 98) hB dX5_changes_98 1 (by decide) ?_
                  refine gx_iadd (pc := 99) hB dX5_changes_99 ?_
                  refine gx_top (show 3 + 1 = 4 by decide) ?_
                  refine gx_put (pc := 100) hB dX5_changes_100 inX5 rfl tyX5 tyX5_ok nmX5 0 rfl 4 (by decide) tb_730 rfl rfl rfl rfl (Nat.le_of_ble_eq_true rfl) (wM K m q1 q2 q3 q4 q5 q6 q7 q8 S (ptN (shN P 1035) S 3 345) H T X Z 4 ru ty cl sp ca co) rfl ?_
                  have f0 : chP ru 4 P S = (ptN (shN P 1035) S 3 345) := by simp [chP, chn, c_1, eq_true c_2, c_5, eq_false (Int32.not_lt.mpr c_5), c_6, eq_false (Int32.not_lt.mpr c_6)]
                  have f1 : chn ru 4 = 4 := by simp [chP, chn, c_1, eq_true c_2, c_5, eq_false (Int32.not_lt.mpr c_5), c_6, eq_false (Int32.not_lt.mpr c_6)]
                  exact gx_vret (pc := 103) hC dX5_changes_103 (Nat.zero_le _) (Nat.zero_le _) (⟨rfl, by rw [f0, f1]⟩)
                · exact absurd (lpT (x := 345) hi59) c_6
              | succ dq ih59 =>
                intro i hi59
                refine gx_iload_n (pc := 59) hB dX5_changes_59 1 rfl ?_
                refine gx_sipush (pc := 60) hB dX5_changes_60 345 (by decide) ?_
                refine gx_icmp_ge (pc := 63) hB 93 dX5_changes_63 (by decide) (fun c_7 => ?_) (fun c_7 => ?_)
                · exact absurd c_7 (lpF (x := 345) hi59)
                · refine gx_aload_n (pc := 66) hB dX5_changes_66 0 rfl ?_
                  refine gx_get (pc := 67) hB dX5_changes_67 inX5 rfl 0 rfl 1 (by decide) tb_727 rfl rfl ?_
                  refine gx_sipush (pc := 70) hB dX5_changes_70 345 (by decide) ?_
                  refine gx_aload_n (pc := 73) hB dX5_changes_73 0 rfl ?_
                  refine gx_get (pc := 74) hB dX5_changes_74 inX5 rfl 0 rfl 4 (by decide) tb_730 rfl rfl ?_
                  refine gx_imul (pc := 77) hB dX5_changes_77 ?_
                  refine gx_top (show 345 * 3 = 1035 by decide) ?_
                  refine gx_iload_n (pc := 78) hB dX5_changes_78 1 rfl ?_
                  refine gx_iadd (pc := 79) hB dX5_changes_79 ?_
                  refine gx_top (show 1035 + nI i = nI (1035 + i) from nI_add 1035 i) ?_
                  refine gx_aload_n (pc := 80) hB dX5_changes_80 0 rfl ?_
                  refine gx_get (pc := 81) hB dX5_changes_81 inX5 rfl 0 rfl 0 (by decide) tb_726 rfl rfl ?_
                  refine gx_iload_n (pc := 84) hB dX5_changes_84 1 rfl ?_
                  refine gx_iald (pc := 85) hB dX5_changes_85 1 1 rfl rfl i rfl (by omega) (by decide) ?_
                  refine gx_iast (pc := 86) hB dX5_changes_86 2 1 rfl rfl (1035 + i) rfl (by omega) (by decide) (wM K m q1 q2 q3 q4 q5 q6 q7 q8 S (upd (ptN (shN P 1035) S 3 i) (1035 + i) (S i)) H T X Z 3 ru ty cl sp ca co) rfl ?_
                  refine gx_iinc (pc := 87) hB dX5_changes_87 1 (by decide) rfl (nI (i + 1)) (nI_1 _) [(1, .int (nI (i + 1))), (0, .ref m)] rfl ?_
                  refine gx_goto (pc := 90) hB 59 dX5_changes_90 (by decide) ?_
                  have w0 : upd (ptN (shN P 1035) S 3 i) (1035 + i) (S i) = ptN (shN P 1035) S 3 (i + 1) := by simp [chP, chn, c_1, eq_true c_2, c_5, eq_false (Int32.not_lt.mpr c_5), Int32.not_le.mp c_7, eq_false c_7, ptN_s, ptN_3]
                  refine gx_sub hB (lv' := [(0, .ref m), (1, .int (nI (i + 1)))]) [1, 0] rfl ?_
                  refine gx_all (ws' := wM K m q1 q2 q3 q4 q5 q6 q7 q8 S (ptN (shN P 1035) S 3 (i + 1)) H T X Z 3 ru ty cl sp ca co) (lv' := [(0, .ref m), (1, .int (nI (i + 1)))]) (by rw [← w0]) (rfl) ?_
                  exact ih59 (i + 1) (by omega)
            refine gx_sub hB (lv' := [(0, .ref m), (1, .int 0)]) [1, 0] rfl ?_
            refine gx_all (ws' := wM K m q1 q2 q3 q4 q5 q6 q7 q8 S (ptN (shN P 1035) S 3 0) H T X Z 3 ru ty cl sp ca co) (lv' := [(0, .ref m), (1, .int (nI 0))]) (by rw [← ptN_0]) (rfl) ?_
            exact loop_59 (345) 0 (by omega)
          · exact absurd (lpT (x := 1035) hi18) c_5
        | succ dq ih18 =>
          intro i hi18
          refine gx_iload_n (pc := 18) hB dX5_changes_18 1 rfl ?_
          refine gx_sipush (pc := 19) hB dX5_changes_19 1035 (by decide) ?_
          refine gx_icmp_ge (pc := 22) hB 47 dX5_changes_22 (by decide) (fun c_8 => ?_) (fun c_8 => ?_)
          · exact absurd c_8 (lpF (x := 1035) hi18)
          · refine gx_aload_n (pc := 25) hB dX5_changes_25 0 rfl ?_
            refine gx_get (pc := 26) hB dX5_changes_26 inX5 rfl 0 rfl 1 (by decide) tb_727 rfl rfl ?_
            refine gx_iload_n (pc := 29) hB dX5_changes_29 1 rfl ?_
            refine gx_aload_n (pc := 30) hB dX5_changes_30 0 rfl ?_
            refine gx_get (pc := 31) hB dX5_changes_31 inX5 rfl 0 rfl 1 (by decide) tb_727 rfl rfl ?_
            refine gx_iload_n (pc := 34) hB dX5_changes_34 1 rfl ?_
            refine gx_sipush (pc := 35) hB dX5_changes_35 345 (by decide) ?_
            refine gx_iadd (pc := 38) hB dX5_changes_38 ?_
            refine gx_top (show nI i + 345 = nI (i + 345) from nI_add i 345) ?_
            refine gx_iald (pc := 39) hB dX5_changes_39 2 1 rfl rfl (i + 345) rfl (by omega) (by decide) ?_
            refine gx_top (show (shN P i) (i + 345) = P (i + 345) from shN_r) ?_
            refine gx_iast (pc := 40) hB dX5_changes_40 2 1 rfl rfl i rfl (by omega) (by decide) (wM K m q1 q2 q3 q4 q5 q6 q7 q8 S (upd (shN P i) i (P (i + 345))) H T X Z 4 ru ty cl sp ca co) rfl ?_
            refine gx_iinc (pc := 41) hB dX5_changes_41 1 (by decide) rfl (nI (i + 1)) (nI_1 _) [(1, .int (nI (i + 1))), (0, .ref m)] rfl ?_
            refine gx_goto (pc := 44) hB 18 dX5_changes_44 (by decide) ?_
            have w0 : upd (shN P i) i (P (i + 345)) = shN P (i + 1) := by simp [chP, chn, c_1, eq_true c_2, Int32.not_le.mp c_8, eq_false c_8, shN_s]
            refine gx_sub hB (lv' := [(0, .ref m), (1, .int (nI (i + 1)))]) [1, 0] rfl ?_
            refine gx_all (ws' := wM K m q1 q2 q3 q4 q5 q6 q7 q8 S (shN P (i + 1)) H T X Z 4 ru ty cl sp ca co) (lv' := [(0, .ref m), (1, .int (nI (i + 1)))]) (by rw [← w0]) (rfl) ?_
            exact ih18 (i + 1) (by omega)
      refine gx_sub hB (lv' := [(0, .ref m), (1, .int 0)]) [1, 0] rfl ?_
      refine gx_all (ws' := wM K m q1 q2 q3 q4 q5 q6 q7 q8 S (shN P 0) H T X Z 4 ru ty cl sp ca co) (lv' := [(0, .ref m), (1, .int (nI 0))]) (by rw [← shN_0]) (rfl) ?_
      exact loop_18 (1035) 0 (by omega)
  · have f0 : chP ru n P S = P := by simp [chP, chn, c_1]
    have f1 : chn ru n = n := by simp [chP, chn, c_1]
    exact gx_vret (pc := 7) hC dX5_changes_7 (Nat.zero_le _) (Nat.zero_le _) (⟨rfl, by rw [f0, f1]⟩)
theorem pX5_purpose : (parseMethodDescriptor yX5_purpose.desc).map (fun d => d.parameters.length) = some 0 := by decide +kernel
theorem mX5_purpose : gx_M yX5_purpose cX5_purpose 3 (some .int) := ⟨tb_774, tb_775, tb_73, tb_776, by decide, by decide⟩
set_option maxHeartbeats 4000000 in
set_option maxRecDepth 100000 in
theorem c_X5_purpose (l : Launch) (K : gx_K) (m q1 q2 q3 q4 q5 q6 q7 q8 : Nat) (S P H T X Z : Nat → Int32) (n : Nat) (ru : Bool) (ty : Nat) (cl : Int32) (sp : Nat) (ca : Int32) (co : Nat) (a b c e : Nat)  (h0 : sOk S a b c e) (h1 : n ≤ 4) : gx_Ctr l K yX5_purpose cX5_purpose 3 (some .int) (rmm 2 23) [.ref m] (wM K m q1 q2 q3 q4 q5 q6 q7 q8 S P H T X Z n ru ty cl sp ca co) (gx_D (some (.int ((mPurpose S a).1))) (wM K m q1 q2 q3 q4 q5 q6 q7 q8 ((mPurpose S a).2.2) (kpP (mPurpose S a).2.1 ru n P S) H T X Z (kpn (mPurpose S a).2.1 ru n) ru ty cl sp ca co)) := by
  refine gx_of (by decide) (Nat.le_of_ble_eq_true rfl) (fun G hC => ?_)
  have hB := hC.b
  refine gx_lv (lv' := [(0, .ref m)]) rfl ?_
  have hb0 := h0.1
  refine gx_aload_n (pc := 0) hB dX5_purpose_0 0 rfl ?_
  refine gx_get (pc := 1) hB dX5_purpose_1 inX5 rfl 0 rfl 0 (by decide) tb_726 rfl rfl ?_
  refine gx_iconst (pc := 4) hB dX5_purpose_4 2 (by decide) ?_
  refine gx_iald (pc := 5) hB dX5_purpose_5 1 1 rfl rfl 2 rfl (by decide) (by decide) ?_
  refine gx_top (show S 2 = nI a from h0.1.1) ?_
  refine gx_istore_n (pc := 6) hB dX5_purpose_6 (by decide) [(1, .int (nI a)), (0, .ref m)] rfl ?_
  refine gx_iload_n (pc := 7) hB dX5_purpose_7 0 rfl ?_
  refine gx_bipush (pc := 8) hB dX5_purpose_8 6 (by decide) ?_
  refine gx_icmp_ne (pc := 10) hB 16 dX5_purpose_10 (by decide) (fun c_1 => ?_) (fun c_1 => ?_)
  · have hal : a < 6 := nI_ne (n := 6) c_1 (by omega)
    refine gx_aload_n (pc := 16) hB dX5_purpose_16 1 rfl ?_
    refine gx_dVv (pc := 17) (wr := []) hB (c_X5_changes l K m q1 q2 q3 q4 q5 q6 q7 q8 S P H T X Z n ru ty cl sp ca co (by first | assumption | omega | decide)) mX5_changes dX5_purpose_17 tb_777 pX5_changes ⟨Nat.le_of_ble_eq_true rfl, Nat.le_of_ble_eq_true rfl⟩ ⟨rfl, rfl⟩ ⟨Nat.zero_le _, Nat.zero_le _⟩ rfl (Nat.le_of_ble_eq_true rfl) [0, 1, 2, 3, 4, 5, 6, 7, 8] [] rfl rfl (by decide) (by decide) (by decide) rfl rfl [0, 1, 2, 3, 4, 5, 6, 7, 8] (by decide) (wM K m q1 q2 q3 q4 q5 q6 q7 q8 S (chP ru n P S) H T X Z (chn ru n) ru ty cl sp ca co) rfl ?_
    refine gx_iconst (pc := 20) hB dX5_purpose_20 0 (by decide) ?_
    refine gx_istore_n (pc := 21) hB dX5_purpose_21 (by decide) [(2, .int 0), (1, .int (nI a)), (0, .ref m)] rfl ?_
    have loop_22 : ∀ dq i : Nat, i + dq = 11 → G 0 0 (wM K m q1 q2 q3 q4 q5 q6 q7 q8 (purN S a i) (chP ru n P S) H T X Z (chn ru n) ru ty cl sp ca co) [(0, .ref m), (1, .int (nI a)), (2, .int (nI i))] 22 [] := by
      intro dq
      induction dq with
      | zero =>
        intro i hi22
        obtain rfl : 11 = i := by omega
        refine gx_iload_n (pc := 22) hB dX5_purpose_22 2 rfl ?_
        refine gx_bipush (pc := 23) hB dX5_purpose_23 11 (by decide) ?_
        refine gx_icmp_ge (pc := 25) hB 52 dX5_purpose_25 (by decide) (fun c_2 => ?_) (fun c_2 => ?_)
        · refine gx_iconst (pc := 52) hB dX5_purpose_52 0 (by decide) ?_
          refine gx_istore_n (pc := 53) hB dX5_purpose_53 (by decide) [(2, .int 0), (0, .ref m), (1, .int (nI a))] rfl ?_
          have loop_54 : ∀ dq i : Nat, i + dq = 8 → G 0 0 (wM K m q1 q2 q3 q4 q5 q6 q7 q8 (purD (purN S a 11) a i) (chP ru n P S) H T X Z (chn ru n) ru ty cl sp ca co) [(0, .ref m), (1, .int (nI a)), (2, .int (nI i))] 54 [] := by
            intro dq
            induction dq with
            | zero =>
              intro i hi54
              obtain rfl : 8 = i := by omega
              refine gx_iload_n (pc := 54) hB dX5_purpose_54 2 rfl ?_
              refine gx_bipush (pc := 55) hB dX5_purpose_55 8 (by decide) ?_
              refine gx_icmp_ge (pc := 57) hB 76 dX5_purpose_57 (by decide) (fun c_3 => ?_) (fun c_3 => ?_)
              · refine gx_aload_n (pc := 76) hB dX5_purpose_76 0 rfl ?_
                refine gx_get (pc := 77) hB dX5_purpose_77 inX5 rfl 0 rfl 0 (by decide) tb_726 rfl rfl ?_
                refine gx_iconst (pc := 80) hB dX5_purpose_80 2 (by decide) ?_
                refine gx_dup2 (pc := 81) hB dX5_purpose_81 rfl rfl ?_
                refine gx_iald (pc := 82) hB dX5_purpose_82 1 1 rfl rfl 2 rfl (by decide) (by decide) ?_
                refine gx_iconst (pc := 83) hB dX5_purpose_83 1 (by decide) ?_
                refine gx_iadd (pc := 84) hB dX5_purpose_84 ?_
                refine gx_iast (pc := 85) hB dX5_purpose_85 1 1 rfl rfl 2 rfl (by decide) (by decide) (wM K m q1 q2 q3 q4 q5 q6 q7 q8 (upd (purD (purN S a 11) a 8) 2 (((purD (purN S a 11) a 8) 2) + 1)) (chP ru n P S) H T X Z (chn ru n) ru ty cl sp ca co) rfl ?_
                refine gx_iload_n (pc := 86) hB dX5_purpose_86 1 rfl ?_
                have e1 : ((mPurpose S a).1) = nI a := by simp [mPurpose, mPurposeS, purD, kpP, kpn, eq_false c_1, c_2, eq_false (Int32.not_lt.mpr c_2), c_3, eq_false (Int32.not_lt.mpr c_3)]
                have f0 : ((mPurpose S a).2.2) = (upd (purD (purN S a 11) a 8) 2 (((purD (purN S a 11) a 8) 2) + 1)) := by simp [mPurpose, mPurposeS, purD, kpP, kpn, eq_false c_1, c_2, eq_false (Int32.not_lt.mpr c_2), c_3, eq_false (Int32.not_lt.mpr c_3)]
                have f1 : (kpP (mPurpose S a).2.1 ru n P S) = chP ru n P S := by simp [mPurpose, mPurposeS, purD, kpP, kpn, eq_false c_1, c_2, eq_false (Int32.not_lt.mpr c_2), c_3, eq_false (Int32.not_lt.mpr c_3)]
                have f2 : (kpn (mPurpose S a).2.1 ru n) = chn ru n := by simp [mPurpose, mPurposeS, purD, kpP, kpn, eq_false c_1, c_2, eq_false (Int32.not_lt.mpr c_2), c_3, eq_false (Int32.not_lt.mpr c_3)]
                exact gx_iret (pc := 87) hC dX5_purpose_87 (Nat.zero_le _) (Nat.zero_le _) (⟨by rw [e1], by rw [f0, f1, f2]⟩)
              · exact absurd (lpT (x := 8) hi54) c_3
            | succ dq ih54 =>
              intro i hi54
              refine gx_iload_n (pc := 54) hB dX5_purpose_54 2 rfl ?_
              refine gx_bipush (pc := 55) hB dX5_purpose_55 8 (by decide) ?_
              refine gx_icmp_ge (pc := 57) hB 76 dX5_purpose_57 (by decide) (fun c_4 => ?_) (fun c_4 => ?_)
              · exact absurd c_4 (lpF (x := 8) hi54)
              · refine gx_aload_n (pc := 60) hB dX5_purpose_60 0 rfl ?_
                refine gx_iload_n (pc := 61) hB dX5_purpose_61 2 rfl ?_
                refine gx_iconst (pc := 62) hB dX5_purpose_62 1 (by decide) ?_
                refine gx_iload_n (pc := 63) hB dX5_purpose_63 1 rfl ?_
                refine gx_iadd (pc := 64) hB dX5_purpose_64 ?_
                refine gx_top (show 1 + nI a = nI (1 + a) from nI_add 1 a) ?_
                refine gx_bipush (pc := 65) hB dX5_purpose_65 (-4) (by decide) ?_
                refine gx_dVv (pc := 67) (wr := []) hB (c_X5_putsDonor l K m q1 q2 q3 q4 q5 q6 q7 q8 (purD (purN S a 11) a i) (chP ru n P S) H T X Z (chn ru n) ru ty cl sp ca co i (1 + a) (-4) (by first | assumption | omega | decide) (by first | assumption | omega | decide)) mX5_putsDonor dX5_purpose_67 tb_781 pX5_putsDonor ⟨Nat.le_of_ble_eq_true rfl, Nat.le_of_ble_eq_true rfl⟩ ⟨rfl, rfl⟩ ⟨Nat.zero_le _, Nat.zero_le _⟩ rfl (Nat.le_of_ble_eq_true rfl) [0, 1, 2, 3, 4, 5, 6, 7, 8] [] rfl rfl (by decide) (by decide) (by decide) rfl rfl [0, 1, 2, 3, 4, 5, 6, 7, 8] (by decide) (wM K m q1 q2 q3 q4 q5 q6 q7 q8 (uD (purD (purN S a 11) a i) i (1 + a) (-4)) (chP ru n P S) H T X Z (chn ru n) ru ty cl sp ca co) rfl ?_
                refine gx_iinc (pc := 70) hB dX5_purpose_70 2 (by decide) rfl (nI (i + 1)) (nI_1 _) [(2, .int (nI (i + 1))), (0, .ref m), (1, .int (nI a))] rfl ?_
                refine gx_goto (pc := 73) hB 54 dX5_purpose_73 (by decide) ?_
                have w0 : uD (purD (purN S a 11) a i) i (1 + a) (-4) = purD (purN S a 11) a (i + 1) := by simp [mPurpose, mPurposeS, purN, purD, kpP, kpn, eq_false c_1, c_2, eq_false (Int32.not_lt.mpr c_2), Int32.not_le.mp c_4, eq_false c_4]
                refine gx_sub hB (lv' := [(0, .ref m), (1, .int (nI a)), (2, .int (nI (i + 1)))]) [1, 2, 0] rfl ?_
                refine gx_all (ws' := wM K m q1 q2 q3 q4 q5 q6 q7 q8 (purD (purN S a 11) a (i + 1)) (chP ru n P S) H T X Z (chn ru n) ru ty cl sp ca co) (lv' := [(0, .ref m), (1, .int (nI a)), (2, .int (nI (i + 1)))]) (by rw [← w0]) (rfl) ?_
                exact ih54 (i + 1) (by omega)
          refine gx_sub hB (lv' := [(0, .ref m), (1, .int (nI a)), (2, .int 0)]) [1, 2, 0] rfl ?_
          refine gx_all (ws' := wM K m q1 q2 q3 q4 q5 q6 q7 q8 (purD (purN S a 11) a 0) (chP ru n P S) H T X Z (chn ru n) ru ty cl sp ca co) (lv' := [(0, .ref m), (1, .int (nI a)), (2, .int (nI 0))]) (rfl) (rfl) ?_
          exact loop_54 (8) 0 (by omega)
        · exact absurd (lpT (x := 11) hi22) c_2
      | succ dq ih22 =>
        intro i hi22
        refine gx_iload_n (pc := 22) hB dX5_purpose_22 2 rfl ?_
        refine gx_bipush (pc := 23) hB dX5_purpose_23 11 (by decide) ?_
        refine gx_icmp_ge (pc := 25) hB 52 dX5_purpose_25 (by decide) (fun c_5 => ?_) (fun c_5 => ?_)
        · exact absurd c_5 (lpF (x := 11) hi22)
        · refine gx_aload_n (pc := 28) hB dX5_purpose_28 0 rfl ?_
          refine gx_iload_n (pc := 29) hB dX5_purpose_29 1 rfl ?_
          refine gx_iload_n (pc := 30) hB dX5_purpose_30 2 rfl ?_
          refine gx_iload_n (pc := 31) hB dX5_purpose_31 2 rfl ?_
          refine gx_bipush (pc := 32) hB dX5_purpose_32 9 (by decide) ?_
          refine gx_icmp_ne (pc := 34) hB 42 dX5_purpose_34 (by decide) (fun c_6 => ?_) (fun c_6 => ?_)
          · refine gx_iconst (pc := 42) hB dX5_purpose_42 0 (by decide) ?_
            refine gx_dVv (pc := 43) (wr := []) hB (c_X5_putsPurpose l K m q1 q2 q3 q4 q5 q6 q7 q8 (purN S a i) (chP ru n P S) H T X Z (chn ru n) ru ty cl sp ca co a i 0 (by first | assumption | omega | decide) (by first | assumption | omega | decide)) mX5_putsPurpose dX5_purpose_43 tb_713 pX5_putsPurpose ⟨Nat.le_of_ble_eq_true rfl, Nat.le_of_ble_eq_true rfl⟩ ⟨rfl, rfl⟩ ⟨Nat.zero_le _, Nat.zero_le _⟩ rfl (Nat.le_of_ble_eq_true rfl) [0, 1, 2, 3, 4, 5, 6, 7, 8] [] rfl rfl (by decide) (by decide) (by decide) rfl rfl [0, 1, 2, 3, 4, 5, 6, 7, 8] (by decide) (wM K m q1 q2 q3 q4 q5 q6 q7 q8 (uP (purN S a i) a i 0) (chP ru n P S) H T X Z (chn ru n) ru ty cl sp ca co) rfl ?_
            refine gx_iinc (pc := 46) hB dX5_purpose_46 2 (by decide) rfl (nI (i + 1)) (nI_1 _) [(2, .int (nI (i + 1))), (0, .ref m), (1, .int (nI a))] rfl ?_
            refine gx_goto (pc := 49) hB 22 dX5_purpose_49 (by decide) ?_
            have w0 : uP (purN S a i) a i 0 = purN S a (i + 1) := by simp [mPurpose, mPurposeS, purN, purD, kpP, kpn, eq_false c_1, Int32.not_le.mp c_5, eq_false c_5, eq_false c_6]
            refine gx_sub hB (lv' := [(0, .ref m), (1, .int (nI a)), (2, .int (nI (i + 1)))]) [1, 2, 0] rfl ?_
            refine gx_all (ws' := wM K m q1 q2 q3 q4 q5 q6 q7 q8 (purN S a (i + 1)) (chP ru n P S) H T X Z (chn ru n) ru ty cl sp ca co) (lv' := [(0, .ref m), (1, .int (nI a)), (2, .int (nI (i + 1)))]) (by rw [← w0]) (rfl) ?_
            exact ih22 (i + 1) (by omega)
          · refine gx_bipush (pc := 37) hB dX5_purpose_37 (-4) (by decide) ?_
            refine gx_goto (pc := 39) hB 43 dX5_purpose_39 (by decide) ?_
            refine gx_dVv (pc := 43) (wr := []) hB (c_X5_putsPurpose l K m q1 q2 q3 q4 q5 q6 q7 q8 (purN S a i) (chP ru n P S) H T X Z (chn ru n) ru ty cl sp ca co a i (-4) (by first | assumption | omega | decide) (by first | assumption | omega | decide)) mX5_putsPurpose dX5_purpose_43 tb_713 pX5_putsPurpose ⟨Nat.le_of_ble_eq_true rfl, Nat.le_of_ble_eq_true rfl⟩ ⟨rfl, rfl⟩ ⟨Nat.zero_le _, Nat.zero_le _⟩ rfl (Nat.le_of_ble_eq_true rfl) [0, 1, 2, 3, 4, 5, 6, 7, 8] [] rfl rfl (by decide) (by decide) (by decide) rfl rfl [0, 1, 2, 3, 4, 5, 6, 7, 8] (by decide) (wM K m q1 q2 q3 q4 q5 q6 q7 q8 (uP (purN S a i) a i (-4)) (chP ru n P S) H T X Z (chn ru n) ru ty cl sp ca co) rfl ?_
            refine gx_iinc (pc := 46) hB dX5_purpose_46 2 (by decide) rfl (nI (i + 1)) (nI_1 _) [(2, .int (nI (i + 1))), (0, .ref m), (1, .int (nI a))] rfl ?_
            refine gx_goto (pc := 49) hB 22 dX5_purpose_49 (by decide) ?_
            have w0 : uP (purN S a i) a i (-4) = purN S a (i + 1) := by simp [mPurpose, mPurposeS, purN, purD, kpP, kpn, eq_false c_1, Int32.not_le.mp c_5, eq_false c_5, eq_true c_6]
            refine gx_sub hB (lv' := [(0, .ref m), (1, .int (nI a)), (2, .int (nI (i + 1)))]) [1, 2, 0] rfl ?_
            refine gx_all (ws' := wM K m q1 q2 q3 q4 q5 q6 q7 q8 (purN S a (i + 1)) (chP ru n P S) H T X Z (chn ru n) ru ty cl sp ca co) (lv' := [(0, .ref m), (1, .int (nI a)), (2, .int (nI (i + 1)))]) (by rw [← w0]) (rfl) ?_
            exact ih22 (i + 1) (by omega)
    refine gx_sub hB (lv' := [(0, .ref m), (1, .int (nI a)), (2, .int 0)]) [2, 1, 0] rfl ?_
    refine gx_all (ws' := wM K m q1 q2 q3 q4 q5 q6 q7 q8 (purN S a 0) (chP ru n P S) H T X Z (chn ru n) ru ty cl sp ca co) (lv' := [(0, .ref m), (1, .int (nI a)), (2, .int (nI 0))]) (rfl) (rfl) ?_
    exact loop_22 (11) 0 (by omega)
  · refine gx_bipush (pc := 13) hB dX5_purpose_13 (-3) (by decide) ?_
    have e1 : ((mPurpose S a).1) = (-3) := by simp [mPurpose, mPurposeS, purN, purD, kpP, kpn, eq_true c_1]
    have f0 : ((mPurpose S a).2.2) = S := by simp [mPurpose, mPurposeS, purN, purD, kpP, kpn, eq_true c_1]
    have f1 : (kpP (mPurpose S a).2.1 ru n P S) = P := by simp [mPurpose, mPurposeS, purN, purD, kpP, kpn, eq_true c_1]
    have f2 : (kpn (mPurpose S a).2.1 ru n) = n := by simp [mPurpose, mPurposeS, purN, purD, kpP, kpn, eq_true c_1]
    exact gx_iret (pc := 15) hC dX5_purpose_15 (Nat.zero_le _) (Nat.zero_le _) (⟨by rw [e1], by rw [f0, f1, f2]⟩)
theorem pX5_donor : (parseMethodDescriptor yX5_donor.desc).map (fun d => d.parameters.length) = some 0 := by decide +kernel
theorem mX5_donor : gx_M yX5_donor cX5_donor 3 (some .int) := ⟨tb_786, tb_787, tb_73, tb_788, by decide, by decide⟩
set_option maxHeartbeats 4000000 in
set_option maxRecDepth 100000 in
theorem c_X5_donor (l : Launch) (K : gx_K) (m q1 q2 q3 q4 q5 q6 q7 q8 : Nat) (S P H T X Z : Nat → Int32) (n : Nat) (ru : Bool) (ty : Nat) (cl : Int32) (sp : Nat) (ca : Int32) (co : Nat) (a b c e : Nat)  (h0 : sOk S a b c e) (h1 : n ≤ 4) : gx_Ctr l K yX5_donor cX5_donor 3 (some .int) (rmm 2 23) [.ref m] (wM K m q1 q2 q3 q4 q5 q6 q7 q8 S P H T X Z n ru ty cl sp ca co) (gx_D (some (.int ((mDonor S b).1))) (wM K m q1 q2 q3 q4 q5 q6 q7 q8 ((mDonor S b).2.2) (kpP (mDonor S b).2.1 ru n P S) H T X Z (kpn (mDonor S b).2.1 ru n) ru ty cl sp ca co)) := by
  refine gx_of (by decide) (Nat.le_of_ble_eq_true rfl) (fun G hC => ?_)
  have hB := hC.b
  refine gx_lv (lv' := [(0, .ref m)]) rfl ?_
  have hb0 := h0.1
  refine gx_aload_n (pc := 0) hB dX5_donor_0 0 rfl ?_
  refine gx_get (pc := 1) hB dX5_donor_1 inX5 rfl 0 rfl 0 (by decide) tb_726 rfl rfl ?_
  refine gx_iconst (pc := 4) hB dX5_donor_4 3 (by decide) ?_
  refine gx_iald (pc := 5) hB dX5_donor_5 1 1 rfl rfl 3 rfl (by decide) (by decide) ?_
  refine gx_top (show S 3 = nI b from h0.1.2.1) ?_
  refine gx_istore_n (pc := 6) hB dX5_donor_6 (by decide) [(1, .int (nI b)), (0, .ref m)] rfl ?_
  refine gx_iload_n (pc := 7) hB dX5_donor_7 0 rfl ?_
  refine gx_bipush (pc := 8) hB dX5_donor_8 8 (by decide) ?_
  refine gx_icmp_ne (pc := 10) hB 16 dX5_donor_10 (by decide) (fun c_1 => ?_) (fun c_1 => ?_)
  · have hbl : b < 8 := nI_ne (n := 8) c_1 (by omega)
    refine gx_aload_n (pc := 16) hB dX5_donor_16 1 rfl ?_
    refine gx_dVv (pc := 17) (wr := []) hB (c_X5_changes l K m q1 q2 q3 q4 q5 q6 q7 q8 S P H T X Z n ru ty cl sp ca co (by first | assumption | omega | decide)) mX5_changes dX5_donor_17 tb_777 pX5_changes ⟨Nat.le_of_ble_eq_true rfl, Nat.le_of_ble_eq_true rfl⟩ ⟨rfl, rfl⟩ ⟨Nat.zero_le _, Nat.zero_le _⟩ rfl (Nat.le_of_ble_eq_true rfl) [0, 1, 2, 3, 4, 5, 6, 7, 8] [] rfl rfl (by decide) (by decide) (by decide) rfl rfl [0, 1, 2, 3, 4, 5, 6, 7, 8] (by decide) (wM K m q1 q2 q3 q4 q5 q6 q7 q8 S (chP ru n P S) H T X Z (chn ru n) ru ty cl sp ca co) rfl ?_
    refine gx_aload_n (pc := 20) hB dX5_donor_20 1 rfl ?_
    refine gx_iload_n (pc := 21) hB dX5_donor_21 0 rfl ?_
    refine gx_iconst (pc := 22) hB dX5_donor_22 0 (by decide) ?_
    refine gx_iconst (pc := 23) hB dX5_donor_23 0 (by decide) ?_
    refine gx_dVv (pc := 24) (wr := []) hB (c_X5_putsDonor l K m q1 q2 q3 q4 q5 q6 q7 q8 S (chP ru n P S) H T X Z (chn ru n) ru ty cl sp ca co b 0 0 (by first | assumption | omega | decide) (by first | assumption | omega | decide)) mX5_putsDonor dX5_donor_24 tb_781 pX5_putsDonor ⟨Nat.le_of_ble_eq_true rfl, Nat.le_of_ble_eq_true rfl⟩ ⟨rfl, rfl⟩ ⟨Nat.zero_le _, Nat.zero_le _⟩ rfl (Nat.le_of_ble_eq_true rfl) [0, 1, 2, 3, 4, 5, 6, 7, 8] [] rfl rfl (by decide) (by decide) (by decide) rfl rfl [0, 1, 2, 3, 4, 5, 6, 7, 8] (by decide) (wM K m q1 q2 q3 q4 q5 q6 q7 q8 (uD S b 0 0) (chP ru n P S) H T X Z (chn ru n) ru ty cl sp ca co) rfl ?_
    refine gx_iconst (pc := 27) hB dX5_donor_27 0 (by decide) ?_
    refine gx_istore_n (pc := 28) hB dX5_donor_28 (by decide) [(2, .int 0), (1, .int (nI b)), (0, .ref m)] rfl ?_
    have loop_29 : ∀ dq i : Nat, i + dq = 6 → G 0 0 (wM K m q1 q2 q3 q4 q5 q6 q7 q8 (donN (uD S b 0 0) b i) (chP ru n P S) H T X Z (chn ru n) ru ty cl sp ca co) [(0, .ref m), (1, .int (nI b)), (2, .int (nI i))] 29 [] := by
      intro dq
      induction dq with
      | zero =>
        intro i hi29
        obtain rfl : 6 = i := by omega
        refine gx_iload_n (pc := 29) hB dX5_donor_29 2 rfl ?_
        refine gx_bipush (pc := 30) hB dX5_donor_30 6 (by decide) ?_
        refine gx_icmp_ge (pc := 32) hB 51 dX5_donor_32 (by decide) (fun c_2 => ?_) (fun c_2 => ?_)
        · refine gx_aload_n (pc := 51) hB dX5_donor_51 0 rfl ?_
          refine gx_get (pc := 52) hB dX5_donor_52 inX5 rfl 0 rfl 0 (by decide) tb_726 rfl rfl ?_
          refine gx_iconst (pc := 55) hB dX5_donor_55 3 (by decide) ?_
          refine gx_dup2 (pc := 56) hB dX5_donor_56 rfl rfl ?_
          refine gx_iald (pc := 57) hB dX5_donor_57 1 1 rfl rfl 3 rfl (by decide) (by decide) ?_
          refine gx_iconst (pc := 58) hB dX5_donor_58 1 (by decide) ?_
          refine gx_iadd (pc := 59) hB dX5_donor_59 ?_
          refine gx_iast (pc := 60) hB dX5_donor_60 1 1 rfl rfl 3 rfl (by decide) (by decide) (wM K m q1 q2 q3 q4 q5 q6 q7 q8 (upd (donN (uD S b 0 0) b 6) 3 (((donN (uD S b 0 0) b 6) 3) + 1)) (chP ru n P S) H T X Z (chn ru n) ru ty cl sp ca co) rfl ?_
          refine gx_iload_n (pc := 61) hB dX5_donor_61 1 rfl ?_
          have e1 : ((mDonor S b).1) = nI b := by simp [mDonor, mDonorS, kpP, kpn, eq_false c_1, c_2, eq_false (Int32.not_lt.mpr c_2)]
          have f0 : ((mDonor S b).2.2) = (upd (donN (uD S b 0 0) b 6) 3 (((donN (uD S b 0 0) b 6) 3) + 1)) := by simp [mDonor, mDonorS, kpP, kpn, eq_false c_1, c_2, eq_false (Int32.not_lt.mpr c_2)]
          have f1 : (kpP (mDonor S b).2.1 ru n P S) = chP ru n P S := by simp [mDonor, mDonorS, kpP, kpn, eq_false c_1, c_2, eq_false (Int32.not_lt.mpr c_2)]
          have f2 : (kpn (mDonor S b).2.1 ru n) = chn ru n := by simp [mDonor, mDonorS, kpP, kpn, eq_false c_1, c_2, eq_false (Int32.not_lt.mpr c_2)]
          exact gx_iret (pc := 62) hC dX5_donor_62 (Nat.zero_le _) (Nat.zero_le _) (⟨by rw [e1], by rw [f0, f1, f2]⟩)
        · exact absurd (lpT (x := 6) hi29) c_2
      | succ dq ih29 =>
        intro i hi29
        refine gx_iload_n (pc := 29) hB dX5_donor_29 2 rfl ?_
        refine gx_bipush (pc := 30) hB dX5_donor_30 6 (by decide) ?_
        refine gx_icmp_ge (pc := 32) hB 51 dX5_donor_32 (by decide) (fun c_3 => ?_) (fun c_3 => ?_)
        · exact absurd c_3 (lpF (x := 6) hi29)
        · refine gx_aload_n (pc := 35) hB dX5_donor_35 0 rfl ?_
          refine gx_iload_n (pc := 36) hB dX5_donor_36 1 rfl ?_
          refine gx_iconst (pc := 37) hB dX5_donor_37 1 (by decide) ?_
          refine gx_iload_n (pc := 38) hB dX5_donor_38 2 rfl ?_
          refine gx_iadd (pc := 39) hB dX5_donor_39 ?_
          refine gx_top (show 1 + nI i = nI (1 + i) from nI_add 1 i) ?_
          refine gx_bipush (pc := 40) hB dX5_donor_40 (-4) (by decide) ?_
          refine gx_dVv (pc := 42) (wr := []) hB (c_X5_putsDonor l K m q1 q2 q3 q4 q5 q6 q7 q8 (donN (uD S b 0 0) b i) (chP ru n P S) H T X Z (chn ru n) ru ty cl sp ca co b (1 + i) (-4) (by first | assumption | omega | decide) (by first | assumption | omega | decide)) mX5_putsDonor dX5_donor_42 tb_781 pX5_putsDonor ⟨Nat.le_of_ble_eq_true rfl, Nat.le_of_ble_eq_true rfl⟩ ⟨rfl, rfl⟩ ⟨Nat.zero_le _, Nat.zero_le _⟩ rfl (Nat.le_of_ble_eq_true rfl) [0, 1, 2, 3, 4, 5, 6, 7, 8] [] rfl rfl (by decide) (by decide) (by decide) rfl rfl [0, 1, 2, 3, 4, 5, 6, 7, 8] (by decide) (wM K m q1 q2 q3 q4 q5 q6 q7 q8 (uD (donN (uD S b 0 0) b i) b (1 + i) (-4)) (chP ru n P S) H T X Z (chn ru n) ru ty cl sp ca co) rfl ?_
          refine gx_iinc (pc := 45) hB dX5_donor_45 2 (by decide) rfl (nI (i + 1)) (nI_1 _) [(2, .int (nI (i + 1))), (0, .ref m), (1, .int (nI b))] rfl ?_
          refine gx_goto (pc := 48) hB 29 dX5_donor_48 (by decide) ?_
          have w0 : uD (donN (uD S b 0 0) b i) b (1 + i) (-4) = donN (uD S b 0 0) b (i + 1) := by simp [mDonor, mDonorS, donN, kpP, kpn, eq_false c_1, Int32.not_le.mp c_3, eq_false c_3]
          refine gx_sub hB (lv' := [(0, .ref m), (1, .int (nI b)), (2, .int (nI (i + 1)))]) [1, 2, 0] rfl ?_
          refine gx_all (ws' := wM K m q1 q2 q3 q4 q5 q6 q7 q8 (donN (uD S b 0 0) b (i + 1)) (chP ru n P S) H T X Z (chn ru n) ru ty cl sp ca co) (lv' := [(0, .ref m), (1, .int (nI b)), (2, .int (nI (i + 1)))]) (by rw [← w0]) (rfl) ?_
          exact ih29 (i + 1) (by omega)
    refine gx_sub hB (lv' := [(0, .ref m), (1, .int (nI b)), (2, .int 0)]) [2, 1, 0] rfl ?_
    refine gx_all (ws' := wM K m q1 q2 q3 q4 q5 q6 q7 q8 (donN (uD S b 0 0) b 0) (chP ru n P S) H T X Z (chn ru n) ru ty cl sp ca co) (lv' := [(0, .ref m), (1, .int (nI b)), (2, .int (nI 0))]) (rfl) (rfl) ?_
    exact loop_29 (6) 0 (by omega)
  · refine gx_bipush (pc := 13) hB dX5_donor_13 (-3) (by decide) ?_
    have e1 : ((mDonor S b).1) = (-3) := by simp [mDonor, mDonorS, donN, kpP, kpn, eq_true c_1]
    have f0 : ((mDonor S b).2.2) = S := by simp [mDonor, mDonorS, donN, kpP, kpn, eq_true c_1]
    have f1 : (kpP (mDonor S b).2.1 ru n P S) = P := by simp [mDonor, mDonorS, donN, kpP, kpn, eq_true c_1]
    have f2 : (kpn (mDonor S b).2.1 ru n) = n := by simp [mDonor, mDonorS, donN, kpP, kpn, eq_true c_1]
    exact gx_iret (pc := 15) hC dX5_donor_15 (Nat.zero_le _) (Nat.zero_le _) (⟨by rw [e1], by rw [f0, f1, f2]⟩)
theorem pX5_declare : (parseMethodDescriptor yX5_declare.desc).map (fun d => d.parameters.length) = some 2 := by decide +kernel
theorem mX5_declare : gx_M yX5_declare cX5_declare 4 (some .int) := ⟨tb_790, tb_791, tb_73, tb_792, by decide, by decide⟩
set_option maxHeartbeats 4000000 in
set_option maxRecDepth 100000 in
theorem c_X5_declare (l : Launch) (K : gx_K) (m q1 q2 q3 q4 q5 q6 q7 q8 : Nat) (S P H T X Z : Nat → Int32) (n : Nat) (ru : Bool) (ty : Nat) (cl : Int32) (sp : Nat) (ca : Int32) (co : Nat) (a b c e : Nat) (x y : Int32) (h0 : sOk S a b c e) (h1 : n ≤ 4) : gx_Ctr l K yX5_declare cX5_declare 4 (some .int) (rmm 2 23) [.ref m, .int x, .int y] (wM K m q1 q2 q3 q4 q5 q6 q7 q8 S P H T X Z n ru ty cl sp ca co) (gx_D (some (.int ((mDeclare S x y).1))) (wM K m q1 q2 q3 q4 q5 q6 q7 q8 ((mDeclare S x y).2.2) (kpP (mDeclare S x y).2.1 ru n P S) H T X Z (kpn (mDeclare S x y).2.1 ru n) ru ty cl sp ca co)) := by
  refine gx_of (by decide) (Nat.le_of_ble_eq_true rfl) (fun G hC => ?_)
  have hB := hC.b
  refine gx_lv (lv' := [(0, .ref m), (1, .int x), (2, .int y)]) rfl ?_
  have hb0 := h0.1
  refine gx_aload_n (pc := 0) hB dX5_declare_0 0 rfl ?_
  refine gx_iload_n (pc := 1) hB dX5_declare_1 1 rfl ?_
  refine gx_dVi (pc := 2) (r := bI (sIsD S x)) (wr := []) hB (c_X5_isDonor l K m q1 q2 q3 q4 q5 q6 q7 q8 S P H T X Z n ru ty cl sp ca co x ) mX5_isDonor dX5_declare_2 tb_793 pX5_isDonor ⟨Nat.le_of_ble_eq_true rfl, Nat.le_of_ble_eq_true rfl⟩ ⟨rfl, rfl⟩ ⟨Nat.zero_le _, Nat.zero_le _⟩ rfl (Nat.le_of_ble_eq_true rfl) [0, 1, 2, 3, 4, 5, 6, 7, 8] [] rfl rfl (by decide) (by decide) (by decide) rfl rfl [0, 1, 2, 3, 4, 5, 6, 7, 8] (by decide) (wM K m q1 q2 q3 q4 q5 q6 q7 q8 S P H T X Z n ru ty cl sp ca co) rfl ?_
  refine gx_if_eq_b (pc := 5) hB 17 dX5_declare_5 (by decide) (fun c_1 => ?_) (fun c_1 => ?_)
  · refine gx_iconst (pc := 17) hB dX5_declare_17 (-1) (by decide) ?_
    have e1 : ((mDeclare S x y).1) = (-1) := by simp [mDeclare, kpP, kpn, c_1]
    have f0 : ((mDeclare S x y).2.2) = S := by simp [mDeclare, kpP, kpn, c_1]
    have f1 : (kpP (mDeclare S x y).2.1 ru n P S) = P := by simp [mDeclare, kpP, kpn, c_1]
    have f2 : (kpn (mDeclare S x y).2.1 ru n) = n := by simp [mDeclare, kpP, kpn, c_1]
    exact gx_iret (pc := 18) hC dX5_declare_18 (Nat.zero_le _) (Nat.zero_le _) (⟨by rw [e1], by rw [f0, f1, f2]⟩)
  · obtain ⟨d, h_d, rfl⟩ := isD_of h0 c_1
    have s_d : (nI d).toNatClampNeg = d := nI_clamp (by omega)
    refine gx_iload_n (pc := 8) hB dX5_declare_8 2 rfl ?_
    refine gx_iconst (pc := 9) hB dX5_declare_9 0 (by decide) ?_
    refine gx_iconst (pc := 10) hB dX5_declare_10 1 (by decide) ?_
    refine gx_dSi (pc := 11) (r := bI (bIn y 0 1)) (wr := [(m, .inr (5, [.ref q1, .ref q2, .ref q3, .ref q4, .int (nI n), .int (bI ru), .ref q5, .int (nI ty), .ref q6, .ref q7, .int cl, .int (nI sp), .int ca, .int (nI co), .ref q8])), (q1, .inl (K.2.1.2.1, 345, .inl S)), (q2, .inl (K.2.1.2.1, 1380, .inl P)), (q3, .inl (K.2.1.2.1, 345, .inl H)), (q4, .inl (K.2.1.2.1, 345, .inl T)), (q5, .inl (K.2.1.2.1, 80, .inl X)), (q6, .inl (K.2.1.2.2.1, 9, .inr (.inl mW))), (q7, .inl (K.2.1.2.1, 9, .inl mN)), (q8, .inl (K.2.1.2.1, 4, .inl Z))]) hB (c_X5_in l K y 0 1 ) mX5_in dX5_declare_11 tb_797 pX5_in ⟨Nat.le_of_ble_eq_true rfl, Nat.le_of_ble_eq_true rfl⟩ ⟨rfl, rfl⟩ ⟨Nat.zero_le _, Nat.zero_le _⟩ rfl (Nat.le_of_ble_eq_true rfl) [] [0, 1, 2, 3, 4, 5, 6, 7, 8] rfl rfl (by decide) (by decide) (by decide) [0, 1, 2, 3, 4, 5, 6, 7, 8] (by decide) (wM K m q1 q2 q3 q4 q5 q6 q7 q8 S P H T X Z n ru ty cl sp ca co) rfl ?_
    refine gx_if_ne_b (pc := 14) hB 19 dX5_declare_14 (by decide) (fun c_2 => ?_) (fun c_2 => ?_)
    · refine gx_aload_n (pc := 19) hB dX5_declare_19 0 rfl ?_
      refine gx_dVv (pc := 20) (wr := []) hB (c_X5_changes l K m q1 q2 q3 q4 q5 q6 q7 q8 S P H T X Z n ru ty cl sp ca co (by first | assumption | omega | decide)) mX5_changes dX5_declare_20 tb_777 pX5_changes ⟨Nat.le_of_ble_eq_true rfl, Nat.le_of_ble_eq_true rfl⟩ ⟨rfl, rfl⟩ ⟨Nat.zero_le _, Nat.zero_le _⟩ rfl (Nat.le_of_ble_eq_true rfl) [0, 1, 2, 3, 4, 5, 6, 7, 8] [] rfl rfl (by decide) (by decide) (by decide) rfl rfl [0, 1, 2, 3, 4, 5, 6, 7, 8] (by decide) (wM K m q1 q2 q3 q4 q5 q6 q7 q8 S (chP ru n P S) H T X Z (chn ru n) ru ty cl sp ca co) rfl ?_
      refine gx_aload_n (pc := 23) hB dX5_declare_23 0 rfl ?_
      refine gx_iload_n (pc := 24) hB dX5_declare_24 1 rfl ?_
      refine gx_iconst (pc := 25) hB dX5_declare_25 0 (by decide) ?_
      refine gx_dVi (pc := 26) (r := sD S d 0) (wr := []) hB (c_X5_ofDonor l K m q1 q2 q3 q4 q5 q6 q7 q8 S (chP ru n P S) H T X Z (chn ru n) ru ty cl sp ca co d 0 (by first | assumption | omega | decide) (by first | assumption | omega | decide)) mX5_ofDonor dX5_declare_26 tb_800 pX5_ofDonor ⟨Nat.le_of_ble_eq_true rfl, Nat.le_of_ble_eq_true rfl⟩ ⟨rfl, rfl⟩ ⟨Nat.zero_le _, Nat.zero_le _⟩ rfl (Nat.le_of_ble_eq_true rfl) [0, 1, 2, 3, 4, 5, 6, 7, 8] [] rfl rfl (by decide) (by decide) (by decide) rfl rfl [0, 1, 2, 3, 4, 5, 6, 7, 8] (by decide) (wM K m q1 q2 q3 q4 q5 q6 q7 q8 S (chP ru n P S) H T X Z (chn ru n) ru ty cl sp ca co) rfl ?_
      refine gx_istore_n (pc := 29) hB dX5_declare_29 (by decide) [(3, .int (sD S d 0)), (0, .ref m), (1, .int (nI d)), (2, .int y)] rfl ?_
      refine gx_aload_n (pc := 30) hB dX5_declare_30 1 rfl ?_
      refine gx_iload_n (pc := 31) hB dX5_declare_31 2 rfl ?_
      refine gx_iconst (pc := 32) hB dX5_declare_32 0 (by decide) ?_
      refine gx_iload_n (pc := 33) hB dX5_declare_33 3 rfl ?_
      refine gx_dVv (pc := 34) (wr := []) hB (c_X5_putsDonor l K m q1 q2 q3 q4 q5 q6 q7 q8 S (chP ru n P S) H T X Z (chn ru n) ru ty cl sp ca co d 0 y (by first | assumption | omega | decide) (by first | assumption | omega | decide)) mX5_putsDonor dX5_declare_34 tb_781 pX5_putsDonor ⟨Nat.le_of_ble_eq_true rfl, Nat.le_of_ble_eq_true rfl⟩ ⟨rfl, rfl⟩ ⟨Nat.zero_le _, Nat.zero_le _⟩ rfl (Nat.le_of_ble_eq_true rfl) [0, 1, 2, 3, 4, 5, 6, 7, 8] [] rfl rfl (by decide) (by decide) (by decide) rfl rfl [0, 1, 2, 3, 4, 5, 6, 7, 8] (by decide) (wM K m q1 q2 q3 q4 q5 q6 q7 q8 (uD S d 0 y) (chP ru n P S) H T X Z (chn ru n) ru ty cl sp ca co) rfl ?_
      refine gx_iload_n (pc := 37) hB dX5_declare_37 0 rfl ?_
      have e1 : ((mDeclare S (nI d) y).1) = sD S d 0 := by simp [mDeclare, kpP, kpn, c_1, s_d, c_2]
      have f0 : ((mDeclare S (nI d) y).2.2) = uD S d 0 y := by simp [mDeclare, kpP, kpn, c_1, s_d, c_2]
      have f1 : (kpP (mDeclare S (nI d) y).2.1 ru n P S) = chP ru n P S := by simp [mDeclare, kpP, kpn, c_1, s_d, c_2]
      have f2 : (kpn (mDeclare S (nI d) y).2.1 ru n) = chn ru n := by simp [mDeclare, kpP, kpn, c_1, s_d, c_2]
      exact gx_iret (pc := 38) hC dX5_declare_38 (Nat.zero_le _) (Nat.zero_le _) (⟨by rw [e1], by rw [f0, f1, f2]⟩)
    · refine gx_iconst (pc := 17) hB dX5_declare_17 (-1) (by decide) ?_
      have e1 : ((mDeclare S (nI d) y).1) = (-1) := by simp [mDeclare, kpP, kpn, c_1, s_d, c_2]
      have f0 : ((mDeclare S (nI d) y).2.2) = S := by simp [mDeclare, kpP, kpn, c_1, s_d, c_2]
      have f1 : (kpP (mDeclare S (nI d) y).2.1 ru n P S) = P := by simp [mDeclare, kpP, kpn, c_1, s_d, c_2]
      have f2 : (kpn (mDeclare S (nI d) y).2.1 ru n) = n := by simp [mDeclare, kpP, kpn, c_1, s_d, c_2]
      exact gx_iret (pc := 18) hC dX5_declare_18 (Nat.zero_le _) (Nat.zero_le _) (⟨by rw [e1], by rw [f0, f1, f2]⟩)
theorem pX5_gives : (parseMethodDescriptor yX5_gives.desc).map (fun d => d.parameters.length) = some 4 := by decide +kernel
theorem mX5_gives : gx_M yX5_gives cX5_gives 7 (some .int) := ⟨tb_822, tb_42, tb_73, tb_823, by decide, by decide⟩
set_option maxHeartbeats 4000000 in
set_option maxRecDepth 100000 in
theorem c_X5_gives (l : Launch) (K : gx_K) (m q1 q2 q3 q4 q5 q6 q7 q8 : Nat) (S P H T X Z : Nat → Int32) (n : Nat) (ru : Bool) (ty : Nat) (cl : Int32) (sp : Nat) (ca : Int32) (co : Nat) (c : Nat) (x : Int32) (p : Nat) (z u : Int32) (h0 : S 4 = nI c) (h1 : c < 24) (h2 : p < 6) : gx_Ctr l K yX5_gives cX5_gives 7 (some .int) (rmm 2 23) [.ref m, .int x, .int (nI p), .int z, .int u] (wM K m q1 q2 q3 q4 q5 q6 q7 q8 S P H T X Z n ru ty cl sp ca co) (gx_D (some (.int (nI c))) (wM K m q1 q2 q3 q4 q5 q6 q7 q8 (mGives S c x p z u) P H T X Z n ru ty cl sp ca co)) := by
  refine gx_of (by decide) (Nat.le_of_ble_eq_true rfl) (fun G hC => ?_)
  have hB := hC.b
  refine gx_lv (lv' := [(0, .ref m), (1, .int x), (2, .int (nI p)), (3, .int z), (4, .int u)]) rfl ?_
  refine gx_aload_n (pc := 0) hB dX5_gives_0 0 rfl ?_
  refine gx_get (pc := 1) hB dX5_gives_1 inX5 rfl 0 rfl 0 (by decide) tb_726 rfl rfl ?_
  refine gx_iconst (pc := 4) hB dX5_gives_4 4 (by decide) ?_
  refine gx_iald (pc := 5) hB dX5_gives_5 1 1 rfl rfl 4 rfl (by decide) (by decide) ?_
  refine gx_top (show S 4 = nI c from h0) ?_
  refine gx_istore (pc := 6) hB dX5_gives_6 (by decide) [(5, .int (nI c)), (0, .ref m), (1, .int x), (2, .int (nI p)), (3, .int z), (4, .int u)] rfl ?_
  refine gx_sipush (pc := 8) hB dX5_gives_8 129 (by decide) ?_
  refine gx_bipush (pc := 11) hB dX5_gives_11 7 (by decide) ?_
  refine gx_iload (pc := 13) hB dX5_gives_13 0 rfl ?_
  refine gx_imul (pc := 15) hB dX5_gives_15 ?_
  refine gx_top (show 7 * nI c = nI (7 * c) from pk_mul 7 c) ?_
  refine gx_iadd (pc := 16) hB dX5_gives_16 ?_
  refine gx_top (show 129 + (nI (7 * c)) = nI (129 + (7 * c)) from nI_add 129 (7 * c)) ?_
  refine gx_istore (pc := 17) hB dX5_gives_17 (by decide) [(6, .int (nI (129 + (7 * c)))), (5, .int (nI c)), (0, .ref m), (1, .int x), (2, .int (nI p)), (3, .int z), (4, .int u)] rfl ?_
  refine gx_aload_n (pc := 19) hB dX5_gives_19 2 rfl ?_
  refine gx_get (pc := 20) hB dX5_gives_20 inX5 rfl 0 rfl 0 (by decide) tb_726 rfl rfl ?_
  refine gx_iload (pc := 23) hB dX5_gives_23 0 rfl ?_
  refine gx_iconst (pc := 25) hB dX5_gives_25 0 (by decide) ?_
  refine gx_iadd (pc := 26) hB dX5_gives_26 ?_
  refine gx_top (show (nI (129 + (7 * c))) + 0 = (nI (129 + (7 * c))) from Int32.add_zero _) ?_
  refine gx_iload_n (pc := 27) hB dX5_gives_27 3 rfl ?_
  refine gx_iast (pc := 28) hB dX5_gives_28 1 1 rfl rfl (129 + (7 * c)) rfl (by omega) (by decide) (wM K m q1 q2 q3 q4 q5 q6 q7 q8 (upd S (129 + (7 * c)) x) P H T X Z n ru ty cl sp ca co) rfl ?_
  refine gx_aload_n (pc := 29) hB dX5_gives_29 2 rfl ?_
  refine gx_get (pc := 30) hB dX5_gives_30 inX5 rfl 0 rfl 0 (by decide) tb_726 rfl rfl ?_
  refine gx_iload (pc := 33) hB dX5_gives_33 0 rfl ?_
  refine gx_iconst (pc := 35) hB dX5_gives_35 1 (by decide) ?_
  refine gx_iadd (pc := 36) hB dX5_gives_36 ?_
  refine gx_top (show (nI (129 + (7 * c))) + 1 = nI (129 + (7 * c) + 1) from nI_add (129 + (7 * c)) 1) ?_
  refine gx_iload_n (pc := 37) hB dX5_gives_37 4 rfl ?_
  refine gx_iast (pc := 38) hB dX5_gives_38 1 1 rfl rfl (129 + (7 * c) + 1) rfl (by omega) (by decide) (wM K m q1 q2 q3 q4 q5 q6 q7 q8 (upd (upd S (129 + (7 * c)) x) (129 + (7 * c) + 1) (nI p)) P H T X Z n ru ty cl sp ca co) rfl ?_
  refine gx_aload_n (pc := 39) hB dX5_gives_39 2 rfl ?_
  refine gx_get (pc := 40) hB dX5_gives_40 inX5 rfl 0 rfl 0 (by decide) tb_726 rfl rfl ?_
  refine gx_iload (pc := 43) hB dX5_gives_43 0 rfl ?_
  refine gx_iconst (pc := 45) hB dX5_gives_45 2 (by decide) ?_
  refine gx_iadd (pc := 46) hB dX5_gives_46 ?_
  refine gx_top (show (nI (129 + (7 * c))) + 2 = nI (129 + (7 * c) + 2) from nI_add (129 + (7 * c)) 2) ?_
  refine gx_iload_n (pc := 47) hB dX5_gives_47 5 rfl ?_
  refine gx_iast (pc := 48) hB dX5_gives_48 1 1 rfl rfl (129 + (7 * c) + 2) rfl (by omega) (by decide) (wM K m q1 q2 q3 q4 q5 q6 q7 q8 (upd (upd (upd S (129 + (7 * c)) x) (129 + (7 * c) + 1) (nI p)) (129 + (7 * c) + 2) z) P H T X Z n ru ty cl sp ca co) rfl ?_
  refine gx_aload_n (pc := 49) hB dX5_gives_49 2 rfl ?_
  refine gx_get (pc := 50) hB dX5_gives_50 inX5 rfl 0 rfl 0 (by decide) tb_726 rfl rfl ?_
  refine gx_iload (pc := 53) hB dX5_gives_53 0 rfl ?_
  refine gx_iconst (pc := 55) hB dX5_gives_55 3 (by decide) ?_
  refine gx_iadd (pc := 56) hB dX5_gives_56 ?_
  refine gx_top (show (nI (129 + (7 * c))) + 3 = nI (129 + (7 * c) + 3) from nI_add (129 + (7 * c)) 3) ?_
  refine gx_aload_n (pc := 57) hB dX5_gives_57 2 rfl ?_
  refine gx_get (pc := 58) hB dX5_gives_58 inX5 rfl 0 rfl 0 (by decide) tb_726 rfl rfl ?_
  refine gx_bipush (pc := 61) hB dX5_gives_61 6 (by decide) ?_
  refine gx_iald (pc := 63) hB dX5_gives_63 1 1 rfl rfl 6 rfl (by decide) (by decide) ?_
  refine gx_iast (pc := 64) hB dX5_gives_64 1 1 rfl rfl (129 + (7 * c) + 3) rfl (by omega) (by decide) (wM K m q1 q2 q3 q4 q5 q6 q7 q8 (upd (upd (upd (upd S (129 + (7 * c)) x) (129 + (7 * c) + 1) (nI p)) (129 + (7 * c) + 2) z) (129 + (7 * c) + 3) ((upd (upd (upd S (129 + (7 * c)) x) (129 + (7 * c) + 1) (nI p)) (129 + (7 * c) + 2) z) 6)) P H T X Z n ru ty cl sp ca co) rfl ?_
  refine gx_aload_n (pc := 65) hB dX5_gives_65 2 rfl ?_
  refine gx_get (pc := 66) hB dX5_gives_66 inX5 rfl 0 rfl 0 (by decide) tb_726 rfl rfl ?_
  refine gx_iload (pc := 69) hB dX5_gives_69 0 rfl ?_
  refine gx_iconst (pc := 71) hB dX5_gives_71 4 (by decide) ?_
  refine gx_iadd (pc := 72) hB dX5_gives_72 ?_
  refine gx_top (show (nI (129 + (7 * c))) + 4 = nI (129 + (7 * c) + 4) from nI_add (129 + (7 * c)) 4) ?_
  refine gx_iconst (pc := 73) hB dX5_gives_73 0 (by decide) ?_
  refine gx_iast (pc := 74) hB dX5_gives_74 1 1 rfl rfl (129 + (7 * c) + 4) rfl (by omega) (by decide) (wM K m q1 q2 q3 q4 q5 q6 q7 q8 (upd (upd (upd (upd (upd S (129 + (7 * c)) x) (129 + (7 * c) + 1) (nI p)) (129 + (7 * c) + 2) z) (129 + (7 * c) + 3) ((upd (upd (upd S (129 + (7 * c)) x) (129 + (7 * c) + 1) (nI p)) (129 + (7 * c) + 2) z) 6)) (129 + (7 * c) + 4) 0) P H T X Z n ru ty cl sp ca co) rfl ?_
  refine gx_aload_n (pc := 75) hB dX5_gives_75 2 rfl ?_
  refine gx_get (pc := 76) hB dX5_gives_76 inX5 rfl 0 rfl 0 (by decide) tb_726 rfl rfl ?_
  refine gx_iload (pc := 79) hB dX5_gives_79 0 rfl ?_
  refine gx_iconst (pc := 81) hB dX5_gives_81 5 (by decide) ?_
  refine gx_iadd (pc := 82) hB dX5_gives_82 ?_
  refine gx_top (show (nI (129 + (7 * c))) + 5 = nI (129 + (7 * c) + 5) from nI_add (129 + (7 * c)) 5) ?_
  refine gx_iconst (pc := 83) hB dX5_gives_83 0 (by decide) ?_
  refine gx_iast (pc := 84) hB dX5_gives_84 1 1 rfl rfl (129 + (7 * c) + 5) rfl (by omega) (by decide) (wM K m q1 q2 q3 q4 q5 q6 q7 q8 (upd (upd (upd (upd (upd (upd S (129 + (7 * c)) x) (129 + (7 * c) + 1) (nI p)) (129 + (7 * c) + 2) z) (129 + (7 * c) + 3) ((upd (upd (upd S (129 + (7 * c)) x) (129 + (7 * c) + 1) (nI p)) (129 + (7 * c) + 2) z) 6)) (129 + (7 * c) + 4) 0) (129 + (7 * c) + 5) 0) P H T X Z n ru ty cl sp ca co) rfl ?_
  refine gx_aload_n (pc := 85) hB dX5_gives_85 2 rfl ?_
  refine gx_get (pc := 86) hB dX5_gives_86 inX5 rfl 0 rfl 0 (by decide) tb_726 rfl rfl ?_
  refine gx_iload (pc := 89) hB dX5_gives_89 0 rfl ?_
  refine gx_bipush (pc := 91) hB dX5_gives_91 6 (by decide) ?_
  refine gx_iadd (pc := 93) hB dX5_gives_93 ?_
  refine gx_top (show (nI (129 + (7 * c))) + 6 = nI (129 + (7 * c) + 6) from nI_add (129 + (7 * c)) 6) ?_
  refine gx_iload (pc := 94) hB dX5_gives_94 6 rfl ?_
  refine gx_iast (pc := 96) hB dX5_gives_96 1 1 rfl rfl (129 + (7 * c) + 6) rfl (by omega) (by decide) (wM K m q1 q2 q3 q4 q5 q6 q7 q8 (upd (upd (upd (upd (upd (upd (upd S (129 + (7 * c)) x) (129 + (7 * c) + 1) (nI p)) (129 + (7 * c) + 2) z) (129 + (7 * c) + 3) ((upd (upd (upd S (129 + (7 * c)) x) (129 + (7 * c) + 1) (nI p)) (129 + (7 * c) + 2) z) 6)) (129 + (7 * c) + 4) 0) (129 + (7 * c) + 5) 0) (129 + (7 * c) + 6) u) P H T X Z n ru ty cl sp ca co) rfl ?_
  refine gx_aload_n (pc := 97) hB dX5_gives_97 2 rfl ?_
  refine gx_get (pc := 98) hB dX5_gives_98 inX5 rfl 0 rfl 0 (by decide) tb_726 rfl rfl ?_
  refine gx_iconst (pc := 101) hB dX5_gives_101 4 (by decide) ?_
  refine gx_dup2 (pc := 102) hB dX5_gives_102 rfl rfl ?_
  refine gx_iald (pc := 103) hB dX5_gives_103 1 1 rfl rfl 4 rfl (by decide) (by decide) ?_
  refine gx_iconst (pc := 104) hB dX5_gives_104 1 (by decide) ?_
  refine gx_iadd (pc := 105) hB dX5_gives_105 ?_
  refine gx_iast (pc := 106) hB dX5_gives_106 1 1 rfl rfl 4 rfl (by decide) (by decide) (wM K m q1 q2 q3 q4 q5 q6 q7 q8 (upd (upd (upd (upd (upd (upd (upd (upd S (129 + (7 * c)) x) (129 + (7 * c) + 1) (nI p)) (129 + (7 * c) + 2) z) (129 + (7 * c) + 3) ((upd (upd (upd S (129 + (7 * c)) x) (129 + (7 * c) + 1) (nI p)) (129 + (7 * c) + 2) z) 6)) (129 + (7 * c) + 4) 0) (129 + (7 * c) + 5) 0) (129 + (7 * c) + 6) u) 4 (((upd (upd (upd (upd (upd (upd (upd S (129 + (7 * c)) x) (129 + (7 * c) + 1) (nI p)) (129 + (7 * c) + 2) z) (129 + (7 * c) + 3) ((upd (upd (upd S (129 + (7 * c)) x) (129 + (7 * c) + 1) (nI p)) (129 + (7 * c) + 2) z) 6)) (129 + (7 * c) + 4) 0) (129 + (7 * c) + 5) 0) (129 + (7 * c) + 6) u) 4) + 1)) P H T X Z n ru ty cl sp ca co) rfl ?_
  refine gx_aload_n (pc := 107) hB dX5_gives_107 2 rfl ?_
  refine gx_iload_n (pc := 108) hB dX5_gives_108 4 rfl ?_
  refine gx_iconst (pc := 109) hB dX5_gives_109 0 (by decide) ?_
  refine gx_iload_n (pc := 110) hB dX5_gives_110 5 rfl ?_
  refine gx_dVv (pc := 111) (wr := []) hB (c_X5_adds l K m q1 q2 q3 q4 q5 q6 q7 q8 (upd (upd (upd (upd (upd (upd (upd (upd S (129 + (7 * c)) x) (129 + (7 * c) + 1) (nI p)) (129 + (7 * c) + 2) z) (129 + (7 * c) + 3) ((upd (upd (upd S (129 + (7 * c)) x) (129 + (7 * c) + 1) (nI p)) (129 + (7 * c) + 2) z) 6)) (129 + (7 * c) + 4) 0) (129 + (7 * c) + 5) 0) (129 + (7 * c) + 6) u) 4 (((upd (upd (upd (upd (upd (upd (upd S (129 + (7 * c)) x) (129 + (7 * c) + 1) (nI p)) (129 + (7 * c) + 2) z) (129 + (7 * c) + 3) ((upd (upd (upd S (129 + (7 * c)) x) (129 + (7 * c) + 1) (nI p)) (129 + (7 * c) + 2) z) 6)) (129 + (7 * c) + 4) 0) (129 + (7 * c) + 5) 0) (129 + (7 * c) + 6) u) 4) + 1)) P H T X Z n ru ty cl sp ca co p 0 z (by first | assumption | omega | decide) (by first | assumption | omega | decide)) mX5_adds dX5_gives_111 tb_824 pX5_adds ⟨Nat.le_of_ble_eq_true rfl, Nat.le_of_ble_eq_true rfl⟩ ⟨rfl, rfl⟩ ⟨Nat.zero_le _, Nat.zero_le _⟩ rfl (Nat.le_of_ble_eq_true rfl) [0, 1, 2, 3, 4, 5, 6, 7, 8] [] rfl rfl (by decide) (by decide) (by decide) rfl rfl [0, 1, 2, 3, 4, 5, 6, 7, 8] (by decide) (wM K m q1 q2 q3 q4 q5 q6 q7 q8 (aP (upd (upd (upd (upd (upd (upd (upd (upd S (129 + (7 * c)) x) (129 + (7 * c) + 1) (nI p)) (129 + (7 * c) + 2) z) (129 + (7 * c) + 3) ((upd (upd (upd S (129 + (7 * c)) x) (129 + (7 * c) + 1) (nI p)) (129 + (7 * c) + 2) z) 6)) (129 + (7 * c) + 4) 0) (129 + (7 * c) + 5) 0) (129 + (7 * c) + 6) u) 4 (((upd (upd (upd (upd (upd (upd (upd S (129 + (7 * c)) x) (129 + (7 * c) + 1) (nI p)) (129 + (7 * c) + 2) z) (129 + (7 * c) + 3) ((upd (upd (upd S (129 + (7 * c)) x) (129 + (7 * c) + 1) (nI p)) (129 + (7 * c) + 2) z) 6)) (129 + (7 * c) + 4) 0) (129 + (7 * c) + 5) 0) (129 + (7 * c) + 6) u) 4) + 1)) p 0 z) P H T X Z n ru ty cl sp ca co) rfl ?_
  refine gx_aload_n (pc := 114) hB dX5_gives_114 2 rfl ?_
  refine gx_iload_n (pc := 115) hB dX5_gives_115 4 rfl ?_
  refine gx_iconst (pc := 116) hB dX5_gives_116 1 (by decide) ?_
  refine gx_iload_n (pc := 117) hB dX5_gives_117 5 rfl ?_
  refine gx_dVv (pc := 118) (wr := []) hB (c_X5_adds l K m q1 q2 q3 q4 q5 q6 q7 q8 (aP (upd (upd (upd (upd (upd (upd (upd (upd S (129 + (7 * c)) x) (129 + (7 * c) + 1) (nI p)) (129 + (7 * c) + 2) z) (129 + (7 * c) + 3) ((upd (upd (upd S (129 + (7 * c)) x) (129 + (7 * c) + 1) (nI p)) (129 + (7 * c) + 2) z) 6)) (129 + (7 * c) + 4) 0) (129 + (7 * c) + 5) 0) (129 + (7 * c) + 6) u) 4 (((upd (upd (upd (upd (upd (upd (upd S (129 + (7 * c)) x) (129 + (7 * c) + 1) (nI p)) (129 + (7 * c) + 2) z) (129 + (7 * c) + 3) ((upd (upd (upd S (129 + (7 * c)) x) (129 + (7 * c) + 1) (nI p)) (129 + (7 * c) + 2) z) 6)) (129 + (7 * c) + 4) 0) (129 + (7 * c) + 5) 0) (129 + (7 * c) + 6) u) 4) + 1)) p 0 z) P H T X Z n ru ty cl sp ca co p 1 z (by first | assumption | omega | decide) (by first | assumption | omega | decide)) mX5_adds dX5_gives_118 tb_824 pX5_adds ⟨Nat.le_of_ble_eq_true rfl, Nat.le_of_ble_eq_true rfl⟩ ⟨rfl, rfl⟩ ⟨Nat.zero_le _, Nat.zero_le _⟩ rfl (Nat.le_of_ble_eq_true rfl) [0, 1, 2, 3, 4, 5, 6, 7, 8] [] rfl rfl (by decide) (by decide) (by decide) rfl rfl [0, 1, 2, 3, 4, 5, 6, 7, 8] (by decide) (wM K m q1 q2 q3 q4 q5 q6 q7 q8 (aP (aP (upd (upd (upd (upd (upd (upd (upd (upd S (129 + (7 * c)) x) (129 + (7 * c) + 1) (nI p)) (129 + (7 * c) + 2) z) (129 + (7 * c) + 3) ((upd (upd (upd S (129 + (7 * c)) x) (129 + (7 * c) + 1) (nI p)) (129 + (7 * c) + 2) z) 6)) (129 + (7 * c) + 4) 0) (129 + (7 * c) + 5) 0) (129 + (7 * c) + 6) u) 4 (((upd (upd (upd (upd (upd (upd (upd S (129 + (7 * c)) x) (129 + (7 * c) + 1) (nI p)) (129 + (7 * c) + 2) z) (129 + (7 * c) + 3) ((upd (upd (upd S (129 + (7 * c)) x) (129 + (7 * c) + 1) (nI p)) (129 + (7 * c) + 2) z) 6)) (129 + (7 * c) + 4) 0) (129 + (7 * c) + 5) 0) (129 + (7 * c) + 6) u) 4) + 1)) p 0 z) p 1 z) P H T X Z n ru ty cl sp ca co) rfl ?_
  refine gx_iload (pc := 121) hB dX5_gives_121 1 rfl ?_
  have f0 : mGives S c x p z u = (aP (aP (upd (upd (upd (upd (upd (upd (upd (upd S (129 + (7 * c)) x) (129 + (7 * c) + 1) (nI p)) (129 + (7 * c) + 2) z) (129 + (7 * c) + 3) ((upd (upd (upd S (129 + (7 * c)) x) (129 + (7 * c) + 1) (nI p)) (129 + (7 * c) + 2) z) 6)) (129 + (7 * c) + 4) 0) (129 + (7 * c) + 5) 0) (129 + (7 * c) + 6) u) 4 (((upd (upd (upd (upd (upd (upd (upd S (129 + (7 * c)) x) (129 + (7 * c) + 1) (nI p)) (129 + (7 * c) + 2) z) (129 + (7 * c) + 3) ((upd (upd (upd S (129 + (7 * c)) x) (129 + (7 * c) + 1) (nI p)) (129 + (7 * c) + 2) z) 6)) (129 + (7 * c) + 4) 0) (129 + (7 * c) + 5) 0) (129 + (7 * c) + 6) u) 4) + 1)) p 0 z) p 1 z) := by simp [mGives]
  exact gx_iret (pc := 123) hC dX5_gives_123 (Nat.zero_le _) (Nat.zero_le _) (⟨rfl, by rw [f0]⟩)
theorem pX5_give : (parseMethodDescriptor yX5_give.desc).map (fun d => d.parameters.length) = some 3 := by decide +kernel
theorem mX5_give : gx_M yX5_give cX5_give 4 (some .int) := ⟨tb_805, tb_806, tb_73, tb_807, by decide, by decide⟩
set_option maxHeartbeats 4000000 in
set_option maxRecDepth 100000 in
theorem c_X5_give (l : Launch) (K : gx_K) (m q1 q2 q3 q4 q5 q6 q7 q8 : Nat) (S P H T X Z : Nat → Int32) (n : Nat) (ru : Bool) (ty : Nat) (cl : Int32) (sp : Nat) (ca : Int32) (co : Nat) (a b c e : Nat) (x y z : Int32) (h0 : sOk S a b c e) (h1 : n ≤ 4) : gx_Ctr l K yX5_give cX5_give 4 (some .int) (rmm 3 49) [.ref m, .int x, .int y, .int z] (wM K m q1 q2 q3 q4 q5 q6 q7 q8 S P H T X Z n ru ty cl sp ca co) (gx_D (some (.int ((mGive S c x y z).1))) (wM K m q1 q2 q3 q4 q5 q6 q7 q8 ((mGive S c x y z).2.2) (kpP (mGive S c x y z).2.1 ru n P S) H T X Z (kpn (mGive S c x y z).2.1 ru n) ru ty cl sp ca co)) := by
  refine gx_of (by decide) (Nat.le_of_ble_eq_true rfl) (fun G hC => ?_)
  have hB := hC.b
  refine gx_lv (lv' := [(0, .ref m), (1, .int x), (2, .int y), (3, .int z)]) rfl ?_
  have hb0 := h0.1
  refine gx_aload_n (pc := 0) hB dX5_give_0 0 rfl ?_
  refine gx_iload_n (pc := 1) hB dX5_give_1 1 rfl ?_
  refine gx_dVi (pc := 2) (r := bI (sIsD S x)) (wr := []) hB (c_X5_isDonor l K m q1 q2 q3 q4 q5 q6 q7 q8 S P H T X Z n ru ty cl sp ca co x ) mX5_isDonor dX5_give_2 tb_793 pX5_isDonor ⟨Nat.le_of_ble_eq_true rfl, Nat.le_of_ble_eq_true rfl⟩ ⟨rfl, rfl⟩ ⟨Nat.zero_le _, Nat.zero_le _⟩ rfl (Nat.le_of_ble_eq_true rfl) [0, 1, 2, 3, 4, 5, 6, 7, 8] [] rfl rfl (by decide) (by decide) (by decide) rfl rfl [0, 1, 2, 3, 4, 5, 6, 7, 8] (by decide) (wM K m q1 q2 q3 q4 q5 q6 q7 q8 S P H T X Z n ru ty cl sp ca co) rfl ?_
  refine gx_if_eq_b (pc := 5) hB 27 dX5_give_5 (by decide) (fun c_1 => ?_) (fun c_1 => ?_)
  · refine gx_iconst (pc := 27) hB dX5_give_27 (-1) (by decide) ?_
    have e1 : ((mGive S c x y z).1) = (-1) := by simp [mGive, kpP, kpn, c_1]
    have f0 : ((mGive S c x y z).2.2) = S := by simp [mGive, kpP, kpn, c_1]
    have f1 : (kpP (mGive S c x y z).2.1 ru n P S) = P := by simp [mGive, kpP, kpn, c_1]
    have f2 : (kpn (mGive S c x y z).2.1 ru n) = n := by simp [mGive, kpP, kpn, c_1]
    exact gx_iret (pc := 28) hC dX5_give_28 (Nat.zero_le _) (Nat.zero_le _) (⟨by rw [e1], by rw [f0, f1, f2]⟩)
  · obtain ⟨d, h_d, rfl⟩ := isD_of h0 c_1
    have s_d : (nI d).toNatClampNeg = d := nI_clamp (by omega)
    refine gx_aload_n (pc := 8) hB dX5_give_8 0 rfl ?_
    refine gx_iload_n (pc := 9) hB dX5_give_9 2 rfl ?_
    refine gx_dVi (pc := 10) (r := bI (sIsP S y)) (wr := []) hB (c_X5_isPurpose l K m q1 q2 q3 q4 q5 q6 q7 q8 S P H T X Z n ru ty cl sp ca co y ) mX5_isPurpose dX5_give_10 tb_808 pX5_isPurpose ⟨Nat.le_of_ble_eq_true rfl, Nat.le_of_ble_eq_true rfl⟩ ⟨rfl, rfl⟩ ⟨Nat.zero_le _, Nat.zero_le _⟩ rfl (Nat.le_of_ble_eq_true rfl) [0, 1, 2, 3, 4, 5, 6, 7, 8] [] rfl rfl (by decide) (by decide) (by decide) rfl rfl [0, 1, 2, 3, 4, 5, 6, 7, 8] (by decide) (wM K m q1 q2 q3 q4 q5 q6 q7 q8 S P H T X Z n ru ty cl sp ca co) rfl ?_
    refine gx_if_eq_b (pc := 13) hB 27 dX5_give_13 (by decide) (fun c_2 => ?_) (fun c_2 => ?_)
    · refine gx_iconst (pc := 27) hB dX5_give_27 (-1) (by decide) ?_
      have e1 : ((mGive S c (nI d) y z).1) = (-1) := by simp [mGive, kpP, kpn, c_1, s_d, c_2]
      have f0 : ((mGive S c (nI d) y z).2.2) = S := by simp [mGive, kpP, kpn, c_1, s_d, c_2]
      have f1 : (kpP (mGive S c (nI d) y z).2.1 ru n P S) = P := by simp [mGive, kpP, kpn, c_1, s_d, c_2]
      have f2 : (kpn (mGive S c (nI d) y z).2.1 ru n) = n := by simp [mGive, kpP, kpn, c_1, s_d, c_2]
      exact gx_iret (pc := 28) hC dX5_give_28 (Nat.zero_le _) (Nat.zero_le _) (⟨by rw [e1], by rw [f0, f1, f2]⟩)
    · obtain ⟨p, h_p, rfl⟩ := isP_of h0 c_2
      have s_p : (nI p).toNatClampNeg = p := nI_clamp (by omega)
      refine gx_iload_n (pc := 16) hB dX5_give_16 3 rfl ?_
      refine gx_iconst (pc := 17) hB dX5_give_17 1 (by decide) ?_
      refine gx_sipush (pc := 18) hB dX5_give_18 9999 (by decide) ?_
      refine gx_dSi (pc := 21) (r := bI (bIn z 1 9999)) (wr := [(m, .inr (5, [.ref q1, .ref q2, .ref q3, .ref q4, .int (nI n), .int (bI ru), .ref q5, .int (nI ty), .ref q6, .ref q7, .int cl, .int (nI sp), .int ca, .int (nI co), .ref q8])), (q1, .inl (K.2.1.2.1, 345, .inl S)), (q2, .inl (K.2.1.2.1, 1380, .inl P)), (q3, .inl (K.2.1.2.1, 345, .inl H)), (q4, .inl (K.2.1.2.1, 345, .inl T)), (q5, .inl (K.2.1.2.1, 80, .inl X)), (q6, .inl (K.2.1.2.2.1, 9, .inr (.inl mW))), (q7, .inl (K.2.1.2.1, 9, .inl mN)), (q8, .inl (K.2.1.2.1, 4, .inl Z))]) hB (c_X5_in l K z 1 9999 ) mX5_in dX5_give_21 tb_797 pX5_in ⟨Nat.le_of_ble_eq_true rfl, Nat.le_of_ble_eq_true rfl⟩ ⟨rfl, rfl⟩ ⟨Nat.zero_le _, Nat.zero_le _⟩ rfl (Nat.le_of_ble_eq_true rfl) [] [0, 1, 2, 3, 4, 5, 6, 7, 8] rfl rfl (by decide) (by decide) (by decide) [0, 1, 2, 3, 4, 5, 6, 7, 8] (by decide) (wM K m q1 q2 q3 q4 q5 q6 q7 q8 S P H T X Z n ru ty cl sp ca co) rfl ?_
      refine gx_if_ne_b (pc := 24) hB 29 dX5_give_24 (by decide) (fun c_3 => ?_) (fun c_3 => ?_)
      · refine gx_aload_n (pc := 29) hB dX5_give_29 0 rfl ?_
        refine gx_iload_n (pc := 30) hB dX5_give_30 2 rfl ?_
        refine gx_dVi (pc := 31) (r := bI (sClosed S p)) (wr := []) hB (c_X5_isClosed l K m q1 q2 q3 q4 q5 q6 q7 q8 S P H T X Z n ru ty cl sp ca co p (by first | assumption | omega | decide)) mX5_isClosed dX5_give_31 tb_812 pX5_isClosed ⟨Nat.le_of_ble_eq_true rfl, Nat.le_of_ble_eq_true rfl⟩ ⟨rfl, rfl⟩ ⟨Nat.zero_le _, Nat.zero_le _⟩ rfl (Nat.le_of_ble_eq_true rfl) [0, 1, 2, 3, 4, 5, 6, 7, 8] [] rfl rfl (by decide) (by decide) (by decide) rfl rfl [0, 1, 2, 3, 4, 5, 6, 7, 8] (by decide) (wM K m q1 q2 q3 q4 q5 q6 q7 q8 S P H T X Z n ru ty cl sp ca co) rfl ?_
        refine gx_if_eq_b (pc := 34) hB 40 dX5_give_34 (by decide) (fun c_4 => ?_) (fun c_4 => ?_)
        · refine gx_aload_n (pc := 40) hB dX5_give_40 0 rfl ?_
          refine gx_get (pc := 41) hB dX5_give_41 inX5 rfl 0 rfl 0 (by decide) tb_726 rfl rfl ?_
          refine gx_iconst (pc := 44) hB dX5_give_44 4 (by decide) ?_
          refine gx_iald (pc := 45) hB dX5_give_45 1 1 rfl rfl 4 rfl (by decide) (by decide) ?_
          refine gx_top (show S 4 = nI c from h0.1.2.2.1) ?_
          refine gx_bipush (pc := 46) hB dX5_give_46 24 (by decide) ?_
          refine gx_icmp_ne (pc := 48) hB 54 dX5_give_48 (by decide) (fun c_5 => ?_) (fun c_5 => ?_)
          · have hcl : c < 24 := nI_ne (n := 24) c_5 (by omega)
            refine gx_aload_n (pc := 54) hB dX5_give_54 0 rfl ?_
            refine gx_dVv (pc := 55) (wr := []) hB (c_X5_changes l K m q1 q2 q3 q4 q5 q6 q7 q8 S P H T X Z n ru ty cl sp ca co (by first | assumption | omega | decide)) mX5_changes dX5_give_55 tb_777 pX5_changes ⟨Nat.le_of_ble_eq_true rfl, Nat.le_of_ble_eq_true rfl⟩ ⟨rfl, rfl⟩ ⟨Nat.zero_le _, Nat.zero_le _⟩ rfl (Nat.le_of_ble_eq_true rfl) [0, 1, 2, 3, 4, 5, 6, 7, 8] [] rfl rfl (by decide) (by decide) (by decide) rfl rfl [0, 1, 2, 3, 4, 5, 6, 7, 8] (by decide) (wM K m q1 q2 q3 q4 q5 q6 q7 q8 S (chP ru n P S) H T X Z (chn ru n) ru ty cl sp ca co) rfl ?_
            refine gx_aload_n (pc := 58) hB dX5_give_58 0 rfl ?_
            refine gx_iload_n (pc := 59) hB dX5_give_59 1 rfl ?_
            refine gx_iload_n (pc := 60) hB dX5_give_60 2 rfl ?_
            refine gx_iload_n (pc := 61) hB dX5_give_61 3 rfl ?_
            refine gx_bipush (pc := 62) hB dX5_give_62 (-4) (by decide) ?_
            refine gx_dVi (pc := 64) (r := nI c) (wr := []) hB (c_X5_gives l K m q1 q2 q3 q4 q5 q6 q7 q8 S (chP ru n P S) H T X Z (chn ru n) ru ty cl sp ca co c (nI d) p z (-4) h0.1.2.2.1 (by first | assumption | omega | decide) (by first | assumption | omega | decide)) mX5_gives dX5_give_64 tb_820 pX5_gives ⟨Nat.le_of_ble_eq_true rfl, Nat.le_of_ble_eq_true rfl⟩ ⟨rfl, rfl⟩ ⟨Nat.zero_le _, Nat.zero_le _⟩ rfl (Nat.le_of_ble_eq_true rfl) [0, 1, 2, 3, 4, 5, 6, 7, 8] [] rfl rfl (by decide) (by decide) (by decide) rfl rfl [0, 1, 2, 3, 4, 5, 6, 7, 8] (by decide) (wM K m q1 q2 q3 q4 q5 q6 q7 q8 (mGives S c (nI d) p z (-4)) (chP ru n P S) H T X Z (chn ru n) ru ty cl sp ca co) rfl ?_
            have e1 : ((mGive S c (nI d) (nI p) z).1) = nI c := by simp [mGive, kpP, kpn, c_1, s_d, c_2, s_p, c_3, c_4, eq_false c_5]
            have f0 : ((mGive S c (nI d) (nI p) z).2.2) = (mGives S c (nI d) p z (-4)) := by simp [mGive, kpP, kpn, c_1, s_d, c_2, s_p, c_3, c_4, eq_false c_5]
            have f1 : (kpP (mGive S c (nI d) (nI p) z).2.1 ru n P S) = chP ru n P S := by simp [mGive, kpP, kpn, c_1, s_d, c_2, s_p, c_3, c_4, eq_false c_5]
            have f2 : (kpn (mGive S c (nI d) (nI p) z).2.1 ru n) = chn ru n := by simp [mGive, kpP, kpn, c_1, s_d, c_2, s_p, c_3, c_4, eq_false c_5]
            exact gx_iret (pc := 67) hC dX5_give_67 (Nat.zero_le _) (Nat.zero_le _) (⟨by rw [e1], by rw [f0, f1, f2]⟩)
          · refine gx_bipush (pc := 51) hB dX5_give_51 (-3) (by decide) ?_
            have e1 : ((mGive S c (nI d) (nI p) z).1) = (-3) := by simp [mGive, kpP, kpn, c_1, s_d, c_2, s_p, c_3, c_4, eq_true c_5]
            have f0 : ((mGive S c (nI d) (nI p) z).2.2) = S := by simp [mGive, kpP, kpn, c_1, s_d, c_2, s_p, c_3, c_4, eq_true c_5]
            have f1 : (kpP (mGive S c (nI d) (nI p) z).2.1 ru n P S) = P := by simp [mGive, kpP, kpn, c_1, s_d, c_2, s_p, c_3, c_4, eq_true c_5]
            have f2 : (kpn (mGive S c (nI d) (nI p) z).2.1 ru n) = n := by simp [mGive, kpP, kpn, c_1, s_d, c_2, s_p, c_3, c_4, eq_true c_5]
            exact gx_iret (pc := 53) hC dX5_give_53 (Nat.zero_le _) (Nat.zero_le _) (⟨by rw [e1], by rw [f0, f1, f2]⟩)
        · refine gx_bipush (pc := 37) hB dX5_give_37 (-2) (by decide) ?_
          have e1 : ((mGive S c (nI d) (nI p) z).1) = (-2) := by simp [mGive, kpP, kpn, c_1, s_d, c_2, s_p, c_3, c_4]
          have f0 : ((mGive S c (nI d) (nI p) z).2.2) = S := by simp [mGive, kpP, kpn, c_1, s_d, c_2, s_p, c_3, c_4]
          have f1 : (kpP (mGive S c (nI d) (nI p) z).2.1 ru n P S) = P := by simp [mGive, kpP, kpn, c_1, s_d, c_2, s_p, c_3, c_4]
          have f2 : (kpn (mGive S c (nI d) (nI p) z).2.1 ru n) = n := by simp [mGive, kpP, kpn, c_1, s_d, c_2, s_p, c_3, c_4]
          exact gx_iret (pc := 39) hC dX5_give_39 (Nat.zero_le _) (Nat.zero_le _) (⟨by rw [e1], by rw [f0, f1, f2]⟩)
      · refine gx_iconst (pc := 27) hB dX5_give_27 (-1) (by decide) ?_
        have e1 : ((mGive S c (nI d) (nI p) z).1) = (-1) := by simp [mGive, kpP, kpn, c_1, s_d, c_2, s_p, c_3]
        have f0 : ((mGive S c (nI d) (nI p) z).2.2) = S := by simp [mGive, kpP, kpn, c_1, s_d, c_2, s_p, c_3]
        have f1 : (kpP (mGive S c (nI d) (nI p) z).2.1 ru n P S) = P := by simp [mGive, kpP, kpn, c_1, s_d, c_2, s_p, c_3]
        have f2 : (kpn (mGive S c (nI d) (nI p) z).2.1 ru n) = n := by simp [mGive, kpP, kpn, c_1, s_d, c_2, s_p, c_3]
        exact gx_iret (pc := 28) hC dX5_give_28 (Nat.zero_le _) (Nat.zero_le _) (⟨by rw [e1], by rw [f0, f1, f2]⟩)
theorem pX5_pledge : (parseMethodDescriptor yX5_pledge.desc).map (fun d => d.parameters.length) = some 4 := by decide +kernel
theorem mX5_pledge : gx_M yX5_pledge cX5_pledge 7 (some .int) := ⟨tb_829, tb_830, tb_73, tb_831, by decide, by decide⟩
set_option maxHeartbeats 4000000 in
set_option maxRecDepth 100000 in
theorem c_X5_pledge (l : Launch) (K : gx_K) (m q1 q2 q3 q4 q5 q6 q7 q8 : Nat) (S P H T X Z : Nat → Int32) (n : Nat) (ru : Bool) (ty : Nat) (cl : Int32) (sp : Nat) (ca : Int32) (co : Nat) (a b c e : Nat) (x y z u : Int32) (h0 : sOk S a b c e) (h1 : n ≤ 4) : gx_Ctr l K yX5_pledge cX5_pledge 7 (some .int) (rmm 3 43) [.ref m, .int x, .int y, .int z, .int u] (wM K m q1 q2 q3 q4 q5 q6 q7 q8 S P H T X Z n ru ty cl sp ca co) (gx_D (some (.int ((mPledge S e x y z u).1))) (wM K m q1 q2 q3 q4 q5 q6 q7 q8 ((mPledge S e x y z u).2.2) (kpP (mPledge S e x y z u).2.1 ru n P S) H T X Z (kpn (mPledge S e x y z u).2.1 ru n) ru ty cl sp ca co)) := by
  refine gx_of (by decide) (Nat.le_of_ble_eq_true rfl) (fun G hC => ?_)
  have hB := hC.b
  refine gx_lv (lv' := [(0, .ref m), (1, .int x), (2, .int y), (3, .int z), (4, .int u)]) rfl ?_
  have hb0 := h0.1
  refine gx_aload_n (pc := 0) hB dX5_pledge_0 0 rfl ?_
  refine gx_iload_n (pc := 1) hB dX5_pledge_1 1 rfl ?_
  refine gx_dVi (pc := 2) (r := bI (sIsD S x)) (wr := []) hB (c_X5_isDonor l K m q1 q2 q3 q4 q5 q6 q7 q8 S P H T X Z n ru ty cl sp ca co x ) mX5_isDonor dX5_pledge_2 tb_793 pX5_isDonor ⟨Nat.le_of_ble_eq_true rfl, Nat.le_of_ble_eq_true rfl⟩ ⟨rfl, rfl⟩ ⟨Nat.zero_le _, Nat.zero_le _⟩ rfl (Nat.le_of_ble_eq_true rfl) [0, 1, 2, 3, 4, 5, 6, 7, 8] [] rfl rfl (by decide) (by decide) (by decide) rfl rfl [0, 1, 2, 3, 4, 5, 6, 7, 8] (by decide) (wM K m q1 q2 q3 q4 q5 q6 q7 q8 S P H T X Z n ru ty cl sp ca co) rfl ?_
  refine gx_if_eq_b (pc := 5) hB 38 dX5_pledge_5 (by decide) (fun c_1 => ?_) (fun c_1 => ?_)
  · refine gx_iconst (pc := 38) hB dX5_pledge_38 (-1) (by decide) ?_
    have e1 : ((mPledge S e x y z u).1) = (-1) := by simp [mPledge, mPledgeS, plgN, kpP, kpn, c_1]
    have f0 : ((mPledge S e x y z u).2.2) = S := by simp [mPledge, mPledgeS, plgN, kpP, kpn, c_1]
    have f1 : (kpP (mPledge S e x y z u).2.1 ru n P S) = P := by simp [mPledge, mPledgeS, plgN, kpP, kpn, c_1]
    have f2 : (kpn (mPledge S e x y z u).2.1 ru n) = n := by simp [mPledge, mPledgeS, plgN, kpP, kpn, c_1]
    exact gx_iret (pc := 39) hC dX5_pledge_39 (Nat.zero_le _) (Nat.zero_le _) (⟨by rw [e1], by rw [f0, f1, f2]⟩)
  · obtain ⟨d, h_d, rfl⟩ := isD_of h0 c_1
    have s_d : (nI d).toNatClampNeg = d := nI_clamp (by omega)
    refine gx_aload_n (pc := 8) hB dX5_pledge_8 0 rfl ?_
    refine gx_iload_n (pc := 9) hB dX5_pledge_9 2 rfl ?_
    refine gx_dVi (pc := 10) (r := bI (sIsP S y)) (wr := []) hB (c_X5_isPurpose l K m q1 q2 q3 q4 q5 q6 q7 q8 S P H T X Z n ru ty cl sp ca co y ) mX5_isPurpose dX5_pledge_10 tb_808 pX5_isPurpose ⟨Nat.le_of_ble_eq_true rfl, Nat.le_of_ble_eq_true rfl⟩ ⟨rfl, rfl⟩ ⟨Nat.zero_le _, Nat.zero_le _⟩ rfl (Nat.le_of_ble_eq_true rfl) [0, 1, 2, 3, 4, 5, 6, 7, 8] [] rfl rfl (by decide) (by decide) (by decide) rfl rfl [0, 1, 2, 3, 4, 5, 6, 7, 8] (by decide) (wM K m q1 q2 q3 q4 q5 q6 q7 q8 S P H T X Z n ru ty cl sp ca co) rfl ?_
    refine gx_if_eq_b (pc := 13) hB 38 dX5_pledge_13 (by decide) (fun c_2 => ?_) (fun c_2 => ?_)
    · refine gx_iconst (pc := 38) hB dX5_pledge_38 (-1) (by decide) ?_
      have e1 : ((mPledge S e (nI d) y z u).1) = (-1) := by simp [mPledge, mPledgeS, plgN, kpP, kpn, c_1, s_d, c_2]
      have f0 : ((mPledge S e (nI d) y z u).2.2) = S := by simp [mPledge, mPledgeS, plgN, kpP, kpn, c_1, s_d, c_2]
      have f1 : (kpP (mPledge S e (nI d) y z u).2.1 ru n P S) = P := by simp [mPledge, mPledgeS, plgN, kpP, kpn, c_1, s_d, c_2]
      have f2 : (kpn (mPledge S e (nI d) y z u).2.1 ru n) = n := by simp [mPledge, mPledgeS, plgN, kpP, kpn, c_1, s_d, c_2]
      exact gx_iret (pc := 39) hC dX5_pledge_39 (Nat.zero_le _) (Nat.zero_le _) (⟨by rw [e1], by rw [f0, f1, f2]⟩)
    · obtain ⟨p, h_p, rfl⟩ := isP_of h0 c_2
      have s_p : (nI p).toNatClampNeg = p := nI_clamp (by omega)
      refine gx_iload_n (pc := 16) hB dX5_pledge_16 3 rfl ?_
      refine gx_iconst (pc := 17) hB dX5_pledge_17 1 (by decide) ?_
      refine gx_sipush (pc := 18) hB dX5_pledge_18 999 (by decide) ?_
      refine gx_dSi (pc := 21) (r := bI (bIn z 1 999)) (wr := [(m, .inr (5, [.ref q1, .ref q2, .ref q3, .ref q4, .int (nI n), .int (bI ru), .ref q5, .int (nI ty), .ref q6, .ref q7, .int cl, .int (nI sp), .int ca, .int (nI co), .ref q8])), (q1, .inl (K.2.1.2.1, 345, .inl S)), (q2, .inl (K.2.1.2.1, 1380, .inl P)), (q3, .inl (K.2.1.2.1, 345, .inl H)), (q4, .inl (K.2.1.2.1, 345, .inl T)), (q5, .inl (K.2.1.2.1, 80, .inl X)), (q6, .inl (K.2.1.2.2.1, 9, .inr (.inl mW))), (q7, .inl (K.2.1.2.1, 9, .inl mN)), (q8, .inl (K.2.1.2.1, 4, .inl Z))]) hB (c_X5_in l K z 1 999 ) mX5_in dX5_pledge_21 tb_797 pX5_in ⟨Nat.le_of_ble_eq_true rfl, Nat.le_of_ble_eq_true rfl⟩ ⟨rfl, rfl⟩ ⟨Nat.zero_le _, Nat.zero_le _⟩ rfl (Nat.le_of_ble_eq_true rfl) [] [0, 1, 2, 3, 4, 5, 6, 7, 8] rfl rfl (by decide) (by decide) (by decide) [0, 1, 2, 3, 4, 5, 6, 7, 8] (by decide) (wM K m q1 q2 q3 q4 q5 q6 q7 q8 S P H T X Z n ru ty cl sp ca co) rfl ?_
      refine gx_if_eq_b (pc := 24) hB 38 dX5_pledge_24 (by decide) (fun c_3 => ?_) (fun c_3 => ?_)
      · refine gx_iconst (pc := 38) hB dX5_pledge_38 (-1) (by decide) ?_
        have e1 : ((mPledge S e (nI d) (nI p) z u).1) = (-1) := by simp [mPledge, mPledgeS, plgN, kpP, kpn, c_1, s_d, c_2, s_p, c_3]
        have f0 : ((mPledge S e (nI d) (nI p) z u).2.2) = S := by simp [mPledge, mPledgeS, plgN, kpP, kpn, c_1, s_d, c_2, s_p, c_3]
        have f1 : (kpP (mPledge S e (nI d) (nI p) z u).2.1 ru n P S) = P := by simp [mPledge, mPledgeS, plgN, kpP, kpn, c_1, s_d, c_2, s_p, c_3]
        have f2 : (kpn (mPledge S e (nI d) (nI p) z u).2.1 ru n) = n := by simp [mPledge, mPledgeS, plgN, kpP, kpn, c_1, s_d, c_2, s_p, c_3]
        exact gx_iret (pc := 39) hC dX5_pledge_39 (Nat.zero_le _) (Nat.zero_le _) (⟨by rw [e1], by rw [f0, f1, f2]⟩)
      · refine gx_iload (pc := 27) hB dX5_pledge_27 4 rfl ?_
        refine gx_iconst (pc := 29) hB dX5_pledge_29 1 (by decide) ?_
        refine gx_bipush (pc := 30) hB dX5_pledge_30 60 (by decide) ?_
        refine gx_dSi (pc := 32) (r := bI (bIn u 1 60)) (wr := [(m, .inr (5, [.ref q1, .ref q2, .ref q3, .ref q4, .int (nI n), .int (bI ru), .ref q5, .int (nI ty), .ref q6, .ref q7, .int cl, .int (nI sp), .int ca, .int (nI co), .ref q8])), (q1, .inl (K.2.1.2.1, 345, .inl S)), (q2, .inl (K.2.1.2.1, 1380, .inl P)), (q3, .inl (K.2.1.2.1, 345, .inl H)), (q4, .inl (K.2.1.2.1, 345, .inl T)), (q5, .inl (K.2.1.2.1, 80, .inl X)), (q6, .inl (K.2.1.2.2.1, 9, .inr (.inl mW))), (q7, .inl (K.2.1.2.1, 9, .inl mN)), (q8, .inl (K.2.1.2.1, 4, .inl Z))]) hB (c_X5_in l K u 1 60 ) mX5_in dX5_pledge_32 tb_797 pX5_in ⟨Nat.le_of_ble_eq_true rfl, Nat.le_of_ble_eq_true rfl⟩ ⟨rfl, rfl⟩ ⟨Nat.zero_le _, Nat.zero_le _⟩ rfl (Nat.le_of_ble_eq_true rfl) [] [0, 1, 2, 3, 4, 5, 6, 7, 8] rfl rfl (by decide) (by decide) (by decide) [0, 1, 2, 3, 4, 5, 6, 7, 8] (by decide) (wM K m q1 q2 q3 q4 q5 q6 q7 q8 S P H T X Z n ru ty cl sp ca co) rfl ?_
        refine gx_if_ne_b (pc := 35) hB 40 dX5_pledge_35 (by decide) (fun c_4 => ?_) (fun c_4 => ?_)
        · refine gx_aload_n (pc := 40) hB dX5_pledge_40 0 rfl ?_
          refine gx_iload_n (pc := 41) hB dX5_pledge_41 2 rfl ?_
          refine gx_dVi (pc := 42) (r := bI (sClosed S p)) (wr := []) hB (c_X5_isClosed l K m q1 q2 q3 q4 q5 q6 q7 q8 S P H T X Z n ru ty cl sp ca co p (by first | assumption | omega | decide)) mX5_isClosed dX5_pledge_42 tb_812 pX5_isClosed ⟨Nat.le_of_ble_eq_true rfl, Nat.le_of_ble_eq_true rfl⟩ ⟨rfl, rfl⟩ ⟨Nat.zero_le _, Nat.zero_le _⟩ rfl (Nat.le_of_ble_eq_true rfl) [0, 1, 2, 3, 4, 5, 6, 7, 8] [] rfl rfl (by decide) (by decide) (by decide) rfl rfl [0, 1, 2, 3, 4, 5, 6, 7, 8] (by decide) (wM K m q1 q2 q3 q4 q5 q6 q7 q8 S P H T X Z n ru ty cl sp ca co) rfl ?_
          refine gx_if_eq_b (pc := 45) hB 51 dX5_pledge_45 (by decide) (fun c_5 => ?_) (fun c_5 => ?_)
          · refine gx_aload_n (pc := 51) hB dX5_pledge_51 0 rfl ?_
            refine gx_get (pc := 52) hB dX5_pledge_52 inX5 rfl 0 rfl 0 (by decide) tb_726 rfl rfl ?_
            refine gx_iconst (pc := 55) hB dX5_pledge_55 5 (by decide) ?_
            refine gx_iald (pc := 56) hB dX5_pledge_56 1 1 rfl rfl 5 rfl (by decide) (by decide) ?_
            refine gx_top (show S 5 = nI e from h0.1.2.2.2.1) ?_
            refine gx_istore (pc := 57) hB dX5_pledge_57 (by decide) [(5, .int (nI e)), (0, .ref m), (1, .int (nI d)), (2, .int (nI p)), (3, .int z), (4, .int u)] rfl ?_
            refine gx_iload (pc := 59) hB dX5_pledge_59 0 rfl ?_
            refine gx_bipush (pc := 61) hB dX5_pledge_61 6 (by decide) ?_
            refine gx_icmp_ne (pc := 63) hB 69 dX5_pledge_63 (by decide) (fun c_6 => ?_) (fun c_6 => ?_)
            · have hel : e < 6 := nI_ne (n := 6) c_6 (by omega)
              refine gx_aload_n (pc := 69) hB dX5_pledge_69 1 rfl ?_
              refine gx_dVv (pc := 70) (wr := []) hB (c_X5_changes l K m q1 q2 q3 q4 q5 q6 q7 q8 S P H T X Z n ru ty cl sp ca co (by first | assumption | omega | decide)) mX5_changes dX5_pledge_70 tb_777 pX5_changes ⟨Nat.le_of_ble_eq_true rfl, Nat.le_of_ble_eq_true rfl⟩ ⟨rfl, rfl⟩ ⟨Nat.zero_le _, Nat.zero_le _⟩ rfl (Nat.le_of_ble_eq_true rfl) [0, 1, 2, 3, 4, 5, 6, 7, 8] [] rfl rfl (by decide) (by decide) (by decide) rfl rfl [0, 1, 2, 3, 4, 5, 6, 7, 8] (by decide) (wM K m q1 q2 q3 q4 q5 q6 q7 q8 S (chP ru n P S) H T X Z (chn ru n) ru ty cl sp ca co) rfl ?_
              refine gx_iconst (pc := 73) hB dX5_pledge_73 0 (by decide) ?_
              refine gx_istore (pc := 74) hB dX5_pledge_74 (by decide) [(6, .int 0), (5, .int (nI e)), (0, .ref m), (1, .int (nI d)), (2, .int (nI p)), (3, .int z), (4, .int u)] rfl ?_
              have loop_76 : ∀ dq i : Nat, i + dq = 8 → G 0 0 (wM K m q1 q2 q3 q4 q5 q6 q7 q8 (plgN S e i) (chP ru n P S) H T X Z (chn ru n) ru ty cl sp ca co) [(0, .ref m), (1, .int (nI d)), (2, .int (nI p)), (3, .int z), (4, .int u), (5, .int (nI e)), (6, .int (nI i))] 76 [] := by
                intro dq
                induction dq with
                | zero =>
                  intro i hi76
                  obtain rfl : 8 = i := by omega
                  refine gx_iload (pc := 76) hB dX5_pledge_76 6 rfl ?_
                  refine gx_bipush (pc := 78) hB dX5_pledge_78 8 (by decide) ?_
                  refine gx_icmp_ge (pc := 80) hB 98 dX5_pledge_80 (by decide) (fun c_7 => ?_) (fun c_7 => ?_)
                  · refine gx_aload_n (pc := 98) hB dX5_pledge_98 0 rfl ?_
                    refine gx_iload (pc := 99) hB dX5_pledge_99 5 rfl ?_
                    refine gx_iconst (pc := 101) hB dX5_pledge_101 0 (by decide) ?_
                    refine gx_iload_n (pc := 102) hB dX5_pledge_102 1 rfl ?_
                    refine gx_dVv (pc := 103) (wr := []) hB (c_X5_putsPledge l K m q1 q2 q3 q4 q5 q6 q7 q8 (plgN S e 8) (chP ru n P S) H T X Z (chn ru n) ru ty cl sp ca co e 0 (nI d) (by first | assumption | omega | decide) (by first | assumption | omega | decide)) mX5_putsPledge dX5_pledge_103 tb_832 pX5_putsPledge ⟨Nat.le_of_ble_eq_true rfl, Nat.le_of_ble_eq_true rfl⟩ ⟨rfl, rfl⟩ ⟨Nat.zero_le _, Nat.zero_le _⟩ rfl (Nat.le_of_ble_eq_true rfl) [0, 1, 2, 3, 4, 5, 6, 7, 8] [] rfl rfl (by decide) (by decide) (by decide) rfl rfl [0, 1, 2, 3, 4, 5, 6, 7, 8] (by decide) (wM K m q1 q2 q3 q4 q5 q6 q7 q8 (uK (plgN S e 8) e 0 (nI d)) (chP ru n P S) H T X Z (chn ru n) ru ty cl sp ca co) rfl ?_
                    refine gx_aload_n (pc := 106) hB dX5_pledge_106 0 rfl ?_
                    refine gx_iload (pc := 107) hB dX5_pledge_107 5 rfl ?_
                    refine gx_iconst (pc := 109) hB dX5_pledge_109 1 (by decide) ?_
                    refine gx_iload_n (pc := 110) hB dX5_pledge_110 2 rfl ?_
                    refine gx_dVv (pc := 111) (wr := []) hB (c_X5_putsPledge l K m q1 q2 q3 q4 q5 q6 q7 q8 (uK (plgN S e 8) e 0 (nI d)) (chP ru n P S) H T X Z (chn ru n) ru ty cl sp ca co e 1 (nI p) (by first | assumption | omega | decide) (by first | assumption | omega | decide)) mX5_putsPledge dX5_pledge_111 tb_832 pX5_putsPledge ⟨Nat.le_of_ble_eq_true rfl, Nat.le_of_ble_eq_true rfl⟩ ⟨rfl, rfl⟩ ⟨Nat.zero_le _, Nat.zero_le _⟩ rfl (Nat.le_of_ble_eq_true rfl) [0, 1, 2, 3, 4, 5, 6, 7, 8] [] rfl rfl (by decide) (by decide) (by decide) rfl rfl [0, 1, 2, 3, 4, 5, 6, 7, 8] (by decide) (wM K m q1 q2 q3 q4 q5 q6 q7 q8 (uK (uK (plgN S e 8) e 0 (nI d)) e 1 (nI p)) (chP ru n P S) H T X Z (chn ru n) ru ty cl sp ca co) rfl ?_
                    refine gx_aload_n (pc := 114) hB dX5_pledge_114 0 rfl ?_
                    refine gx_iload (pc := 115) hB dX5_pledge_115 5 rfl ?_
                    refine gx_iconst (pc := 117) hB dX5_pledge_117 2 (by decide) ?_
                    refine gx_iload_n (pc := 118) hB dX5_pledge_118 3 rfl ?_
                    refine gx_dVv (pc := 119) (wr := []) hB (c_X5_putsPledge l K m q1 q2 q3 q4 q5 q6 q7 q8 (uK (uK (plgN S e 8) e 0 (nI d)) e 1 (nI p)) (chP ru n P S) H T X Z (chn ru n) ru ty cl sp ca co e 2 z (by first | assumption | omega | decide) (by first | assumption | omega | decide)) mX5_putsPledge dX5_pledge_119 tb_832 pX5_putsPledge ⟨Nat.le_of_ble_eq_true rfl, Nat.le_of_ble_eq_true rfl⟩ ⟨rfl, rfl⟩ ⟨Nat.zero_le _, Nat.zero_le _⟩ rfl (Nat.le_of_ble_eq_true rfl) [0, 1, 2, 3, 4, 5, 6, 7, 8] [] rfl rfl (by decide) (by decide) (by decide) rfl rfl [0, 1, 2, 3, 4, 5, 6, 7, 8] (by decide) (wM K m q1 q2 q3 q4 q5 q6 q7 q8 (uK (uK (uK (plgN S e 8) e 0 (nI d)) e 1 (nI p)) e 2 z) (chP ru n P S) H T X Z (chn ru n) ru ty cl sp ca co) rfl ?_
                    refine gx_aload_n (pc := 122) hB dX5_pledge_122 0 rfl ?_
                    refine gx_iload (pc := 123) hB dX5_pledge_123 5 rfl ?_
                    refine gx_iconst (pc := 125) hB dX5_pledge_125 3 (by decide) ?_
                    refine gx_iload (pc := 126) hB dX5_pledge_126 4 rfl ?_
                    refine gx_dVv (pc := 128) (wr := []) hB (c_X5_putsPledge l K m q1 q2 q3 q4 q5 q6 q7 q8 (uK (uK (uK (plgN S e 8) e 0 (nI d)) e 1 (nI p)) e 2 z) (chP ru n P S) H T X Z (chn ru n) ru ty cl sp ca co e 3 u (by first | assumption | omega | decide) (by first | assumption | omega | decide)) mX5_putsPledge dX5_pledge_128 tb_832 pX5_putsPledge ⟨Nat.le_of_ble_eq_true rfl, Nat.le_of_ble_eq_true rfl⟩ ⟨rfl, rfl⟩ ⟨Nat.zero_le _, Nat.zero_le _⟩ rfl (Nat.le_of_ble_eq_true rfl) [0, 1, 2, 3, 4, 5, 6, 7, 8] [] rfl rfl (by decide) (by decide) (by decide) rfl rfl [0, 1, 2, 3, 4, 5, 6, 7, 8] (by decide) (wM K m q1 q2 q3 q4 q5 q6 q7 q8 (uK (uK (uK (uK (plgN S e 8) e 0 (nI d)) e 1 (nI p)) e 2 z) e 3 u) (chP ru n P S) H T X Z (chn ru n) ru ty cl sp ca co) rfl ?_
                    refine gx_aload_n (pc := 131) hB dX5_pledge_131 0 rfl ?_
                    refine gx_get (pc := 132) hB dX5_pledge_132 inX5 rfl 0 rfl 0 (by decide) tb_726 rfl rfl ?_
                    refine gx_iconst (pc := 135) hB dX5_pledge_135 5 (by decide) ?_
                    refine gx_dup2 (pc := 136) hB dX5_pledge_136 rfl rfl ?_
                    refine gx_iald (pc := 137) hB dX5_pledge_137 1 1 rfl rfl 5 rfl (by decide) (by decide) ?_
                    refine gx_iconst (pc := 138) hB dX5_pledge_138 1 (by decide) ?_
                    refine gx_iadd (pc := 139) hB dX5_pledge_139 ?_
                    refine gx_iast (pc := 140) hB dX5_pledge_140 1 1 rfl rfl 5 rfl (by decide) (by decide) (wM K m q1 q2 q3 q4 q5 q6 q7 q8 (upd (uK (uK (uK (uK (plgN S e 8) e 0 (nI d)) e 1 (nI p)) e 2 z) e 3 u) 5 (((uK (uK (uK (uK (plgN S e 8) e 0 (nI d)) e 1 (nI p)) e 2 z) e 3 u) 5) + 1)) (chP ru n P S) H T X Z (chn ru n) ru ty cl sp ca co) rfl ?_
                    refine gx_iload (pc := 141) hB dX5_pledge_141 5 rfl ?_
                    have e1 : ((mPledge S e (nI d) (nI p) z u).1) = nI e := by simp [mPledge, mPledgeS, kpP, kpn, c_1, s_d, c_2, s_p, c_3, c_4, c_5, eq_false c_6, c_7, eq_false (Int32.not_lt.mpr c_7)]
                    have f0 : ((mPledge S e (nI d) (nI p) z u).2.2) = (upd (uK (uK (uK (uK (plgN S e 8) e 0 (nI d)) e 1 (nI p)) e 2 z) e 3 u) 5 (((uK (uK (uK (uK (plgN S e 8) e 0 (nI d)) e 1 (nI p)) e 2 z) e 3 u) 5) + 1)) := by simp [mPledge, mPledgeS, kpP, kpn, c_1, s_d, c_2, s_p, c_3, c_4, c_5, eq_false c_6, c_7, eq_false (Int32.not_lt.mpr c_7)]
                    have f1 : (kpP (mPledge S e (nI d) (nI p) z u).2.1 ru n P S) = chP ru n P S := by simp [mPledge, mPledgeS, kpP, kpn, c_1, s_d, c_2, s_p, c_3, c_4, c_5, eq_false c_6, c_7, eq_false (Int32.not_lt.mpr c_7)]
                    have f2 : (kpn (mPledge S e (nI d) (nI p) z u).2.1 ru n) = chn ru n := by simp [mPledge, mPledgeS, kpP, kpn, c_1, s_d, c_2, s_p, c_3, c_4, c_5, eq_false c_6, c_7, eq_false (Int32.not_lt.mpr c_7)]
                    exact gx_iret (pc := 143) hC dX5_pledge_143 (Nat.zero_le _) (Nat.zero_le _) (⟨by rw [e1], by rw [f0, f1, f2]⟩)
                  · exact absurd (lpT (x := 8) hi76) c_7
                | succ dq ih76 =>
                  intro i hi76
                  refine gx_iload (pc := 76) hB dX5_pledge_76 6 rfl ?_
                  refine gx_bipush (pc := 78) hB dX5_pledge_78 8 (by decide) ?_
                  refine gx_icmp_ge (pc := 80) hB 98 dX5_pledge_80 (by decide) (fun c_8 => ?_) (fun c_8 => ?_)
                  · exact absurd c_8 (lpF (x := 8) hi76)
                  · refine gx_aload_n (pc := 83) hB dX5_pledge_83 0 rfl ?_
                    refine gx_iload (pc := 84) hB dX5_pledge_84 5 rfl ?_
                    refine gx_iload (pc := 86) hB dX5_pledge_86 6 rfl ?_
                    refine gx_iconst (pc := 88) hB dX5_pledge_88 0 (by decide) ?_
                    refine gx_dVv (pc := 89) (wr := []) hB (c_X5_putsPledge l K m q1 q2 q3 q4 q5 q6 q7 q8 (plgN S e i) (chP ru n P S) H T X Z (chn ru n) ru ty cl sp ca co e i 0 (by first | assumption | omega | decide) (by first | assumption | omega | decide)) mX5_putsPledge dX5_pledge_89 tb_832 pX5_putsPledge ⟨Nat.le_of_ble_eq_true rfl, Nat.le_of_ble_eq_true rfl⟩ ⟨rfl, rfl⟩ ⟨Nat.zero_le _, Nat.zero_le _⟩ rfl (Nat.le_of_ble_eq_true rfl) [0, 1, 2, 3, 4, 5, 6, 7, 8] [] rfl rfl (by decide) (by decide) (by decide) rfl rfl [0, 1, 2, 3, 4, 5, 6, 7, 8] (by decide) (wM K m q1 q2 q3 q4 q5 q6 q7 q8 (uK (plgN S e i) e i 0) (chP ru n P S) H T X Z (chn ru n) ru ty cl sp ca co) rfl ?_
                    refine gx_iinc (pc := 92) hB dX5_pledge_92 6 (by decide) rfl (nI (i + 1)) (nI_1 _) [(6, .int (nI (i + 1))), (0, .ref m), (1, .int (nI d)), (2, .int (nI p)), (3, .int z), (4, .int u), (5, .int (nI e))] rfl ?_
                    refine gx_goto (pc := 95) hB 76 dX5_pledge_95 (by decide) ?_
                    have w0 : uK (plgN S e i) e i 0 = plgN S e (i + 1) := by simp [mPledge, mPledgeS, plgN, kpP, kpn, c_1, s_d, c_2, s_p, c_3, c_4, c_5, eq_false c_6, Int32.not_le.mp c_8, eq_false c_8]
                    refine gx_sub hB (lv' := [(0, .ref m), (1, .int (nI d)), (2, .int (nI p)), (3, .int z), (4, .int u), (5, .int (nI e)), (6, .int (nI (i + 1)))]) [1, 2, 3, 4, 5, 6, 0] rfl ?_
                    refine gx_all (ws' := wM K m q1 q2 q3 q4 q5 q6 q7 q8 (plgN S e (i + 1)) (chP ru n P S) H T X Z (chn ru n) ru ty cl sp ca co) (lv' := [(0, .ref m), (1, .int (nI d)), (2, .int (nI p)), (3, .int z), (4, .int u), (5, .int (nI e)), (6, .int (nI (i + 1)))]) (by rw [← w0]) (rfl) ?_
                    exact ih76 (i + 1) (by omega)
              refine gx_sub hB (lv' := [(0, .ref m), (1, .int (nI d)), (2, .int (nI p)), (3, .int z), (4, .int u), (5, .int (nI e)), (6, .int 0)]) [2, 3, 4, 5, 6, 1, 0] rfl ?_
              refine gx_all (ws' := wM K m q1 q2 q3 q4 q5 q6 q7 q8 (plgN S e 0) (chP ru n P S) H T X Z (chn ru n) ru ty cl sp ca co) (lv' := [(0, .ref m), (1, .int (nI d)), (2, .int (nI p)), (3, .int z), (4, .int u), (5, .int (nI e)), (6, .int (nI 0))]) (rfl) (rfl) ?_
              exact loop_76 (8) 0 (by omega)
            · refine gx_bipush (pc := 66) hB dX5_pledge_66 (-3) (by decide) ?_
              have e1 : ((mPledge S e (nI d) (nI p) z u).1) = (-3) := by simp [mPledge, mPledgeS, plgN, kpP, kpn, c_1, s_d, c_2, s_p, c_3, c_4, c_5, eq_true c_6]
              have f0 : ((mPledge S e (nI d) (nI p) z u).2.2) = S := by simp [mPledge, mPledgeS, plgN, kpP, kpn, c_1, s_d, c_2, s_p, c_3, c_4, c_5, eq_true c_6]
              have f1 : (kpP (mPledge S e (nI d) (nI p) z u).2.1 ru n P S) = P := by simp [mPledge, mPledgeS, plgN, kpP, kpn, c_1, s_d, c_2, s_p, c_3, c_4, c_5, eq_true c_6]
              have f2 : (kpn (mPledge S e (nI d) (nI p) z u).2.1 ru n) = n := by simp [mPledge, mPledgeS, plgN, kpP, kpn, c_1, s_d, c_2, s_p, c_3, c_4, c_5, eq_true c_6]
              exact gx_iret (pc := 68) hC dX5_pledge_68 (Nat.zero_le _) (Nat.zero_le _) (⟨by rw [e1], by rw [f0, f1, f2]⟩)
          · refine gx_bipush (pc := 48) hB dX5_pledge_48 (-2) (by decide) ?_
            have e1 : ((mPledge S e (nI d) (nI p) z u).1) = (-2) := by simp [mPledge, mPledgeS, plgN, kpP, kpn, c_1, s_d, c_2, s_p, c_3, c_4, c_5]
            have f0 : ((mPledge S e (nI d) (nI p) z u).2.2) = S := by simp [mPledge, mPledgeS, plgN, kpP, kpn, c_1, s_d, c_2, s_p, c_3, c_4, c_5]
            have f1 : (kpP (mPledge S e (nI d) (nI p) z u).2.1 ru n P S) = P := by simp [mPledge, mPledgeS, plgN, kpP, kpn, c_1, s_d, c_2, s_p, c_3, c_4, c_5]
            have f2 : (kpn (mPledge S e (nI d) (nI p) z u).2.1 ru n) = n := by simp [mPledge, mPledgeS, plgN, kpP, kpn, c_1, s_d, c_2, s_p, c_3, c_4, c_5]
            exact gx_iret (pc := 50) hC dX5_pledge_50 (Nat.zero_le _) (Nat.zero_le _) (⟨by rw [e1], by rw [f0, f1, f2]⟩)
        · refine gx_iconst (pc := 38) hB dX5_pledge_38 (-1) (by decide) ?_
          have e1 : ((mPledge S e (nI d) (nI p) z u).1) = (-1) := by simp [mPledge, mPledgeS, plgN, kpP, kpn, c_1, s_d, c_2, s_p, c_3, c_4]
          have f0 : ((mPledge S e (nI d) (nI p) z u).2.2) = S := by simp [mPledge, mPledgeS, plgN, kpP, kpn, c_1, s_d, c_2, s_p, c_3, c_4]
          have f1 : (kpP (mPledge S e (nI d) (nI p) z u).2.1 ru n P S) = P := by simp [mPledge, mPledgeS, plgN, kpP, kpn, c_1, s_d, c_2, s_p, c_3, c_4]
          have f2 : (kpn (mPledge S e (nI d) (nI p) z u).2.1 ru n) = n := by simp [mPledge, mPledgeS, plgN, kpP, kpn, c_1, s_d, c_2, s_p, c_3, c_4]
          exact gx_iret (pc := 39) hC dX5_pledge_39 (Nat.zero_le _) (Nat.zero_le _) (⟨by rw [e1], by rw [f0, f1, f2]⟩)
theorem pX5_miss : (parseMethodDescriptor yX5_miss.desc).map (fun d => d.parameters.length) = some 1 := by decide +kernel
theorem mX5_miss : gx_M yX5_miss cX5_miss 2 (some .int) := ⟨tb_837, tb_838, tb_73, tb_839, by decide, by decide⟩
set_option maxHeartbeats 4000000 in
set_option maxRecDepth 100000 in
theorem c_X5_miss (l : Launch) (K : gx_K) (m q1 q2 q3 q4 q5 q6 q7 q8 : Nat) (S P H T X Z : Nat → Int32) (n : Nat) (ru : Bool) (ty : Nat) (cl : Int32) (sp : Nat) (ca : Int32) (co : Nat) (a b c e : Nat) (x : Int32) (h0 : sOk S a b c e) (h1 : n ≤ 4) : gx_Ctr l K yX5_miss cX5_miss 2 (some .int) (rmm 2 23) [.ref m, .int x] (wM K m q1 q2 q3 q4 q5 q6 q7 q8 S P H T X Z n ru ty cl sp ca co) (gx_D (some (.int ((mMiss S x).1))) (wM K m q1 q2 q3 q4 q5 q6 q7 q8 ((mMiss S x).2.2) (kpP (mMiss S x).2.1 ru n P S) H T X Z (kpn (mMiss S x).2.1 ru n) ru ty cl sp ca co)) := by
  refine gx_of (by decide) (Nat.le_of_ble_eq_true rfl) (fun G hC => ?_)
  have hB := hC.b
  refine gx_lv (lv' := [(0, .ref m), (1, .int x)]) rfl ?_
  have hb0 := h0.1
  refine gx_aload_n (pc := 0) hB dX5_miss_0 0 rfl ?_
  refine gx_iload_n (pc := 1) hB dX5_miss_1 1 rfl ?_
  refine gx_dVi (pc := 2) (r := bI (sIsK S x)) (wr := []) hB (c_X5_isPledge l K m q1 q2 q3 q4 q5 q6 q7 q8 S P H T X Z n ru ty cl sp ca co x ) mX5_isPledge dX5_miss_2 tb_840 pX5_isPledge ⟨Nat.le_of_ble_eq_true rfl, Nat.le_of_ble_eq_true rfl⟩ ⟨rfl, rfl⟩ ⟨Nat.zero_le _, Nat.zero_le _⟩ rfl (Nat.le_of_ble_eq_true rfl) [0, 1, 2, 3, 4, 5, 6, 7, 8] [] rfl rfl (by decide) (by decide) (by decide) rfl rfl [0, 1, 2, 3, 4, 5, 6, 7, 8] (by decide) (wM K m q1 q2 q3 q4 q5 q6 q7 q8 S P H T X Z n ru ty cl sp ca co) rfl ?_
  refine gx_if_ne_b (pc := 5) hB 10 dX5_miss_5 (by decide) (fun c_1 => ?_) (fun c_1 => ?_)
  · obtain ⟨k, h_k, rfl⟩ := isK_of h0 c_1
    have s_k : (nI k).toNatClampNeg = k := nI_clamp (by omega)
    refine gx_aload_n (pc := 10) hB dX5_miss_10 0 rfl ?_
    refine gx_iload_n (pc := 11) hB dX5_miss_11 1 rfl ?_
    refine gx_iconst (pc := 12) hB dX5_miss_12 5 (by decide) ?_
    refine gx_dVi (pc := 13) (r := sK S k 5) (wr := []) hB (c_X5_ofPledge l K m q1 q2 q3 q4 q5 q6 q7 q8 S P H T X Z n ru ty cl sp ca co k 5 (by first | assumption | omega | decide) (by first | assumption | omega | decide)) mX5_ofPledge dX5_miss_13 tb_844 pX5_ofPledge ⟨Nat.le_of_ble_eq_true rfl, Nat.le_of_ble_eq_true rfl⟩ ⟨rfl, rfl⟩ ⟨Nat.zero_le _, Nat.zero_le _⟩ rfl (Nat.le_of_ble_eq_true rfl) [0, 1, 2, 3, 4, 5, 6, 7, 8] [] rfl rfl (by decide) (by decide) (by decide) rfl rfl [0, 1, 2, 3, 4, 5, 6, 7, 8] (by decide) (wM K m q1 q2 q3 q4 q5 q6 q7 q8 S P H T X Z n ru ty cl sp ca co) rfl ?_
    refine gx_if_gt (pc := 16) hB 30 dX5_miss_16 (by decide) (fun c_2 => ?_) (fun c_2 => ?_)
    · refine gx_bipush (pc := 30) hB dX5_miss_30 (-2) (by decide) ?_
      have e1 : ((mMiss S (nI k)).1) = (-2) := by simp [mMiss, kpP, kpn, c_1, s_k, c_2, eq_false (Int32.not_le.mpr c_2)]
      have f0 : ((mMiss S (nI k)).2.2) = S := by simp [mMiss, kpP, kpn, c_1, s_k, c_2, eq_false (Int32.not_le.mpr c_2)]
      have f1 : (kpP (mMiss S (nI k)).2.1 ru n P S) = P := by simp [mMiss, kpP, kpn, c_1, s_k, c_2, eq_false (Int32.not_le.mpr c_2)]
      have f2 : (kpn (mMiss S (nI k)).2.1 ru n) = n := by simp [mMiss, kpP, kpn, c_1, s_k, c_2, eq_false (Int32.not_le.mpr c_2)]
      exact gx_iret (pc := 32) hC dX5_miss_32 (Nat.zero_le _) (Nat.zero_le _) (⟨by rw [e1], by rw [f0, f1, f2]⟩)
    · refine gx_aload_n (pc := 19) hB dX5_miss_19 0 rfl ?_
      refine gx_iload_n (pc := 20) hB dX5_miss_20 1 rfl ?_
      refine gx_bipush (pc := 21) hB dX5_miss_21 7 (by decide) ?_
      refine gx_dVi (pc := 23) (r := sK S k 7) (wr := []) hB (c_X5_ofPledge l K m q1 q2 q3 q4 q5 q6 q7 q8 S P H T X Z n ru ty cl sp ca co k 7 (by first | assumption | omega | decide) (by first | assumption | omega | decide)) mX5_ofPledge dX5_miss_23 tb_844 pX5_ofPledge ⟨Nat.le_of_ble_eq_true rfl, Nat.le_of_ble_eq_true rfl⟩ ⟨rfl, rfl⟩ ⟨Nat.zero_le _, Nat.zero_le _⟩ rfl (Nat.le_of_ble_eq_true rfl) [0, 1, 2, 3, 4, 5, 6, 7, 8] [] rfl rfl (by decide) (by decide) (by decide) rfl rfl [0, 1, 2, 3, 4, 5, 6, 7, 8] (by decide) (wM K m q1 q2 q3 q4 q5 q6 q7 q8 S P H T X Z n ru ty cl sp ca co) rfl ?_
      refine gx_iconst (pc := 26) hB dX5_miss_26 1 (by decide) ?_
      refine gx_icmp_ne (pc := 27) hB 33 dX5_miss_27 (by decide) (fun c_3 => ?_) (fun c_3 => ?_)
      · refine gx_aload_n (pc := 33) hB dX5_miss_33 0 rfl ?_
        refine gx_dVv (pc := 34) (wr := []) hB (c_X5_changes l K m q1 q2 q3 q4 q5 q6 q7 q8 S P H T X Z n ru ty cl sp ca co (by first | assumption | omega | decide)) mX5_changes dX5_miss_34 tb_777 pX5_changes ⟨Nat.le_of_ble_eq_true rfl, Nat.le_of_ble_eq_true rfl⟩ ⟨rfl, rfl⟩ ⟨Nat.zero_le _, Nat.zero_le _⟩ rfl (Nat.le_of_ble_eq_true rfl) [0, 1, 2, 3, 4, 5, 6, 7, 8] [] rfl rfl (by decide) (by decide) (by decide) rfl rfl [0, 1, 2, 3, 4, 5, 6, 7, 8] (by decide) (wM K m q1 q2 q3 q4 q5 q6 q7 q8 S (chP ru n P S) H T X Z (chn ru n) ru ty cl sp ca co) rfl ?_
        refine gx_aload_n (pc := 37) hB dX5_miss_37 0 rfl ?_
        refine gx_iload_n (pc := 38) hB dX5_miss_38 1 rfl ?_
        refine gx_bipush (pc := 39) hB dX5_miss_39 7 (by decide) ?_
        refine gx_iconst (pc := 41) hB dX5_miss_41 1 (by decide) ?_
        refine gx_dVv (pc := 42) (wr := []) hB (c_X5_putsPledge l K m q1 q2 q3 q4 q5 q6 q7 q8 S (chP ru n P S) H T X Z (chn ru n) ru ty cl sp ca co k 7 1 (by first | assumption | omega | decide) (by first | assumption | omega | decide)) mX5_putsPledge dX5_miss_42 tb_832 pX5_putsPledge ⟨Nat.le_of_ble_eq_true rfl, Nat.le_of_ble_eq_true rfl⟩ ⟨rfl, rfl⟩ ⟨Nat.zero_le _, Nat.zero_le _⟩ rfl (Nat.le_of_ble_eq_true rfl) [0, 1, 2, 3, 4, 5, 6, 7, 8] [] rfl rfl (by decide) (by decide) (by decide) rfl rfl [0, 1, 2, 3, 4, 5, 6, 7, 8] (by decide) (wM K m q1 q2 q3 q4 q5 q6 q7 q8 (uK S k 7 1) (chP ru n P S) H T X Z (chn ru n) ru ty cl sp ca co) rfl ?_
        refine gx_aload_n (pc := 45) hB dX5_miss_45 0 rfl ?_
        refine gx_iload_n (pc := 46) hB dX5_miss_46 1 rfl ?_
        refine gx_iconst (pc := 47) hB dX5_miss_47 4 (by decide) ?_
        refine gx_dVi (pc := 48) (r := sK (uK S k 7 1) k 4) (wr := []) hB (c_X5_ofPledge l K m q1 q2 q3 q4 q5 q6 q7 q8 (uK S k 7 1) (chP ru n P S) H T X Z (chn ru n) ru ty cl sp ca co k 4 (by first | assumption | omega | decide) (by first | assumption | omega | decide)) mX5_ofPledge dX5_miss_48 tb_844 pX5_ofPledge ⟨Nat.le_of_ble_eq_true rfl, Nat.le_of_ble_eq_true rfl⟩ ⟨rfl, rfl⟩ ⟨Nat.zero_le _, Nat.zero_le _⟩ rfl (Nat.le_of_ble_eq_true rfl) [0, 1, 2, 3, 4, 5, 6, 7, 8] [] rfl rfl (by decide) (by decide) (by decide) rfl rfl [0, 1, 2, 3, 4, 5, 6, 7, 8] (by decide) (wM K m q1 q2 q3 q4 q5 q6 q7 q8 (uK S k 7 1) (chP ru n P S) H T X Z (chn ru n) ru ty cl sp ca co) rfl ?_
        have e1 : ((mMiss S (nI k)).1) = (sK (uK S k 7 1) k 4) := by simp [mMiss, kpP, kpn, c_1, s_k, Int32.not_lt.mp c_2, eq_false c_2, eq_false c_3]
        have f0 : ((mMiss S (nI k)).2.2) = uK S k 7 1 := by simp [mMiss, kpP, kpn, c_1, s_k, Int32.not_lt.mp c_2, eq_false c_2, eq_false c_3]
        have f1 : (kpP (mMiss S (nI k)).2.1 ru n P S) = chP ru n P S := by simp [mMiss, kpP, kpn, c_1, s_k, Int32.not_lt.mp c_2, eq_false c_2, eq_false c_3]
        have f2 : (kpn (mMiss S (nI k)).2.1 ru n) = chn ru n := by simp [mMiss, kpP, kpn, c_1, s_k, Int32.not_lt.mp c_2, eq_false c_2, eq_false c_3]
        exact gx_iret (pc := 51) hC dX5_miss_51 (Nat.zero_le _) (Nat.zero_le _) (⟨by rw [e1], by rw [f0, f1, f2]⟩)
      · refine gx_bipush (pc := 30) hB dX5_miss_30 (-2) (by decide) ?_
        have e1 : ((mMiss S (nI k)).1) = (-2) := by simp [mMiss, kpP, kpn, c_1, s_k, Int32.not_lt.mp c_2, eq_false c_2, eq_true c_3]
        have f0 : ((mMiss S (nI k)).2.2) = S := by simp [mMiss, kpP, kpn, c_1, s_k, Int32.not_lt.mp c_2, eq_false c_2, eq_true c_3]
        have f1 : (kpP (mMiss S (nI k)).2.1 ru n P S) = P := by simp [mMiss, kpP, kpn, c_1, s_k, Int32.not_lt.mp c_2, eq_false c_2, eq_true c_3]
        have f2 : (kpn (mMiss S (nI k)).2.1 ru n) = n := by simp [mMiss, kpP, kpn, c_1, s_k, Int32.not_lt.mp c_2, eq_false c_2, eq_true c_3]
        exact gx_iret (pc := 32) hC dX5_miss_32 (Nat.zero_le _) (Nat.zero_le _) (⟨by rw [e1], by rw [f0, f1, f2]⟩)
  · refine gx_iconst (pc := 8) hB dX5_miss_8 (-1) (by decide) ?_
    have e1 : ((mMiss S x).1) = (-1) := by simp [mMiss, kpP, kpn, c_1]
    have f0 : ((mMiss S x).2.2) = S := by simp [mMiss, kpP, kpn, c_1]
    have f1 : (kpP (mMiss S x).2.1 ru n P S) = P := by simp [mMiss, kpP, kpn, c_1]
    have f2 : (kpn (mMiss S x).2.1 ru n) = n := by simp [mMiss, kpP, kpn, c_1]
    exact gx_iret (pc := 9) hC dX5_miss_9 (Nat.zero_le _) (Nat.zero_le _) (⟨by rw [e1], by rw [f0, f1, f2]⟩)
theorem pX5_stop : (parseMethodDescriptor yX5_stop.desc).map (fun d => d.parameters.length) = some 1 := by decide +kernel
theorem mX5_stop : gx_M yX5_stop cX5_stop 2 (some .int) := ⟨tb_849, tb_850, tb_73, tb_851, by decide, by decide⟩
set_option maxHeartbeats 4000000 in
set_option maxRecDepth 100000 in
theorem c_X5_stop (l : Launch) (K : gx_K) (m q1 q2 q3 q4 q5 q6 q7 q8 : Nat) (S P H T X Z : Nat → Int32) (n : Nat) (ru : Bool) (ty : Nat) (cl : Int32) (sp : Nat) (ca : Int32) (co : Nat) (a b c e : Nat) (x : Int32) (h0 : sOk S a b c e) (h1 : n ≤ 4) : gx_Ctr l K yX5_stop cX5_stop 2 (some .int) (rmm 3 45) [.ref m, .int x] (wM K m q1 q2 q3 q4 q5 q6 q7 q8 S P H T X Z n ru ty cl sp ca co) (gx_D (some (.int ((mStop S x).1))) (wM K m q1 q2 q3 q4 q5 q6 q7 q8 ((mStop S x).2.2) (kpP (mStop S x).2.1 ru n P S) H T X Z (kpn (mStop S x).2.1 ru n) ru ty cl sp ca co)) := by
  refine gx_of (by decide) (Nat.le_of_ble_eq_true rfl) (fun G hC => ?_)
  have hB := hC.b
  refine gx_lv (lv' := [(0, .ref m), (1, .int x)]) rfl ?_
  have hb0 := h0.1
  refine gx_aload_n (pc := 0) hB dX5_stop_0 0 rfl ?_
  refine gx_iload_n (pc := 1) hB dX5_stop_1 1 rfl ?_
  refine gx_dVi (pc := 2) (r := bI (sIsK S x)) (wr := []) hB (c_X5_isPledge l K m q1 q2 q3 q4 q5 q6 q7 q8 S P H T X Z n ru ty cl sp ca co x ) mX5_isPledge dX5_stop_2 tb_840 pX5_isPledge ⟨Nat.le_of_ble_eq_true rfl, Nat.le_of_ble_eq_true rfl⟩ ⟨rfl, rfl⟩ ⟨Nat.zero_le _, Nat.zero_le _⟩ rfl (Nat.le_of_ble_eq_true rfl) [0, 1, 2, 3, 4, 5, 6, 7, 8] [] rfl rfl (by decide) (by decide) (by decide) rfl rfl [0, 1, 2, 3, 4, 5, 6, 7, 8] (by decide) (wM K m q1 q2 q3 q4 q5 q6 q7 q8 S P H T X Z n ru ty cl sp ca co) rfl ?_
  refine gx_if_ne_b (pc := 5) hB 10 dX5_stop_5 (by decide) (fun c_1 => ?_) (fun c_1 => ?_)
  · obtain ⟨k, h_k, rfl⟩ := isK_of h0 c_1
    have s_k : (nI k).toNatClampNeg = k := nI_clamp (by omega)
    refine gx_aload_n (pc := 10) hB dX5_stop_10 0 rfl ?_
    refine gx_iload_n (pc := 11) hB dX5_stop_11 1 rfl ?_
    refine gx_iconst (pc := 12) hB dX5_stop_12 5 (by decide) ?_
    refine gx_dVi (pc := 13) (r := sK S k 5) (wr := []) hB (c_X5_ofPledge l K m q1 q2 q3 q4 q5 q6 q7 q8 S P H T X Z n ru ty cl sp ca co k 5 (by first | assumption | omega | decide) (by first | assumption | omega | decide)) mX5_ofPledge dX5_stop_13 tb_844 pX5_ofPledge ⟨Nat.le_of_ble_eq_true rfl, Nat.le_of_ble_eq_true rfl⟩ ⟨rfl, rfl⟩ ⟨Nat.zero_le _, Nat.zero_le _⟩ rfl (Nat.le_of_ble_eq_true rfl) [0, 1, 2, 3, 4, 5, 6, 7, 8] [] rfl rfl (by decide) (by decide) (by decide) rfl rfl [0, 1, 2, 3, 4, 5, 6, 7, 8] (by decide) (wM K m q1 q2 q3 q4 q5 q6 q7 q8 S P H T X Z n ru ty cl sp ca co) rfl ?_
    refine gx_if_le (pc := 16) hB 22 dX5_stop_16 (by decide) (fun c_2 => ?_) (fun c_2 => ?_)
    · refine gx_aload_n (pc := 22) hB dX5_stop_22 0 rfl ?_
      refine gx_dVv (pc := 23) (wr := []) hB (c_X5_changes l K m q1 q2 q3 q4 q5 q6 q7 q8 S P H T X Z n ru ty cl sp ca co (by first | assumption | omega | decide)) mX5_changes dX5_stop_23 tb_777 pX5_changes ⟨Nat.le_of_ble_eq_true rfl, Nat.le_of_ble_eq_true rfl⟩ ⟨rfl, rfl⟩ ⟨Nat.zero_le _, Nat.zero_le _⟩ rfl (Nat.le_of_ble_eq_true rfl) [0, 1, 2, 3, 4, 5, 6, 7, 8] [] rfl rfl (by decide) (by decide) (by decide) rfl rfl [0, 1, 2, 3, 4, 5, 6, 7, 8] (by decide) (wM K m q1 q2 q3 q4 q5 q6 q7 q8 S (chP ru n P S) H T X Z (chn ru n) ru ty cl sp ca co) rfl ?_
      refine gx_aload_n (pc := 26) hB dX5_stop_26 0 rfl ?_
      refine gx_iload_n (pc := 27) hB dX5_stop_27 1 rfl ?_
      refine gx_iconst (pc := 28) hB dX5_stop_28 2 (by decide) ?_
      refine gx_dVv (pc := 29) (wr := []) hB (c_X5_ends l K m q1 q2 q3 q4 q5 q6 q7 q8 S (chP ru n P S) H T X Z (chn ru n) ru ty cl sp ca co k 2 (by first | assumption | omega | decide)) mX5_ends dX5_stop_29 tb_852 pX5_ends ⟨Nat.le_of_ble_eq_true rfl, Nat.le_of_ble_eq_true rfl⟩ ⟨rfl, rfl⟩ ⟨Nat.zero_le _, Nat.zero_le _⟩ rfl (Nat.le_of_ble_eq_true rfl) [0, 1, 2, 3, 4, 5, 6, 7, 8] [] rfl rfl (by decide) (by decide) (by decide) rfl rfl [0, 1, 2, 3, 4, 5, 6, 7, 8] (by decide) (wM K m q1 q2 q3 q4 q5 q6 q7 q8 (mEnds S k 2) (chP ru n P S) H T X Z (chn ru n) ru ty cl sp ca co) rfl ?_
      refine gx_aload_n (pc := 32) hB dX5_stop_32 0 rfl ?_
      refine gx_iload_n (pc := 33) hB dX5_stop_33 1 rfl ?_
      refine gx_iconst (pc := 34) hB dX5_stop_34 3 (by decide) ?_
      refine gx_dVi (pc := 35) (r := sK (mEnds S k 2) k 3) (wr := []) hB (c_X5_ofPledge l K m q1 q2 q3 q4 q5 q6 q7 q8 (mEnds S k 2) (chP ru n P S) H T X Z (chn ru n) ru ty cl sp ca co k 3 (by first | assumption | omega | decide) (by first | assumption | omega | decide)) mX5_ofPledge dX5_stop_35 tb_844 pX5_ofPledge ⟨Nat.le_of_ble_eq_true rfl, Nat.le_of_ble_eq_true rfl⟩ ⟨rfl, rfl⟩ ⟨Nat.zero_le _, Nat.zero_le _⟩ rfl (Nat.le_of_ble_eq_true rfl) [0, 1, 2, 3, 4, 5, 6, 7, 8] [] rfl rfl (by decide) (by decide) (by decide) rfl rfl [0, 1, 2, 3, 4, 5, 6, 7, 8] (by decide) (wM K m q1 q2 q3 q4 q5 q6 q7 q8 (mEnds S k 2) (chP ru n P S) H T X Z (chn ru n) ru ty cl sp ca co) rfl ?_
      have e1 : ((mStop S (nI k)).1) = (sK (mEnds S k 2) k 3) := by simp [mStop, kpP, kpn, c_1, s_k, c_2, eq_false (Int32.not_lt.mpr c_2)]
      have f0 : ((mStop S (nI k)).2.2) = mEnds S k 2 := by simp [mStop, kpP, kpn, c_1, s_k, c_2, eq_false (Int32.not_lt.mpr c_2)]
      have f1 : (kpP (mStop S (nI k)).2.1 ru n P S) = chP ru n P S := by simp [mStop, kpP, kpn, c_1, s_k, c_2, eq_false (Int32.not_lt.mpr c_2)]
      have f2 : (kpn (mStop S (nI k)).2.1 ru n) = chn ru n := by simp [mStop, kpP, kpn, c_1, s_k, c_2, eq_false (Int32.not_lt.mpr c_2)]
      exact gx_iret (pc := 38) hC dX5_stop_38 (Nat.zero_le _) (Nat.zero_le _) (⟨by rw [e1], by rw [f0, f1, f2]⟩)
    · refine gx_bipush (pc := 19) hB dX5_stop_19 (-2) (by decide) ?_
      have e1 : ((mStop S (nI k)).1) = (-2) := by simp [mStop, kpP, kpn, c_1, s_k, Int32.not_le.mp c_2, eq_false c_2]
      have f0 : ((mStop S (nI k)).2.2) = S := by simp [mStop, kpP, kpn, c_1, s_k, Int32.not_le.mp c_2, eq_false c_2]
      have f1 : (kpP (mStop S (nI k)).2.1 ru n P S) = P := by simp [mStop, kpP, kpn, c_1, s_k, Int32.not_le.mp c_2, eq_false c_2]
      have f2 : (kpn (mStop S (nI k)).2.1 ru n) = n := by simp [mStop, kpP, kpn, c_1, s_k, Int32.not_le.mp c_2, eq_false c_2]
      exact gx_iret (pc := 21) hC dX5_stop_21 (Nat.zero_le _) (Nat.zero_le _) (⟨by rw [e1], by rw [f0, f1, f2]⟩)
  · refine gx_iconst (pc := 8) hB dX5_stop_8 (-1) (by decide) ?_
    have e1 : ((mStop S x).1) = (-1) := by simp [mStop, kpP, kpn, c_1]
    have f0 : ((mStop S x).2.2) = S := by simp [mStop, kpP, kpn, c_1]
    have f1 : (kpP (mStop S x).2.1 ru n P S) = P := by simp [mStop, kpP, kpn, c_1]
    have f2 : (kpn (mStop S x).2.1 ru n) = n := by simp [mStop, kpP, kpn, c_1]
    exact gx_iret (pc := 9) hC dX5_stop_9 (Nat.zero_le _) (Nat.zero_le _) (⟨by rw [e1], by rw [f0, f1, f2]⟩)
