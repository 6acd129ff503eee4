theorem pX4_within : (parseMethodDescriptor yX4_within.desc).map (fun d => d.parameters.length) = some 3 := by decide +kernel
theorem mX4_within : gx_MS yX4_within cX4_within 3 (some .boolean) := ⟨tb_169, tb_27, tb_170, by decide, by decide⟩
set_option maxHeartbeats 4000000 in
set_option maxRecDepth 100000 in
theorem c_X4_within (l : Launch) (K : gx_K) (v lo hi : Int32)  : gx_Ctr l K yX4_within cX4_within 3 (some .boolean) (rmm 1 0) [.int v, .int lo, .int hi] [] (gx_D (some (.int (bI (bIn v lo hi)))) []) := by
  refine gx_of (by decide) (Nat.le_of_ble_eq_true rfl) (fun G hC => ?_)
  have hB := hC.b
  refine gx_lv (lv' := [(0, .int v), (1, .int lo), (2, .int hi)]) rfl ?_
  refine gx_iload_n (pc := 0) hB dX4_within_0 0 rfl ?_
  refine gx_iload_n (pc := 1) hB dX4_within_1 1 rfl ?_
  refine gx_icmp_lt (pc := 2) hB 14 dX4_within_2 (by decide) (fun c_1 => ?_) (fun c_1 => ?_)
  · refine gx_iconst (pc := 14) hB dX4_within_14 0 (by decide) ?_
    have e1 : (bI (bIn v lo hi)) = 0 := by simp [bIn, bI, c_1, eq_false (Int32.not_le.mpr c_1)]
    exact gx_zret (pc := 15) hC dX4_within_15 (Nat.zero_le _) (Nat.zero_le _) (by decide) (⟨by rw [e1], rfl⟩)
  · refine gx_iload_n (pc := 5) hB dX4_within_5 0 rfl ?_
    refine gx_iload_n (pc := 6) hB dX4_within_6 2 rfl ?_
    refine gx_icmp_gt (pc := 7) hB 14 dX4_within_7 (by decide) (fun c_2 => ?_) (fun c_2 => ?_)
    · refine gx_iconst (pc := 14) hB dX4_within_14 0 (by decide) ?_
      have e1 : (bI (bIn v lo hi)) = 0 := by simp [bIn, bI, Int32.not_lt.mp c_1, eq_false c_1, c_2, eq_false (Int32.not_le.mpr c_2)]
      exact gx_zret (pc := 15) hC dX4_within_15 (Nat.zero_le _) (Nat.zero_le _) (by decide) (⟨by rw [e1], rfl⟩)
    · refine gx_iconst (pc := 10) hB dX4_within_10 1 (by decide) ?_
      refine gx_goto (pc := 11) hB 15 dX4_within_11 (by decide) ?_
      have e1 : (bI (bIn v lo hi)) = 1 := by simp [bIn, bI, Int32.not_lt.mp c_1, eq_false c_1, Int32.not_lt.mp c_2, eq_false c_2]
      exact gx_zret (pc := 15) hC dX4_within_15 (Nat.zero_le _) (Nat.zero_le _) (by decide) (⟨by rw [e1], rfl⟩)
theorem pX0_addPurpose : (parseMethodDescriptor yX0_addPurpose.desc).map (fun d => d.parameters.length) = some 0 := by decide +kernel
theorem mX0_addPurpose : gx_M yX0_addPurpose cX0_addPurpose 2 (some .int) := ⟨tb_69, tb_70, tb_28, tb_71, by decide, by decide⟩
set_option maxHeartbeats 4000000 in
set_option maxRecDepth 100000 in
theorem c_X0_addPurpose (l : Launch) (K : gx_K) (h t1 t2 t3 t4 c : Nat) (C : Nat → Int32)   : gx_Ctr l K yX0_addPurpose cX0_addPurpose 2 (some .int) (rmm 2 23) [.ref h] (wB K h t1 t2 t3 t4 c C) (gx_D (some (.int ((bAddPurpose C).1))) (wB K h t1 t2 t3 t4 c ((bAddPurpose C).2))) := by
  refine gx_of (by decide) (Nat.le_of_ble_eq_true rfl) (fun G hC => ?_)
  have hB := hC.b
  refine gx_lv (lv' := [(0, .ref h)]) rfl ?_
  refine gx_aload_n (pc := 0) hB dX0_addPurpose_0 0 rfl ?_
  refine gx_get (pc := 1) hB dX0_addPurpose_1 inX0 rfl 0 rfl 1 (by decide) tb_81 rfl rfl ?_
  refine gx_dVi (pc := 4) (r := tNew C 3 6) (wr := [(h, .inr (0, [.ref c, .ref t1, .ref t2, .ref t3, .ref t4])), (t2, .inr (3, [.ref c, .int (nI 76), .int (nI 8), .int (nI 7)])), (t3, .inr (3, [.ref c, .int (nI 133), .int (nI 24), .int (nI 7)])), (t4, .inr (3, [.ref c, .int (nI 302), .int (nI 6), .int (nI 8)]))]) hB (c_X3_addRow l K t1 c 3 6 12 C (by first | decide | (unfold tHb; decide))) mX3_addRow dX0_addPurpose_4 tb_72 pX3_addRow ⟨Nat.le_of_ble_eq_true rfl, Nat.le_of_ble_eq_true rfl⟩ ⟨rfl, rfl⟩ ⟨Nat.zero_le _, Nat.zero_le _⟩ rfl (Nat.le_of_ble_eq_true rfl) [1, 5] [0, 2, 3, 4] rfl rfl (by decide) (by decide) (by decide) rfl rfl [0, 4, 1, 2, 3, 5] (by decide) (wB K h t1 t2 t3 t4 c (tNewC C 3 6)) rfl ?_
  refine gx_istore_n (pc := 7) hB dX0_addPurpose_7 (by decide) [(1, .int (tNew C 3 6)), (0, .ref h)] rfl ?_
  refine gx_iload_n (pc := 8) hB dX0_addPurpose_8 0 rfl ?_
  refine gx_iconst (pc := 9) hB dX0_addPurpose_9 (-1) (by decide) ?_
  refine gx_icmp_ne (pc := 10) hB 16 dX0_addPurpose_10 (by decide) (fun c_1 => ?_) (fun c_1 => ?_)
  · refine gx_aload_n (pc := 16) hB dX0_addPurpose_16 1 rfl ?_
    refine gx_get (pc := 17) hB dX0_addPurpose_17 inX0 rfl 0 rfl 1 (by decide) tb_81 rfl rfl ?_
    refine gx_iload_n (pc := 20) hB dX0_addPurpose_20 0 rfl ?_
    refine gx_bipush (pc := 21) hB dX0_addPurpose_21 9 (by decide) ?_
    refine gx_iconst (pc := 23) hB dX0_addPurpose_23 (-1) (by decide) ?_
    refine gx_dVv (pc := 24) (wr := [(h, .inr (0, [.ref c, .ref t1, .ref t2, .ref t3, .ref t4])), (t2, .inr (3, [.ref c, .int (nI 76), .int (nI 8), .int (nI 7)])), (t3, .inr (3, [.ref c, .int (nI 133), .int (nI 24), .int (nI 7)])), (t4, .inr (3, [.ref c, .int (nI 302), .int (nI 6), .int (nI 8)]))]) hB (c_X3_put l K t1 c 3 6 12 (tNewC C 3 6) (tNew C 3 6) 9 (-1) (by first | decide | (unfold tHb; decide))) mX3_put dX0_addPurpose_24 tb_76 pX3_put ⟨Nat.le_of_ble_eq_true rfl, Nat.le_of_ble_eq_true rfl⟩ ⟨rfl, rfl⟩ ⟨Nat.zero_le _, Nat.zero_le _⟩ rfl (Nat.le_of_ble_eq_true rfl) [1, 5] [0, 2, 3, 4] rfl rfl (by decide) (by decide) (by decide) rfl rfl [0, 4, 1, 2, 3, 5] (by decide) (wB K h t1 t2 t3 t4 c (pPut (tNewC C 3 6) (tNew C 3 6) 9 (-1))) rfl ?_
    refine gx_aload_n (pc := 27) hB dX0_addPurpose_27 1 rfl ?_
    refine gx_get (pc := 28) hB dX0_addPurpose_28 inX0 rfl 0 rfl 1 (by decide) tb_81 rfl rfl ?_
    refine gx_iload_n (pc := 31) hB dX0_addPurpose_31 0 rfl ?_
    refine gx_bipush (pc := 32) hB dX0_addPurpose_32 10 (by decide) ?_
    refine gx_iload_n (pc := 34) hB dX0_addPurpose_34 0 rfl ?_
    refine gx_dVv (pc := 35) (wr := [(h, .inr (0, [.ref c, .ref t1, .ref t2, .ref t3, .ref t4])), (t2, .inr (3, [.ref c, .int (nI 76), .int (nI 8), .int (nI 7)])), (t3, .inr (3, [.ref c, .int (nI 133), .int (nI 24), .int (nI 7)])), (t4, .inr (3, [.ref c, .int (nI 302), .int (nI 6), .int (nI 8)]))]) hB (c_X3_put l K t1 c 3 6 12 (pPut (tNewC C 3 6) (tNew C 3 6) 9 (-1)) (tNew C 3 6) 10 (tNew C 3 6) (by first | decide | (unfold tHb; decide))) mX3_put dX0_addPurpose_35 tb_76 pX3_put ⟨Nat.le_of_ble_eq_true rfl, Nat.le_of_ble_eq_true rfl⟩ ⟨rfl, rfl⟩ ⟨Nat.zero_le _, Nat.zero_le _⟩ rfl (Nat.le_of_ble_eq_true rfl) [1, 5] [0, 2, 3, 4] rfl rfl (by decide) (by decide) (by decide) rfl rfl [0, 4, 1, 2, 3, 5] (by decide) (wB K h t1 t2 t3 t4 c (pPut (pPut (tNewC C 3 6) (tNew C 3 6) 9 (-1)) (tNew C 3 6) 10 (tNew C 3 6))) rfl ?_
    refine gx_iload_n (pc := 38) hB dX0_addPurpose_38 0 rfl ?_
    have e1 : ((bAddPurpose C).1) = tNew C 3 6 := by simp [bAddPurpose, eq_false c_1]
    have f0 : ((bAddPurpose C).2) = (pPut (pPut (tNewC C 3 6) (tNew C 3 6) 9 (-1)) (tNew C 3 6) 10 (tNew C 3 6)) := by simp [bAddPurpose, eq_false c_1]
    exact gx_iret (pc := 39) hC dX0_addPurpose_39 (Nat.zero_le _) (Nat.zero_le _) (⟨by rw [e1], by rw [f0]⟩)
  · refine gx_bipush (pc := 13) hB dX0_addPurpose_13 (-3) (by decide) ?_
    have e1 : ((bAddPurpose C).1) = (-3) := by simp [bAddPurpose, eq_true c_1]
    have f0 : ((bAddPurpose C).2) = tNewC C 3 6 := by simp [bAddPurpose, eq_true c_1]
    exact gx_iret (pc := 15) hC dX0_addPurpose_15 (Nat.zero_le _) (Nat.zero_le _) (⟨by rw [e1], by rw [f0]⟩)
theorem pX0_addDonor : (parseMethodDescriptor yX0_addDonor.desc).map (fun d => d.parameters.length) = some 0 := by decide +kernel
theorem mX0_addDonor : gx_M yX0_addDonor cX0_addDonor 3 (some .int) := ⟨tb_248, tb_249, tb_28, tb_250, by decide, by decide⟩
set_option maxHeartbeats 4000000 in
set_option maxRecDepth 100000 in
theorem c_X0_addDonor (l : Launch) (K : gx_K) (h t1 t2 t3 t4 c : Nat) (C : Nat → Int32)   : gx_Ctr l K yX0_addDonor cX0_addDonor 3 (some .int) (rmm 2 23) [.ref h] (wB K h t1 t2 t3 t4 c C) (gx_D (some (.int ((bAddDonor C).1))) (wB K h t1 t2 t3 t4 c ((bAddDonor C).2))) := by
  refine gx_of (by decide) (Nat.le_of_ble_eq_true rfl) (fun G hC => ?_)
  have hB := hC.b
  refine gx_lv (lv' := [(0, .ref h)]) rfl ?_
  refine gx_aload_n (pc := 0) hB dX0_addDonor_0 0 rfl ?_
  refine gx_get (pc := 1) hB dX0_addDonor_1 inX0 rfl 0 rfl 2 (by decide) tb_82 rfl rfl ?_
  refine gx_dVi (pc := 4) (r := tNew C 76 8) (wr := [(h, .inr (0, [.ref c, .ref t1, .ref t2, .ref t3, .ref t4])), (t1, .inr (3, [.ref c, .int (nI 3), .int (nI 6), .int (nI 12)])), (t3, .inr (3, [.ref c, .int (nI 133), .int (nI 24), .int (nI 7)])), (t4, .inr (3, [.ref c, .int (nI 302), .int (nI 6), .int (nI 8)]))]) hB (c_X3_addRow l K t2 c 76 8 7 C (by first | decide | (unfold tHb; decide))) mX3_addRow dX0_addDonor_4 tb_72 pX3_addRow ⟨Nat.le_of_ble_eq_true rfl, Nat.le_of_ble_eq_true rfl⟩ ⟨rfl, rfl⟩ ⟨Nat.zero_le _, Nat.zero_le _⟩ rfl (Nat.le_of_ble_eq_true rfl) [2, 5] [0, 1, 3, 4] rfl rfl (by decide) (by decide) (by decide) rfl rfl [0, 1, 4, 2, 3, 5] (by decide) (wB K h t1 t2 t3 t4 c (tNewC C 76 8)) rfl ?_
  refine gx_istore_n (pc := 7) hB dX0_addDonor_7 (by decide) [(1, .int (tNew C 76 8)), (0, .ref h)] rfl ?_
  refine gx_iload_n (pc := 8) hB dX0_addDonor_8 0 rfl ?_
  refine gx_iconst (pc := 9) hB dX0_addDonor_9 (-1) (by decide) ?_
  refine gx_icmp_ne (pc := 10) hB 16 dX0_addDonor_10 (by decide) (fun c_1 => ?_) (fun c_1 => ?_)
  · refine gx_iconst (pc := 16) hB dX0_addDonor_16 0 (by decide) ?_
    refine gx_istore_n (pc := 17) hB dX0_addDonor_17 (by decide) [(2, .int 0), (1, .int (tNew C 76 8)), (0, .ref h)] rfl ?_
    have loop_18 : ∀ dq i : Nat, i + dq = 6 → G 0 0 (wB K h t1 t2 t3 t4 c (bDonorN (tNewC C 76 8) (tNew C 76 8) i)) [(0, .ref h), (1, .int (tNew C 76 8)), (2, .int (nI i))] 18 [] := by
      intro dq
      induction dq with
      | zero =>
        intro i hi18
        obtain rfl : 6 = i := by omega
        refine gx_iload_n (pc := 18) hB dX0_addDonor_18 2 rfl ?_
        refine gx_bipush (pc := 19) hB dX0_addDonor_19 6 (by decide) ?_
        refine gx_icmp_ge (pc := 21) hB 42 dX0_addDonor_21 (by decide) (fun c_2 => ?_) (fun c_2 => ?_)
        · refine gx_iload_n (pc := 42) hB dX0_addDonor_42 1 rfl ?_
          have e1 : ((bAddDonor C).1) = tNew C 76 8 := by simp [bAddDonor, eq_false c_1, c_2, eq_false (Int32.not_lt.mpr c_2)]
          have f0 : ((bAddDonor C).2) = (bDonorN (tNewC C 76 8) (tNew C 76 8) 6) := by simp [bAddDonor, eq_false c_1, c_2, eq_false (Int32.not_lt.mpr c_2)]
          exact gx_iret (pc := 43) hC dX0_addDonor_43 (Nat.zero_le _) (Nat.zero_le _) (⟨by rw [e1], by rw [f0]⟩)
        · exact absurd (lpT (x := 6) hi18) c_2
      | succ dq ih18 =>
        intro i hi18
        refine gx_iload_n (pc := 18) hB dX0_addDonor_18 2 rfl ?_
        refine gx_bipush (pc := 19) hB dX0_addDonor_19 6 (by decide) ?_
        refine gx_icmp_ge (pc := 21) hB 42 dX0_addDonor_21 (by decide) (fun c_3 => ?_) (fun c_3 => ?_)
        · exact absurd c_3 (lpF (x := 6) hi18)
        · refine gx_aload_n (pc := 24) hB dX0_addDonor_24 0 rfl ?_
          refine gx_get (pc := 25) hB dX0_addDonor_25 inX0 rfl 0 rfl 2 (by decide) tb_82 rfl rfl ?_
          refine gx_iload_n (pc := 28) hB dX0_addDonor_28 1 rfl ?_
          refine gx_iconst (pc := 29) hB dX0_addDonor_29 1 (by decide) ?_
          refine gx_iload_n (pc := 30) hB dX0_addDonor_30 2 rfl ?_
          refine gx_iadd (pc := 31) hB dX0_addDonor_31 ?_
          refine gx_top (show 1 + nI i = nI (1 + i) from nI_add 1 i) ?_
          refine gx_iconst (pc := 32) hB dX0_addDonor_32 (-1) (by decide) ?_
          refine gx_dVv (pc := 33) (wr := [(h, .inr (0, [.ref c, .ref t1, .ref t2, .ref t3, .ref t4])), (t1, .inr (3, [.ref c, .int (nI 3), .int (nI 6), .int (nI 12)])), (t3, .inr (3, [.ref c, .int (nI 133), .int (nI 24), .int (nI 7)])), (t4, .inr (3, [.ref c, .int (nI 302), .int (nI 6), .int (nI 8)]))]) hB (c_X3_put l K t2 c 76 8 7 (bDonorN (tNewC C 76 8) (tNew C 76 8) i) (tNew C 76 8) (nI (1 + i)) (-1) (by first | decide | (unfold tHb; decide))) mX3_put dX0_addDonor_33 tb_76 pX3_put ⟨Nat.le_of_ble_eq_true rfl, Nat.le_of_ble_eq_true rfl⟩ ⟨rfl, rfl⟩ ⟨Nat.zero_le _, Nat.zero_le _⟩ rfl (Nat.le_of_ble_eq_true rfl) [2, 5] [0, 1, 3, 4] rfl rfl (by decide) (by decide) (by decide) rfl rfl [0, 1, 4, 2, 3, 5] (by decide) (wB K h t1 t2 t3 t4 c (dPut (bDonorN (tNewC C 76 8) (tNew C 76 8) i) (tNew C 76 8) (nI (1 + i)) (-1))) rfl ?_
          refine gx_iinc (pc := 36) hB dX0_addDonor_36 2 (by decide) rfl (nI (i + 1)) (nI_1 _) [(2, .int (nI (i + 1))), (0, .ref h), (1, .int (tNew C 76 8))] rfl ?_
          refine gx_goto (pc := 39) hB 18 dX0_addDonor_39 (by decide) ?_
          have w0 : dPut (bDonorN (tNewC C 76 8) (tNew C 76 8) i) (tNew C 76 8) (nI (1 + i)) (-1) = bDonorN (tNewC C 76 8) (tNew C 76 8) (i + 1) := by simp [bAddDonor, bDonorN, eq_false c_1, Int32.not_le.mp c_3, eq_false c_3]
          refine gx_sub hB (lv' := [(0, .ref h), (1, .int (tNew C 76 8)), (2, .int (nI (i + 1)))]) [1, 2, 0] rfl ?_
          refine gx_all (ws' := wB K h t1 t2 t3 t4 c (bDonorN (tNewC C 76 8) (tNew C 76 8) (i + 1))) (lv' := [(0, .ref h), (1, .int (tNew C 76 8)), (2, .int (nI (i + 1)))]) (by rw [← w0]) (rfl) ?_
          exact ih18 (i + 1) (by omega)
    refine gx_sub hB (lv' := [(0, .ref h), (1, .int (tNew C 76 8)), (2, .int 0)]) [2, 1, 0] rfl ?_
    refine gx_all (ws' := wB K h t1 t2 t3 t4 c (bDonorN (tNewC C 76 8) (tNew C 76 8) 0)) (lv' := [(0, .ref h), (1, .int (tNew C 76 8)), (2, .int (nI 0))]) (rfl) (rfl) ?_
    exact loop_18 (6) 0 (by omega)
  · refine gx_bipush (pc := 13) hB dX0_addDonor_13 (-3) (by decide) ?_
    have e1 : ((bAddDonor C).1) = (-3) := by simp [bAddDonor, bDonorN, eq_true c_1]
    have f0 : ((bAddDonor C).2) = tNewC C 76 8 := by simp [bAddDonor, bDonorN, eq_true c_1]
    exact gx_iret (pc := 15) hC dX0_addDonor_15 (Nat.zero_le _) (Nat.zero_le _) (⟨by rw [e1], by rw [f0]⟩)
theorem pX0_letDeclare : (parseMethodDescriptor yX0_letDeclare.desc).map (fun d => d.parameters.length) = some 2 := by decide +kernel
theorem mX0_letDeclare : gx_M yX0_letDeclare cX0_letDeclare 4 (some .int) := ⟨tb_256, tb_257, tb_28, tb_258, by decide, by decide⟩
set_option maxHeartbeats 4000000 in
set_option maxRecDepth 100000 in
theorem c_X0_letDeclare (l : Launch) (K : gx_K) (h t1 t2 t3 t4 c : Nat) (C : Nat → Int32) (x y : Int32)  : gx_Ctr l K yX0_letDeclare cX0_letDeclare 4 (some .int) (rmm 2 23) [.ref h, .int x, .int y] (wB K h t1 t2 t3 t4 c C) (gx_D (some (.int ((bDeclare C x y).1))) (wB K h t1 t2 t3 t4 c ((bDeclare C x y).2))) := by
  refine gx_of (by decide) (Nat.le_of_ble_eq_true rfl) (fun G hC => ?_)
  have hB := hC.b
  refine gx_lv (lv' := [(0, .ref h), (1, .int x), (2, .int y)]) rfl ?_
  refine gx_aload_n (pc := 0) hB dX0_letDeclare_0 0 rfl ?_
  refine gx_get (pc := 1) hB dX0_letDeclare_1 inX0 rfl 0 rfl 2 (by decide) tb_82 rfl rfl ?_
  refine gx_iload_n (pc := 4) hB dX0_letDeclare_4 1 rfl ?_
  refine gx_dVi (pc := 5) (r := bI (tHas C 76 x)) (wr := [(h, .inr (0, [.ref c, .ref t1, .ref t2, .ref t3, .ref t4])), (t1, .inr (3, [.ref c, .int (nI 3), .int (nI 6), .int (nI 12)])), (t3, .inr (3, [.ref c, .int (nI 133), .int (nI 24), .int (nI 7)])), (t4, .inr (3, [.ref c, .int (nI 302), .int (nI 6), .int (nI 8)]))]) hB (c_X3_has l K t2 c 76 8 7 C x (by first | decide | (unfold tHb; decide))) mX3_has dX0_letDeclare_5 tb_164 pX3_has ⟨Nat.le_of_ble_eq_true rfl, Nat.le_of_ble_eq_true rfl⟩ ⟨rfl, rfl⟩ ⟨Nat.zero_le _, Nat.zero_le _⟩ rfl (Nat.le_of_ble_eq_true rfl) [2, 5] [0, 1, 3, 4] rfl rfl (by decide) (by decide) (by decide) rfl rfl [0, 1, 4, 2, 3, 5] (by decide) (wB K h t1 t2 t3 t4 c C) rfl ?_
  refine gx_if_eq_b (pc := 8) hB 20 dX0_letDeclare_8 (by decide) (fun c_1 => ?_) (fun c_1 => ?_)
  · refine gx_iconst (pc := 20) hB dX0_letDeclare_20 (-1) (by decide) ?_
    have e1 : ((bDeclare C x y).1) = (-1) := by simp [bDeclare, c_1]
    have f0 : ((bDeclare C x y).2) = C := by simp [bDeclare, c_1]
    exact gx_iret (pc := 21) hC dX0_letDeclare_21 (Nat.zero_le _) (Nat.zero_le _) (⟨by rw [e1], by rw [f0]⟩)
  · refine gx_iload_n (pc := 11) hB dX0_letDeclare_11 2 rfl ?_
    refine gx_iconst (pc := 12) hB dX0_letDeclare_12 0 (by decide) ?_
    refine gx_iconst (pc := 13) hB dX0_letDeclare_13 1 (by decide) ?_
    refine gx_w0 (pc := 14) (r := bI (bIn y 0 1)) hB (c_X4_within l K y 0 1 ) mX4_within dX0_letDeclare_14 ⟨Nat.le_of_ble_eq_true rfl, Nat.le_of_ble_eq_true rfl⟩ ⟨rfl, rfl⟩ ⟨Nat.zero_le _, Nat.zero_le _⟩ (Nat.le_of_ble_eq_true rfl) [0, 1, 2, 3, 4, 5] rfl (by decide) ?_
    refine gx_if_ne_b (pc := 17) hB 22 dX0_letDeclare_17 (by decide) (fun c_2 => ?_) (fun c_2 => ?_)
    · refine gx_aload_n (pc := 22) hB dX0_letDeclare_22 0 rfl ?_
      refine gx_get (pc := 23) hB dX0_letDeclare_23 inX0 rfl 0 rfl 2 (by decide) tb_82 rfl rfl ?_
      refine gx_iload_n (pc := 26) hB dX0_letDeclare_26 1 rfl ?_
      refine gx_iconst (pc := 27) hB dX0_letDeclare_27 0 (by decide) ?_
      refine gx_dVi (pc := 28) (r := dAt C x 0) (wr := [(h, .inr (0, [.ref c, .ref t1, .ref t2, .ref t3, .ref t4])), (t1, .inr (3, [.ref c, .int (nI 3), .int (nI 6), .int (nI 12)])), (t3, .inr (3, [.ref c, .int (nI 133), .int (nI 24), .int (nI 7)])), (t4, .inr (3, [.ref c, .int (nI 302), .int (nI 6), .int (nI 8)]))]) hB (c_X3_at l K t2 c 76 8 7 C x 0 (by first | decide | (unfold tHb; decide))) mX3_at dX0_letDeclare_28 tb_175 pX3_at ⟨Nat.le_of_ble_eq_true rfl, Nat.le_of_ble_eq_true rfl⟩ ⟨rfl, rfl⟩ ⟨Nat.zero_le _, Nat.zero_le _⟩ rfl (Nat.le_of_ble_eq_true rfl) [2, 5] [0, 1, 3, 4] rfl rfl (by decide) (by decide) (by decide) rfl rfl [0, 1, 4, 2, 3, 5] (by decide) (wB K h t1 t2 t3 t4 c C) rfl ?_
      refine gx_istore_n (pc := 31) hB dX0_letDeclare_31 (by decide) [(3, .int (dAt C x 0)), (0, .ref h), (1, .int x), (2, .int y)] rfl ?_
      refine gx_aload_n (pc := 32) hB dX0_letDeclare_32 1 rfl ?_
      refine gx_get (pc := 33) hB dX0_letDeclare_33 inX0 rfl 0 rfl 2 (by decide) tb_82 rfl rfl ?_
      refine gx_iload_n (pc := 36) hB dX0_letDeclare_36 2 rfl ?_
      refine gx_iconst (pc := 37) hB dX0_letDeclare_37 0 (by decide) ?_
      refine gx_iload_n (pc := 38) hB dX0_letDeclare_38 3 rfl ?_
      refine gx_dVv (pc := 39) (wr := [(h, .inr (0, [.ref c, .ref t1, .ref t2, .ref t3, .ref t4])), (t1, .inr (3, [.ref c, .int (nI 3), .int (nI 6), .int (nI 12)])), (t3, .inr (3, [.ref c, .int (nI 133), .int (nI 24), .int (nI 7)])), (t4, .inr (3, [.ref c, .int (nI 302), .int (nI 6), .int (nI 8)]))]) hB (c_X3_put l K t2 c 76 8 7 C x 0 y (by first | decide | (unfold tHb; decide))) mX3_put dX0_letDeclare_39 tb_76 pX3_put ⟨Nat.le_of_ble_eq_true rfl, Nat.le_of_ble_eq_true rfl⟩ ⟨rfl, rfl⟩ ⟨Nat.zero_le _, Nat.zero_le _⟩ rfl (Nat.le_of_ble_eq_true rfl) [2, 5] [0, 1, 3, 4] rfl rfl (by decide) (by decide) (by decide) rfl rfl [0, 1, 4, 2, 3, 5] (by decide) (wB K h t1 t2 t3 t4 c (dPut C x 0 y)) rfl ?_
      refine gx_iload_n (pc := 42) hB dX0_letDeclare_42 0 rfl ?_
      have e1 : ((bDeclare C x y).1) = dAt C x 0 := by simp [bDeclare, c_1, c_2]
      have f0 : ((bDeclare C x y).2) = dPut C x 0 y := by simp [bDeclare, c_1, c_2]
      exact gx_iret (pc := 43) hC dX0_letDeclare_43 (Nat.zero_le _) (Nat.zero_le _) (⟨by rw [e1], by rw [f0]⟩)
    · refine gx_iconst (pc := 20) hB dX0_letDeclare_20 (-1) (by decide) ?_
      have e1 : ((bDeclare C x y).1) = (-1) := by simp [bDeclare, c_1, c_2]
      have f0 : ((bDeclare C x y).2) = C := by simp [bDeclare, c_1, c_2]
      exact gx_iret (pc := 21) hC dX0_letDeclare_21 (Nat.zero_le _) (Nat.zero_le _) (⟨by rw [e1], by rw [f0]⟩)
theorem pX0_isClosed : (parseMethodDescriptor yX0_isClosed.desc).map (fun d => d.parameters.length) = some 1 := by decide +kernel
theorem mX0_isClosed : gx_M yX0_isClosed cX0_isClosed 2 (some .boolean) := ⟨tb_172, tb_173, tb_28, tb_174, by decide, by decide⟩
set_option maxHeartbeats 4000000 in
set_option maxRecDepth 100000 in
theorem c_X0_isClosed (l : Launch) (K : gx_K) (h t1 t2 t3 t4 c : Nat) (C : Nat → Int32) (x : Int32)  : gx_Ctr l K yX0_isClosed cX0_isClosed 2 (some .boolean) (rmm 2 22) [.ref h, .int x] (wB K h t1 t2 t3 t4 c C) (gx_D (some (.int (bI (bClosed C x)))) (wB K h t1 t2 t3 t4 c C)) := by
  refine gx_of (by decide) (Nat.le_of_ble_eq_true rfl) (fun G hC => ?_)
  have hB := hC.b
  refine gx_lv (lv' := [(0, .ref h), (1, .int x)]) rfl ?_
  refine gx_aload_n (pc := 0) hB dX0_isClosed_0 0 rfl ?_
  refine gx_get (pc := 1) hB dX0_isClosed_1 inX0 rfl 0 rfl 1 (by decide) tb_81 rfl rfl ?_
  refine gx_iload_n (pc := 4) hB dX0_isClosed_4 1 rfl ?_
  refine gx_bipush (pc := 5) hB dX0_isClosed_5 9 (by decide) ?_
  refine gx_dVi (pc := 7) (r := pAt C x 9) (wr := [(h, .inr (0, [.ref c, .ref t1, .ref t2, .ref t3, .ref t4])), (t2, .inr (3, [.ref c, .int (nI 76), .int (nI 8), .int (nI 7)])), (t3, .inr (3, [.ref c, .int (nI 133), .int (nI 24), .int (nI 7)])), (t4, .inr (3, [.ref c, .int (nI 302), .int (nI 6), .int (nI 8)]))]) hB (c_X3_at l K t1 c 3 6 12 C x 9 (by first | decide | (unfold tHb; decide))) mX3_at dX0_isClosed_7 tb_175 pX3_at ⟨Nat.le_of_ble_eq_true rfl, Nat.le_of_ble_eq_true rfl⟩ ⟨rfl, rfl⟩ ⟨Nat.zero_le _, Nat.zero_le _⟩ rfl (Nat.le_of_ble_eq_true rfl) [1, 5] [0, 2, 3, 4] rfl rfl (by decide) (by decide) (by decide) rfl rfl [0, 4, 1, 2, 3, 5] (by decide) (wB K h t1 t2 t3 t4 c C) rfl ?_
  refine gx_iconst (pc := 10) hB dX0_isClosed_10 (-1) (by decide) ?_
  refine gx_icmp_eq (pc := 11) hB 18 dX0_isClosed_11 (by decide) (fun c_1 => ?_) (fun c_1 => ?_)
  · refine gx_iconst (pc := 18) hB dX0_isClosed_18 0 (by decide) ?_
    have e1 : (bI (bClosed C x)) = 0 := by simp [bClosed, bI, eq_true c_1]
    exact gx_zret (pc := 19) hC dX0_isClosed_19 (Nat.zero_le _) (Nat.zero_le _) (by decide) (⟨by rw [e1], rfl⟩)
  · refine gx_iconst (pc := 14) hB dX0_isClosed_14 1 (by decide) ?_
    refine gx_goto (pc := 15) hB 19 dX0_isClosed_15 (by decide) ?_
    have e1 : (bI (bClosed C x)) = 1 := by simp [bClosed, bI, eq_false c_1]
    exact gx_zret (pc := 19) hC dX0_isClosed_19 (Nat.zero_le _) (Nat.zero_le _) (by decide) (⟨by rw [e1], rfl⟩)
theorem pX0_fundOf : (parseMethodDescriptor yX0_fundOf.desc).map (fun d => d.parameters.length) = some 1 := by decide +kernel
theorem mX0_fundOf : gx_M yX0_fundOf cX0_fundOf 2 (some .int) := ⟨tb_374, tb_375, tb_28, tb_376, by decide, by decide⟩
set_option maxHeartbeats 4000000 in
set_option maxRecDepth 100000 in
theorem c_X0_fundOf (l : Launch) (K : gx_K) (h t1 t2 t3 t4 c : Nat) (C : Nat → Int32) (x : Int32)  : gx_Ctr l K yX0_fundOf cX0_fundOf 2 (some .int) (rmm 2 22) [.ref h, .int x] (wB K h t1 t2 t3 t4 c C) (gx_D (some (.int (bFund C x))) (wB K h t1 t2 t3 t4 c C)) := by
  refine gx_of (by decide) (Nat.le_of_ble_eq_true rfl) (fun G hC => ?_)
  have hB := hC.b
  refine gx_lv (lv' := [(0, .ref h), (1, .int x)]) rfl ?_
  refine gx_aload_n (pc := 0) hB dX0_fundOf_0 0 rfl ?_
  refine gx_get (pc := 1) hB dX0_fundOf_1 inX0 rfl 0 rfl 1 (by decide) tb_81 rfl rfl ?_
  refine gx_iload_n (pc := 4) hB dX0_fundOf_4 1 rfl ?_
  refine gx_iconst (pc := 5) hB dX0_fundOf_5 0 (by decide) ?_
  refine gx_dVi (pc := 6) (r := pAt C x 0) (wr := [(h, .inr (0, [.ref c, .ref t1, .ref t2, .ref t3, .ref t4])), (t2, .inr (3, [.ref c, .int (nI 76), .int (nI 8), .int (nI 7)])), (t3, .inr (3, [.ref c, .int (nI 133), .int (nI 24), .int (nI 7)])), (t4, .inr (3, [.ref c, .int (nI 302), .int (nI 6), .int (nI 8)]))]) hB (c_X3_at l K t1 c 3 6 12 C x 0 (by first | decide | (unfold tHb; decide))) mX3_at dX0_fundOf_6 tb_175 pX3_at ⟨Nat.le_of_ble_eq_true rfl, Nat.le_of_ble_eq_true rfl⟩ ⟨rfl, rfl⟩ ⟨Nat.zero_le _, Nat.zero_le _⟩ rfl (Nat.le_of_ble_eq_true rfl) [1, 5] [0, 2, 3, 4] rfl rfl (by decide) (by decide) (by decide) rfl rfl [0, 4, 1, 2, 3, 5] (by decide) (wB K h t1 t2 t3 t4 c C) rfl ?_
  have e1 : bFund C x = pAt C x 0 := by simp [bFund]
  exact gx_iret (pc := 9) hC dX0_fundOf_9 (Nat.zero_le _) (Nat.zero_le _) (⟨by rw [e1], rfl⟩)
theorem pX0_bookGift : (parseMethodDescriptor yX0_bookGift.desc).map (fun d => d.parameters.length) = some 4 := by decide +kernel
theorem mX0_bookGift : gx_M yX0_bookGift cX0_bookGift 6 (some .int) := ⟨tb_276, tb_1, tb_28, tb_277, by decide, by decide⟩
set_option maxHeartbeats 4000000 in
set_option maxRecDepth 100000 in
theorem c_X0_bookGift (l : Launch) (K : gx_K) (h t1 t2 t3 t4 c : Nat) (C : Nat → Int32) (x y z u : Int32)  : gx_Ctr l K yX0_bookGift cX0_bookGift 6 (some .int) (rmm 2 23) [.ref h, .int x, .int y, .int z, .int u] (wB K h t1 t2 t3 t4 c C) (gx_D (some (.int ((bBook C x y z u).1))) (wB K h t1 t2 t3 t4 c ((bBook C x y z u).2))) := by
  refine gx_of (by decide) (Nat.le_of_ble_eq_true rfl) (fun G hC => ?_)
  have hB := hC.b
  refine gx_lv (lv' := [(0, .ref h), (1, .int x), (2, .int y), (3, .int z), (4, .int u)]) rfl ?_
  refine gx_aload_n (pc := 0) hB dX0_bookGift_0 0 rfl ?_
  refine gx_get (pc := 1) hB dX0_bookGift_1 inX0 rfl 0 rfl 3 (by decide) tb_83 rfl rfl ?_
  refine gx_dVi (pc := 4) (r := tNew C 133 24) (wr := [(h, .inr (0, [.ref c, .ref t1, .ref t2, .ref t3, .ref t4])), (t1, .inr (3, [.ref c, .int (nI 3), .int (nI 6), .int (nI 12)])), (t2, .inr (3, [.ref c, .int (nI 76), .int (nI 8), .int (nI 7)])), (t4, .inr (3, [.ref c, .int (nI 302), .int (nI 6), .int (nI 8)]))]) hB (c_X3_addRow l K t3 c 133 24 7 C (by first | decide | (unfold tHb; decide))) mX3_addRow dX0_bookGift_4 tb_72 pX3_addRow ⟨Nat.le_of_ble_eq_true rfl, Nat.le_of_ble_eq_true rfl⟩ ⟨rfl, rfl⟩ ⟨Nat.zero_le _, Nat.zero_le _⟩ rfl (Nat.le_of_ble_eq_true rfl) [3, 5] [0, 1, 2, 4] rfl rfl (by decide) (by decide) (by decide) rfl rfl [0, 1, 2, 4, 3, 5] (by decide) (wB K h t1 t2 t3 t4 c (tNewC C 133 24)) rfl ?_
  refine gx_istore (pc := 7) hB dX0_bookGift_7 (by decide) [(5, .int (tNew C 133 24)), (0, .ref h), (1, .int x), (2, .int y), (3, .int z), (4, .int u)] rfl ?_
  refine gx_aload_n (pc := 9) hB dX0_bookGift_9 1 rfl ?_
  refine gx_get (pc := 10) hB dX0_bookGift_10 inX0 rfl 0 rfl 3 (by decide) tb_83 rfl rfl ?_
  refine gx_iload (pc := 13) hB dX0_bookGift_13 0 rfl ?_
  refine gx_iconst (pc := 15) hB dX0_bookGift_15 0 (by decide) ?_
  refine gx_iload_n (pc := 16) hB dX0_bookGift_16 2 rfl ?_
  refine gx_dVv (pc := 17) (wr := [(h, .inr (0, [.ref c, .ref t1, .ref t2, .ref t3, .ref t4])), (t1, .inr (3, [.ref c, .int (nI 3), .int (nI 6), .int (nI 12)])), (t2, .inr (3, [.ref c, .int (nI 76), .int (nI 8), .int (nI 7)])), (t4, .inr (3, [.ref c, .int (nI 302), .int (nI 6), .int (nI 8)]))]) hB (c_X3_put l K t3 c 133 24 7 (tNewC C 133 24) (tNew C 133 24) 0 x (by first | decide | (unfold tHb; decide))) mX3_put dX0_bookGift_17 tb_76 pX3_put ⟨Nat.le_of_ble_eq_true rfl, Nat.le_of_ble_eq_true rfl⟩ ⟨rfl, rfl⟩ ⟨Nat.zero_le _, Nat.zero_le _⟩ rfl (Nat.le_of_ble_eq_true rfl) [3, 5] [0, 1, 2, 4] rfl rfl (by decide) (by decide) (by decide) rfl rfl [0, 1, 2, 4, 3, 5] (by decide) (wB K h t1 t2 t3 t4 c (gPut (tNewC C 133 24) (tNew C 133 24) 0 x)) rfl ?_
  refine gx_aload_n (pc := 20) hB dX0_bookGift_20 1 rfl ?_
  refine gx_get (pc := 21) hB dX0_bookGift_21 inX0 rfl 0 rfl 3 (by decide) tb_83 rfl rfl ?_
  refine gx_iload (pc := 24) hB dX0_bookGift_24 0 rfl ?_
  refine gx_iconst (pc := 26) hB dX0_bookGift_26 1 (by decide) ?_
  refine gx_iload_n (pc := 27) hB dX0_bookGift_27 3 rfl ?_
  refine gx_dVv (pc := 28) (wr := [(h, .inr (0, [.ref c, .ref t1, .ref t2, .ref t3, .ref t4])), (t1, .inr (3, [.ref c, .int (nI 3), .int (nI 6), .int (nI 12)])), (t2, .inr (3, [.ref c, .int (nI 76), .int (nI 8), .int (nI 7)])), (t4, .inr (3, [.ref c, .int (nI 302), .int (nI 6), .int (nI 8)]))]) hB (c_X3_put l K t3 c 133 24 7 (gPut (tNewC C 133 24) (tNew C 133 24) 0 x) (tNew C 133 24) 1 y (by first | decide | (unfold tHb; decide))) mX3_put dX0_bookGift_28 tb_76 pX3_put ⟨Nat.le_of_ble_eq_true rfl, Nat.le_of_ble_eq_true rfl⟩ ⟨rfl, rfl⟩ ⟨Nat.zero_le _, Nat.zero_le _⟩ rfl (Nat.le_of_ble_eq_true rfl) [3, 5] [0, 1, 2, 4] rfl rfl (by decide) (by decide) (by decide) rfl rfl [0, 1, 2, 4, 3, 5] (by decide) (wB K h t1 t2 t3 t4 c (gPut (gPut (tNewC C 133 24) (tNew C 133 24) 0 x) (tNew C 133 24) 1 y)) rfl ?_
  refine gx_aload_n (pc := 31) hB dX0_bookGift_31 1 rfl ?_
  refine gx_get (pc := 32) hB dX0_bookGift_32 inX0 rfl 0 rfl 3 (by decide) tb_83 rfl rfl ?_
  refine gx_iload (pc := 35) hB dX0_bookGift_35 0 rfl ?_
  refine gx_iconst (pc := 37) hB dX0_bookGift_37 2 (by decide) ?_
  refine gx_iload_n (pc := 38) hB dX0_bookGift_38 4 rfl ?_
  refine gx_dVv (pc := 39) (wr := [(h, .inr (0, [.ref c, .ref t1, .ref t2, .ref t3, .ref t4])), (t1, .inr (3, [.ref c, .int (nI 3), .int (nI 6), .int (nI 12)])), (t2, .inr (3, [.ref c, .int (nI 76), .int (nI 8), .int (nI 7)])), (t4, .inr (3, [.ref c, .int (nI 302), .int (nI 6), .int (nI 8)]))]) hB (c_X3_put l K t3 c 133 24 7 (gPut (gPut (tNewC C 133 24) (tNew C 133 24) 0 x) (tNew C 133 24) 1 y) (tNew C 133 24) 2 z (by first | decide | (unfold tHb; decide))) mX3_put dX0_bookGift_39 tb_76 pX3_put ⟨Nat.le_of_ble_eq_true rfl, Nat.le_of_ble_eq_true rfl⟩ ⟨rfl, rfl⟩ ⟨Nat.zero_le _, Nat.zero_le _⟩ rfl (Nat.le_of_ble_eq_true rfl) [3, 5] [0, 1, 2, 4] rfl rfl (by decide) (by decide) (by decide) rfl rfl [0, 1, 2, 4, 3, 5] (by decide) (wB K h t1 t2 t3 t4 c (gPut (gPut (gPut (tNewC C 133 24) (tNew C 133 24) 0 x) (tNew C 133 24) 1 y) (tNew C 133 24) 2 z)) rfl ?_
  refine gx_aload_n (pc := 42) hB dX0_bookGift_42 1 rfl ?_
  refine gx_get (pc := 43) hB dX0_bookGift_43 inX0 rfl 0 rfl 3 (by decide) tb_83 rfl rfl ?_
  refine gx_iload (pc := 46) hB dX0_bookGift_46 0 rfl ?_
  refine gx_iconst (pc := 48) hB dX0_bookGift_48 3 (by decide) ?_
  refine gx_aload_n (pc := 49) hB dX0_bookGift_49 1 rfl ?_
  refine gx_get (pc := 50) hB dX0_bookGift_50 inX0 rfl 0 rfl 0 (by decide) tb_80 rfl rfl ?_
  refine gx_iconst (pc := 53) hB dX0_bookGift_53 0 (by decide) ?_
  refine gx_iald (pc := 54) hB dX0_bookGift_54 5 1 rfl rfl 0 rfl (by decide) (by decide) ?_
  refine gx_dVv (pc := 55) (wr := [(h, .inr (0, [.ref c, .ref t1, .ref t2, .ref t3, .ref t4])), (t1, .inr (3, [.ref c, .int (nI 3), .int (nI 6), .int (nI 12)])), (t2, .inr (3, [.ref c, .int (nI 76), .int (nI 8), .int (nI 7)])), (t4, .inr (3, [.ref c, .int (nI 302), .int (nI 6), .int (nI 8)]))]) hB (c_X3_put l K t3 c 133 24 7 (gPut (gPut (gPut (tNewC C 133 24) (tNew C 133 24) 0 x) (tNew C 133 24) 1 y) (tNew C 133 24) 2 z) (tNew C 133 24) 3 ((gPut (gPut (gPut (tNewC C 133 24) (tNew C 133 24) 0 x) (tNew C 133 24) 1 y) (tNew C 133 24) 2 z) 0) (by first | decide | (unfold tHb; decide))) mX3_put dX0_bookGift_55 tb_76 pX3_put ⟨Nat.le_of_ble_eq_true rfl, Nat.le_of_ble_eq_true rfl⟩ ⟨rfl, rfl⟩ ⟨Nat.zero_le _, Nat.zero_le _⟩ rfl (Nat.le_of_ble_eq_true rfl) [3, 5] [0, 1, 2, 4] rfl rfl (by decide) (by decide) (by decide) rfl rfl [0, 1, 2, 4, 3, 5] (by decide) (wB K h t1 t2 t3 t4 c (gPut (gPut (gPut (gPut (tNewC C 133 24) (tNew C 133 24) 0 x) (tNew C 133 24) 1 y) (tNew C 133 24) 2 z) (tNew C 133 24) 3 ((gPut (gPut (gPut (tNewC C 133 24) (tNew C 133 24) 0 x) (tNew C 133 24) 1 y) (tNew C 133 24) 2 z) 0))) rfl ?_
  refine gx_aload_n (pc := 58) hB dX0_bookGift_58 1 rfl ?_
  refine gx_get (pc := 59) hB dX0_bookGift_59 inX0 rfl 0 rfl 3 (by decide) tb_83 rfl rfl ?_
  refine gx_iload (pc := 62) hB dX0_bookGift_62 0 rfl ?_
  refine gx_bipush (pc := 64) hB dX0_bookGift_64 6 (by decide) ?_
  refine gx_iload (pc := 66) hB dX0_bookGift_66 5 rfl ?_
  refine gx_dVv (pc := 68) (wr := [(h, .inr (0, [.ref c, .ref t1, .ref t2, .ref t3, .ref t4])), (t1, .inr (3, [.ref c, .int (nI 3), .int (nI 6), .int (nI 12)])), (t2, .inr (3, [.ref c, .int (nI 76), .int (nI 8), .int (nI 7)])), (t4, .inr (3, [.ref c, .int (nI 302), .int (nI 6), .int (nI 8)]))]) hB (c_X3_put l K t3 c 133 24 7 (gPut (gPut (gPut (gPut (tNewC C 133 24) (tNew C 133 24) 0 x) (tNew C 133 24) 1 y) (tNew C 133 24) 2 z) (tNew C 133 24) 3 ((gPut (gPut (gPut (tNewC C 133 24) (tNew C 133 24) 0 x) (tNew C 133 24) 1 y) (tNew C 133 24) 2 z) 0)) (tNew C 133 24) 6 u (by first | decide | (unfold tHb; decide))) mX3_put dX0_bookGift_68 tb_76 pX3_put ⟨Nat.le_of_ble_eq_true rfl, Nat.le_of_ble_eq_true rfl⟩ ⟨rfl, rfl⟩ ⟨Nat.zero_le _, Nat.zero_le _⟩ rfl (Nat.le_of_ble_eq_true rfl) [3, 5] [0, 1, 2, 4] rfl rfl (by decide) (by decide) (by decide) rfl rfl [0, 1, 2, 4, 3, 5] (by decide) (wB K h t1 t2 t3 t4 c (gPut (gPut (gPut (gPut (gPut (tNewC C 133 24) (tNew C 133 24) 0 x) (tNew C 133 24) 1 y) (tNew C 133 24) 2 z) (tNew C 133 24) 3 ((gPut (gPut (gPut (tNewC C 133 24) (tNew C 133 24) 0 x) (tNew C 133 24) 1 y) (tNew C 133 24) 2 z) 0)) (tNew C 133 24) 6 u)) rfl ?_
  refine gx_aload_n (pc := 71) hB dX0_bookGift_71 1 rfl ?_
  refine gx_get (pc := 72) hB dX0_bookGift_72 inX0 rfl 0 rfl 1 (by decide) tb_81 rfl rfl ?_
  refine gx_iload_n (pc := 75) hB dX0_bookGift_75 3 rfl ?_
  refine gx_iconst (pc := 76) hB dX0_bookGift_76 0 (by decide) ?_
  refine gx_iload_n (pc := 77) hB dX0_bookGift_77 4 rfl ?_
  refine gx_dVv (pc := 78) (wr := [(h, .inr (0, [.ref c, .ref t1, .ref t2, .ref t3, .ref t4])), (t2, .inr (3, [.ref c, .int (nI 76), .int (nI 8), .int (nI 7)])), (t3, .inr (3, [.ref c, .int (nI 133), .int (nI 24), .int (nI 7)])), (t4, .inr (3, [.ref c, .int (nI 302), .int (nI 6), .int (nI 8)]))]) hB (c_X3_add l K t1 c 3 6 12 (gPut (gPut (gPut (gPut (gPut (tNewC C 133 24) (tNew C 133 24) 0 x) (tNew C 133 24) 1 y) (tNew C 133 24) 2 z) (tNew C 133 24) 3 ((gPut (gPut (gPut (tNewC C 133 24) (tNew C 133 24) 0 x) (tNew C 133 24) 1 y) (tNew C 133 24) 2 z) 0)) (tNew C 133 24) 6 u) y 0 z (by first | decide | (unfold tHb; decide))) mX3_add dX0_bookGift_78 tb_278 pX3_add ⟨Nat.le_of_ble_eq_true rfl, Nat.le_of_ble_eq_true rfl⟩ ⟨rfl, rfl⟩ ⟨Nat.zero_le _, Nat.zero_le _⟩ rfl (Nat.le_of_ble_eq_true rfl) [1, 5] [0, 2, 3, 4] rfl rfl (by decide) (by decide) (by decide) rfl rfl [0, 4, 1, 2, 3, 5] (by decide) (wB K h t1 t2 t3 t4 c (pAdd (gPut (gPut (gPut (gPut (gPut (tNewC C 133 24) (tNew C 133 24) 0 x) (tNew C 133 24) 1 y) (tNew C 133 24) 2 z) (tNew C 133 24) 3 ((gPut (gPut (gPut (tNewC C 133 24) (tNew C 133 24) 0 x) (tNew C 133 24) 1 y) (tNew C 133 24) 2 z) 0)) (tNew C 133 24) 6 u) y 0 z)) rfl ?_
  refine gx_aload_n (pc := 81) hB dX0_bookGift_81 1 rfl ?_
  refine gx_get (pc := 82) hB dX0_bookGift_82 inX0 rfl 0 rfl 1 (by decide) tb_81 rfl rfl ?_
  refine gx_iload_n (pc := 85) hB dX0_bookGift_85 3 rfl ?_
  refine gx_iconst (pc := 86) hB dX0_bookGift_86 1 (by decide) ?_
  refine gx_iload_n (pc := 87) hB dX0_bookGift_87 4 rfl ?_
  refine gx_dVv (pc := 88) (wr := [(h, .inr (0, [.ref c, .ref t1, .ref t2, .ref t3, .ref t4])), (t2, .inr (3, [.ref c, .int (nI 76), .int (nI 8), .int (nI 7)])), (t3, .inr (3, [.ref c, .int (nI 133), .int (nI 24), .int (nI 7)])), (t4, .inr (3, [.ref c, .int (nI 302), .int (nI 6), .int (nI 8)]))]) hB (c_X3_add l K t1 c 3 6 12 (pAdd (gPut (gPut (gPut (gPut (gPut (tNewC C 133 24) (tNew C 133 24) 0 x) (tNew C 133 24) 1 y) (tNew C 133 24) 2 z) (tNew C 133 24) 3 ((gPut (gPut (gPut (tNewC C 133 24) (tNew C 133 24) 0 x) (tNew C 133 24) 1 y) (tNew C 133 24) 2 z) 0)) (tNew C 133 24) 6 u) y 0 z) y 1 z (by first | decide | (unfold tHb; decide))) mX3_add dX0_bookGift_88 tb_278 pX3_add ⟨Nat.le_of_ble_eq_true rfl, Nat.le_of_ble_eq_true rfl⟩ ⟨rfl, rfl⟩ ⟨Nat.zero_le _, Nat.zero_le _⟩ rfl (Nat.le_of_ble_eq_true rfl) [1, 5] [0, 2, 3, 4] rfl rfl (by decide) (by decide) (by decide) rfl rfl [0, 4, 1, 2, 3, 5] (by decide) (wB K h t1 t2 t3 t4 c (pAdd (pAdd (gPut (gPut (gPut (gPut (gPut (tNewC C 133 24) (tNew C 133 24) 0 x) (tNew C 133 24) 1 y) (tNew C 133 24) 2 z) (tNew C 133 24) 3 ((gPut (gPut (gPut (tNewC C 133 24) (tNew C 133 24) 0 x) (tNew C 133 24) 1 y) (tNew C 133 24) 2 z) 0)) (tNew C 133 24) 6 u) y 0 z) y 1 z)) rfl ?_
  refine gx_iload (pc := 91) hB dX0_bookGift_91 0 rfl ?_
  have e1 : ((bBook C x y z u).1) = tNew C 133 24 := by simp [bBook]
  have f0 : ((bBook C x y z u).2) = (pAdd (pAdd (gPut (gPut (gPut (gPut (gPut (tNewC C 133 24) (tNew C 133 24) 0 x) (tNew C 133 24) 1 y) (tNew C 133 24) 2 z) (tNew C 133 24) 3 ((gPut (gPut (gPut (tNewC C 133 24) (tNew C 133 24) 0 x) (tNew C 133 24) 1 y) (tNew C 133 24) 2 z) 0)) (tNew C 133 24) 6 u) y 0 z) y 1 z) := by simp [bBook]
  exact gx_iret (pc := 93) hC dX0_bookGift_93 (Nat.zero_le _) (Nat.zero_le _) (⟨by rw [e1], by rw [f0]⟩)
theorem pX0_addGift : (parseMethodDescriptor yX0_addGift.desc).map (fun d => d.parameters.length) = some 3 := by decide +kernel
theorem mX0_addGift : gx_M yX0_addGift cX0_addGift 4 (some .int) := ⟨tb_267, tb_268, tb_28, tb_269, by decide, by decide⟩
set_option maxHeartbeats 4000000 in
set_option maxRecDepth 100000 in
theorem c_X0_addGift (l : Launch) (K : gx_K) (h t1 t2 t3 t4 c : Nat) (C : Nat → Int32) (x y z : Int32)  : gx_Ctr l K yX0_addGift cX0_addGift 4 (some .int) (rmm 3 48) [.ref h, .int x, .int y, .int z] (wB K h t1 t2 t3 t4 c C) (gx_D (some (.int ((bGive C x y z).1))) (wB K h t1 t2 t3 t4 c ((bGive C x y z).2))) := by
  refine gx_of (by decide) (Nat.le_of_ble_eq_true rfl) (fun G hC => ?_)
  have hB := hC.b
  refine gx_lv (lv' := [(0, .ref h), (1, .int x), (2, .int y), (3, .int z)]) rfl ?_
  refine gx_aload_n (pc := 0) hB dX0_addGift_0 0 rfl ?_
  refine gx_get (pc := 1) hB dX0_addGift_1 inX0 rfl 0 rfl 2 (by decide) tb_82 rfl rfl ?_
  refine gx_iload_n (pc := 4) hB dX0_addGift_4 1 rfl ?_
  refine gx_dVi (pc := 5) (r := bI (tHas C 76 x)) (wr := [(h, .inr (0, [.ref c, .ref t1, .ref t2, .ref t3, .ref t4])), (t1, .inr (3, [.ref c, .int (nI 3), .int (nI 6), .int (nI 12)])), (t3, .inr (3, [.ref c, .int (nI 133), .int (nI 24), .int (nI 7)])), (t4, .inr (3, [.ref c, .int (nI 302), .int (nI 6), .int (nI 8)]))]) hB (c_X3_has l K t2 c 76 8 7 C x (by first | decide | (unfold tHb; decide))) mX3_has dX0_addGift_5 tb_164 pX3_has ⟨Nat.le_of_ble_eq_true rfl, Nat.le_of_ble_eq_true rfl⟩ ⟨rfl, rfl⟩ ⟨Nat.zero_le _, Nat.zero_le _⟩ rfl (Nat.le_of_ble_eq_true rfl) [2, 5] [0, 1, 3, 4] rfl rfl (by decide) (by decide) (by decide) rfl rfl [0, 1, 4, 2, 3, 5] (by decide) (wB K h t1 t2 t3 t4 c C) rfl ?_
  refine gx_if_eq_b (pc := 8) hB 33 dX0_addGift_8 (by decide) (fun c_1 => ?_) (fun c_1 => ?_)
  · refine gx_iconst (pc := 33) hB dX0_addGift_33 (-1) (by decide) ?_
    have e1 : ((bGive C x y z).1) = (-1) := by simp [bGive, c_1]
    have f0 : ((bGive C x y z).2) = C := by simp [bGive, c_1]
    exact gx_iret (pc := 34) hC dX0_addGift_34 (Nat.zero_le _) (Nat.zero_le _) (⟨by rw [e1], by rw [f0]⟩)
  · refine gx_aload_n (pc := 11) hB dX0_addGift_11 0 rfl ?_
    refine gx_get (pc := 12) hB dX0_addGift_12 inX0 rfl 0 rfl 1 (by decide) tb_81 rfl rfl ?_
    refine gx_iload_n (pc := 15) hB dX0_addGift_15 2 rfl ?_
    refine gx_dVi (pc := 16) (r := bI (tHas C 3 y)) (wr := [(h, .inr (0, [.ref c, .ref t1, .ref t2, .ref t3, .ref t4])), (t2, .inr (3, [.ref c, .int (nI 76), .int (nI 8), .int (nI 7)])), (t3, .inr (3, [.ref c, .int (nI 133), .int (nI 24), .int (nI 7)])), (t4, .inr (3, [.ref c, .int (nI 302), .int (nI 6), .int (nI 8)]))]) hB (c_X3_has l K t1 c 3 6 12 C y (by first | decide | (unfold tHb; decide))) mX3_has dX0_addGift_16 tb_164 pX3_has ⟨Nat.le_of_ble_eq_true rfl, Nat.le_of_ble_eq_true rfl⟩ ⟨rfl, rfl⟩ ⟨Nat.zero_le _, Nat.zero_le _⟩ rfl (Nat.le_of_ble_eq_true rfl) [1, 5] [0, 2, 3, 4] rfl rfl (by decide) (by decide) (by decide) rfl rfl [0, 4, 1, 2, 3, 5] (by decide) (wB K h t1 t2 t3 t4 c C) rfl ?_
    refine gx_if_eq_b (pc := 19) hB 33 dX0_addGift_19 (by decide) (fun c_2 => ?_) (fun c_2 => ?_)
    · refine gx_iconst (pc := 33) hB dX0_addGift_33 (-1) (by decide) ?_
      have e1 : ((bGive C x y z).1) = (-1) := by simp [bGive, c_1, c_2]
      have f0 : ((bGive C x y z).2) = C := by simp [bGive, c_1, c_2]
      exact gx_iret (pc := 34) hC dX0_addGift_34 (Nat.zero_le _) (Nat.zero_le _) (⟨by rw [e1], by rw [f0]⟩)
    · refine gx_iload_n (pc := 22) hB dX0_addGift_22 3 rfl ?_
      refine gx_iconst (pc := 23) hB dX0_addGift_23 1 (by decide) ?_
      refine gx_sipush (pc := 24) hB dX0_addGift_24 9999 (by decide) ?_
      refine gx_w0 (pc := 27) (r := bI (bIn z 1 9999)) hB (c_X4_within l K z 1 9999 ) mX4_within dX0_addGift_27 ⟨Nat.le_of_ble_eq_true rfl, Nat.le_of_ble_eq_true rfl⟩ ⟨rfl, rfl⟩ ⟨Nat.zero_le _, Nat.zero_le _⟩ (Nat.le_of_ble_eq_true rfl) [0, 1, 2, 3, 4, 5] rfl (by decide) ?_
      refine gx_if_ne_b (pc := 30) hB 35 dX0_addGift_30 (by decide) (fun c_3 => ?_) (fun c_3 => ?_)
      · refine gx_aload_n (pc := 35) hB dX0_addGift_35 0 rfl ?_
        refine gx_iload_n (pc := 36) hB dX0_addGift_36 2 rfl ?_
        refine gx_dVi (pc := 37) (r := bI (bClosed C y)) (wr := []) hB (c_X0_isClosed l K h t1 t2 t3 t4 c C y ) mX0_isClosed dX0_addGift_37 tb_171 pX0_isClosed ⟨Nat.le_of_ble_eq_true rfl, Nat.le_of_ble_eq_true rfl⟩ ⟨rfl, rfl⟩ ⟨Nat.zero_le _, Nat.zero_le _⟩ rfl (Nat.le_of_ble_eq_true rfl) [0, 1, 2, 3, 4, 5] [] rfl rfl (by decide) (by decide) (by decide) rfl rfl [0, 1, 2, 3, 4, 5] (by decide) (wB K h t1 t2 t3 t4 c C) rfl ?_
        refine gx_if_eq_b (pc := 40) hB 46 dX0_addGift_40 (by decide) (fun c_4 => ?_) (fun c_4 => ?_)
        · refine gx_aload_n (pc := 46) hB dX0_addGift_46 0 rfl ?_
          refine gx_get (pc := 47) hB dX0_addGift_47 inX0 rfl 0 rfl 3 (by decide) tb_83 rfl rfl ?_
          refine gx_dVi (pc := 50) (r := bI (tFull C 133 24)) (wr := [(h, .inr (0, [.ref c, .ref t1, .ref t2, .ref t3, .ref t4])), (t1, .inr (3, [.ref c, .int (nI 3), .int (nI 6), .int (nI 12)])), (t2, .inr (3, [.ref c, .int (nI 76), .int (nI 8), .int (nI 7)])), (t4, .inr (3, [.ref c, .int (nI 302), .int (nI 6), .int (nI 8)]))]) hB (c_X3_isFull l K t3 c 133 24 7 C (by first | decide | (unfold tHb; decide))) mX3_isFull dX0_addGift_50 tb_270 pX3_isFull ⟨Nat.le_of_ble_eq_true rfl, Nat.le_of_ble_eq_true rfl⟩ ⟨rfl, rfl⟩ ⟨Nat.zero_le _, Nat.zero_le _⟩ rfl (Nat.le_of_ble_eq_true rfl) [3, 5] [0, 1, 2, 4] rfl rfl (by decide) (by decide) (by decide) rfl rfl [0, 1, 2, 4, 3, 5] (by decide) (wB K h t1 t2 t3 t4 c C) rfl ?_
          refine gx_if_eq_b (pc := 53) hB 59 dX0_addGift_53 (by decide) (fun c_5 => ?_) (fun c_5 => ?_)
          · refine gx_aload_n (pc := 59) hB dX0_addGift_59 0 rfl ?_
            refine gx_iload_n (pc := 60) hB dX0_addGift_60 1 rfl ?_
            refine gx_iload_n (pc := 61) hB dX0_addGift_61 2 rfl ?_
            refine gx_iload_n (pc := 62) hB dX0_addGift_62 3 rfl ?_
            refine gx_iconst (pc := 63) hB dX0_addGift_63 (-1) (by decide) ?_
            refine gx_dVi (pc := 64) (r := (bBook C x y z (-1)).1) (wr := []) hB (c_X0_bookGift l K h t1 t2 t3 t4 c C x y z (-1) ) mX0_bookGift dX0_addGift_64 tb_274 pX0_bookGift ⟨Nat.le_of_ble_eq_true rfl, Nat.le_of_ble_eq_true rfl⟩ ⟨rfl, rfl⟩ ⟨Nat.zero_le _, Nat.zero_le _⟩ rfl (Nat.le_of_ble_eq_true rfl) [0, 1, 2, 3, 4, 5] [] rfl rfl (by decide) (by decide) (by decide) rfl rfl [0, 1, 2, 3, 4, 5] (by decide) (wB K h t1 t2 t3 t4 c ((bBook C x y z (-1)).2)) rfl ?_
            have e1 : ((bGive C x y z).1) = ((bBook C x y z (-1)).1) := by simp [bGive, c_1, c_2, c_3, c_4, c_5]
            have f0 : ((bGive C x y z).2) = ((bBook C x y z (-1)).2) := by simp [bGive, c_1, c_2, c_3, c_4, c_5]
            exact gx_iret (pc := 67) hC dX0_addGift_67 (Nat.zero_le _) (Nat.zero_le _) (⟨by rw [e1], by rw [f0]⟩)
          · refine gx_bipush (pc := 56) hB dX0_addGift_56 (-3) (by decide) ?_
            have e1 : ((bGive C x y z).1) = (-3) := by simp [bGive, c_1, c_2, c_3, c_4, c_5]
            have f0 : ((bGive C x y z).2) = C := by simp [bGive, c_1, c_2, c_3, c_4, c_5]
            exact gx_iret (pc := 58) hC dX0_addGift_58 (Nat.zero_le _) (Nat.zero_le _) (⟨by rw [e1], by rw [f0]⟩)
        · refine gx_bipush (pc := 43) hB dX0_addGift_43 (-2) (by decide) ?_
          have e1 : ((bGive C x y z).1) = (-2) := by simp [bGive, c_1, c_2, c_3, c_4]
          have f0 : ((bGive C x y z).2) = C := by simp [bGive, c_1, c_2, c_3, c_4]
          exact gx_iret (pc := 45) hC dX0_addGift_45 (Nat.zero_le _) (Nat.zero_le _) (⟨by rw [e1], by rw [f0]⟩)
      · refine gx_iconst (pc := 33) hB dX0_addGift_33 (-1) (by decide) ?_
        have e1 : ((bGive C x y z).1) = (-1) := by simp [bGive, c_1, c_2, c_3]
        have f0 : ((bGive C x y z).2) = C := by simp [bGive, c_1, c_2, c_3]
        exact gx_iret (pc := 34) hC dX0_addGift_34 (Nat.zero_le _) (Nat.zero_le _) (⟨by rw [e1], by rw [f0]⟩)
theorem pX0_taxOf : (parseMethodDescriptor yX0_taxOf.desc).map (fun d => d.parameters.length) = some 1 := by decide +kernel
theorem mX0_taxOf : gx_M yX0_taxOf cX0_taxOf 2 (some .int) := ⟨tb_363, tb_10, tb_28, tb_364, by decide, by decide⟩
set_option maxHeartbeats 4000000 in
set_option maxRecDepth 100000 in
theorem c_X0_taxOf (l : Launch) (K : gx_K) (h t1 t2 t3 t4 c : Nat) (C : Nat → Int32) (x : Int32)  : gx_Ctr l K yX0_taxOf cX0_taxOf 2 (some .int) (rmm 2 22) [.ref h, .int x] (wB K h t1 t2 t3 t4 c C) (gx_D (some (.int (bTax C x))) (wB K h t1 t2 t3 t4 c C)) := by
  refine gx_of (by decide) (Nat.le_of_ble_eq_true rfl) (fun G hC => ?_)
  have hB := hC.b
  refine gx_lv (lv' := [(0, .ref h), (1, .int x)]) rfl ?_
  refine gx_aload_n (pc := 0) hB dX0_taxOf_0 0 rfl ?_
  refine gx_get (pc := 1) hB dX0_taxOf_1 inX0 rfl 0 rfl 3 (by decide) tb_83 rfl rfl ?_
  refine gx_iload_n (pc := 4) hB dX0_taxOf_4 1 rfl ?_
  refine gx_iconst (pc := 5) hB dX0_taxOf_5 2 (by decide) ?_
  refine gx_dVi (pc := 6) (r := gAt C x 2) (wr := [(h, .inr (0, [.ref c, .ref t1, .ref t2, .ref t3, .ref t4])), (t1, .inr (3, [.ref c, .int (nI 3), .int (nI 6), .int (nI 12)])), (t2, .inr (3, [.ref c, .int (nI 76), .int (nI 8), .int (nI 7)])), (t4, .inr (3, [.ref c, .int (nI 302), .int (nI 6), .int (nI 8)]))]) hB (c_X3_at l K t3 c 133 24 7 C x 2 (by first | decide | (unfold tHb; decide))) mX3_at dX0_taxOf_6 tb_175 pX3_at ⟨Nat.le_of_ble_eq_true rfl, Nat.le_of_ble_eq_true rfl⟩ ⟨rfl, rfl⟩ ⟨Nat.zero_le _, Nat.zero_le _⟩ rfl (Nat.le_of_ble_eq_true rfl) [3, 5] [0, 1, 2, 4] rfl rfl (by decide) (by decide) (by decide) rfl rfl [0, 1, 2, 4, 3, 5] (by decide) (wB K h t1 t2 t3 t4 c C) rfl ?_
  refine gx_iconst (pc := 9) hB dX0_taxOf_9 4 (by decide) ?_
  refine gx_idiv (pc := 10) hB dX0_taxOf_10 (by decide) ?_
  have e1 : bTax C x = (gAt C x 2 / 4) := by simp [bTax]
  exact gx_iret (pc := 11) hC dX0_taxOf_11 (Nat.zero_le _) (Nat.zero_le _) (⟨by rw [e1], rfl⟩)
theorem pX0_homeOfGift : (parseMethodDescriptor yX0_homeOfGift.desc).map (fun d => d.parameters.length) = some 1 := by decide +kernel
theorem mX0_homeOfGift : gx_M yX0_homeOfGift cX0_homeOfGift 2 (some .int) := ⟨tb_359, tb_9, tb_28, tb_360, by decide, by decide⟩
set_option maxHeartbeats 4000000 in
set_option maxRecDepth 100000 in
theorem c_X0_homeOfGift (l : Launch) (K : gx_K) (h t1 t2 t3 t4 c : Nat) (C : Nat → Int32) (x : Int32)  : gx_Ctr l K yX0_homeOfGift cX0_homeOfGift 2 (some .int) (rmm 2 22) [.ref h, .int x] (wB K h t1 t2 t3 t4 c C) (gx_D (some (.int (bHome C x))) (wB K h t1 t2 t3 t4 c C)) := by
  refine gx_of (by decide) (Nat.le_of_ble_eq_true rfl) (fun G hC => ?_)
  have hB := hC.b
  refine gx_lv (lv' := [(0, .ref h), (1, .int x)]) rfl ?_
  refine gx_aload_n (pc := 0) hB dX0_homeOfGift_0 0 rfl ?_
  refine gx_get (pc := 1) hB dX0_homeOfGift_1 inX0 rfl 0 rfl 1 (by decide) tb_81 rfl rfl ?_
  refine gx_aload_n (pc := 4) hB dX0_homeOfGift_4 0 rfl ?_
  refine gx_get (pc := 5) hB dX0_homeOfGift_5 inX0 rfl 0 rfl 3 (by decide) tb_83 rfl rfl ?_
  refine gx_iload_n (pc := 8) hB dX0_homeOfGift_8 1 rfl ?_
  refine gx_iconst (pc := 9) hB dX0_homeOfGift_9 1 (by decide) ?_
  refine gx_dVi (pc := 10) (r := gAt C x 1) (wr := [(h, .inr (0, [.ref c, .ref t1, .ref t2, .ref t3, .ref t4])), (t1, .inr (3, [.ref c, .int (nI 3), .int (nI 6), .int (nI 12)])), (t2, .inr (3, [.ref c, .int (nI 76), .int (nI 8), .int (nI 7)])), (t4, .inr (3, [.ref c, .int (nI 302), .int (nI 6), .int (nI 8)]))]) hB (c_X3_at l K t3 c 133 24 7 C x 1 (by first | decide | (unfold tHb; decide))) mX3_at dX0_homeOfGift_10 tb_175 pX3_at ⟨Nat.le_of_ble_eq_true rfl, Nat.le_of_ble_eq_true rfl⟩ ⟨rfl, rfl⟩ ⟨Nat.zero_le _, Nat.zero_le _⟩ rfl (Nat.le_of_ble_eq_true rfl) [3, 5] [0, 1, 2, 4] rfl rfl (by decide) (by decide) (by decide) rfl rfl [0, 1, 2, 4, 3, 5] (by decide) (wB K h t1 t2 t3 t4 c C) rfl ?_
  refine gx_bipush (pc := 13) hB dX0_homeOfGift_13 10 (by decide) ?_
  refine gx_dVi (pc := 15) (r := pAt C (gAt C x 1) 10) (wr := [(h, .inr (0, [.ref c, .ref t1, .ref t2, .ref t3, .ref t4])), (t2, .inr (3, [.ref c, .int (nI 76), .int (nI 8), .int (nI 7)])), (t3, .inr (3, [.ref c, .int (nI 133), .int (nI 24), .int (nI 7)])), (t4, .inr (3, [.ref c, .int (nI 302), .int (nI 6), .int (nI 8)]))]) hB (c_X3_at l K t1 c 3 6 12 C (gAt C x 1) 10 (by first | decide | (unfold tHb; decide))) mX3_at dX0_homeOfGift_15 tb_175 pX3_at ⟨Nat.le_of_ble_eq_true rfl, Nat.le_of_ble_eq_true rfl⟩ ⟨rfl, rfl⟩ ⟨Nat.zero_le _, Nat.zero_le _⟩ rfl (Nat.le_of_ble_eq_true rfl) [1, 5] [0, 2, 3, 4] rfl rfl (by decide) (by decide) (by decide) rfl rfl [0, 4, 1, 2, 3, 5] (by decide) (wB K h t1 t2 t3 t4 c C) rfl ?_
  have e1 : bHome C x = (pAt C (gAt C x 1) 10) := by simp [bHome]
  exact gx_iret (pc := 18) hC dX0_homeOfGift_18 (Nat.zero_le _) (Nat.zero_le _) (⟨by rw [e1], rfl⟩)
theorem pX0_isOf : (parseMethodDescriptor yX0_isOf.desc).map (fun d => d.parameters.length) = some 2 := by decide +kernel
theorem mX0_isOf : gx_M yX0_isOf cX0_isOf 3 (some .boolean) := ⟨tb_339, tb_4, tb_28, tb_340, by decide, by decide⟩
set_option maxHeartbeats 4000000 in
set_option maxRecDepth 100000 in
theorem c_X0_isOf (l : Launch) (K : gx_K) (h t1 t2 t3 t4 c : Nat) (C : Nat → Int32) (x y : Int32)  : gx_Ctr l K yX0_isOf cX0_isOf 3 (some .boolean) (rmm 2 22) [.ref h, .int x, .int y] (wB K h t1 t2 t3 t4 c C) (gx_D (some (.int (bI (bIsOf C x y)))) (wB K h t1 t2 t3 t4 c C)) := by
  refine gx_of (by decide) (Nat.le_of_ble_eq_true rfl) (fun G hC => ?_)
  have hB := hC.b
  refine gx_lv (lv' := [(0, .ref h), (1, .int x), (2, .int y)]) rfl ?_
  refine gx_aload_n (pc := 0) hB dX0_isOf_0 0 rfl ?_
  refine gx_get (pc := 1) hB dX0_isOf_1 inX0 rfl 0 rfl 3 (by decide) tb_83 rfl rfl ?_
  refine gx_iload_n (pc := 4) hB dX0_isOf_4 1 rfl ?_
  refine gx_iconst (pc := 5) hB dX0_isOf_5 0 (by decide) ?_
  refine gx_dVi (pc := 6) (r := gAt C x 0) (wr := [(h, .inr (0, [.ref c, .ref t1, .ref t2, .ref t3, .ref t4])), (t1, .inr (3, [.ref c, .int (nI 3), .int (nI 6), .int (nI 12)])), (t2, .inr (3, [.ref c, .int (nI 76), .int (nI 8), .int (nI 7)])), (t4, .inr (3, [.ref c, .int (nI 302), .int (nI 6), .int (nI 8)]))]) hB (c_X3_at l K t3 c 133 24 7 C x 0 (by first | decide | (unfold tHb; decide))) mX3_at dX0_isOf_6 tb_175 pX3_at ⟨Nat.le_of_ble_eq_true rfl, Nat.le_of_ble_eq_true rfl⟩ ⟨rfl, rfl⟩ ⟨Nat.zero_le _, Nat.zero_le _⟩ rfl (Nat.le_of_ble_eq_true rfl) [3, 5] [0, 1, 2, 4] rfl rfl (by decide) (by decide) (by decide) rfl rfl [0, 1, 2, 4, 3, 5] (by decide) (wB K h t1 t2 t3 t4 c C) rfl ?_
  refine gx_iload_n (pc := 9) hB dX0_isOf_9 2 rfl ?_
  refine gx_icmp_ne (pc := 10) hB 17 dX0_isOf_10 (by decide) (fun c_1 => ?_) (fun c_1 => ?_)
  · refine gx_iconst (pc := 17) hB dX0_isOf_17 0 (by decide) ?_
    have e1 : (bI (bIsOf C x y)) = 0 := by simp [bIsOf, bI, eq_false c_1]
    exact gx_zret (pc := 18) hC dX0_isOf_18 (Nat.zero_le _) (Nat.zero_le _) (by decide) (⟨by rw [e1], rfl⟩)
  · refine gx_iconst (pc := 13) hB dX0_isOf_13 1 (by decide) ?_
    refine gx_goto (pc := 14) hB 18 dX0_isOf_14 (by decide) ?_
    have e1 : (bI (bIsOf C x y)) = 1 := by simp [bIsOf, bI, eq_true c_1]
    exact gx_zret (pc := 18) hC dX0_isOf_18 (Nat.zero_le _) (Nat.zero_le _) (by decide) (⟨by rw [e1], rfl⟩)
theorem pX0_isClaimed : (parseMethodDescriptor yX0_isClaimed.desc).map (fun d => d.parameters.length) = some 1 := by decide +kernel
theorem mX0_isClaimed : gx_M yX0_isClaimed cX0_isClaimed 2 (some .boolean) := ⟨tb_347, tb_6, tb_28, tb_348, by decide, by decide⟩
set_option maxHeartbeats 4000000 in
set_option maxRecDepth 100000 in
theorem c_X0_isClaimed (l : Launch) (K : gx_K) (h t1 t2 t3 t4 c : Nat) (C : Nat → Int32) (x : Int32)  : gx_Ctr l K yX0_isClaimed cX0_isClaimed 2 (some .boolean) (rmm 2 22) [.ref h, .int x] (wB K h t1 t2 t3 t4 c C) (gx_D (some (.int (bI (bClaimed C x)))) (wB K h t1 t2 t3 t4 c C)) := by
  refine gx_of (by decide) (Nat.le_of_ble_eq_true rfl) (fun G hC => ?_)
  have hB := hC.b
  refine gx_lv (lv' := [(0, .ref h), (1, .int x)]) rfl ?_
  refine gx_aload_n (pc := 0) hB dX0_isClaimed_0 0 rfl ?_
  refine gx_get (pc := 1) hB dX0_isClaimed_1 inX0 rfl 0 rfl 3 (by decide) tb_83 rfl rfl ?_
  refine gx_iload_n (pc := 4) hB dX0_isClaimed_4 1 rfl ?_
  refine gx_iconst (pc := 5) hB dX0_isClaimed_5 4 (by decide) ?_
  refine gx_dVi (pc := 6) (r := gAt C x 4) (wr := [(h, .inr (0, [.ref c, .ref t1, .ref t2, .ref t3, .ref t4])), (t1, .inr (3, [.ref c, .int (nI 3), .int (nI 6), .int (nI 12)])), (t2, .inr (3, [.ref c, .int (nI 76), .int (nI 8), .int (nI 7)])), (t4, .inr (3, [.ref c, .int (nI 302), .int (nI 6), .int (nI 8)]))]) hB (c_X3_at l K t3 c 133 24 7 C x 4 (by first | decide | (unfold tHb; decide))) mX3_at dX0_isClaimed_6 tb_175 pX3_at ⟨Nat.le_of_ble_eq_true rfl, Nat.le_of_ble_eq_true rfl⟩ ⟨rfl, rfl⟩ ⟨Nat.zero_le _, Nat.zero_le _⟩ rfl (Nat.le_of_ble_eq_true rfl) [3, 5] [0, 1, 2, 4] rfl rfl (by decide) (by decide) (by decide) rfl rfl [0, 1, 2, 4, 3, 5] (by decide) (wB K h t1 t2 t3 t4 c C) rfl ?_
  refine gx_iconst (pc := 9) hB dX0_isClaimed_9 1 (by decide) ?_
  refine gx_icmp_ne (pc := 10) hB 17 dX0_isClaimed_10 (by decide) (fun c_1 => ?_) (fun c_1 => ?_)
  · refine gx_iconst (pc := 17) hB dX0_isClaimed_17 0 (by decide) ?_
    have e1 : (bI (bClaimed C x)) = 0 := by simp [bClaimed, bI, eq_false c_1]
    exact gx_zret (pc := 18) hC dX0_isClaimed_18 (Nat.zero_le _) (Nat.zero_le _) (by decide) (⟨by rw [e1], rfl⟩)
  · refine gx_iconst (pc := 13) hB dX0_isClaimed_13 1 (by decide) ?_
    refine gx_goto (pc := 14) hB 18 dX0_isClaimed_14 (by decide) ?_
    have e1 : (bI (bClaimed C x)) = 1 := by simp [bClaimed, bI, eq_true c_1]
    exact gx_zret (pc := 18) hC dX0_isClaimed_18 (Nat.zero_le _) (Nat.zero_le _) (by decide) (⟨by rw [e1], rfl⟩)
theorem pX0_isRefunded : (parseMethodDescriptor yX0_isRefunded.desc).map (fun d => d.parameters.length) = some 1 := by decide +kernel
theorem mX0_isRefunded : gx_M yX0_isRefunded cX0_isRefunded 2 (some .boolean) := ⟨tb_351, tb_7, tb_28, tb_352, by decide, by decide⟩
set_option maxHeartbeats 4000000 in
set_option maxRecDepth 100000 in
theorem c_X0_isRefunded (l : Launch) (K : gx_K) (h t1 t2 t3 t4 c : Nat) (C : Nat → Int32) (x : Int32)  : gx_Ctr l K yX0_isRefunded cX0_isRefunded 2 (some .boolean) (rmm 2 22) [.ref h, .int x] (wB K h t1 t2 t3 t4 c C) (gx_D (some (.int (bI (bRefunded C x)))) (wB K h t1 t2 t3 t4 c C)) := by
  refine gx_of (by decide) (Nat.le_of_ble_eq_true rfl) (fun G hC => ?_)
  have hB := hC.b
  refine gx_lv (lv' := [(0, .ref h), (1, .int x)]) rfl ?_
  refine gx_aload_n (pc := 0) hB dX0_isRefunded_0 0 rfl ?_
  refine gx_get (pc := 1) hB dX0_isRefunded_1 inX0 rfl 0 rfl 3 (by decide) tb_83 rfl rfl ?_
  refine gx_iload_n (pc := 4) hB dX0_isRefunded_4 1 rfl ?_
  refine gx_iconst (pc := 5) hB dX0_isRefunded_5 5 (by decide) ?_
  refine gx_dVi (pc := 6) (r := gAt C x 5) (wr := [(h, .inr (0, [.ref c, .ref t1, .ref t2, .ref t3, .ref t4])), (t1, .inr (3, [.ref c, .int (nI 3), .int (nI 6), .int (nI 12)])), (t2, .inr (3, [.ref c, .int (nI 76), .int (nI 8), .int (nI 7)])), (t4, .inr (3, [.ref c, .int (nI 302), .int (nI 6), .int (nI 8)]))]) hB (c_X3_at l K t3 c 133 24 7 C x 5 (by first | decide | (unfold tHb; decide))) mX3_at dX0_isRefunded_6 tb_175 pX3_at ⟨Nat.le_of_ble_eq_true rfl, Nat.le_of_ble_eq_true rfl⟩ ⟨rfl, rfl⟩ ⟨Nat.zero_le _, Nat.zero_le _⟩ rfl (Nat.le_of_ble_eq_true rfl) [3, 5] [0, 1, 2, 4] rfl rfl (by decide) (by decide) (by decide) rfl rfl [0, 1, 2, 4, 3, 5] (by decide) (wB K h t1 t2 t3 t4 c C) rfl ?_
  refine gx_iconst (pc := 9) hB dX0_isRefunded_9 1 (by decide) ?_
  refine gx_icmp_ne (pc := 10) hB 17 dX0_isRefunded_10 (by decide) (fun c_1 => ?_) (fun c_1 => ?_)
  · refine gx_iconst (pc := 17) hB dX0_isRefunded_17 0 (by decide) ?_
    have e1 : (bI (bRefunded C x)) = 0 := by simp [bRefunded, bI, eq_false c_1]
    exact gx_zret (pc := 18) hC dX0_isRefunded_18 (Nat.zero_le _) (Nat.zero_le _) (by decide) (⟨by rw [e1], rfl⟩)
  · refine gx_iconst (pc := 13) hB dX0_isRefunded_13 1 (by decide) ?_
    refine gx_goto (pc := 14) hB 18 dX0_isRefunded_14 (by decide) ?_
    have e1 : (bI (bRefunded C x)) = 1 := by simp [bRefunded, bI, eq_true c_1]
    exact gx_zret (pc := 18) hC dX0_isRefunded_18 (Nat.zero_le _) (Nat.zero_le _) (by decide) (⟨by rw [e1], rfl⟩)
theorem pX0_isSpan : (parseMethodDescriptor yX0_isSpan.desc).map (fun d => d.parameters.length) = some 1 := by decide +kernel
theorem mX0_isSpan : gx_MS yX0_isSpan cX0_isSpan 1 (some .boolean) := ⟨tb_294, tb_28, tb_295, by decide, by decide⟩
set_option maxHeartbeats 4000000 in
set_option maxRecDepth 100000 in
theorem c_X0_isSpan (l : Launch) (K : gx_K) (x : Int32)  : gx_Ctr l K yX0_isSpan cX0_isSpan 1 (some .boolean) (rmm 2 22) [.int x] [] (gx_D (some (.int (bI (bSpan x)))) []) := by
  refine gx_of (by decide) (Nat.le_of_ble_eq_true rfl) (fun G hC => ?_)
  have hB := hC.b
  refine gx_lv (lv' := [(0, .int x)]) rfl ?_
  refine gx_iload_n (pc := 0) hB dX0_isSpan_0 0 rfl ?_
  refine gx_iconst (pc := 1) hB dX0_isSpan_1 1 (by decide) ?_
  refine gx_bipush (pc := 2) hB dX0_isSpan_2 60 (by decide) ?_
  refine gx_w0 (pc := 4) (r := bI (bIn x 1 60)) hB (c_X4_within l K x 1 60 ) mX4_within dX0_isSpan_4 ⟨Nat.le_of_ble_eq_true rfl, Nat.le_of_ble_eq_true rfl⟩ ⟨rfl, rfl⟩ ⟨Nat.zero_le _, Nat.zero_le _⟩ (Nat.le_of_ble_eq_true rfl) [] rfl (by decide) ?_
  have e1 : (bI (bSpan x)) = (bI (bIn x 1 60)) := by simp [bSpan]
  exact gx_zret (pc := 7) hC dX0_isSpan_7 (Nat.zero_le _) (Nat.zero_le _) (bI_01 _) (⟨by rw [e1], rfl⟩)
theorem pX0_addPledge : (parseMethodDescriptor yX0_addPledge.desc).map (fun d => d.parameters.length) = some 4 := by decide +kernel
theorem mX0_addPledge : gx_M yX0_addPledge cX0_addPledge 6 (some .int) := ⟨tb_290, tb_291, tb_28, tb_292, by decide, by decide⟩
set_option maxHeartbeats 4000000 in
set_option maxRecDepth 100000 in
theorem c_X0_addPledge (l : Launch) (K : gx_K) (h t1 t2 t3 t4 c : Nat) (C : Nat → Int32) (x y z u : Int32)  : gx_Ctr l K yX0_addPledge cX0_addPledge 6 (some .int) (rmm 3 43) [.ref h, .int x, .int y, .int z, .int u] (wB K h t1 t2 t3 t4 c C) (gx_D (some (.int ((bPledge C x y z u).1))) (wB K h t1 t2 t3 t4 c ((bPledge C x y z u).2))) := by
  refine gx_of (by decide) (Nat.le_of_ble_eq_true rfl) (fun G hC => ?_)
  have hB := hC.b
  refine gx_lv (lv' := [(0, .ref h), (1, .int x), (2, .int y), (3, .int z), (4, .int u)]) rfl ?_
  refine gx_aload_n (pc := 0) hB dX0_addPledge_0 0 rfl ?_
  refine gx_get (pc := 1) hB dX0_addPledge_1 inX0 rfl 0 rfl 2 (by decide) tb_82 rfl rfl ?_
  refine gx_iload_n (pc := 4) hB dX0_addPledge_4 1 rfl ?_
  refine gx_dVi (pc := 5) (r := bI (tHas C 76 x)) (wr := [(h, .inr (0, [.ref c, .ref t1, .ref t2, .ref t3, .ref t4])), (t1, .inr (3, [.ref c, .int (nI 3), .int (nI 6), .int (nI 12)])), (t3, .inr (3, [.ref c, .int (nI 133), .int (nI 24), .int (nI 7)])), (t4, .inr (3, [.ref c, .int (nI 302), .int (nI 6), .int (nI 8)]))]) hB (c_X3_has l K t2 c 76 8 7 C x (by first | decide | (unfold tHb; decide))) mX3_has dX0_addPledge_5 tb_164 pX3_has ⟨Nat.le_of_ble_eq_true rfl, Nat.le_of_ble_eq_true rfl⟩ ⟨rfl, rfl⟩ ⟨Nat.zero_le _, Nat.zero_le _⟩ rfl (Nat.le_of_ble_eq_true rfl) [2, 5] [0, 1, 3, 4] rfl rfl (by decide) (by decide) (by decide) rfl rfl [0, 1, 4, 2, 3, 5] (by decide) (wB K h t1 t2 t3 t4 c C) rfl ?_
  refine gx_if_eq_b (pc := 8) hB 41 dX0_addPledge_8 (by decide) (fun c_1 => ?_) (fun c_1 => ?_)
  · refine gx_iconst (pc := 41) hB dX0_addPledge_41 (-1) (by decide) ?_
    have e1 : ((bPledge C x y z u).1) = (-1) := by simp [bPledge, c_1]
    have f0 : ((bPledge C x y z u).2) = C := by simp [bPledge, c_1]
    exact gx_iret (pc := 42) hC dX0_addPledge_42 (Nat.zero_le _) (Nat.zero_le _) (⟨by rw [e1], by rw [f0]⟩)
  · refine gx_aload_n (pc := 11) hB dX0_addPledge_11 0 rfl ?_
    refine gx_get (pc := 12) hB dX0_addPledge_12 inX0 rfl 0 rfl 1 (by decide) tb_81 rfl rfl ?_
    refine gx_iload_n (pc := 15) hB dX0_addPledge_15 2 rfl ?_
    refine gx_dVi (pc := 16) (r := bI (tHas C 3 y)) (wr := [(h, .inr (0, [.ref c, .ref t1, .ref t2, .ref t3, .ref t4])), (t2, .inr (3, [.ref c, .int (nI 76), .int (nI 8), .int (nI 7)])), (t3, .inr (3, [.ref c, .int (nI 133), .int (nI 24), .int (nI 7)])), (t4, .inr (3, [.ref c, .int (nI 302), .int (nI 6), .int (nI 8)]))]) hB (c_X3_has l K t1 c 3 6 12 C y (by first | decide | (unfold tHb; decide))) mX3_has dX0_addPledge_16 tb_164 pX3_has ⟨Nat.le_of_ble_eq_true rfl, Nat.le_of_ble_eq_true rfl⟩ ⟨rfl, rfl⟩ ⟨Nat.zero_le _, Nat.zero_le _⟩ rfl (Nat.le_of_ble_eq_true rfl) [1, 5] [0, 2, 3, 4] rfl rfl (by decide) (by decide) (by decide) rfl rfl [0, 4, 1, 2, 3, 5] (by decide) (wB K h t1 t2 t3 t4 c C) rfl ?_
    refine gx_if_eq_b (pc := 19) hB 41 dX0_addPledge_19 (by decide) (fun c_2 => ?_) (fun c_2 => ?_)
    · refine gx_iconst (pc := 41) hB dX0_addPledge_41 (-1) (by decide) ?_
      have e1 : ((bPledge C x y z u).1) = (-1) := by simp [bPledge, c_1, c_2]
      have f0 : ((bPledge C x y z u).2) = C := by simp [bPledge, c_1, c_2]
      exact gx_iret (pc := 42) hC dX0_addPledge_42 (Nat.zero_le _) (Nat.zero_le _) (⟨by rw [e1], by rw [f0]⟩)
    · refine gx_iload_n (pc := 22) hB dX0_addPledge_22 3 rfl ?_
      refine gx_iconst (pc := 23) hB dX0_addPledge_23 1 (by decide) ?_
      refine gx_sipush (pc := 24) hB dX0_addPledge_24 999 (by decide) ?_
      refine gx_w0 (pc := 27) (r := bI (bIn z 1 999)) hB (c_X4_within l K z 1 999 ) mX4_within dX0_addPledge_27 ⟨Nat.le_of_ble_eq_true rfl, Nat.le_of_ble_eq_true rfl⟩ ⟨rfl, rfl⟩ ⟨Nat.zero_le _, Nat.zero_le _⟩ (Nat.le_of_ble_eq_true rfl) [0, 1, 2, 3, 4, 5] rfl (by decide) ?_
      refine gx_if_eq_b (pc := 30) hB 41 dX0_addPledge_30 (by decide) (fun c_3 => ?_) (fun c_3 => ?_)
      · refine gx_iconst (pc := 41) hB dX0_addPledge_41 (-1) (by decide) ?_
        have e1 : ((bPledge C x y z u).1) = (-1) := by simp [bPledge, c_1, c_2, c_3]
        have f0 : ((bPledge C x y z u).2) = C := by simp [bPledge, c_1, c_2, c_3]
        exact gx_iret (pc := 42) hC dX0_addPledge_42 (Nat.zero_le _) (Nat.zero_le _) (⟨by rw [e1], by rw [f0]⟩)
      · refine gx_iload (pc := 33) hB dX0_addPledge_33 4 rfl ?_
        refine gx_dSi (pc := 35) (r := bI (bSpan u)) (wr := [(h, .inr (0, [.ref c, .ref t1, .ref t2, .ref t3, .ref t4])), (t1, .inr (3, [.ref c, .int (nI 3), .int (nI 6), .int (nI 12)])), (t2, .inr (3, [.ref c, .int (nI 76), .int (nI 8), .int (nI 7)])), (t3, .inr (3, [.ref c, .int (nI 133), .int (nI 24), .int (nI 7)])), (t4, .inr (3, [.ref c, .int (nI 302), .int (nI 6), .int (nI 8)])), (c, .inl (K.2.1.2.1, 351, .inl C))]) hB (c_X0_isSpan l K u ) mX0_isSpan dX0_addPledge_35 tb_293 pX0_isSpan ⟨Nat.le_of_ble_eq_true rfl, Nat.le_of_ble_eq_true rfl⟩ ⟨rfl, rfl⟩ ⟨Nat.zero_le _, Nat.zero_le _⟩ rfl (Nat.le_of_ble_eq_true rfl) [] [0, 1, 2, 3, 4, 5] rfl rfl (by decide) (by decide) (by decide) [0, 1, 2, 3, 4, 5] (by decide) (wB K h t1 t2 t3 t4 c C) rfl ?_
        refine gx_if_ne_b (pc := 38) hB 43 dX0_addPledge_38 (by decide) (fun c_4 => ?_) (fun c_4 => ?_)
        · refine gx_aload_n (pc := 43) hB dX0_addPledge_43 0 rfl ?_
          refine gx_iload_n (pc := 44) hB dX0_addPledge_44 2 rfl ?_
          refine gx_dVi (pc := 45) (r := bI (bClosed C y)) (wr := []) hB (c_X0_isClosed l K h t1 t2 t3 t4 c C y ) mX0_isClosed dX0_addPledge_45 tb_171 pX0_isClosed ⟨Nat.le_of_ble_eq_true rfl, Nat.le_of_ble_eq_true rfl⟩ ⟨rfl, rfl⟩ ⟨Nat.zero_le _, Nat.zero_le _⟩ rfl (Nat.le_of_ble_eq_true rfl) [0, 1, 2, 3, 4, 5] [] rfl rfl (by decide) (by decide) (by decide) rfl rfl [0, 1, 2, 3, 4, 5] (by decide) (wB K h t1 t2 t3 t4 c C) rfl ?_
          refine gx_if_eq_b (pc := 48) hB 54 dX0_addPledge_48 (by decide) (fun c_5 => ?_) (fun c_5 => ?_)
          · refine gx_aload_n (pc := 54) hB dX0_addPledge_54 0 rfl ?_
            refine gx_get (pc := 55) hB dX0_addPledge_55 inX0 rfl 0 rfl 4 (by decide) tb_84 rfl rfl ?_
            refine gx_dVi (pc := 58) (r := tNew C 302 6) (wr := [(h, .inr (0, [.ref c, .ref t1, .ref t2, .ref t3, .ref t4])), (t1, .inr (3, [.ref c, .int (nI 3), .int (nI 6), .int (nI 12)])), (t2, .inr (3, [.ref c, .int (nI 76), .int (nI 8), .int (nI 7)])), (t3, .inr (3, [.ref c, .int (nI 133), .int (nI 24), .int (nI 7)]))]) hB (c_X3_addRow l K t4 c 302 6 8 C (by first | decide | (unfold tHb; decide))) mX3_addRow dX0_addPledge_58 tb_72 pX3_addRow ⟨Nat.le_of_ble_eq_true rfl, Nat.le_of_ble_eq_true rfl⟩ ⟨rfl, rfl⟩ ⟨Nat.zero_le _, Nat.zero_le _⟩ rfl (Nat.le_of_ble_eq_true rfl) [4, 5] [0, 1, 2, 3] rfl rfl (by decide) (by decide) (by decide) rfl rfl [0, 1, 2, 3, 4, 5] (by decide) (wB K h t1 t2 t3 t4 c (tNewC C 302 6)) rfl ?_
            refine gx_istore (pc := 61) hB dX0_addPledge_61 (by decide) [(5, .int (tNew C 302 6)), (0, .ref h), (1, .int x), (2, .int y), (3, .int z), (4, .int u)] rfl ?_
            refine gx_iload (pc := 63) hB dX0_addPledge_63 0 rfl ?_
            refine gx_iconst (pc := 65) hB dX0_addPledge_65 (-1) (by decide) ?_
            refine gx_icmp_ne (pc := 66) hB 72 dX0_addPledge_66 (by decide) (fun c_6 => ?_) (fun c_6 => ?_)
            · refine gx_aload_n (pc := 72) hB dX0_addPledge_72 1 rfl ?_
              refine gx_get (pc := 73) hB dX0_addPledge_73 inX0 rfl 0 rfl 4 (by decide) tb_84 rfl rfl ?_
              refine gx_iload (pc := 76) hB dX0_addPledge_76 0 rfl ?_
              refine gx_iconst (pc := 78) hB dX0_addPledge_78 0 (by decide) ?_
              refine gx_iload_n (pc := 79) hB dX0_addPledge_79 2 rfl ?_
              refine gx_dVv (pc := 80) (wr := [(h, .inr (0, [.ref c, .ref t1, .ref t2, .ref t3, .ref t4])), (t1, .inr (3, [.ref c, .int (nI 3), .int (nI 6), .int (nI 12)])), (t2, .inr (3, [.ref c, .int (nI 76), .int (nI 8), .int (nI 7)])), (t3, .inr (3, [.ref c, .int (nI 133), .int (nI 24), .int (nI 7)]))]) hB (c_X3_put l K t4 c 302 6 8 (tNewC C 302 6) (tNew C 302 6) 0 x (by first | decide | (unfold tHb; decide))) mX3_put dX0_addPledge_80 tb_76 pX3_put ⟨Nat.le_of_ble_eq_true rfl, Nat.le_of_ble_eq_true rfl⟩ ⟨rfl, rfl⟩ ⟨Nat.zero_le _, Nat.zero_le _⟩ rfl (Nat.le_of_ble_eq_true rfl) [4, 5] [0, 1, 2, 3] rfl rfl (by decide) (by decide) (by decide) rfl rfl [0, 1, 2, 3, 4, 5] (by decide) (wB K h t1 t2 t3 t4 c (kPut (tNewC C 302 6) (tNew C 302 6) 0 x)) rfl ?_
              refine gx_aload_n (pc := 83) hB dX0_addPledge_83 1 rfl ?_
              refine gx_get (pc := 84) hB dX0_addPledge_84 inX0 rfl 0 rfl 4 (by decide) tb_84 rfl rfl ?_
              refine gx_iload (pc := 87) hB dX0_addPledge_87 0 rfl ?_
              refine gx_iconst (pc := 89) hB dX0_addPledge_89 1 (by decide) ?_
              refine gx_iload_n (pc := 90) hB dX0_addPledge_90 3 rfl ?_
              refine gx_dVv (pc := 91) (wr := [(h, .inr (0, [.ref c, .ref t1, .ref t2, .ref t3, .ref t4])), (t1, .inr (3, [.ref c, .int (nI 3), .int (nI 6), .int (nI 12)])), (t2, .inr (3, [.ref c, .int (nI 76), .int (nI 8), .int (nI 7)])), (t3, .inr (3, [.ref c, .int (nI 133), .int (nI 24), .int (nI 7)]))]) hB (c_X3_put l K t4 c 302 6 8 (kPut (tNewC C 302 6) (tNew C 302 6) 0 x) (tNew C 302 6) 1 y (by first | decide | (unfold tHb; decide))) mX3_put dX0_addPledge_91 tb_76 pX3_put ⟨Nat.le_of_ble_eq_true rfl, Nat.le_of_ble_eq_true rfl⟩ ⟨rfl, rfl⟩ ⟨Nat.zero_le _, Nat.zero_le _⟩ rfl (Nat.le_of_ble_eq_true rfl) [4, 5] [0, 1, 2, 3] rfl rfl (by decide) (by decide) (by decide) rfl rfl [0, 1, 2, 3, 4, 5] (by decide) (wB K h t1 t2 t3 t4 c (kPut (kPut (tNewC C 302 6) (tNew C 302 6) 0 x) (tNew C 302 6) 1 y)) rfl ?_
              refine gx_aload_n (pc := 94) hB dX0_addPledge_94 1 rfl ?_
              refine gx_get (pc := 95) hB dX0_addPledge_95 inX0 rfl 0 rfl 4 (by decide) tb_84 rfl rfl ?_
              refine gx_iload (pc := 98) hB dX0_addPledge_98 0 rfl ?_
              refine gx_iconst (pc := 100) hB dX0_addPledge_100 2 (by decide) ?_
              refine gx_iload_n (pc := 101) hB dX0_addPledge_101 4 rfl ?_
              refine gx_dVv (pc := 102) (wr := [(h, .inr (0, [.ref c, .ref t1, .ref t2, .ref t3, .ref t4])), (t1, .inr (3, [.ref c, .int (nI 3), .int (nI 6), .int (nI 12)])), (t2, .inr (3, [.ref c, .int (nI 76), .int (nI 8), .int (nI 7)])), (t3, .inr (3, [.ref c, .int (nI 133), .int (nI 24), .int (nI 7)]))]) hB (c_X3_put l K t4 c 302 6 8 (kPut (kPut (tNewC C 302 6) (tNew C 302 6) 0 x) (tNew C 302 6) 1 y) (tNew C 302 6) 2 z (by first | decide | (unfold tHb; decide))) mX3_put dX0_addPledge_102 tb_76 pX3_put ⟨Nat.le_of_ble_eq_true rfl, Nat.le_of_ble_eq_true rfl⟩ ⟨rfl, rfl⟩ ⟨Nat.zero_le _, Nat.zero_le _⟩ rfl (Nat.le_of_ble_eq_true rfl) [4, 5] [0, 1, 2, 3] rfl rfl (by decide) (by decide) (by decide) rfl rfl [0, 1, 2, 3, 4, 5] (by decide) (wB K h t1 t2 t3 t4 c (kPut (kPut (kPut (tNewC C 302 6) (tNew C 302 6) 0 x) (tNew C 302 6) 1 y) (tNew C 302 6) 2 z)) rfl ?_
              refine gx_aload_n (pc := 105) hB dX0_addPledge_105 1 rfl ?_
              refine gx_get (pc := 106) hB dX0_addPledge_106 inX0 rfl 0 rfl 4 (by decide) tb_84 rfl rfl ?_
              refine gx_iload (pc := 109) hB dX0_addPledge_109 0 rfl ?_
              refine gx_iconst (pc := 111) hB dX0_addPledge_111 3 (by decide) ?_
              refine gx_iload (pc := 112) hB dX0_addPledge_112 5 rfl ?_
              refine gx_dVv (pc := 114) (wr := [(h, .inr (0, [.ref c, .ref t1, .ref t2, .ref t3, .ref t4])), (t1, .inr (3, [.ref c, .int (nI 3), .int (nI 6), .int (nI 12)])), (t2, .inr (3, [.ref c, .int (nI 76), .int (nI 8), .int (nI 7)])), (t3, .inr (3, [.ref c, .int (nI 133), .int (nI 24), .int (nI 7)]))]) hB (c_X3_put l K t4 c 302 6 8 (kPut (kPut (kPut (tNewC C 302 6) (tNew C 302 6) 0 x) (tNew C 302 6) 1 y) (tNew C 302 6) 2 z) (tNew C 302 6) 3 u (by first | decide | (unfold tHb; decide))) mX3_put dX0_addPledge_114 tb_76 pX3_put ⟨Nat.le_of_ble_eq_true rfl, Nat.le_of_ble_eq_true rfl⟩ ⟨rfl, rfl⟩ ⟨Nat.zero_le _, Nat.zero_le _⟩ rfl (Nat.le_of_ble_eq_true rfl) [4, 5] [0, 1, 2, 3] rfl rfl (by decide) (by decide) (by decide) rfl rfl [0, 1, 2, 3, 4, 5] (by decide) (wB K h t1 t2 t3 t4 c (kPut (kPut (kPut (kPut (tNewC C 302 6) (tNew C 302 6) 0 x) (tNew C 302 6) 1 y) (tNew C 302 6) 2 z) (tNew C 302 6) 3 u)) rfl ?_
              refine gx_iload (pc := 117) hB dX0_addPledge_117 0 rfl ?_
              have e1 : ((bPledge C x y z u).1) = tNew C 302 6 := by simp [bPledge, c_1, c_2, c_3, c_4, c_5, eq_false c_6]
              have f0 : ((bPledge C x y z u).2) = (kPut (kPut (kPut (kPut (tNewC C 302 6) (tNew C 302 6) 0 x) (tNew C 302 6) 1 y) (tNew C 302 6) 2 z) (tNew C 302 6) 3 u) := by simp [bPledge, c_1, c_2, c_3, c_4, c_5, eq_false c_6]
              exact gx_iret (pc := 119) hC dX0_addPledge_119 (Nat.zero_le _) (Nat.zero_le _) (⟨by rw [e1], by rw [f0]⟩)
            · refine gx_bipush (pc := 69) hB dX0_addPledge_69 (-3) (by decide) ?_
              have e1 : ((bPledge C x y z u).1) = (-3) := by simp [bPledge, c_1, c_2, c_3, c_4, c_5, eq_true c_6]
              have f0 : ((bPledge C x y z u).2) = tNewC C 302 6 := by simp [bPledge, c_1, c_2, c_3, c_4, c_5, eq_true c_6]
              exact gx_iret (pc := 71) hC dX0_addPledge_71 (Nat.zero_le _) (Nat.zero_le _) (⟨by rw [e1], by rw [f0]⟩)
          · refine gx_bipush (pc := 51) hB dX0_addPledge_51 (-2) (by decide) ?_
            have e1 : ((bPledge C x y z u).1) = (-2) := by simp [bPledge, c_1, c_2, c_3, c_4, c_5]
            have f0 : ((bPledge C x y z u).2) = C := by simp [bPledge, c_1, c_2, c_3, c_4, c_5]
            exact gx_iret (pc := 53) hC dX0_addPledge_53 (Nat.zero_le _) (Nat.zero_le _) (⟨by rw [e1], by rw [f0]⟩)
        · refine gx_iconst (pc := 41) hB dX0_addPledge_41 (-1) (by decide) ?_
          have e1 : ((bPledge C x y z u).1) = (-1) := by simp [bPledge, c_1, c_2, c_3, c_4]
          have f0 : ((bPledge C x y z u).2) = C := by simp [bPledge, c_1, c_2, c_3, c_4]
          exact gx_iret (pc := 42) hC dX0_addPledge_42 (Nat.zero_le _) (Nat.zero_le _) (⟨by rw [e1], by rw [f0]⟩)
theorem pX0_isRunning : (parseMethodDescriptor yX0_isRunning.desc).map (fun d => d.parameters.length) = some 1 := by decide +kernel
theorem mX0_isRunning : gx_M yX0_isRunning cX0_isRunning 2 (some .boolean) := ⟨tb_306, tb_2, tb_28, tb_307, by decide, by decide⟩
set_option maxHeartbeats 4000000 in
set_option maxRecDepth 100000 in
theorem c_X0_isRunning (l : Launch) (K : gx_K) (h t1 t2 t3 t4 c : Nat) (C : Nat → Int32) (x : Int32)  : gx_Ctr l K yX0_isRunning cX0_isRunning 2 (some .boolean) (rmm 2 22) [.ref h, .int x] (wB K h t1 t2 t3 t4 c C) (gx_D (some (.int (bI (bRunning C x)))) (wB K h t1 t2 t3 t4 c C)) := by
  refine gx_of (by decide) (Nat.le_of_ble_eq_true rfl) (fun G hC => ?_)
  have hB := hC.b
  refine gx_lv (lv' := [(0, .ref h), (1, .int x)]) rfl ?_
  refine gx_aload_n (pc := 0) hB dX0_isRunning_0 0 rfl ?_
  refine gx_get (pc := 1) hB dX0_isRunning_1 inX0 rfl 0 rfl 4 (by decide) tb_84 rfl rfl ?_
  refine gx_iload_n (pc := 4) hB dX0_isRunning_4 1 rfl ?_
  refine gx_iconst (pc := 5) hB dX0_isRunning_5 5 (by decide) ?_
  refine gx_dVi (pc := 6) (r := kAt C x 5) (wr := [(h, .inr (0, [.ref c, .ref t1, .ref t2, .ref t3, .ref t4])), (t1, .inr (3, [.ref c, .int (nI 3), .int (nI 6), .int (nI 12)])), (t2, .inr (3, [.ref c, .int (nI 76), .int (nI 8), .int (nI 7)])), (t3, .inr (3, [.ref c, .int (nI 133), .int (nI 24), .int (nI 7)]))]) hB (c_X3_at l K t4 c 302 6 8 C x 5 (by first | decide | (unfold tHb; decide))) mX3_at dX0_isRunning_6 tb_175 pX3_at ⟨Nat.le_of_ble_eq_true rfl, Nat.le_of_ble_eq_true rfl⟩ ⟨rfl, rfl⟩ ⟨Nat.zero_le _, Nat.zero_le _⟩ rfl (Nat.le_of_ble_eq_true rfl) [4, 5] [0, 1, 2, 3] rfl rfl (by decide) (by decide) (by decide) rfl rfl [0, 1, 2, 3, 4, 5] (by decide) (wB K h t1 t2 t3 t4 c C) rfl ?_
  refine gx_if_ne (pc := 9) hB 16 dX0_isRunning_9 (by decide) (fun c_1 => ?_) (fun c_1 => ?_)
  · refine gx_iconst (pc := 16) hB dX0_isRunning_16 0 (by decide) ?_
    have e1 : (bI (bRunning C x)) = 0 := by simp [bRunning, bI, eq_false c_1]
    exact gx_zret (pc := 17) hC dX0_isRunning_17 (Nat.zero_le _) (Nat.zero_le _) (by decide) (⟨by rw [e1], rfl⟩)
  · refine gx_iconst (pc := 12) hB dX0_isRunning_12 1 (by decide) ?_
    refine gx_goto (pc := 13) hB 17 dX0_isRunning_13 (by decide) ?_
    have e1 : (bI (bRunning C x)) = 1 := by simp [bRunning, bI, eq_true c_1]
    exact gx_zret (pc := 17) hC dX0_isRunning_17 (Nat.zero_le _) (Nat.zero_le _) (by decide) (⟨by rw [e1], rfl⟩)
theorem pX0_tellMiss : (parseMethodDescriptor yX0_tellMiss.desc).map (fun d => d.parameters.length) = some 1 := by decide +kernel
theorem mX0_tellMiss : gx_M yX0_tellMiss cX0_tellMiss 2 (some .int) := ⟨tb_301, tb_302, tb_28, tb_303, by decide, by decide⟩
set_option maxHeartbeats 4000000 in
set_option maxRecDepth 100000 in
theorem c_X0_tellMiss (l : Launch) (K : gx_K) (h t1 t2 t3 t4 c : Nat) (C : Nat → Int32) (x : Int32)  : gx_Ctr l K yX0_tellMiss cX0_tellMiss 2 (some .int) (rmm 3 43) [.ref h, .int x] (wB K h t1 t2 t3 t4 c C) (gx_D (some (.int ((bMiss C x).1))) (wB K h t1 t2 t3 t4 c ((bMiss C x).2))) := by
  refine gx_of (by decide) (Nat.le_of_ble_eq_true rfl) (fun G hC => ?_)
  have hB := hC.b
  refine gx_lv (lv' := [(0, .ref h), (1, .int x)]) rfl ?_
  refine gx_aload_n (pc := 0) hB dX0_tellMiss_0 0 rfl ?_
  refine gx_get (pc := 1) hB dX0_tellMiss_1 inX0 rfl 0 rfl 4 (by decide) tb_84 rfl rfl ?_
  refine gx_iload_n (pc := 4) hB dX0_tellMiss_4 1 rfl ?_
  refine gx_dVi (pc := 5) (r := bI (tHas C 302 x)) (wr := [(h, .inr (0, [.ref c, .ref t1, .ref t2, .ref t3, .ref t4])), (t1, .inr (3, [.ref c, .int (nI 3), .int (nI 6), .int (nI 12)])), (t2, .inr (3, [.ref c, .int (nI 76), .int (nI 8), .int (nI 7)])), (t3, .inr (3, [.ref c, .int (nI 133), .int (nI 24), .int (nI 7)]))]) hB (c_X3_has l K t4 c 302 6 8 C x (by first | decide | (unfold tHb; decide))) mX3_has dX0_tellMiss_5 tb_164 pX3_has ⟨Nat.le_of_ble_eq_true rfl, Nat.le_of_ble_eq_true rfl⟩ ⟨rfl, rfl⟩ ⟨Nat.zero_le _, Nat.zero_le _⟩ rfl (Nat.le_of_ble_eq_true rfl) [4, 5] [0, 1, 2, 3] rfl rfl (by decide) (by decide) (by decide) rfl rfl [0, 1, 2, 3, 4, 5] (by decide) (wB K h t1 t2 t3 t4 c C) rfl ?_
  refine gx_if_ne_b (pc := 8) hB 13 dX0_tellMiss_8 (by decide) (fun c_1 => ?_) (fun c_1 => ?_)
  · refine gx_aload_n (pc := 13) hB dX0_tellMiss_13 0 rfl ?_
    refine gx_iload_n (pc := 14) hB dX0_tellMiss_14 1 rfl ?_
    refine gx_dVi (pc := 15) (r := bI (bRunning C x)) (wr := []) hB (c_X0_isRunning l K h t1 t2 t3 t4 c C x ) mX0_isRunning dX0_tellMiss_15 tb_304 pX0_isRunning ⟨Nat.le_of_ble_eq_true rfl, Nat.le_of_ble_eq_true rfl⟩ ⟨rfl, rfl⟩ ⟨Nat.zero_le _, Nat.zero_le _⟩ rfl (Nat.le_of_ble_eq_true rfl) [0, 1, 2, 3, 4, 5] [] rfl rfl (by decide) (by decide) (by decide) rfl rfl [0, 1, 2, 3, 4, 5] (by decide) (wB K h t1 t2 t3 t4 c C) rfl ?_
    refine gx_if_eq_b (pc := 18) hB 35 dX0_tellMiss_18 (by decide) (fun c_2 => ?_) (fun c_2 => ?_)
    · refine gx_bipush (pc := 35) hB dX0_tellMiss_35 (-2) (by decide) ?_
      have e1 : ((bMiss C x).1) = (-2) := by simp [bMiss, c_1, c_2]
      have f0 : ((bMiss C x).2) = C := by simp [bMiss, c_1, c_2]
      exact gx_iret (pc := 37) hC dX0_tellMiss_37 (Nat.zero_le _) (Nat.zero_le _) (⟨by rw [e1], by rw [f0]⟩)
    · refine gx_aload_n (pc := 21) hB dX0_tellMiss_21 0 rfl ?_
      refine gx_get (pc := 22) hB dX0_tellMiss_22 inX0 rfl 0 rfl 4 (by decide) tb_84 rfl rfl ?_
      refine gx_iload_n (pc := 25) hB dX0_tellMiss_25 1 rfl ?_
      refine gx_bipush (pc := 26) hB dX0_tellMiss_26 7 (by decide) ?_
      refine gx_dVi (pc := 28) (r := kAt C x 7) (wr := [(h, .inr (0, [.ref c, .ref t1, .ref t2, .ref t3, .ref t4])), (t1, .inr (3, [.ref c, .int (nI 3), .int (nI 6), .int (nI 12)])), (t2, .inr (3, [.ref c, .int (nI 76), .int (nI 8), .int (nI 7)])), (t3, .inr (3, [.ref c, .int (nI 133), .int (nI 24), .int (nI 7)]))]) hB (c_X3_at l K t4 c 302 6 8 C x 7 (by first | decide | (unfold tHb; decide))) mX3_at dX0_tellMiss_28 tb_175 pX3_at ⟨Nat.le_of_ble_eq_true rfl, Nat.le_of_ble_eq_true rfl⟩ ⟨rfl, rfl⟩ ⟨Nat.zero_le _, Nat.zero_le _⟩ rfl (Nat.le_of_ble_eq_true rfl) [4, 5] [0, 1, 2, 3] rfl rfl (by decide) (by decide) (by decide) rfl rfl [0, 1, 2, 3, 4, 5] (by decide) (wB K h t1 t2 t3 t4 c C) rfl ?_
      refine gx_iconst (pc := 31) hB dX0_tellMiss_31 1 (by decide) ?_
      refine gx_icmp_ne (pc := 32) hB 38 dX0_tellMiss_32 (by decide) (fun c_3 => ?_) (fun c_3 => ?_)
      · refine gx_aload_n (pc := 38) hB dX0_tellMiss_38 0 rfl ?_
        refine gx_get (pc := 39) hB dX0_tellMiss_39 inX0 rfl 0 rfl 4 (by decide) tb_84 rfl rfl ?_
        refine gx_iload_n (pc := 42) hB dX0_tellMiss_42 1 rfl ?_
        refine gx_bipush (pc := 43) hB dX0_tellMiss_43 7 (by decide) ?_
        refine gx_iconst (pc := 45) hB dX0_tellMiss_45 1 (by decide) ?_
        refine gx_dVv (pc := 46) (wr := [(h, .inr (0, [.ref c, .ref t1, .ref t2, .ref t3, .ref t4])), (t1, .inr (3, [.ref c, .int (nI 3), .int (nI 6), .int (nI 12)])), (t2, .inr (3, [.ref c, .int (nI 76), .int (nI 8), .int (nI 7)])), (t3, .inr (3, [.ref c, .int (nI 133), .int (nI 24), .int (nI 7)]))]) hB (c_X3_put l K t4 c 302 6 8 C x 7 1 (by first | decide | (unfold tHb; decide))) mX3_put dX0_tellMiss_46 tb_76 pX3_put ⟨Nat.le_of_ble_eq_true rfl, Nat.le_of_ble_eq_true rfl⟩ ⟨rfl, rfl⟩ ⟨Nat.zero_le _, Nat.zero_le _⟩ rfl (Nat.le_of_ble_eq_true rfl) [4, 5] [0, 1, 2, 3] rfl rfl (by decide) (by decide) (by decide) rfl rfl [0, 1, 2, 3, 4, 5] (by decide) (wB K h t1 t2 t3 t4 c (kPut C x 7 1)) rfl ?_
        refine gx_aload_n (pc := 49) hB dX0_tellMiss_49 0 rfl ?_
        refine gx_get (pc := 50) hB dX0_tellMiss_50 inX0 rfl 0 rfl 4 (by decide) tb_84 rfl rfl ?_
        refine gx_iload_n (pc := 53) hB dX0_tellMiss_53 1 rfl ?_
        refine gx_iconst (pc := 54) hB dX0_tellMiss_54 4 (by decide) ?_
        refine gx_dVi (pc := 55) (r := kAt (kPut C x 7 1) x 4) (wr := [(h, .inr (0, [.ref c, .ref t1, .ref t2, .ref t3, .ref t4])), (t1, .inr (3, [.ref c, .int (nI 3), .int (nI 6), .int (nI 12)])), (t2, .inr (3, [.ref c, .int (nI 76), .int (nI 8), .int (nI 7)])), (t3, .inr (3, [.ref c, .int (nI 133), .int (nI 24), .int (nI 7)]))]) hB (c_X3_at l K t4 c 302 6 8 (kPut C x 7 1) x 4 (by first | decide | (unfold tHb; decide))) mX3_at dX0_tellMiss_55 tb_175 pX3_at ⟨Nat.le_of_ble_eq_true rfl, Nat.le_of_ble_eq_true rfl⟩ ⟨rfl, rfl⟩ ⟨Nat.zero_le _, Nat.zero_le _⟩ rfl (Nat.le_of_ble_eq_true rfl) [4, 5] [0, 1, 2, 3] rfl rfl (by decide) (by decide) (by decide) rfl rfl [0, 1, 2, 3, 4, 5] (by decide) (wB K h t1 t2 t3 t4 c (kPut C x 7 1)) rfl ?_
        have e1 : ((bMiss C x).1) = (kAt (kPut C x 7 1) x 4) := by simp [bMiss, c_1, c_2, eq_false c_3]
        have f0 : ((bMiss C x).2) = kPut C x 7 1 := by simp [bMiss, c_1, c_2, eq_false c_3]
        exact gx_iret (pc := 58) hC dX0_tellMiss_58 (Nat.zero_le _) (Nat.zero_le _) (⟨by rw [e1], by rw [f0]⟩)
      · refine gx_bipush (pc := 35) hB dX0_tellMiss_35 (-2) (by decide) ?_
        have e1 : ((bMiss C x).1) = (-2) := by simp [bMiss, c_1, c_2, eq_true c_3]
        have f0 : ((bMiss C x).2) = C := by simp [bMiss, c_1, c_2, eq_true c_3]
        exact gx_iret (pc := 37) hC dX0_tellMiss_37 (Nat.zero_le _) (Nat.zero_le _) (⟨by rw [e1], by rw [f0]⟩)
  · refine gx_iconst (pc := 11) hB dX0_tellMiss_11 (-1) (by decide) ?_
    have e1 : ((bMiss C x).1) = (-1) := by simp [bMiss, c_1]
    have f0 : ((bMiss C x).2) = C := by simp [bMiss, c_1]
    exact gx_iret (pc := 12) hC dX0_tellMiss_12 (Nat.zero_le _) (Nat.zero_le _) (⟨by rw [e1], by rw [f0]⟩)
theorem pX0_haltPledge : (parseMethodDescriptor yX0_haltPledge.desc).map (fun d => d.parameters.length) = some 1 := by decide +kernel
theorem mX0_haltPledge : gx_M yX0_haltPledge cX0_haltPledge 2 none := ⟨tb_318, tb_3, tb_28, tb_319, by decide, by decide⟩
set_option maxHeartbeats 4000000 in
set_option maxRecDepth 100000 in
theorem c_X0_haltPledge (l : Launch) (K : gx_K) (h t1 t2 t3 t4 c : Nat) (C : Nat → Int32) (x : Int32)  : gx_Ctr l K yX0_haltPledge cX0_haltPledge 2 none (rmm 2 23) [.ref h, .int x] (wB K h t1 t2 t3 t4 c C) (gx_D none (wB K h t1 t2 t3 t4 c (bHalt C x))) := by
  refine gx_of (by decide) (Nat.le_of_ble_eq_true rfl) (fun G hC => ?_)
  have hB := hC.b
  refine gx_lv (lv' := [(0, .ref h), (1, .int x)]) rfl ?_
  refine gx_aload_n (pc := 0) hB dX0_haltPledge_0 0 rfl ?_
  refine gx_get (pc := 1) hB dX0_haltPledge_1 inX0 rfl 0 rfl 4 (by decide) tb_84 rfl rfl ?_
  refine gx_iload_n (pc := 4) hB dX0_haltPledge_4 1 rfl ?_
  refine gx_iconst (pc := 5) hB dX0_haltPledge_5 5 (by decide) ?_
  refine gx_iconst (pc := 6) hB dX0_haltPledge_6 2 (by decide) ?_
  refine gx_dVv (pc := 7) (wr := [(h, .inr (0, [.ref c, .ref t1, .ref t2, .ref t3, .ref t4])), (t1, .inr (3, [.ref c, .int (nI 3), .int (nI 6), .int (nI 12)])), (t2, .inr (3, [.ref c, .int (nI 76), .int (nI 8), .int (nI 7)])), (t3, .inr (3, [.ref c, .int (nI 133), .int (nI 24), .int (nI 7)]))]) hB (c_X3_put l K t4 c 302 6 8 C x 5 2 (by first | decide | (unfold tHb; decide))) mX3_put dX0_haltPledge_7 tb_76 pX3_put ⟨Nat.le_of_ble_eq_true rfl, Nat.le_of_ble_eq_true rfl⟩ ⟨rfl, rfl⟩ ⟨Nat.zero_le _, Nat.zero_le _⟩ rfl (Nat.le_of_ble_eq_true rfl) [4, 5] [0, 1, 2, 3] rfl rfl (by decide) (by decide) (by decide) rfl rfl [0, 1, 2, 3, 4, 5] (by decide) (wB K h t1 t2 t3 t4 c (kPut C x 5 2)) rfl ?_
  refine gx_aload_n (pc := 10) hB dX0_haltPledge_10 0 rfl ?_
  refine gx_get (pc := 11) hB dX0_haltPledge_11 inX0 rfl 0 rfl 4 (by decide) tb_84 rfl rfl ?_
  refine gx_iload_n (pc := 14) hB dX0_haltPledge_14 1 rfl ?_
  refine gx_bipush (pc := 15) hB dX0_haltPledge_15 7 (by decide) ?_
  refine gx_iconst (pc := 17) hB dX0_haltPledge_17 0 (by decide) ?_
  refine gx_dVv (pc := 18) (wr := [(h, .inr (0, [.ref c, .ref t1, .ref t2, .ref t3, .ref t4])), (t1, .inr (3, [.ref c, .int (nI 3), .int (nI 6), .int (nI 12)])), (t2, .inr (3, [.ref c, .int (nI 76), .int (nI 8), .int (nI 7)])), (t3, .inr (3, [.ref c, .int (nI 133), .int (nI 24), .int (nI 7)]))]) hB (c_X3_put l K t4 c 302 6 8 (kPut C x 5 2) x 7 0 (by first | decide | (unfold tHb; decide))) mX3_put dX0_haltPledge_18 tb_76 pX3_put ⟨Nat.le_of_ble_eq_true rfl, Nat.le_of_ble_eq_true rfl⟩ ⟨rfl, rfl⟩ ⟨Nat.zero_le _, Nat.zero_le _⟩ rfl (Nat.le_of_ble_eq_true rfl) [4, 5] [0, 1, 2, 3] rfl rfl (by decide) (by decide) (by decide) rfl rfl [0, 1, 2, 3, 4, 5] (by decide) (wB K h t1 t2 t3 t4 c (kPut (kPut C x 5 2) x 7 0)) rfl ?_
  have f0 : bHalt C x = (kPut (kPut C x 5 2) x 7 0) := by simp [bHalt]
  exact gx_vret (pc := 21) hC dX0_haltPledge_21 (Nat.zero_le _) (Nat.zero_le _) (⟨rfl, by rw [f0]⟩)
theorem pX0_stopPledge : (parseMethodDescriptor yX0_stopPledge.desc).map (fun d => d.parameters.length) = some 1 := by decide +kernel
theorem mX0_stopPledge : gx_M yX0_stopPledge cX0_stopPledge 2 (some .int) := ⟨tb_313, tb_314, tb_28, tb_315, by decide, by decide⟩
set_option maxHeartbeats 4000000 in
set_option maxRecDepth 100000 in
theorem c_X0_stopPledge (l : Launch) (K : gx_K) (h t1 t2 t3 t4 c : Nat) (C : Nat → Int32) (x : Int32)  : gx_Ctr l K yX0_stopPledge cX0_stopPledge 2 (some .int) (rmm 3 44) [.ref h, .int x] (wB K h t1 t2 t3 t4 c C) (gx_D (some (.int ((bStop C x).1))) (wB K h t1 t2 t3 t4 c ((bStop C x).2))) := by
  refine gx_of (by decide) (Nat.le_of_ble_eq_true rfl) (fun G hC => ?_)
  have hB := hC.b
  refine gx_lv (lv' := [(0, .ref h), (1, .int x)]) rfl ?_
  refine gx_aload_n (pc := 0) hB dX0_stopPledge_0 0 rfl ?_
  refine gx_get (pc := 1) hB dX0_stopPledge_1 inX0 rfl 0 rfl 4 (by decide) tb_84 rfl rfl ?_
  refine gx_iload_n (pc := 4) hB dX0_stopPledge_4 1 rfl ?_
  refine gx_dVi (pc := 5) (r := bI (tHas C 302 x)) (wr := [(h, .inr (0, [.ref c, .ref t1, .ref t2, .ref t3, .ref t4])), (t1, .inr (3, [.ref c, .int (nI 3), .int (nI 6), .int (nI 12)])), (t2, .inr (3, [.ref c, .int (nI 76), .int (nI 8), .int (nI 7)])), (t3, .inr (3, [.ref c, .int (nI 133), .int (nI 24), .int (nI 7)]))]) hB (c_X3_has l K t4 c 302 6 8 C x (by first | decide | (unfold tHb; decide))) mX3_has dX0_stopPledge_5 tb_164 pX3_has ⟨Nat.le_of_ble_eq_true rfl, Nat.le_of_ble_eq_true rfl⟩ ⟨rfl, rfl⟩ ⟨Nat.zero_le _, Nat.zero_le _⟩ rfl (Nat.le_of_ble_eq_true rfl) [4, 5] [0, 1, 2, 3] rfl rfl (by decide) (by decide) (by decide) rfl rfl [0, 1, 2, 3, 4, 5] (by decide) (wB K h t1 t2 t3 t4 c C) rfl ?_
  refine gx_if_ne_b (pc := 8) hB 13 dX0_stopPledge_8 (by decide) (fun c_1 => ?_) (fun c_1 => ?_)
  · refine gx_aload_n (pc := 13) hB dX0_stopPledge_13 0 rfl ?_
    refine gx_iload_n (pc := 14) hB dX0_stopPledge_14 1 rfl ?_
    refine gx_dVi (pc := 15) (r := bI (bRunning C x)) (wr := []) hB (c_X0_isRunning l K h t1 t2 t3 t4 c C x ) mX0_isRunning dX0_stopPledge_15 tb_304 pX0_isRunning ⟨Nat.le_of_ble_eq_true rfl, Nat.le_of_ble_eq_true rfl⟩ ⟨rfl, rfl⟩ ⟨Nat.zero_le _, Nat.zero_le _⟩ rfl (Nat.le_of_ble_eq_true rfl) [0, 1, 2, 3, 4, 5] [] rfl rfl (by decide) (by decide) (by decide) rfl rfl [0, 1, 2, 3, 4, 5] (by decide) (wB K h t1 t2 t3 t4 c C) rfl ?_
    refine gx_if_ne_b (pc := 18) hB 24 dX0_stopPledge_18 (by decide) (fun c_2 => ?_) (fun c_2 => ?_)
    · refine gx_aload_n (pc := 24) hB dX0_stopPledge_24 0 rfl ?_
      refine gx_iload_n (pc := 25) hB dX0_stopPledge_25 1 rfl ?_
      refine gx_dVv (pc := 26) (wr := []) hB (c_X0_haltPledge l K h t1 t2 t3 t4 c C x ) mX0_haltPledge dX0_stopPledge_26 tb_316 pX0_haltPledge ⟨Nat.le_of_ble_eq_true rfl, Nat.le_of_ble_eq_true rfl⟩ ⟨rfl, rfl⟩ ⟨Nat.zero_le _, Nat.zero_le _⟩ rfl (Nat.le_of_ble_eq_true rfl) [0, 1, 2, 3, 4, 5] [] rfl rfl (by decide) (by decide) (by decide) rfl rfl [0, 1, 2, 3, 4, 5] (by decide) (wB K h t1 t2 t3 t4 c (bHalt C x)) rfl ?_
      refine gx_aload_n (pc := 29) hB dX0_stopPledge_29 0 rfl ?_
      refine gx_get (pc := 30) hB dX0_stopPledge_30 inX0 rfl 0 rfl 4 (by decide) tb_84 rfl rfl ?_
      refine gx_iload_n (pc := 33) hB dX0_stopPledge_33 1 rfl ?_
      refine gx_iconst (pc := 34) hB dX0_stopPledge_34 3 (by decide) ?_
      refine gx_dVi (pc := 35) (r := kAt (bHalt C x) x 3) (wr := [(h, .inr (0, [.ref c, .ref t1, .ref t2, .ref t3, .ref t4])), (t1, .inr (3, [.ref c, .int (nI 3), .int (nI 6), .int (nI 12)])), (t2, .inr (3, [.ref c, .int (nI 76), .int (nI 8), .int (nI 7)])), (t3, .inr (3, [.ref c, .int (nI 133), .int (nI 24), .int (nI 7)]))]) hB (c_X3_at l K t4 c 302 6 8 (bHalt C x) x 3 (by first | decide | (unfold tHb; decide))) mX3_at dX0_stopPledge_35 tb_175 pX3_at ⟨Nat.le_of_ble_eq_true rfl, Nat.le_of_ble_eq_true rfl⟩ ⟨rfl, rfl⟩ ⟨Nat.zero_le _, Nat.zero_le _⟩ rfl (Nat.le_of_ble_eq_true rfl) [4, 5] [0, 1, 2, 3] rfl rfl (by decide) (by decide) (by decide) rfl rfl [0, 1, 2, 3, 4, 5] (by decide) (wB K h t1 t2 t3 t4 c (bHalt C x)) rfl ?_
      have e1 : ((bStop C x).1) = (kAt (bHalt C x) x 3) := by simp [bStop, c_1, c_2]
      have f0 : ((bStop C x).2) = bHalt C x := by simp [bStop, c_1, c_2]
      exact gx_iret (pc := 38) hC dX0_stopPledge_38 (Nat.zero_le _) (Nat.zero_le _) (⟨by rw [e1], by rw [f0]⟩)
    · refine gx_bipush (pc := 21) hB dX0_stopPledge_21 (-2) (by decide) ?_
      have e1 : ((bStop C x).1) = (-2) := by simp [bStop, c_1, c_2]
      have f0 : ((bStop C x).2) = C := by simp [bStop, c_1, c_2]
      exact gx_iret (pc := 23) hC dX0_stopPledge_23 (Nat.zero_le _) (Nat.zero_le _) (⟨by rw [e1], by rw [f0]⟩)
  · refine gx_iconst (pc := 11) hB dX0_stopPledge_11 (-1) (by decide) ?_
    have e1 : ((bStop C x).1) = (-1) := by simp [bStop, c_1]
    have f0 : ((bStop C x).2) = C := by simp [bStop, c_1]
    exact gx_iret (pc := 12) hC dX0_stopPledge_12 (Nat.zero_le _) (Nat.zero_le _) (⟨by rw [e1], by rw [f0]⟩)
theorem pX0_runPledge : (parseMethodDescriptor yX0_runPledge.desc).map (fun d => d.parameters.length) = some 1 := by decide +kernel
theorem mX0_runPledge : gx_M yX0_runPledge cX0_runPledge 5 none := ⟨tb_485, tb_22, tb_28, tb_486, by decide, by decide⟩
set_option maxHeartbeats 4000000 in
set_option maxRecDepth 100000 in
theorem c_X0_runPledge (l : Launch) (K : gx_K) (h t1 t2 t3 t4 c : Nat) (C : Nat → Int32) (x : Int32)  : gx_Ctr l K yX0_runPledge cX0_runPledge 5 none (rmm 3 48) [.ref h, .int x] (wB K h t1 t2 t3 t4 c C) (gx_D none (wB K h t1 t2 t3 t4 c (bRun C x))) := by
  refine gx_of (by decide) (Nat.le_of_ble_eq_true rfl) (fun G hC => ?_)
  have hB := hC.b
  refine gx_lv (lv' := [(0, .ref h), (1, .int x)]) rfl ?_
  refine gx_aload_n (pc := 0) hB dX0_runPledge_0 0 rfl ?_
  refine gx_get (pc := 1) hB dX0_runPledge_1 inX0 rfl 0 rfl 4 (by decide) tb_84 rfl rfl ?_
  refine gx_iload_n (pc := 4) hB dX0_runPledge_4 1 rfl ?_
  refine gx_iconst (pc := 5) hB dX0_runPledge_5 3 (by decide) ?_
  refine gx_iconst (pc := 6) hB dX0_runPledge_6 (-1) (by decide) ?_
  refine gx_dVv (pc := 7) (wr := [(h, .inr (0, [.ref c, .ref t1, .ref t2, .ref t3, .ref t4])), (t1, .inr (3, [.ref c, .int (nI 3), .int (nI 6), .int (nI 12)])), (t2, .inr (3, [.ref c, .int (nI 76), .int (nI 8), .int (nI 7)])), (t3, .inr (3, [.ref c, .int (nI 133), .int (nI 24), .int (nI 7)]))]) hB (c_X3_add l K t4 c 302 6 8 C x 3 (-1) (by first | decide | (unfold tHb; decide))) mX3_add dX0_runPledge_7 tb_278 pX3_add ⟨Nat.le_of_ble_eq_true rfl, Nat.le_of_ble_eq_true rfl⟩ ⟨rfl, rfl⟩ ⟨Nat.zero_le _, Nat.zero_le _⟩ rfl (Nat.le_of_ble_eq_true rfl) [4, 5] [0, 1, 2, 3] rfl rfl (by decide) (by decide) (by decide) rfl rfl [0, 1, 2, 3, 4, 5] (by decide) (wB K h t1 t2 t3 t4 c (kAdd C x 3 (-1))) rfl ?_
  refine gx_aload_n (pc := 10) hB dX0_runPledge_10 0 rfl ?_
  refine gx_get (pc := 11) hB dX0_runPledge_11 inX0 rfl 0 rfl 4 (by decide) tb_84 rfl rfl ?_
  refine gx_iload_n (pc := 14) hB dX0_runPledge_14 1 rfl ?_
  refine gx_bipush (pc := 15) hB dX0_runPledge_15 7 (by decide) ?_
  refine gx_dVi (pc := 17) (r := kAt (kAdd C x 3 (-1)) x 7) (wr := [(h, .inr (0, [.ref c, .ref t1, .ref t2, .ref t3, .ref t4])), (t1, .inr (3, [.ref c, .int (nI 3), .int (nI 6), .int (nI 12)])), (t2, .inr (3, [.ref c, .int (nI 76), .int (nI 8), .int (nI 7)])), (t3, .inr (3, [.ref c, .int (nI 133), .int (nI 24), .int (nI 7)]))]) hB (c_X3_at l K t4 c 302 6 8 (kAdd C x 3 (-1)) x 7 (by first | decide | (unfold tHb; decide))) mX3_at dX0_runPledge_17 tb_175 pX3_at ⟨Nat.le_of_ble_eq_true rfl, Nat.le_of_ble_eq_true rfl⟩ ⟨rfl, rfl⟩ ⟨Nat.zero_le _, Nat.zero_le _⟩ rfl (Nat.le_of_ble_eq_true rfl) [4, 5] [0, 1, 2, 3] rfl rfl (by decide) (by decide) (by decide) rfl rfl [0, 1, 2, 3, 4, 5] (by decide) (wB K h t1 t2 t3 t4 c (kAdd C x 3 (-1))) rfl ?_
  refine gx_iconst (pc := 20) hB dX0_runPledge_20 1 (by decide) ?_
  refine gx_icmp_ne (pc := 21) hB 67 dX0_runPledge_21 (by decide) (fun c_1 => ?_) (fun c_1 => ?_)
  · refine gx_aload_n (pc := 67) hB dX0_runPledge_67 0 rfl ?_
    refine gx_get (pc := 68) hB dX0_runPledge_68 inX0 rfl 0 rfl 3 (by decide) tb_83 rfl rfl ?_
    refine gx_dVi (pc := 71) (r := bI (tFull (kAdd C x 3 (-1)) 133 24)) (wr := [(h, .inr (0, [.ref c, .ref t1, .ref t2, .ref t3, .ref t4])), (t1, .inr (3, [.ref c, .int (nI 3), .int (nI 6), .int (nI 12)])), (t2, .inr (3, [.ref c, .int (nI 76), .int (nI 8), .int (nI 7)])), (t4, .inr (3, [.ref c, .int (nI 302), .int (nI 6), .int (nI 8)]))]) hB (c_X3_isFull l K t3 c 133 24 7 (kAdd C x 3 (-1)) (by first | decide | (unfold tHb; decide))) mX3_isFull dX0_runPledge_71 tb_270 pX3_isFull ⟨Nat.le_of_ble_eq_true rfl, Nat.le_of_ble_eq_true rfl⟩ ⟨rfl, rfl⟩ ⟨Nat.zero_le _, Nat.zero_le _⟩ rfl (Nat.le_of_ble_eq_true rfl) [3, 5] [0, 1, 2, 4] rfl rfl (by decide) (by decide) (by decide) rfl rfl [0, 1, 2, 4, 3, 5] (by decide) (wB K h t1 t2 t3 t4 c (kAdd C x 3 (-1))) rfl ?_
    refine gx_istore_n (pc := 74) hB dX0_runPledge_74 (by decide) [(2, .int (bI (tFull (kAdd C x 3 (-1)) 133 24))), (0, .ref h), (1, .int x)] rfl ?_
    refine gx_iload_n (pc := 75) hB dX0_runPledge_75 0 rfl ?_
    refine gx_if_ne_b (pc := 76) hB 129 dX0_runPledge_76 (by decide) (fun c_2 => ?_) (fun c_2 => ?_)
    · refine gx_iload_n (pc := 129) hB dX0_runPledge_129 0 rfl ?_
      refine gx_if_eq_b (pc := 130) hB 146 dX0_runPledge_130 (by decide) (fun c_3 => ?_) (fun c_3 => ?_)
      · exact absurd (c_3.symm.trans c_2) (by decide)
      · refine gx_aload_n (pc := 133) hB dX0_runPledge_133 1 rfl ?_
        refine gx_get (pc := 134) hB dX0_runPledge_134 inX0 rfl 0 rfl 4 (by decide) tb_84 rfl rfl ?_
        refine gx_iload_n (pc := 137) hB dX0_runPledge_137 2 rfl ?_
        refine gx_iconst (pc := 138) hB dX0_runPledge_138 5 (by decide) ?_
        refine gx_iconst (pc := 139) hB dX0_runPledge_139 3 (by decide) ?_
        refine gx_dVv (pc := 140) (wr := [(h, .inr (0, [.ref c, .ref t1, .ref t2, .ref t3, .ref t4])), (t1, .inr (3, [.ref c, .int (nI 3), .int (nI 6), .int (nI 12)])), (t2, .inr (3, [.ref c, .int (nI 76), .int (nI 8), .int (nI 7)])), (t3, .inr (3, [.ref c, .int (nI 133), .int (nI 24), .int (nI 7)]))]) hB (c_X3_put l K t4 c 302 6 8 (kAdd C x 3 (-1)) x 5 3 (by first | decide | (unfold tHb; decide))) mX3_put dX0_runPledge_140 tb_76 pX3_put ⟨Nat.le_of_ble_eq_true rfl, Nat.le_of_ble_eq_true rfl⟩ ⟨rfl, rfl⟩ ⟨Nat.zero_le _, Nat.zero_le _⟩ rfl (Nat.le_of_ble_eq_true rfl) [4, 5] [0, 1, 2, 3] rfl rfl (by decide) (by decide) (by decide) rfl rfl [0, 1, 2, 3, 4, 5] (by decide) (wB K h t1 t2 t3 t4 c (kPut (kAdd C x 3 (-1)) x 5 3)) rfl ?_
        refine gx_goto (pc := 143) hB 168 dX0_runPledge_143 (by decide) ?_
        have f0 : bRun C x = (kPut (kAdd C x 3 (-1)) x 5 3) := by simp [bRun, bRunMid, eq_false c_1, c_2, c_3]
        exact gx_vret (pc := 168) hC dX0_runPledge_168 (Nat.zero_le _) (Nat.zero_le _) (⟨rfl, by rw [f0]⟩)
    · refine gx_aload_n (pc := 79) hB dX0_runPledge_79 1 rfl ?_
      refine gx_get (pc := 80) hB dX0_runPledge_80 inX0 rfl 0 rfl 4 (by decide) tb_84 rfl rfl ?_
      refine gx_iload_n (pc := 83) hB dX0_runPledge_83 2 rfl ?_
      refine gx_iconst (pc := 84) hB dX0_runPledge_84 0 (by decide) ?_
      refine gx_dVi (pc := 85) (r := kAt (kAdd C x 3 (-1)) x 0) (wr := [(h, .inr (0, [.ref c, .ref t1, .ref t2, .ref t3, .ref t4])), (t1, .inr (3, [.ref c, .int (nI 3), .int (nI 6), .int (nI 12)])), (t2, .inr (3, [.ref c, .int (nI 76), .int (nI 8), .int (nI 7)])), (t3, .inr (3, [.ref c, .int (nI 133), .int (nI 24), .int (nI 7)]))]) hB (c_X3_at l K t4 c 302 6 8 (kAdd C x 3 (-1)) x 0 (by first | decide | (unfold tHb; decide))) mX3_at dX0_runPledge_85 tb_175 pX3_at ⟨Nat.le_of_ble_eq_true rfl, Nat.le_of_ble_eq_true rfl⟩ ⟨rfl, rfl⟩ ⟨Nat.zero_le _, Nat.zero_le _⟩ rfl (Nat.le_of_ble_eq_true rfl) [4, 5] [0, 1, 2, 3] rfl rfl (by decide) (by decide) (by decide) rfl rfl [0, 1, 2, 3, 4, 5] (by decide) (wB K h t1 t2 t3 t4 c (kAdd C x 3 (-1))) rfl ?_
      refine gx_istore_n (pc := 88) hB dX0_runPledge_88 (by decide) [(3, .int (kAt (kAdd C x 3 (-1)) x 0)), (2, .int (bI (tFull (kAdd C x 3 (-1)) 133 24))), (0, .ref h), (1, .int x)] rfl ?_
      refine gx_aload_n (pc := 89) hB dX0_runPledge_89 2 rfl ?_
      refine gx_get (pc := 90) hB dX0_runPledge_90 inX0 rfl 0 rfl 4 (by decide) tb_84 rfl rfl ?_
      refine gx_iload_n (pc := 93) hB dX0_runPledge_93 3 rfl ?_
      refine gx_iconst (pc := 94) hB dX0_runPledge_94 1 (by decide) ?_
      refine gx_dVi (pc := 95) (r := kAt (kAdd C x 3 (-1)) x 1) (wr := [(h, .inr (0, [.ref c, .ref t1, .ref t2, .ref t3, .ref t4])), (t1, .inr (3, [.ref c, .int (nI 3), .int (nI 6), .int (nI 12)])), (t2, .inr (3, [.ref c, .int (nI 76), .int (nI 8), .int (nI 7)])), (t3, .inr (3, [.ref c, .int (nI 133), .int (nI 24), .int (nI 7)]))]) hB (c_X3_at l K t4 c 302 6 8 (kAdd C x 3 (-1)) x 1 (by first | decide | (unfold tHb; decide))) mX3_at dX0_runPledge_95 tb_175 pX3_at ⟨Nat.le_of_ble_eq_true rfl, Nat.le_of_ble_eq_true rfl⟩ ⟨rfl, rfl⟩ ⟨Nat.zero_le _, Nat.zero_le _⟩ rfl (Nat.le_of_ble_eq_true rfl) [4, 5] [0, 1, 2, 3] rfl rfl (by decide) (by decide) (by decide) rfl rfl [0, 1, 2, 3, 4, 5] (by decide) (wB K h t1 t2 t3 t4 c (kAdd C x 3 (-1))) rfl ?_
      refine gx_istore (pc := 98) hB dX0_runPledge_98 (by decide) [(4, .int (kAt (kAdd C x 3 (-1)) x 1)), (3, .int (kAt (kAdd C x 3 (-1)) x 0)), (2, .int (bI (tFull (kAdd C x 3 (-1)) 133 24))), (0, .ref h), (1, .int x)] rfl ?_
      refine gx_aload_n (pc := 100) hB dX0_runPledge_100 3 rfl ?_
      refine gx_iload_n (pc := 101) hB dX0_runPledge_101 1 rfl ?_
      refine gx_iload (pc := 102) hB dX0_runPledge_102 0 rfl ?_
      refine gx_aload_n (pc := 104) hB dX0_runPledge_104 3 rfl ?_
      refine gx_get (pc := 105) hB dX0_runPledge_105 inX0 rfl 0 rfl 4 (by decide) tb_84 rfl rfl ?_
      refine gx_iload_n (pc := 108) hB dX0_runPledge_108 4 rfl ?_
      refine gx_iconst (pc := 109) hB dX0_runPledge_109 2 (by decide) ?_
      refine gx_dVi (pc := 110) (r := kAt (kAdd C x 3 (-1)) x 2) (wr := [(h, .inr (0, [.ref c, .ref t1, .ref t2, .ref t3, .ref t4])), (t1, .inr (3, [.ref c, .int (nI 3), .int (nI 6), .int (nI 12)])), (t2, .inr (3, [.ref c, .int (nI 76), .int (nI 8), .int (nI 7)])), (t3, .inr (3, [.ref c, .int (nI 133), .int (nI 24), .int (nI 7)]))]) hB (c_X3_at l K t4 c 302 6 8 (kAdd C x 3 (-1)) x 2 (by first | decide | (unfold tHb; decide))) mX3_at dX0_runPledge_110 tb_175 pX3_at ⟨Nat.le_of_ble_eq_true rfl, Nat.le_of_ble_eq_true rfl⟩ ⟨rfl, rfl⟩ ⟨Nat.zero_le _, Nat.zero_le _⟩ rfl (Nat.le_of_ble_eq_true rfl) [4, 5] [0, 1, 2, 3] rfl rfl (by decide) (by decide) (by decide) rfl rfl [0, 1, 2, 3, 4, 5] (by decide) (wB K h t1 t2 t3 t4 c (kAdd C x 3 (-1))) rfl ?_
      refine gx_iload_n (pc := 113) hB dX0_runPledge_113 4 rfl ?_
      refine gx_dVi (pc := 114) (r := (bBook (kAdd C x 3 (-1)) (kAt (kAdd C x 3 (-1)) x 0) (kAt (kAdd C x 3 (-1)) x 1) (kAt (kAdd C x 3 (-1)) x 2) x).1) (wr := []) hB (c_X0_bookGift l K h t1 t2 t3 t4 c (kAdd C x 3 (-1)) (kAt (kAdd C x 3 (-1)) x 0) (kAt (kAdd C x 3 (-1)) x 1) (kAt (kAdd C x 3 (-1)) x 2) x ) mX0_bookGift dX0_runPledge_114 tb_274 pX0_bookGift ⟨Nat.le_of_ble_eq_true rfl, Nat.le_of_ble_eq_true rfl⟩ ⟨rfl, rfl⟩ ⟨Nat.zero_le _, Nat.zero_le _⟩ rfl (Nat.le_of_ble_eq_true rfl) [0, 1, 2, 3, 4, 5] [] rfl rfl (by decide) (by decide) (by decide) rfl rfl [0, 1, 2, 3, 4, 5] (by decide) (wB K h t1 t2 t3 t4 c ((bBook (kAdd C x 3 (-1)) (kAt (kAdd C x 3 (-1)) x 0) (kAt (kAdd C x 3 (-1)) x 1) (kAt (kAdd C x 3 (-1)) x 2) x).2)) rfl ?_
      refine gx_pop (pc := 117) hB dX0_runPledge_117 rfl ?_
      refine gx_aload_n (pc := 118) hB dX0_runPledge_118 3 rfl ?_
      refine gx_get (pc := 119) hB dX0_runPledge_119 inX0 rfl 0 rfl 4 (by decide) tb_84 rfl rfl ?_
      refine gx_iload_n (pc := 122) hB dX0_runPledge_122 4 rfl ?_
      refine gx_bipush (pc := 123) hB dX0_runPledge_123 6 (by decide) ?_
      refine gx_iconst (pc := 125) hB dX0_runPledge_125 1 (by decide) ?_
      refine gx_dVv (pc := 126) (wr := [(h, .inr (0, [.ref c, .ref t1, .ref t2, .ref t3, .ref t4])), (t1, .inr (3, [.ref c, .int (nI 3), .int (nI 6), .int (nI 12)])), (t2, .inr (3, [.ref c, .int (nI 76), .int (nI 8), .int (nI 7)])), (t3, .inr (3, [.ref c, .int (nI 133), .int (nI 24), .int (nI 7)]))]) hB (c_X3_add l K t4 c 302 6 8 ((bBook (kAdd C x 3 (-1)) (kAt (kAdd C x 3 (-1)) x 0) (kAt (kAdd C x 3 (-1)) x 1) (kAt (kAdd C x 3 (-1)) x 2) x).2) x 6 1 (by first | decide | (unfold tHb; decide))) mX3_add dX0_runPledge_126 tb_278 pX3_add ⟨Nat.le_of_ble_eq_true rfl, Nat.le_of_ble_eq_true rfl⟩ ⟨rfl, rfl⟩ ⟨Nat.zero_le _, Nat.zero_le _⟩ rfl (Nat.le_of_ble_eq_true rfl) [4, 5] [0, 1, 2, 3] rfl rfl (by decide) (by decide) (by decide) rfl rfl [0, 1, 2, 3, 4, 5] (by decide) (wB K h t1 t2 t3 t4 c (kAdd ((bBook (kAdd C x 3 (-1)) (kAt (kAdd C x 3 (-1)) x 0) (kAt (kAdd C x 3 (-1)) x 1) (kAt (kAdd C x 3 (-1)) x 2) x).2) x 6 1)) rfl ?_
      refine gx_iload_n (pc := 129) hB dX0_runPledge_129 2 rfl ?_
      refine gx_if_eq_b (pc := 130) hB 146 dX0_runPledge_130 (by decide) (fun c_4 => ?_) (fun c_4 => ?_)
      · refine gx_aload_n (pc := 146) hB dX0_runPledge_146 3 rfl ?_
        refine gx_get (pc := 147) hB dX0_runPledge_147 inX0 rfl 0 rfl 4 (by decide) tb_84 rfl rfl ?_
        refine gx_iload_n (pc := 150) hB dX0_runPledge_150 4 rfl ?_
        refine gx_iconst (pc := 151) hB dX0_runPledge_151 3 (by decide) ?_
        refine gx_dVi (pc := 152) (r := kAt (kAdd ((bBook (kAdd C x 3 (-1)) (kAt (kAdd C x 3 (-1)) x 0) (kAt (kAdd C x 3 (-1)) x 1) (kAt (kAdd C x 3 (-1)) x 2) x).2) x 6 1) x 3) (wr := [(h, .inr (0, [.ref c, .ref t1, .ref t2, .ref t3, .ref t4])), (t1, .inr (3, [.ref c, .int (nI 3), .int (nI 6), .int (nI 12)])), (t2, .inr (3, [.ref c, .int (nI 76), .int (nI 8), .int (nI 7)])), (t3, .inr (3, [.ref c, .int (nI 133), .int (nI 24), .int (nI 7)]))]) hB (c_X3_at l K t4 c 302 6 8 (kAdd ((bBook (kAdd C x 3 (-1)) (kAt (kAdd C x 3 (-1)) x 0) (kAt (kAdd C x 3 (-1)) x 1) (kAt (kAdd C x 3 (-1)) x 2) x).2) x 6 1) x 3 (by first | decide | (unfold tHb; decide))) mX3_at dX0_runPledge_152 tb_175 pX3_at ⟨Nat.le_of_ble_eq_true rfl, Nat.le_of_ble_eq_true rfl⟩ ⟨rfl, rfl⟩ ⟨Nat.zero_le _, Nat.zero_le _⟩ rfl (Nat.le_of_ble_eq_true rfl) [4, 5] [0, 1, 2, 3] rfl rfl (by decide) (by decide) (by decide) rfl rfl [0, 1, 2, 3, 4, 5] (by decide) (wB K h t1 t2 t3 t4 c (kAdd ((bBook (kAdd C x 3 (-1)) (kAt (kAdd C x 3 (-1)) x 0) (kAt (kAdd C x 3 (-1)) x 1) (kAt (kAdd C x 3 (-1)) x 2) x).2) x 6 1)) rfl ?_
        refine gx_if_ne (pc := 155) hB 168 dX0_runPledge_155 (by decide) (fun c_5 => ?_) (fun c_5 => ?_)
        · have f0 : bRun C x = (kAdd ((bBook (kAdd C x 3 (-1)) (kAt (kAdd C x 3 (-1)) x 0) (kAt (kAdd C x 3 (-1)) x 1) (kAt (kAdd C x 3 (-1)) x 2) x).2) x 6 1) := by simp [bRun, bRunMid, eq_false c_1, c_2, c_4, eq_false c_5]
          exact gx_vret (pc := 168) hC dX0_runPledge_168 (Nat.zero_le _) (Nat.zero_le _) (⟨rfl, by rw [f0]⟩)
        · refine gx_aload_n (pc := 158) hB dX0_runPledge_158 3 rfl ?_
          refine gx_get (pc := 159) hB dX0_runPledge_159 inX0 rfl 0 rfl 4 (by decide) tb_84 rfl rfl ?_
          refine gx_iload_n (pc := 162) hB dX0_runPledge_162 4 rfl ?_
          refine gx_iconst (pc := 163) hB dX0_runPledge_163 5 (by decide) ?_
          refine gx_iconst (pc := 164) hB dX0_runPledge_164 1 (by decide) ?_
          refine gx_dVv (pc := 165) (wr := [(h, .inr (0, [.ref c, .ref t1, .ref t2, .ref t3, .ref t4])), (t1, .inr (3, [.ref c, .int (nI 3), .int (nI 6), .int (nI 12)])), (t2, .inr (3, [.ref c, .int (nI 76), .int (nI 8), .int (nI 7)])), (t3, .inr (3, [.ref c, .int (nI 133), .int (nI 24), .int (nI 7)]))]) hB (c_X3_put l K t4 c 302 6 8 (kAdd ((bBook (kAdd C x 3 (-1)) (kAt (kAdd C x 3 (-1)) x 0) (kAt (kAdd C x 3 (-1)) x 1) (kAt (kAdd C x 3 (-1)) x 2) x).2) x 6 1) x 5 1 (by first | decide | (unfold tHb; decide))) mX3_put dX0_runPledge_165 tb_76 pX3_put ⟨Nat.le_of_ble_eq_true rfl, Nat.le_of_ble_eq_true rfl⟩ ⟨rfl, rfl⟩ ⟨Nat.zero_le _, Nat.zero_le _⟩ rfl (Nat.le_of_ble_eq_true rfl) [4, 5] [0, 1, 2, 3] rfl rfl (by decide) (by decide) (by decide) rfl rfl [0, 1, 2, 3, 4, 5] (by decide) (wB K h t1 t2 t3 t4 c (kPut (kAdd ((bBook (kAdd C x 3 (-1)) (kAt (kAdd C x 3 (-1)) x 0) (kAt (kAdd C x 3 (-1)) x 1) (kAt (kAdd C x 3 (-1)) x 2) x).2) x 6 1) x 5 1)) rfl ?_
          have f0 : bRun C x = (kPut (kAdd ((bBook (kAdd C x 3 (-1)) (kAt (kAdd C x 3 (-1)) x 0) (kAt (kAdd C x 3 (-1)) x 1) (kAt (kAdd C x 3 (-1)) x 2) x).2) x 6 1) x 5 1) := by simp [bRun, bRunMid, eq_false c_1, c_2, c_4, eq_true c_5]
          exact gx_vret (pc := 168) hC dX0_runPledge_168 (Nat.zero_le _) (Nat.zero_le _) (⟨rfl, by rw [f0]⟩)
      · exact absurd (c_4.symm.trans c_2) (by decide)
  · refine gx_aload_n (pc := 24) hB dX0_runPledge_24 0 rfl ?_
    refine gx_get (pc := 25) hB dX0_runPledge_25 inX0 rfl 0 rfl 4 (by decide) tb_84 rfl rfl ?_
    refine gx_iload_n (pc := 28) hB dX0_runPledge_28 1 rfl ?_
    refine gx_bipush (pc := 29) hB dX0_runPledge_29 7 (by decide) ?_
    refine gx_iconst (pc := 31) hB dX0_runPledge_31 0 (by decide) ?_
    refine gx_dVv (pc := 32) (wr := [(h, .inr (0, [.ref c, .ref t1, .ref t2, .ref t3, .ref t4])), (t1, .inr (3, [.ref c, .int (nI 3), .int (nI 6), .int (nI 12)])), (t2, .inr (3, [.ref c, .int (nI 76), .int (nI 8), .int (nI 7)])), (t3, .inr (3, [.ref c, .int (nI 133), .int (nI 24), .int (nI 7)]))]) hB (c_X3_put l K t4 c 302 6 8 (kAdd C x 3 (-1)) x 7 0 (by first | decide | (unfold tHb; decide))) mX3_put dX0_runPledge_32 tb_76 pX3_put ⟨Nat.le_of_ble_eq_true rfl, Nat.le_of_ble_eq_true rfl⟩ ⟨rfl, rfl⟩ ⟨Nat.zero_le _, Nat.zero_le _⟩ rfl (Nat.le_of_ble_eq_true rfl) [4, 5] [0, 1, 2, 3] rfl rfl (by decide) (by decide) (by decide) rfl rfl [0, 1, 2, 3, 4, 5] (by decide) (wB K h t1 t2 t3 t4 c (kPut (kAdd C x 3 (-1)) x 7 0)) rfl ?_
    refine gx_aload_n (pc := 35) hB dX0_runPledge_35 0 rfl ?_
    refine gx_get (pc := 36) hB dX0_runPledge_36 inX0 rfl 0 rfl 4 (by decide) tb_84 rfl rfl ?_
    refine gx_iload_n (pc := 39) hB dX0_runPledge_39 1 rfl ?_
    refine gx_iconst (pc := 40) hB dX0_runPledge_40 4 (by decide) ?_
    refine gx_iconst (pc := 41) hB dX0_runPledge_41 1 (by decide) ?_
    refine gx_dVv (pc := 42) (wr := [(h, .inr (0, [.ref c, .ref t1, .ref t2, .ref t3, .ref t4])), (t1, .inr (3, [.ref c, .int (nI 3), .int (nI 6), .int (nI 12)])), (t2, .inr (3, [.ref c, .int (nI 76), .int (nI 8), .int (nI 7)])), (t3, .inr (3, [.ref c, .int (nI 133), .int (nI 24), .int (nI 7)]))]) hB (c_X3_add l K t4 c 302 6 8 (kPut (kAdd C x 3 (-1)) x 7 0) x 4 1 (by first | decide | (unfold tHb; decide))) mX3_add dX0_runPledge_42 tb_278 pX3_add ⟨Nat.le_of_ble_eq_true rfl, Nat.le_of_ble_eq_true rfl⟩ ⟨rfl, rfl⟩ ⟨Nat.zero_le _, Nat.zero_le _⟩ rfl (Nat.le_of_ble_eq_true rfl) [4, 5] [0, 1, 2, 3] rfl rfl (by decide) (by decide) (by decide) rfl rfl [0, 1, 2, 3, 4, 5] (by decide) (wB K h t1 t2 t3 t4 c (kAdd (kPut (kAdd C x 3 (-1)) x 7 0) x 4 1)) rfl ?_
    refine gx_aload_n (pc := 45) hB dX0_runPledge_45 0 rfl ?_
    refine gx_get (pc := 46) hB dX0_runPledge_46 inX0 rfl 0 rfl 4 (by decide) tb_84 rfl rfl ?_
    refine gx_iload_n (pc := 49) hB dX0_runPledge_49 1 rfl ?_
    refine gx_iconst (pc := 50) hB dX0_runPledge_50 4 (by decide) ?_
    refine gx_dVi (pc := 51) (r := kAt (kAdd (kPut (kAdd C x 3 (-1)) x 7 0) x 4 1) x 4) (wr := [(h, .inr (0, [.ref c, .ref t1, .ref t2, .ref t3, .ref t4])), (t1, .inr (3, [.ref c, .int (nI 3), .int (nI 6), .int (nI 12)])), (t2, .inr (3, [.ref c, .int (nI 76), .int (nI 8), .int (nI 7)])), (t3, .inr (3, [.ref c, .int (nI 133), .int (nI 24), .int (nI 7)]))]) hB (c_X3_at l K t4 c 302 6 8 (kAdd (kPut (kAdd C x 3 (-1)) x 7 0) x 4 1) x 4 (by first | decide | (unfold tHb; decide))) mX3_at dX0_runPledge_51 tb_175 pX3_at ⟨Nat.le_of_ble_eq_true rfl, Nat.le_of_ble_eq_true rfl⟩ ⟨rfl, rfl⟩ ⟨Nat.zero_le _, Nat.zero_le _⟩ rfl (Nat.le_of_ble_eq_true rfl) [4, 5] [0, 1, 2, 3] rfl rfl (by decide) (by decide) (by decide) rfl rfl [0, 1, 2, 3, 4, 5] (by decide) (wB K h t1 t2 t3 t4 c (kAdd (kPut (kAdd C x 3 (-1)) x 7 0) x 4 1)) rfl ?_
    refine gx_iconst (pc := 54) hB dX0_runPledge_54 3 (by decide) ?_
    refine gx_icmp_lt (pc := 55) hB 62 dX0_runPledge_55 (by decide) (fun c_6 => ?_) (fun c_6 => ?_)
    · refine gx_iconst (pc := 62) hB dX0_runPledge_62 0 (by decide) ?_
      refine gx_istore_n (pc := 63) hB dX0_runPledge_63 (by decide) [(2, .int 0), (0, .ref h), (1, .int x)] rfl ?_
      refine gx_goto (pc := 64) hB 129 dX0_runPledge_64 (by decide) ?_
      refine gx_iload_n (pc := 129) hB dX0_runPledge_129 0 rfl ?_
      refine gx_if_eq (pc := 130) hB 146 dX0_runPledge_130 (by decide) (fun c_7 => ?_) (fun c_7 => ?_)
      · refine gx_aload_n (pc := 146) hB dX0_runPledge_146 1 rfl ?_
        refine gx_get (pc := 147) hB dX0_runPledge_147 inX0 rfl 0 rfl 4 (by decide) tb_84 rfl rfl ?_
        refine gx_iload_n (pc := 150) hB dX0_runPledge_150 2 rfl ?_
        refine gx_iconst (pc := 151) hB dX0_runPledge_151 3 (by decide) ?_
        refine gx_dVi (pc := 152) (r := kAt (kAdd (kPut (kAdd C x 3 (-1)) x 7 0) x 4 1) x 3) (wr := [(h, .inr (0, [.ref c, .ref t1, .ref t2, .ref t3, .ref t4])), (t1, .inr (3, [.ref c, .int (nI 3), .int (nI 6), .int (nI 12)])), (t2, .inr (3, [.ref c, .int (nI 76), .int (nI 8), .int (nI 7)])), (t3, .inr (3, [.ref c, .int (nI 133), .int (nI 24), .int (nI 7)]))]) hB (c_X3_at l K t4 c 302 6 8 (kAdd (kPut (kAdd C x 3 (-1)) x 7 0) x 4 1) x 3 (by first | decide | (unfold tHb; decide))) mX3_at dX0_runPledge_152 tb_175 pX3_at ⟨Nat.le_of_ble_eq_true rfl, Nat.le_of_ble_eq_true rfl⟩ ⟨rfl, rfl⟩ ⟨Nat.zero_le _, Nat.zero_le _⟩ rfl (Nat.le_of_ble_eq_true rfl) [4, 5] [0, 1, 2, 3] rfl rfl (by decide) (by decide) (by decide) rfl rfl [0, 1, 2, 3, 4, 5] (by decide) (wB K h t1 t2 t3 t4 c (kAdd (kPut (kAdd C x 3 (-1)) x 7 0) x 4 1)) rfl ?_
        refine gx_if_ne (pc := 155) hB 168 dX0_runPledge_155 (by decide) (fun c_8 => ?_) (fun c_8 => ?_)
        · have f0 : bRun C x = (kAdd (kPut (kAdd C x 3 (-1)) x 7 0) x 4 1) := by simp [bRun, bRunMid, eq_true c_1, c_6, eq_false (Int32.not_le.mpr c_6), eq_false c_8]
          exact gx_vret (pc := 168) hC dX0_runPledge_168 (Nat.zero_le _) (Nat.zero_le _) (⟨rfl, by rw [f0]⟩)
        · refine gx_aload_n (pc := 158) hB dX0_runPledge_158 1 rfl ?_
          refine gx_get (pc := 159) hB dX0_runPledge_159 inX0 rfl 0 rfl 4 (by decide) tb_84 rfl rfl ?_
          refine gx_iload_n (pc := 162) hB dX0_runPledge_162 2 rfl ?_
          refine gx_iconst (pc := 163) hB dX0_runPledge_163 5 (by decide) ?_
          refine gx_iconst (pc := 164) hB dX0_runPledge_164 1 (by decide) ?_
          refine gx_dVv (pc := 165) (wr := [(h, .inr (0, [.ref c, .ref t1, .ref t2, .ref t3, .ref t4])), (t1, .inr (3, [.ref c, .int (nI 3), .int (nI 6), .int (nI 12)])), (t2, .inr (3, [.ref c, .int (nI 76), .int (nI 8), .int (nI 7)])), (t3, .inr (3, [.ref c, .int (nI 133), .int (nI 24), .int (nI 7)]))]) hB (c_X3_put l K t4 c 302 6 8 (kAdd (kPut (kAdd C x 3 (-1)) x 7 0) x 4 1) x 5 1 (by first | decide | (unfold tHb; decide))) mX3_put dX0_runPledge_165 tb_76 pX3_put ⟨Nat.le_of_ble_eq_true rfl, Nat.le_of_ble_eq_true rfl⟩ ⟨rfl, rfl⟩ ⟨Nat.zero_le _, Nat.zero_le _⟩ rfl (Nat.le_of_ble_eq_true rfl) [4, 5] [0, 1, 2, 3] rfl rfl (by decide) (by decide) (by decide) rfl rfl [0, 1, 2, 3, 4, 5] (by decide) (wB K h t1 t2 t3 t4 c (kPut (kAdd (kPut (kAdd C x 3 (-1)) x 7 0) x 4 1) x 5 1)) rfl ?_
          have f0 : bRun C x = (kPut (kAdd (kPut (kAdd C x 3 (-1)) x 7 0) x 4 1) x 5 1) := by simp [bRun, bRunMid, eq_true c_1, c_6, eq_false (Int32.not_le.mpr c_6), eq_true c_8]
          exact gx_vret (pc := 168) hC dX0_runPledge_168 (Nat.zero_le _) (Nat.zero_le _) (⟨rfl, by rw [f0]⟩)
      · exact absurd c_7 (by decide)
    · refine gx_iconst (pc := 58) hB dX0_runPledge_58 1 (by decide) ?_
      refine gx_goto (pc := 59) hB 63 dX0_runPledge_59 (by decide) ?_
      refine gx_istore_n (pc := 63) hB dX0_runPledge_63 (by decide) [(2, .int 1), (0, .ref h), (1, .int x)] rfl ?_
      refine gx_goto (pc := 64) hB 129 dX0_runPledge_64 (by decide) ?_
      refine gx_iload_n (pc := 129) hB dX0_runPledge_129 0 rfl ?_
      refine gx_if_eq (pc := 130) hB 146 dX0_runPledge_130 (by decide) (fun c_9 => ?_) (fun c_9 => ?_)
      · exact absurd c_9 (by decide)
      · refine gx_aload_n (pc := 133) hB dX0_runPledge_133 1 rfl ?_
        refine gx_get (pc := 134) hB dX0_runPledge_134 inX0 rfl 0 rfl 4 (by decide) tb_84 rfl rfl ?_
        refine gx_iload_n (pc := 137) hB dX0_runPledge_137 2 rfl ?_
        refine gx_iconst (pc := 138) hB dX0_runPledge_138 5 (by decide) ?_
        refine gx_iconst (pc := 139) hB dX0_runPledge_139 3 (by decide) ?_
        refine gx_dVv (pc := 140) (wr := [(h, .inr (0, [.ref c, .ref t1, .ref t2, .ref t3, .ref t4])), (t1, .inr (3, [.ref c, .int (nI 3), .int (nI 6), .int (nI 12)])), (t2, .inr (3, [.ref c, .int (nI 76), .int (nI 8), .int (nI 7)])), (t3, .inr (3, [.ref c, .int (nI 133), .int (nI 24), .int (nI 7)]))]) hB (c_X3_put l K t4 c 302 6 8 (kAdd (kPut (kAdd C x 3 (-1)) x 7 0) x 4 1) x 5 3 (by first | decide | (unfold tHb; decide))) mX3_put dX0_runPledge_140 tb_76 pX3_put ⟨Nat.le_of_ble_eq_true rfl, Nat.le_of_ble_eq_true rfl⟩ ⟨rfl, rfl⟩ ⟨Nat.zero_le _, Nat.zero_le _⟩ rfl (Nat.le_of_ble_eq_true rfl) [4, 5] [0, 1, 2, 3] rfl rfl (by decide) (by decide) (by decide) rfl rfl [0, 1, 2, 3, 4, 5] (by decide) (wB K h t1 t2 t3 t4 c (kPut (kAdd (kPut (kAdd C x 3 (-1)) x 7 0) x 4 1) x 5 3)) rfl ?_
        refine gx_goto (pc := 143) hB 168 dX0_runPledge_143 (by decide) ?_
        have f0 : bRun C x = (kPut (kAdd (kPut (kAdd C x 3 (-1)) x 7 0) x 4 1) x 5 3) := by simp [bRun, bRunMid, eq_true c_1, Int32.not_lt.mp c_6, eq_false c_6]
        exact gx_vret (pc := 168) hC dX0_runPledge_168 (Nat.zero_le _) (Nat.zero_le _) (⟨rfl, by rw [f0]⟩)
theorem pX0_claimedInYear : (parseMethodDescriptor yX0_claimedInYear.desc).map (fun d => d.parameters.length) = some 2 := by decide +kernel
theorem mX0_claimedInYear : gx_M yX0_claimedInYear cX0_claimedInYear 5 (some .int) := ⟨tb_355, tb_8, tb_28, tb_356, by decide, by decide⟩
set_option maxHeartbeats 4000000 in
set_option maxRecDepth 100000 in
theorem c_X0_claimedInYear (l : Launch) (K : gx_K) (h t1 t2 t3 t4 c : Nat) (C : Nat → Int32) (x y : Int32)  : gx_Ctr l K yX0_claimedInYear cX0_claimedInYear 5 (some .int) (rmm 2 22) [.ref h, .int x, .int y] (wB K h t1 t2 t3 t4 c C) (gx_D (some (.int (bYear C x y))) (wB K h t1 t2 t3 t4 c C)) := by
  refine gx_of (by decide) (Nat.le_of_ble_eq_true rfl) (fun G hC => ?_)
  have hB := hC.b
  refine gx_lv (lv' := [(0, .ref h), (1, .int x), (2, .int y)]) rfl ?_
  refine gx_iconst (pc := 0) hB dX0_claimedInYear_0 0 (by decide) ?_
  refine gx_istore_n (pc := 1) hB dX0_claimedInYear_1 (by decide) [(3, .int 0), (0, .ref h), (1, .int x), (2, .int y)] rfl ?_
  refine gx_iconst (pc := 2) hB dX0_claimedInYear_2 0 (by decide) ?_
  refine gx_istore (pc := 3) hB dX0_claimedInYear_3 (by decide) [(4, .int 0), (3, .int 0), (0, .ref h), (1, .int x), (2, .int y)] rfl ?_
  have loop_5 : ∀ dq i : Nat, i + dq = (C 133).toNatClampNeg → G 0 0 (wB K h t1 t2 t3 t4 c C) [(0, .ref h), (1, .int x), (2, .int y), (3, .int (bYearN C x y i)), (4, .int (nI i))] 5 [] := by
    intro dq
    induction dq with
    | zero =>
      intro i hi5
      obtain rfl : (C 133).toNatClampNeg = i := by omega
      refine gx_iload (pc := 5) hB dX0_claimedInYear_5 4 rfl ?_
      refine gx_aload_n (pc := 7) hB dX0_claimedInYear_7 0 rfl ?_
      refine gx_get (pc := 8) hB dX0_claimedInYear_8 inX0 rfl 0 rfl 3 (by decide) tb_83 rfl rfl ?_
      refine gx_dVi (pc := 11) (r := C 133) (wr := [(h, .inr (0, [.ref c, .ref t1, .ref t2, .ref t3, .ref t4])), (t1, .inr (3, [.ref c, .int (nI 3), .int (nI 6), .int (nI 12)])), (t2, .inr (3, [.ref c, .int (nI 76), .int (nI 8), .int (nI 7)])), (t4, .inr (3, [.ref c, .int (nI 302), .int (nI 6), .int (nI 8)]))]) hB (c_X3_size l K t3 c 133 24 7 C (by first | decide | (unfold tHb; decide))) mX3_size dX0_claimedInYear_11 tb_195 pX3_size ⟨Nat.le_of_ble_eq_true rfl, Nat.le_of_ble_eq_true rfl⟩ ⟨rfl, rfl⟩ ⟨Nat.zero_le _, Nat.zero_le _⟩ rfl (Nat.le_of_ble_eq_true rfl) [3, 5] [0, 1, 2, 4] rfl rfl (by decide) (by decide) (by decide) rfl rfl [0, 1, 2, 4, 3, 5] (by decide) (wB K h t1 t2 t3 t4 c C) rfl ?_
      refine gx_icmp_ge (pc := 14) hB 94 dX0_claimedInYear_14 (by decide) (fun c_1 => ?_) (fun c_1 => ?_)
      · refine gx_iload_n (pc := 94) hB dX0_claimedInYear_94 3 rfl ?_
        have e1 : bYear C x y = (bYearN C x y ((C 133).toNatClampNeg)) := by simp [bYear, c_1, eq_false (Int32.not_lt.mpr c_1)]
        exact gx_iret (pc := 95) hC dX0_claimedInYear_95 (Nat.zero_le _) (Nat.zero_le _) (⟨by rw [e1], rfl⟩)
      · exact absurd (lpT (x := (C 133)) hi5) c_1
    | succ dq ih5 =>
      intro i hi5
      refine gx_iload (pc := 5) hB dX0_claimedInYear_5 4 rfl ?_
      refine gx_aload_n (pc := 7) hB dX0_claimedInYear_7 0 rfl ?_
      refine gx_get (pc := 8) hB dX0_claimedInYear_8 inX0 rfl 0 rfl 3 (by decide) tb_83 rfl rfl ?_
      refine gx_dVi (pc := 11) (r := C 133) (wr := [(h, .inr (0, [.ref c, .ref t1, .ref t2, .ref t3, .ref t4])), (t1, .inr (3, [.ref c, .int (nI 3), .int (nI 6), .int (nI 12)])), (t2, .inr (3, [.ref c, .int (nI 76), .int (nI 8), .int (nI 7)])), (t4, .inr (3, [.ref c, .int (nI 302), .int (nI 6), .int (nI 8)]))]) hB (c_X3_size l K t3 c 133 24 7 C (by first | decide | (unfold tHb; decide))) mX3_size dX0_claimedInYear_11 tb_195 pX3_size ⟨Nat.le_of_ble_eq_true rfl, Nat.le_of_ble_eq_true rfl⟩ ⟨rfl, rfl⟩ ⟨Nat.zero_le _, Nat.zero_le _⟩ rfl (Nat.le_of_ble_eq_true rfl) [3, 5] [0, 1, 2, 4] rfl rfl (by decide) (by decide) (by decide) rfl rfl [0, 1, 2, 4, 3, 5] (by decide) (wB K h t1 t2 t3 t4 c C) rfl ?_
      refine gx_icmp_ge (pc := 14) hB 94 dX0_claimedInYear_14 (by decide) (fun c_2 => ?_) (fun c_2 => ?_)
      · exact absurd c_2 (lpF (x := (C 133)) hi5)
      · refine gx_aload_n (pc := 17) hB dX0_claimedInYear_17 0 rfl ?_
        refine gx_get (pc := 18) hB dX0_claimedInYear_18 inX0 rfl 0 rfl 3 (by decide) tb_83 rfl rfl ?_
        refine gx_iload (pc := 21) hB dX0_claimedInYear_21 4 rfl ?_
        refine gx_iconst (pc := 23) hB dX0_claimedInYear_23 0 (by decide) ?_
        refine gx_dVi (pc := 24) (r := gAt C (nI i) 0) (wr := [(h, .inr (0, [.ref c, .ref t1, .ref t2, .ref t3, .ref t4])), (t1, .inr (3, [.ref c, .int (nI 3), .int (nI 6), .int (nI 12)])), (t2, .inr (3, [.ref c, .int (nI 76), .int (nI 8), .int (nI 7)])), (t4, .inr (3, [.ref c, .int (nI 302), .int (nI 6), .int (nI 8)]))]) hB (c_X3_at l K t3 c 133 24 7 C (nI i) 0 (by first | decide | (unfold tHb; decide))) mX3_at dX0_claimedInYear_24 tb_175 pX3_at ⟨Nat.le_of_ble_eq_true rfl, Nat.le_of_ble_eq_true rfl⟩ ⟨rfl, rfl⟩ ⟨Nat.zero_le _, Nat.zero_le _⟩ rfl (Nat.le_of_ble_eq_true rfl) [3, 5] [0, 1, 2, 4] rfl rfl (by decide) (by decide) (by decide) rfl rfl [0, 1, 2, 4, 3, 5] (by decide) (wB K h t1 t2 t3 t4 c C) rfl ?_
        refine gx_iload_n (pc := 27) hB dX0_claimedInYear_27 1 rfl ?_
        refine gx_icmp_ne (pc := 28) hB 88 dX0_claimedInYear_28 (by decide) (fun c_3 => ?_) (fun c_3 => ?_)
        · refine gx_iinc (pc := 88) hB dX0_claimedInYear_88 4 (by decide) rfl (nI (i + 1)) (nI_1 _) [(4, .int (nI (i + 1))), (0, .ref h), (1, .int x), (2, .int y), (3, .int (bYearN C x y i))] rfl ?_
          refine gx_goto (pc := 91) hB 5 dX0_claimedInYear_91 (by decide) ?_
          have g3 : bYearN C x y i = bYearN C x y (i + 1) := by simp [bYear, bYearN, Int32.not_le.mp c_2, eq_false c_2, eq_false c_3]
          refine gx_sub hB (lv' := [(0, .ref h), (1, .int x), (2, .int y), (3, .int (bYearN C x y i)), (4, .int (nI (i + 1)))]) [1, 2, 3, 4, 0] rfl ?_
          refine gx_all (ws' := wB K h t1 t2 t3 t4 c C) (lv' := [(0, .ref h), (1, .int x), (2, .int y), (3, .int (bYearN C x y (i + 1))), (4, .int (nI (i + 1)))]) (rfl) (by rw [← g3]) ?_
          exact ih5 (i + 1) (by omega)
        · refine gx_aload_n (pc := 31) hB dX0_claimedInYear_31 0 rfl ?_
          refine gx_get (pc := 32) hB dX0_claimedInYear_32 inX0 rfl 0 rfl 3 (by decide) tb_83 rfl rfl ?_
          refine gx_iload (pc := 35) hB dX0_claimedInYear_35 4 rfl ?_
          refine gx_iconst (pc := 37) hB dX0_claimedInYear_37 3 (by decide) ?_
          refine gx_dVi (pc := 38) (r := gAt C (nI i) 3) (wr := [(h, .inr (0, [.ref c, .ref t1, .ref t2, .ref t3, .ref t4])), (t1, .inr (3, [.ref c, .int (nI 3), .int (nI 6), .int (nI 12)])), (t2, .inr (3, [.ref c, .int (nI 76), .int (nI 8), .int (nI 7)])), (t4, .inr (3, [.ref c, .int (nI 302), .int (nI 6), .int (nI 8)]))]) hB (c_X3_at l K t3 c 133 24 7 C (nI i) 3 (by first | decide | (unfold tHb; decide))) mX3_at dX0_claimedInYear_38 tb_175 pX3_at ⟨Nat.le_of_ble_eq_true rfl, Nat.le_of_ble_eq_true rfl⟩ ⟨rfl, rfl⟩ ⟨Nat.zero_le _, Nat.zero_le _⟩ rfl (Nat.le_of_ble_eq_true rfl) [3, 5] [0, 1, 2, 4] rfl rfl (by decide) (by decide) (by decide) rfl rfl [0, 1, 2, 4, 3, 5] (by decide) (wB K h t1 t2 t3 t4 c C) rfl ?_
          refine gx_bipush (pc := 41) hB dX0_claimedInYear_41 12 (by decide) ?_
          refine gx_idiv (pc := 43) hB dX0_claimedInYear_43 (by decide) ?_
          refine gx_iload_n (pc := 44) hB dX0_claimedInYear_44 2 rfl ?_
          refine gx_icmp_ne (pc := 45) hB 88 dX0_claimedInYear_45 (by decide) (fun c_4 => ?_) (fun c_4 => ?_)
          · refine gx_iinc (pc := 88) hB dX0_claimedInYear_88 4 (by decide) rfl (nI (i + 1)) (nI_1 _) [(4, .int (nI (i + 1))), (0, .ref h), (1, .int x), (2, .int y), (3, .int (bYearN C x y i))] rfl ?_
            refine gx_goto (pc := 91) hB 5 dX0_claimedInYear_91 (by decide) ?_
            have g3 : bYearN C x y i = bYearN C x y (i + 1) := by simp [bYear, bYearN, Int32.not_le.mp c_2, eq_false c_2, eq_true c_3, eq_false c_4]
            refine gx_sub hB (lv' := [(0, .ref h), (1, .int x), (2, .int y), (3, .int (bYearN C x y i)), (4, .int (nI (i + 1)))]) [1, 2, 3, 4, 0] rfl ?_
            refine gx_all (ws' := wB K h t1 t2 t3 t4 c C) (lv' := [(0, .ref h), (1, .int x), (2, .int y), (3, .int (bYearN C x y (i + 1))), (4, .int (nI (i + 1)))]) (rfl) (by rw [← g3]) ?_
            exact ih5 (i + 1) (by omega)
          · refine gx_aload_n (pc := 48) hB dX0_claimedInYear_48 0 rfl ?_
            refine gx_get (pc := 49) hB dX0_claimedInYear_49 inX0 rfl 0 rfl 3 (by decide) tb_83 rfl rfl ?_
            refine gx_iload (pc := 52) hB dX0_claimedInYear_52 4 rfl ?_
            refine gx_iconst (pc := 54) hB dX0_claimedInYear_54 4 (by decide) ?_
            refine gx_dVi (pc := 55) (r := gAt C (nI i) 4) (wr := [(h, .inr (0, [.ref c, .ref t1, .ref t2, .ref t3, .ref t4])), (t1, .inr (3, [.ref c, .int (nI 3), .int (nI 6), .int (nI 12)])), (t2, .inr (3, [.ref c, .int (nI 76), .int (nI 8), .int (nI 7)])), (t4, .inr (3, [.ref c, .int (nI 302), .int (nI 6), .int (nI 8)]))]) hB (c_X3_at l K t3 c 133 24 7 C (nI i) 4 (by first | decide | (unfold tHb; decide))) mX3_at dX0_claimedInYear_55 tb_175 pX3_at ⟨Nat.le_of_ble_eq_true rfl, Nat.le_of_ble_eq_true rfl⟩ ⟨rfl, rfl⟩ ⟨Nat.zero_le _, Nat.zero_le _⟩ rfl (Nat.le_of_ble_eq_true rfl) [3, 5] [0, 1, 2, 4] rfl rfl (by decide) (by decide) (by decide) rfl rfl [0, 1, 2, 4, 3, 5] (by decide) (wB K h t1 t2 t3 t4 c C) rfl ?_
            refine gx_iconst (pc := 58) hB dX0_claimedInYear_58 1 (by decide) ?_
            refine gx_icmp_ne (pc := 59) hB 88 dX0_claimedInYear_59 (by decide) (fun c_5 => ?_) (fun c_5 => ?_)
            · refine gx_iinc (pc := 88) hB dX0_claimedInYear_88 4 (by decide) rfl (nI (i + 1)) (nI_1 _) [(4, .int (nI (i + 1))), (0, .ref h), (1, .int x), (2, .int y), (3, .int (bYearN C x y i))] rfl ?_
              refine gx_goto (pc := 91) hB 5 dX0_claimedInYear_91 (by decide) ?_
              have g3 : bYearN C x y i = bYearN C x y (i + 1) := by simp [bYear, bYearN, Int32.not_le.mp c_2, eq_false c_2, eq_true c_3, eq_true c_4, eq_false c_5]
              refine gx_sub hB (lv' := [(0, .ref h), (1, .int x), (2, .int y), (3, .int (bYearN C x y i)), (4, .int (nI (i + 1)))]) [1, 2, 3, 4, 0] rfl ?_
              refine gx_all (ws' := wB K h t1 t2 t3 t4 c C) (lv' := [(0, .ref h), (1, .int x), (2, .int y), (3, .int (bYearN C x y (i + 1))), (4, .int (nI (i + 1)))]) (rfl) (by rw [← g3]) ?_
              exact ih5 (i + 1) (by omega)
            · refine gx_aload_n (pc := 62) hB dX0_claimedInYear_62 0 rfl ?_
              refine gx_get (pc := 63) hB dX0_claimedInYear_63 inX0 rfl 0 rfl 3 (by decide) tb_83 rfl rfl ?_
              refine gx_iload (pc := 66) hB dX0_claimedInYear_66 4 rfl ?_
              refine gx_iconst (pc := 68) hB dX0_claimedInYear_68 5 (by decide) ?_
              refine gx_dVi (pc := 69) (r := gAt C (nI i) 5) (wr := [(h, .inr (0, [.ref c, .ref t1, .ref t2, .ref t3, .ref t4])), (t1, .inr (3, [.ref c, .int (nI 3), .int (nI 6), .int (nI 12)])), (t2, .inr (3, [.ref c, .int (nI 76), .int (nI 8), .int (nI 7)])), (t4, .inr (3, [.ref c, .int (nI 302), .int (nI 6), .int (nI 8)]))]) hB (c_X3_at l K t3 c 133 24 7 C (nI i) 5 (by first | decide | (unfold tHb; decide))) mX3_at dX0_claimedInYear_69 tb_175 pX3_at ⟨Nat.le_of_ble_eq_true rfl, Nat.le_of_ble_eq_true rfl⟩ ⟨rfl, rfl⟩ ⟨Nat.zero_le _, Nat.zero_le _⟩ rfl (Nat.le_of_ble_eq_true rfl) [3, 5] [0, 1, 2, 4] rfl rfl (by decide) (by decide) (by decide) rfl rfl [0, 1, 2, 4, 3, 5] (by decide) (wB K h t1 t2 t3 t4 c C) rfl ?_
              refine gx_if_ne (pc := 72) hB 88 dX0_claimedInYear_72 (by decide) (fun c_6 => ?_) (fun c_6 => ?_)
              · refine gx_iinc (pc := 88) hB dX0_claimedInYear_88 4 (by decide) rfl (nI (i + 1)) (nI_1 _) [(4, .int (nI (i + 1))), (0, .ref h), (1, .int x), (2, .int y), (3, .int (bYearN C x y i))] rfl ?_
                refine gx_goto (pc := 91) hB 5 dX0_claimedInYear_91 (by decide) ?_
                have g3 : bYearN C x y i = bYearN C x y (i + 1) := by simp [bYear, bYearN, Int32.not_le.mp c_2, eq_false c_2, eq_true c_3, eq_true c_4, eq_true c_5, eq_false c_6]
                refine gx_sub hB (lv' := [(0, .ref h), (1, .int x), (2, .int y), (3, .int (bYearN C x y i)), (4, .int (nI (i + 1)))]) [1, 2, 3, 4, 0] rfl ?_
                refine gx_all (ws' := wB K h t1 t2 t3 t4 c C) (lv' := [(0, .ref h), (1, .int x), (2, .int y), (3, .int (bYearN C x y (i + 1))), (4, .int (nI (i + 1)))]) (rfl) (by rw [← g3]) ?_
                exact ih5 (i + 1) (by omega)
              · refine gx_iload_n (pc := 75) hB dX0_claimedInYear_75 3 rfl ?_
                refine gx_aload_n (pc := 76) hB dX0_claimedInYear_76 0 rfl ?_
                refine gx_get (pc := 77) hB dX0_claimedInYear_77 inX0 rfl 0 rfl 3 (by decide) tb_83 rfl rfl ?_
                refine gx_iload (pc := 80) hB dX0_claimedInYear_80 4 rfl ?_
                refine gx_iconst (pc := 82) hB dX0_claimedInYear_82 2 (by decide) ?_
                refine gx_dVi (pc := 83) (r := gAt C (nI i) 2) (wr := [(h, .inr (0, [.ref c, .ref t1, .ref t2, .ref t3, .ref t4])), (t1, .inr (3, [.ref c, .int (nI 3), .int (nI 6), .int (nI 12)])), (t2, .inr (3, [.ref c, .int (nI 76), .int (nI 8), .int (nI 7)])), (t4, .inr (3, [.ref c, .int (nI 302), .int (nI 6), .int (nI 8)]))]) hB (c_X3_at l K t3 c 133 24 7 C (nI i) 2 (by first | decide | (unfold tHb; decide))) mX3_at dX0_claimedInYear_83 tb_175 pX3_at ⟨Nat.le_of_ble_eq_true rfl, Nat.le_of_ble_eq_true rfl⟩ ⟨rfl, rfl⟩ ⟨Nat.zero_le _, Nat.zero_le _⟩ rfl (Nat.le_of_ble_eq_true rfl) [3, 5] [0, 1, 2, 4] rfl rfl (by decide) (by decide) (by decide) rfl rfl [0, 1, 2, 4, 3, 5] (by decide) (wB K h t1 t2 t3 t4 c C) rfl ?_
                refine gx_iadd (pc := 86) hB dX0_claimedInYear_86 ?_
                refine gx_istore_n (pc := 87) hB dX0_claimedInYear_87 (by decide) [(3, .int (bYearN C x y i + (gAt C (nI i) 2))), (0, .ref h), (1, .int x), (2, .int y), (4, .int (nI i))] rfl ?_
                refine gx_iinc (pc := 88) hB dX0_claimedInYear_88 4 (by decide) rfl (nI (i + 1)) (nI_1 _) [(4, .int (nI (i + 1))), (3, .int (bYearN C x y i + (gAt C (nI i) 2))), (0, .ref h), (1, .int x), (2, .int y)] rfl ?_
                refine gx_goto (pc := 91) hB 5 dX0_claimedInYear_91 (by decide) ?_
                have g3 : bYearN C x y i + (gAt C (nI i) 2) = bYearN C x y (i + 1) := by simp [bYear, bYearN, Int32.not_le.mp c_2, eq_false c_2, eq_true c_3, eq_true c_4, eq_true c_5, eq_true c_6]
                refine gx_sub hB (lv' := [(0, .ref h), (1, .int x), (2, .int y), (3, .int (bYearN C x y i + (gAt C (nI i) 2))), (4, .int (nI (i + 1)))]) [2, 3, 4, 1, 0] rfl ?_
                refine gx_all (ws' := wB K h t1 t2 t3 t4 c C) (lv' := [(0, .ref h), (1, .int x), (2, .int y), (3, .int (bYearN C x y (i + 1))), (4, .int (nI (i + 1)))]) (rfl) (by rw [← g3]) ?_
                exact ih5 (i + 1) (by omega)
  refine gx_sub hB (lv' := [(0, .ref h), (1, .int x), (2, .int y), (3, .int 0), (4, .int 0)]) [2, 3, 4, 1, 0] rfl ?_
  refine gx_all (ws' := wB K h t1 t2 t3 t4 c C) (lv' := [(0, .ref h), (1, .int x), (2, .int y), (3, .int (bYearN C x y 0)), (4, .int (nI 0))]) (rfl) (rfl) ?_
  exact loop_5 ((C 133).toNatClampNeg) 0 (by omega)
theorem pX0_canBeClaimed : (parseMethodDescriptor yX0_canBeClaimed.desc).map (fun d => d.parameters.length) = some 1 := by decide +kernel
theorem mX0_canBeClaimed : gx_M yX0_canBeClaimed cX0_canBeClaimed 5 (some .boolean) := ⟨tb_343, tb_5, tb_28, tb_344, by decide, by decide⟩
set_option maxHeartbeats 4000000 in
set_option maxRecDepth 100000 in
theorem c_X0_canBeClaimed (l : Launch) (K : gx_K) (h t1 t2 t3 t4 c : Nat) (C : Nat → Int32) (x : Int32)  : gx_Ctr l K yX0_canBeClaimed cX0_canBeClaimed 5 (some .boolean) (rmm 3 46) [.ref h, .int x] (wB K h t1 t2 t3 t4 c C) (gx_D (some (.int (bI (bCan C x)))) (wB K h t1 t2 t3 t4 c C)) := by
  refine gx_of (by decide) (Nat.le_of_ble_eq_true rfl) (fun G hC => ?_)
  have hB := hC.b
  refine gx_lv (lv' := [(0, .ref h), (1, .int x)]) rfl ?_
  refine gx_aload_n (pc := 0) hB dX0_canBeClaimed_0 0 rfl ?_
  refine gx_get (pc := 1) hB dX0_canBeClaimed_1 inX0 rfl 0 rfl 3 (by decide) tb_83 rfl rfl ?_
  refine gx_iload_n (pc := 4) hB dX0_canBeClaimed_4 1 rfl ?_
  refine gx_iconst (pc := 5) hB dX0_canBeClaimed_5 0 (by decide) ?_
  refine gx_dVi (pc := 6) (r := gAt C x 0) (wr := [(h, .inr (0, [.ref c, .ref t1, .ref t2, .ref t3, .ref t4])), (t1, .inr (3, [.ref c, .int (nI 3), .int (nI 6), .int (nI 12)])), (t2, .inr (3, [.ref c, .int (nI 76), .int (nI 8), .int (nI 7)])), (t4, .inr (3, [.ref c, .int (nI 302), .int (nI 6), .int (nI 8)]))]) hB (c_X3_at l K t3 c 133 24 7 C x 0 (by first | decide | (unfold tHb; decide))) mX3_at dX0_canBeClaimed_6 tb_175 pX3_at ⟨Nat.le_of_ble_eq_true rfl, Nat.le_of_ble_eq_true rfl⟩ ⟨rfl, rfl⟩ ⟨Nat.zero_le _, Nat.zero_le _⟩ rfl (Nat.le_of_ble_eq_true rfl) [3, 5] [0, 1, 2, 4] rfl rfl (by decide) (by decide) (by decide) rfl rfl [0, 1, 2, 4, 3, 5] (by decide) (wB K h t1 t2 t3 t4 c C) rfl ?_
  refine gx_istore_n (pc := 9) hB dX0_canBeClaimed_9 (by decide) [(2, .int (gAt C x 0)), (0, .ref h), (1, .int x)] rfl ?_
  refine gx_aload_n (pc := 10) hB dX0_canBeClaimed_10 1 rfl ?_
  refine gx_get (pc := 11) hB dX0_canBeClaimed_11 inX0 rfl 0 rfl 3 (by decide) tb_83 rfl rfl ?_
  refine gx_iload_n (pc := 14) hB dX0_canBeClaimed_14 2 rfl ?_
  refine gx_iconst (pc := 15) hB dX0_canBeClaimed_15 3 (by decide) ?_
  refine gx_dVi (pc := 16) (r := gAt C x 3) (wr := [(h, .inr (0, [.ref c, .ref t1, .ref t2, .ref t3, .ref t4])), (t1, .inr (3, [.ref c, .int (nI 3), .int (nI 6), .int (nI 12)])), (t2, .inr (3, [.ref c, .int (nI 76), .int (nI 8), .int (nI 7)])), (t4, .inr (3, [.ref c, .int (nI 302), .int (nI 6), .int (nI 8)]))]) hB (c_X3_at l K t3 c 133 24 7 C x 3 (by first | decide | (unfold tHb; decide))) mX3_at dX0_canBeClaimed_16 tb_175 pX3_at ⟨Nat.le_of_ble_eq_true rfl, Nat.le_of_ble_eq_true rfl⟩ ⟨rfl, rfl⟩ ⟨Nat.zero_le _, Nat.zero_le _⟩ rfl (Nat.le_of_ble_eq_true rfl) [3, 5] [0, 1, 2, 4] rfl rfl (by decide) (by decide) (by decide) rfl rfl [0, 1, 2, 4, 3, 5] (by decide) (wB K h t1 t2 t3 t4 c C) rfl ?_
  refine gx_istore_n (pc := 19) hB dX0_canBeClaimed_19 (by decide) [(3, .int (gAt C x 3)), (2, .int (gAt C x 0)), (0, .ref h), (1, .int x)] rfl ?_
  refine gx_aload_n (pc := 20) hB dX0_canBeClaimed_20 2 rfl ?_
  refine gx_iload_n (pc := 21) hB dX0_canBeClaimed_21 3 rfl ?_
  refine gx_dVi (pc := 22) (r := bI (bClaimed C x)) (wr := []) hB (c_X0_isClaimed l K h t1 t2 t3 t4 c C x ) mX0_isClaimed dX0_canBeClaimed_22 tb_345 pX0_isClaimed ⟨Nat.le_of_ble_eq_true rfl, Nat.le_of_ble_eq_true rfl⟩ ⟨rfl, rfl⟩ ⟨Nat.zero_le _, Nat.zero_le _⟩ rfl (Nat.le_of_ble_eq_true rfl) [0, 1, 2, 3, 4, 5] [] rfl rfl (by decide) (by decide) (by decide) rfl rfl [0, 1, 2, 3, 4, 5] (by decide) (wB K h t1 t2 t3 t4 c C) rfl ?_
  refine gx_if_ne_b (pc := 25) hB 48 dX0_canBeClaimed_25 (by decide) (fun c_1 => ?_) (fun c_1 => ?_)
  · refine gx_iconst (pc := 48) hB dX0_canBeClaimed_48 0 (by decide) ?_
    have e1 : (bI (bCan C x)) = 0 := by simp [bCan, bI, c_1]
    exact gx_zret (pc := 49) hC dX0_canBeClaimed_49 (Nat.zero_le _) (Nat.zero_le _) (by decide) (⟨by rw [e1], rfl⟩)
  · refine gx_aload_n (pc := 28) hB dX0_canBeClaimed_28 2 rfl ?_
    refine gx_iload_n (pc := 29) hB dX0_canBeClaimed_29 3 rfl ?_
    refine gx_dVi (pc := 30) (r := bI (bRefunded C x)) (wr := []) hB (c_X0_isRefunded l K h t1 t2 t3 t4 c C x ) mX0_isRefunded dX0_canBeClaimed_30 tb_349 pX0_isRefunded ⟨Nat.le_of_ble_eq_true rfl, Nat.le_of_ble_eq_true rfl⟩ ⟨rfl, rfl⟩ ⟨Nat.zero_le _, Nat.zero_le _⟩ rfl (Nat.le_of_ble_eq_true rfl) [0, 1, 2, 3, 4, 5] [] rfl rfl (by decide) (by decide) (by decide) rfl rfl [0, 1, 2, 3, 4, 5] (by decide) (wB K h t1 t2 t3 t4 c C) rfl ?_
    refine gx_if_ne_b (pc := 33) hB 48 dX0_canBeClaimed_33 (by decide) (fun c_2 => ?_) (fun c_2 => ?_)
    · refine gx_iconst (pc := 48) hB dX0_canBeClaimed_48 0 (by decide) ?_
      have e1 : (bI (bCan C x)) = 0 := by simp [bCan, bI, c_1, c_2]
      exact gx_zret (pc := 49) hC dX0_canBeClaimed_49 (Nat.zero_le _) (Nat.zero_le _) (by decide) (⟨by rw [e1], rfl⟩)
    · refine gx_aload_n (pc := 36) hB dX0_canBeClaimed_36 2 rfl ?_
      refine gx_get (pc := 37) hB dX0_canBeClaimed_37 inX0 rfl 0 rfl 2 (by decide) tb_82 rfl rfl ?_
      refine gx_iload_n (pc := 40) hB dX0_canBeClaimed_40 1 rfl ?_
      refine gx_iconst (pc := 41) hB dX0_canBeClaimed_41 0 (by decide) ?_
      refine gx_dVi (pc := 42) (r := dAt C (gAt C x 0) 0) (wr := [(h, .inr (0, [.ref c, .ref t1, .ref t2, .ref t3, .ref t4])), (t1, .inr (3, [.ref c, .int (nI 3), .int (nI 6), .int (nI 12)])), (t3, .inr (3, [.ref c, .int (nI 133), .int (nI 24), .int (nI 7)])), (t4, .inr (3, [.ref c, .int (nI 302), .int (nI 6), .int (nI 8)]))]) hB (c_X3_at l K t2 c 76 8 7 C (gAt C x 0) 0 (by first | decide | (unfold tHb; decide))) mX3_at dX0_canBeClaimed_42 tb_175 pX3_at ⟨Nat.le_of_ble_eq_true rfl, Nat.le_of_ble_eq_true rfl⟩ ⟨rfl, rfl⟩ ⟨Nat.zero_le _, Nat.zero_le _⟩ rfl (Nat.le_of_ble_eq_true rfl) [2, 5] [0, 1, 3, 4] rfl rfl (by decide) (by decide) (by decide) rfl rfl [0, 1, 4, 2, 3, 5] (by decide) (wB K h t1 t2 t3 t4 c C) rfl ?_
      refine gx_if_ne (pc := 45) hB 50 dX0_canBeClaimed_45 (by decide) (fun c_3 => ?_) (fun c_3 => ?_)
      · refine gx_aload_n (pc := 50) hB dX0_canBeClaimed_50 2 rfl ?_
        refine gx_get (pc := 51) hB dX0_canBeClaimed_51 inX0 rfl 0 rfl 0 (by decide) tb_80 rfl rfl ?_
        refine gx_iconst (pc := 54) hB dX0_canBeClaimed_54 0 (by decide) ?_
        refine gx_iald (pc := 55) hB dX0_canBeClaimed_55 5 1 rfl rfl 0 rfl (by decide) (by decide) ?_
        refine gx_iload_n (pc := 56) hB dX0_canBeClaimed_56 0 rfl ?_
        refine gx_isub (pc := 57) hB dX0_canBeClaimed_57 ?_
        refine gx_bipush (pc := 58) hB dX0_canBeClaimed_58 47 (by decide) ?_
        refine gx_icmp_le (pc := 60) hB 65 dX0_canBeClaimed_60 (by decide) (fun c_4 => ?_) (fun c_4 => ?_)
        · refine gx_aload_n (pc := 65) hB dX0_canBeClaimed_65 2 rfl ?_
          refine gx_iload_n (pc := 66) hB dX0_canBeClaimed_66 1 rfl ?_
          refine gx_iload_n (pc := 67) hB dX0_canBeClaimed_67 0 rfl ?_
          refine gx_bipush (pc := 68) hB dX0_canBeClaimed_68 12 (by decide) ?_
          refine gx_idiv (pc := 70) hB dX0_canBeClaimed_70 (by decide) ?_
          refine gx_dVi (pc := 71) (r := bYear C (gAt C x 0) (gAt C x 3 / 12)) (wr := []) hB (c_X0_claimedInYear l K h t1 t2 t3 t4 c C (gAt C x 0) (gAt C x 3 / 12) ) mX0_claimedInYear dX0_canBeClaimed_71 tb_353 pX0_claimedInYear ⟨Nat.le_of_ble_eq_true rfl, Nat.le_of_ble_eq_true rfl⟩ ⟨rfl, rfl⟩ ⟨Nat.zero_le _, Nat.zero_le _⟩ rfl (Nat.le_of_ble_eq_true rfl) [0, 1, 2, 3, 4, 5] [] rfl rfl (by decide) (by decide) (by decide) rfl rfl [0, 1, 2, 3, 4, 5] (by decide) (wB K h t1 t2 t3 t4 c C) rfl ?_
          refine gx_istore (pc := 74) hB dX0_canBeClaimed_74 (by decide) [(4, .int (bYear C (gAt C x 0) (gAt C x 3 / 12))), (3, .int (gAt C x 3)), (2, .int (gAt C x 0)), (0, .ref h), (1, .int x)] rfl ?_
          refine gx_iload (pc := 76) hB dX0_canBeClaimed_76 0 rfl ?_
          refine gx_aload_n (pc := 78) hB dX0_canBeClaimed_78 3 rfl ?_
          refine gx_get (pc := 79) hB dX0_canBeClaimed_79 inX0 rfl 0 rfl 3 (by decide) tb_83 rfl rfl ?_
          refine gx_iload_n (pc := 82) hB dX0_canBeClaimed_82 4 rfl ?_
          refine gx_iconst (pc := 83) hB dX0_canBeClaimed_83 2 (by decide) ?_
          refine gx_dVi (pc := 84) (r := gAt C x 2) (wr := [(h, .inr (0, [.ref c, .ref t1, .ref t2, .ref t3, .ref t4])), (t1, .inr (3, [.ref c, .int (nI 3), .int (nI 6), .int (nI 12)])), (t2, .inr (3, [.ref c, .int (nI 76), .int (nI 8), .int (nI 7)])), (t4, .inr (3, [.ref c, .int (nI 302), .int (nI 6), .int (nI 8)]))]) hB (c_X3_at l K t3 c 133 24 7 C x 2 (by first | decide | (unfold tHb; decide))) mX3_at dX0_canBeClaimed_84 tb_175 pX3_at ⟨Nat.le_of_ble_eq_true rfl, Nat.le_of_ble_eq_true rfl⟩ ⟨rfl, rfl⟩ ⟨Nat.zero_le _, Nat.zero_le _⟩ rfl (Nat.le_of_ble_eq_true rfl) [3, 5] [0, 1, 2, 4] rfl rfl (by decide) (by decide) (by decide) rfl rfl [0, 1, 2, 4, 3, 5] (by decide) (wB K h t1 t2 t3 t4 c C) rfl ?_
          refine gx_iadd (pc := 87) hB dX0_canBeClaimed_87 ?_
          refine gx_aload_n (pc := 88) hB dX0_canBeClaimed_88 3 rfl ?_
          refine gx_get (pc := 89) hB dX0_canBeClaimed_89 inX0 rfl 0 rfl 0 (by decide) tb_80 rfl rfl ?_
          refine gx_iconst (pc := 92) hB dX0_canBeClaimed_92 2 (by decide) ?_
          refine gx_iald (pc := 93) hB dX0_canBeClaimed_93 5 1 rfl rfl 2 rfl (by decide) (by decide) ?_
          refine gx_icmp_gt (pc := 94) hB 101 dX0_canBeClaimed_94 (by decide) (fun c_5 => ?_) (fun c_5 => ?_)
          · refine gx_iconst (pc := 101) hB dX0_canBeClaimed_101 0 (by decide) ?_
            have e1 : (bI (bCan C x)) = 0 := by simp [bCan, bI, c_1, c_2, eq_false c_3, c_4, eq_false (Int32.not_lt.mpr c_4), c_5, eq_false (Int32.not_le.mpr c_5)]
            exact gx_zret (pc := 102) hC dX0_canBeClaimed_102 (Nat.zero_le _) (Nat.zero_le _) (by decide) (⟨by rw [e1], rfl⟩)
          · refine gx_iconst (pc := 97) hB dX0_canBeClaimed_97 1 (by decide) ?_
            refine gx_goto (pc := 98) hB 102 dX0_canBeClaimed_98 (by decide) ?_
            have e1 : (bI (bCan C x)) = 1 := by simp [bCan, bI, c_1, c_2, eq_false c_3, c_4, eq_false (Int32.not_lt.mpr c_4), Int32.not_lt.mp c_5, eq_false c_5]
            exact gx_zret (pc := 102) hC dX0_canBeClaimed_102 (Nat.zero_le _) (Nat.zero_le _) (by decide) (⟨by rw [e1], rfl⟩)
        · refine gx_iconst (pc := 63) hB dX0_canBeClaimed_63 0 (by decide) ?_
          have e1 : (bI (bCan C x)) = 0 := by simp [bCan, bI, c_1, c_2, eq_false c_3, Int32.not_le.mp c_4, eq_false c_4]
          exact gx_zret (pc := 64) hC dX0_canBeClaimed_64 (Nat.zero_le _) (Nat.zero_le _) (by decide) (⟨by rw [e1], rfl⟩)
      · refine gx_iconst (pc := 48) hB dX0_canBeClaimed_48 0 (by decide) ?_
        have e1 : (bI (bCan C x)) = 0 := by simp [bCan, bI, c_1, c_2, eq_true c_3]
        exact gx_zret (pc := 49) hC dX0_canBeClaimed_49 (Nat.zero_le _) (Nat.zero_le _) (by decide) (⟨by rw [e1], rfl⟩)
theorem pX0_weightOf : (parseMethodDescriptor yX0_weightOf.desc).map (fun d => d.parameters.length) = some 2 := by decide +kernel
theorem mX0_weightOf : gx_M yX0_weightOf cX0_weightOf 4 (some .int) := ⟨tb_402, tb_14, tb_28, tb_403, by decide, by decide⟩
set_option maxHeartbeats 4000000 in
set_option maxRecDepth 100000 in
theorem c_X0_weightOf (l : Launch) (K : gx_K) (h t1 t2 t3 t4 c : Nat) (C : Nat → Int32) (x y : Int32)  : gx_Ctr l K yX0_weightOf cX0_weightOf 4 (some .int) (rmm 2 22) [.ref h, .int x, .int y] (wB K h t1 t2 t3 t4 c C) (gx_D (some (.int (bWeight C x y))) (wB K h t1 t2 t3 t4 c C)) := by
  refine gx_of (by decide) (Nat.le_of_ble_eq_true rfl) (fun G hC => ?_)
  have hB := hC.b
  refine gx_lv (lv' := [(0, .ref h), (1, .int x), (2, .int y)]) rfl ?_
  refine gx_aload_n (pc := 0) hB dX0_weightOf_0 0 rfl ?_
  refine gx_get (pc := 1) hB dX0_weightOf_1 inX0 rfl 0 rfl 3 (by decide) tb_83 rfl rfl ?_
  refine gx_iload_n (pc := 4) hB dX0_weightOf_4 1 rfl ?_
  refine gx_iconst (pc := 5) hB dX0_weightOf_5 1 (by decide) ?_
  refine gx_dVi (pc := 6) (r := gAt C x 1) (wr := [(h, .inr (0, [.ref c, .ref t1, .ref t2, .ref t3, .ref t4])), (t1, .inr (3, [.ref c, .int (nI 3), .int (nI 6), .int (nI 12)])), (t2, .inr (3, [.ref c, .int (nI 76), .int (nI 8), .int (nI 7)])), (t4, .inr (3, [.ref c, .int (nI 302), .int (nI 6), .int (nI 8)]))]) hB (c_X3_at l K t3 c 133 24 7 C x 1 (by first | decide | (unfold tHb; decide))) mX3_at dX0_weightOf_6 tb_175 pX3_at ⟨Nat.le_of_ble_eq_true rfl, Nat.le_of_ble_eq_true rfl⟩ ⟨rfl, rfl⟩ ⟨Nat.zero_le _, Nat.zero_le _⟩ rfl (Nat.le_of_ble_eq_true rfl) [3, 5] [0, 1, 2, 4] rfl rfl (by decide) (by decide) (by decide) rfl rfl [0, 1, 2, 4, 3, 5] (by decide) (wB K h t1 t2 t3 t4 c C) rfl ?_
  refine gx_iload_n (pc := 9) hB dX0_weightOf_9 2 rfl ?_
  refine gx_icmp_ne (pc := 10) hB 29 dX0_weightOf_10 (by decide) (fun c_1 => ?_) (fun c_1 => ?_)
  · refine gx_iconst (pc := 29) hB dX0_weightOf_29 0 (by decide) ?_
    refine gx_istore_n (pc := 30) hB dX0_weightOf_30 (by decide) [(3, .int 0), (0, .ref h), (1, .int x), (2, .int y)] rfl ?_
    refine gx_iload_n (pc := 31) hB dX0_weightOf_31 0 rfl ?_
    refine gx_if_eq (pc := 32) hB 47 dX0_weightOf_32 (by decide) (fun c_2 => ?_) (fun c_2 => ?_)
    · refine gx_iconst (pc := 47) hB dX0_weightOf_47 0 (by decide) ?_
      have e1 : bWeight C x y = 0 := by simp [bWeight, eq_false c_1]
      exact gx_iret (pc := 48) hC dX0_weightOf_48 (Nat.zero_le _) (Nat.zero_le _) (⟨by rw [e1], rfl⟩)
    · exact absurd c_2 (by decide)
  · refine gx_aload_n (pc := 13) hB dX0_weightOf_13 0 rfl ?_
    refine gx_get (pc := 14) hB dX0_weightOf_14 inX0 rfl 0 rfl 3 (by decide) tb_83 rfl rfl ?_
    refine gx_iload_n (pc := 17) hB dX0_weightOf_17 1 rfl ?_
    refine gx_iconst (pc := 18) hB dX0_weightOf_18 5 (by decide) ?_
    refine gx_dVi (pc := 19) (r := gAt C x 5) (wr := [(h, .inr (0, [.ref c, .ref t1, .ref t2, .ref t3, .ref t4])), (t1, .inr (3, [.ref c, .int (nI 3), .int (nI 6), .int (nI 12)])), (t2, .inr (3, [.ref c, .int (nI 76), .int (nI 8), .int (nI 7)])), (t4, .inr (3, [.ref c, .int (nI 302), .int (nI 6), .int (nI 8)]))]) hB (c_X3_at l K t3 c 133 24 7 C x 5 (by first | decide | (unfold tHb; decide))) mX3_at dX0_weightOf_19 tb_175 pX3_at ⟨Nat.le_of_ble_eq_true rfl, Nat.le_of_ble_eq_true rfl⟩ ⟨rfl, rfl⟩ ⟨Nat.zero_le _, Nat.zero_le _⟩ rfl (Nat.le_of_ble_eq_true rfl) [3, 5] [0, 1, 2, 4] rfl rfl (by decide) (by decide) (by decide) rfl rfl [0, 1, 2, 4, 3, 5] (by decide) (wB K h t1 t2 t3 t4 c C) rfl ?_
    refine gx_if_ne (pc := 22) hB 29 dX0_weightOf_22 (by decide) (fun c_3 => ?_) (fun c_3 => ?_)
    · refine gx_iconst (pc := 29) hB dX0_weightOf_29 0 (by decide) ?_
      refine gx_istore_n (pc := 30) hB dX0_weightOf_30 (by decide) [(3, .int 0), (0, .ref h), (1, .int x), (2, .int y)] rfl ?_
      refine gx_iload_n (pc := 31) hB dX0_weightOf_31 0 rfl ?_
      refine gx_if_eq (pc := 32) hB 47 dX0_weightOf_32 (by decide) (fun c_4 => ?_) (fun c_4 => ?_)
      · refine gx_iconst (pc := 47) hB dX0_weightOf_47 0 (by decide) ?_
        have e1 : bWeight C x y = 0 := by simp [bWeight, eq_true c_1, eq_false c_3]
        exact gx_iret (pc := 48) hC dX0_weightOf_48 (Nat.zero_le _) (Nat.zero_le _) (⟨by rw [e1], rfl⟩)
      · exact absurd c_4 (by decide)
    · refine gx_iconst (pc := 25) hB dX0_weightOf_25 1 (by decide) ?_
      refine gx_goto (pc := 26) hB 30 dX0_weightOf_26 (by decide) ?_
      refine gx_istore_n (pc := 30) hB dX0_weightOf_30 (by decide) [(3, .int 1), (0, .ref h), (1, .int x), (2, .int y)] rfl ?_
      refine gx_iload_n (pc := 31) hB dX0_weightOf_31 0 rfl ?_
      refine gx_if_eq (pc := 32) hB 47 dX0_weightOf_32 (by decide) (fun c_5 => ?_) (fun c_5 => ?_)
      · exact absurd c_5 (by decide)
      · refine gx_aload_n (pc := 35) hB dX0_weightOf_35 1 rfl ?_
        refine gx_get (pc := 36) hB dX0_weightOf_36 inX0 rfl 0 rfl 3 (by decide) tb_83 rfl rfl ?_
        refine gx_iload_n (pc := 39) hB dX0_weightOf_39 2 rfl ?_
        refine gx_iconst (pc := 40) hB dX0_weightOf_40 2 (by decide) ?_
        refine gx_dVi (pc := 41) (r := gAt C x 2) (wr := [(h, .inr (0, [.ref c, .ref t1, .ref t2, .ref t3, .ref t4])), (t1, .inr (3, [.ref c, .int (nI 3), .int (nI 6), .int (nI 12)])), (t2, .inr (3, [.ref c, .int (nI 76), .int (nI 8), .int (nI 7)])), (t4, .inr (3, [.ref c, .int (nI 302), .int (nI 6), .int (nI 8)]))]) hB (c_X3_at l K t3 c 133 24 7 C x 2 (by first | decide | (unfold tHb; decide))) mX3_at dX0_weightOf_41 tb_175 pX3_at ⟨Nat.le_of_ble_eq_true rfl, Nat.le_of_ble_eq_true rfl⟩ ⟨rfl, rfl⟩ ⟨Nat.zero_le _, Nat.zero_le _⟩ rfl (Nat.le_of_ble_eq_true rfl) [3, 5] [0, 1, 2, 4] rfl rfl (by decide) (by decide) (by decide) rfl rfl [0, 1, 2, 4, 3, 5] (by decide) (wB K h t1 t2 t3 t4 c C) rfl ?_
        refine gx_goto (pc := 44) hB 48 dX0_weightOf_44 (by decide) ?_
        have e1 : bWeight C x y = gAt C x 2 := by simp [bWeight, eq_true c_1, eq_true c_3]
        exact gx_iret (pc := 48) hC dX0_weightOf_48 (Nat.zero_le _) (Nat.zero_le _) (⟨by rw [e1], rfl⟩)
