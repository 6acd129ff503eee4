theorem pX1_size : (parseMethodDescriptor yX1_size.desc).map (fun d => d.parameters.length) = some 0 := by decide +kernel
theorem mX1_size : gx_M yX1_size cX1_size 1 (some .int) := ⟨tb_184, tb_185, tb_30, tb_186, by decide, by decide⟩
set_option maxHeartbeats 4000000 in
set_option maxRecDepth 100000 in
theorem c_X1_size (l : Launch) (K : gx_K) (g ro r0 r1 r2 r3 r4 : Nat) (R0 R1 R2 R3 R4 : Nat → Int32) (od sn : Nat)  : gx_Ctr l K yX1_size cX1_size 1 (some .int) (rmm 1 0) [.ref g] (wH K g ro r0 r1 r2 r3 r4 R0 R1 R2 R3 R4 od sn) (gx_D (some (.int (nI sn))) (wH K g ro r0 r1 r2 r3 r4 R0 R1 R2 R3 R4 od sn)) := by
  refine gx_of (by decide) (Nat.le_of_ble_eq_true rfl) (fun G hC => ?_)
  have hB := hC.b
  refine gx_lv (lv' := [(0, .ref g)]) rfl ?_
  refine gx_aload_n (pc := 0) hB dX1_size_0 0 rfl ?_
  refine gx_get (pc := 1) hB dX1_size_1 inX1 rfl 0 rfl 2 (by decide) tb_106 rfl rfl ?_
  exact gx_iret (pc := 4) hC dX1_size_4 (Nat.zero_le _) (Nat.zero_le _) (⟨rfl, rfl⟩)
theorem pX1_draft : (parseMethodDescriptor yX1_draft.desc).map (fun d => d.parameters.length) = some 1 := by decide +kernel
theorem mX1_draft : gx_M yX1_draft cX1_draft 2 none := ⟨tb_228, tb_229, tb_30, tb_230, by decide, by decide⟩
set_option maxHeartbeats 4000000 in
set_option maxRecDepth 100000 in
theorem c_X1_draft (l : Launch) (K : gx_K) (g ro r0 r1 r2 r3 r4 : Nat) (R0 R1 R2 R3 R4 : Nat → Int32) (od sn : Nat) (h t1 t2 t3 t4 c : Nat) (C : Nat → Int32) (h0 : od ≤ 4) (h1 : sn ≤ 4) : gx_Ctr l K yX1_draft cX1_draft 2 none (rmm 2 81) [.ref g, .ref h] (wHB K g ro r0 r1 r2 r3 r4 R0 R1 R2 R3 R4 od sn h t1 t2 t3 t4 c C) (gx_D none (wHB K g ro r0 r1 r2 r3 r4 (if (od + sn) % 5 = 0 then C else R0) (if (od + sn) % 5 = 1 then C else R1) (if (od + sn) % 5 = 2 then C else R2) (if (od + sn) % 5 = 3 then C else R3) (if (od + sn) % 5 = 4 then C else R4) od sn h t1 t2 t3 t4 c C)) := by
  refine gx_of (by decide) (Nat.le_of_ble_eq_true rfl) (fun G hC => ?_)
  have hB := hC.b
  refine gx_lv (lv' := [(0, .ref g), (1, .ref h)]) rfl ?_
  refine gx_aload_n (pc := 0) hB dX1_draft_0 1 rfl ?_
  refine gx_aload_n (pc := 1) hB dX1_draft_1 0 rfl ?_
  refine gx_get (pc := 2) hB dX1_draft_2 inX1 rfl 0 rfl 0 (by decide) tb_104 rfl rfl ?_
  refine gx_aload_n (pc := 5) hB dX1_draft_5 0 rfl ?_
  refine gx_get (pc := 6) hB dX1_draft_6 inX1 rfl 0 rfl 1 (by decide) tb_105 rfl rfl ?_
  refine gx_aload_n (pc := 9) hB dX1_draft_9 0 rfl ?_
  refine gx_get (pc := 10) hB dX1_draft_10 inX1 rfl 0 rfl 2 (by decide) tb_106 rfl rfl ?_
  refine gx_iadd (pc := 13) hB dX1_draft_13 ?_
  refine gx_top (show nI od + nI sn = nI (od + sn) from nI_add od sn) ?_
  refine gx_iconst (pc := 14) hB dX1_draft_14 5 (by decide) ?_
  refine gx_irem (pc := 15) hB dX1_draft_15 (by decide) ?_
  refine gx_top (show (nI (od + sn)) - (nI (od + sn)) / 5 * 5 = nI ((od + sn) % 5) from pk_rem (by omega) (by decide) (by decide)) ?_
  have hj5 : (od + sn) % 5 < 5 := Nat.mod_lt _ (by decide)
  by_cases s_j0 : (od + sn) % 5 = 0
  · refine gx_top (show nI ((od + sn) % 5) = 0 by rw [s_j0]; rfl) ?_
    refine gx_aald (pc := 16) hB dX1_draft_16 1 3 rfl rfl 0 rfl (by decide) (by decide) ?_
    refine gx_st (st' := [.ref r0, .ref h]) rfl ?_
    refine gx_dVv (pc := 17) (wr := [(g, .inr (1, [.ref ro, .int (nI od), .int (nI sn)])), (ro, .inl (K.2.1.2.2.2, 5, .inr (.inr (.inr (.inr (rwF r0 r1 r2 r3 r4)))))), (r1, .inl (K.2.1.2.1, 351, .inl R1)), (r2, .inl (K.2.1.2.1, 351, .inl R2)), (r3, .inl (K.2.1.2.1, 351, .inl R3)), (r4, .inl (K.2.1.2.1, 351, .inl R4))]) hB (c_X0_saveTo l K h t1 t2 t3 t4 c r0 C R0 ) mX0_saveTo dX1_draft_17 tb_231 pX0_saveTo ⟨Nat.le_of_ble_eq_true rfl, Nat.le_of_ble_eq_true rfl⟩ ⟨rfl, rfl⟩ ⟨Nat.zero_le _, Nat.zero_le _⟩ rfl (Nat.le_of_ble_eq_true rfl) [7, 8, 2] [0, 1, 3, 4, 5, 6] rfl rfl (by decide) (by decide) (by decide) rfl rfl [0, 1, 8, 2, 3, 4, 5, 6, 7] (by decide) (wHB K g ro r0 r1 r2 r3 r4 C R1 R2 R3 R4 od sn h t1 t2 t3 t4 c C) rfl ?_
    have f0 : (if (od + sn) % 5 = 0 then C else R0) = C := by simp [s_j0]
    have f1 : (if (od + sn) % 5 = 1 then C else R1) = R1 := by simp [s_j0]
    have f2 : (if (od + sn) % 5 = 2 then C else R2) = R2 := by simp [s_j0]
    have f3 : (if (od + sn) % 5 = 3 then C else R3) = R3 := by simp [s_j0]
    have f4 : (if (od + sn) % 5 = 4 then C else R4) = R4 := by simp [s_j0]
    exact gx_vret (pc := 20) hC dX1_draft_20 (Nat.zero_le _) (Nat.zero_le _) (⟨rfl, by rw [f0, f1, f2, f3, f4]⟩)
  by_cases s_j1 : (od + sn) % 5 = 1
  · refine gx_top (show nI ((od + sn) % 5) = 1 by rw [s_j1]; rfl) ?_
    refine gx_aald (pc := 16) hB dX1_draft_16 1 3 rfl rfl 1 rfl (by decide) (by decide) ?_
    refine gx_st (st' := [.ref r1, .ref h]) rfl ?_
    refine gx_dVv (pc := 17) (wr := [(g, .inr (1, [.ref ro, .int (nI od), .int (nI sn)])), (ro, .inl (K.2.1.2.2.2, 5, .inr (.inr (.inr (.inr (rwF r0 r1 r2 r3 r4)))))), (r0, .inl (K.2.1.2.1, 351, .inl R0)), (r2, .inl (K.2.1.2.1, 351, .inl R2)), (r3, .inl (K.2.1.2.1, 351, .inl R3)), (r4, .inl (K.2.1.2.1, 351, .inl R4))]) hB (c_X0_saveTo l K h t1 t2 t3 t4 c r1 C R1 ) mX0_saveTo dX1_draft_17 tb_231 pX0_saveTo ⟨Nat.le_of_ble_eq_true rfl, Nat.le_of_ble_eq_true rfl⟩ ⟨rfl, rfl⟩ ⟨Nat.zero_le _, Nat.zero_le _⟩ rfl (Nat.le_of_ble_eq_true rfl) [7, 8, 3] [0, 1, 2, 4, 5, 6] rfl rfl (by decide) (by decide) (by decide) rfl rfl [0, 1, 2, 8, 3, 4, 5, 6, 7] (by decide) (wHB K g ro r0 r1 r2 r3 r4 R0 C R2 R3 R4 od sn h t1 t2 t3 t4 c C) rfl ?_
    have f0 : (if (od + sn) % 5 = 0 then C else R0) = R0 := by simp [s_j0, s_j1]
    have f1 : (if (od + sn) % 5 = 1 then C else R1) = C := by simp [s_j0, s_j1]
    have f2 : (if (od + sn) % 5 = 2 then C else R2) = R2 := by simp [s_j0, s_j1]
    have f3 : (if (od + sn) % 5 = 3 then C else R3) = R3 := by simp [s_j0, s_j1]
    have f4 : (if (od + sn) % 5 = 4 then C else R4) = R4 := by simp [s_j0, s_j1]
    exact gx_vret (pc := 20) hC dX1_draft_20 (Nat.zero_le _) (Nat.zero_le _) (⟨rfl, by rw [f0, f1, f2, f3, f4]⟩)
  by_cases s_j2 : (od + sn) % 5 = 2
  · refine gx_top (show nI ((od + sn) % 5) = 2 by rw [s_j2]; rfl) ?_
    refine gx_aald (pc := 16) hB dX1_draft_16 1 3 rfl rfl 2 rfl (by decide) (by decide) ?_
    refine gx_st (st' := [.ref r2, .ref h]) rfl ?_
    refine gx_dVv (pc := 17) (wr := [(g, .inr (1, [.ref ro, .int (nI od), .int (nI sn)])), (ro, .inl (K.2.1.2.2.2, 5, .inr (.inr (.inr (.inr (rwF r0 r1 r2 r3 r4)))))), (r0, .inl (K.2.1.2.1, 351, .inl R0)), (r1, .inl (K.2.1.2.1, 351, .inl R1)), (r3, .inl (K.2.1.2.1, 351, .inl R3)), (r4, .inl (K.2.1.2.1, 351, .inl R4))]) hB (c_X0_saveTo l K h t1 t2 t3 t4 c r2 C R2 ) mX0_saveTo dX1_draft_17 tb_231 pX0_saveTo ⟨Nat.le_of_ble_eq_true rfl, Nat.le_of_ble_eq_true rfl⟩ ⟨rfl, rfl⟩ ⟨Nat.zero_le _, Nat.zero_le _⟩ rfl (Nat.le_of_ble_eq_true rfl) [7, 8, 4] [0, 1, 2, 3, 5, 6] rfl rfl (by decide) (by decide) (by decide) rfl rfl [0, 1, 2, 3, 8, 4, 5, 6, 7] (by decide) (wHB K g ro r0 r1 r2 r3 r4 R0 R1 C R3 R4 od sn h t1 t2 t3 t4 c C) rfl ?_
    have f0 : (if (od + sn) % 5 = 0 then C else R0) = R0 := by simp [s_j0, s_j1, s_j2]
    have f1 : (if (od + sn) % 5 = 1 then C else R1) = R1 := by simp [s_j0, s_j1, s_j2]
    have f2 : (if (od + sn) % 5 = 2 then C else R2) = C := by simp [s_j0, s_j1, s_j2]
    have f3 : (if (od + sn) % 5 = 3 then C else R3) = R3 := by simp [s_j0, s_j1, s_j2]
    have f4 : (if (od + sn) % 5 = 4 then C else R4) = R4 := by simp [s_j0, s_j1, s_j2]
    exact gx_vret (pc := 20) hC dX1_draft_20 (Nat.zero_le _) (Nat.zero_le _) (⟨rfl, by rw [f0, f1, f2, f3, f4]⟩)
  by_cases s_j3 : (od + sn) % 5 = 3
  · refine gx_top (show nI ((od + sn) % 5) = 3 by rw [s_j3]; rfl) ?_
    refine gx_aald (pc := 16) hB dX1_draft_16 1 3 rfl rfl 3 rfl (by decide) (by decide) ?_
    refine gx_st (st' := [.ref r3, .ref h]) rfl ?_
    refine gx_dVv (pc := 17) (wr := [(g, .inr (1, [.ref ro, .int (nI od), .int (nI sn)])), (ro, .inl (K.2.1.2.2.2, 5, .inr (.inr (.inr (.inr (rwF r0 r1 r2 r3 r4)))))), (r0, .inl (K.2.1.2.1, 351, .inl R0)), (r1, .inl (K.2.1.2.1, 351, .inl R1)), (r2, .inl (K.2.1.2.1, 351, .inl R2)), (r4, .inl (K.2.1.2.1, 351, .inl R4))]) hB (c_X0_saveTo l K h t1 t2 t3 t4 c r3 C R3 ) mX0_saveTo dX1_draft_17 tb_231 pX0_saveTo ⟨Nat.le_of_ble_eq_true rfl, Nat.le_of_ble_eq_true rfl⟩ ⟨rfl, rfl⟩ ⟨Nat.zero_le _, Nat.zero_le _⟩ rfl (Nat.le_of_ble_eq_true rfl) [7, 8, 5] [0, 1, 2, 3, 4, 6] rfl rfl (by decide) (by decide) (by decide) rfl rfl [0, 1, 2, 3, 4, 8, 5, 6, 7] (by decide) (wHB K g ro r0 r1 r2 r3 r4 R0 R1 R2 C R4 od sn h t1 t2 t3 t4 c C) rfl ?_
    have f0 : (if (od + sn) % 5 = 0 then C else R0) = R0 := by simp [s_j0, s_j1, s_j2, s_j3]
    have f1 : (if (od + sn) % 5 = 1 then C else R1) = R1 := by simp [s_j0, s_j1, s_j2, s_j3]
    have f2 : (if (od + sn) % 5 = 2 then C else R2) = R2 := by simp [s_j0, s_j1, s_j2, s_j3]
    have f3 : (if (od + sn) % 5 = 3 then C else R3) = C := by simp [s_j0, s_j1, s_j2, s_j3]
    have f4 : (if (od + sn) % 5 = 4 then C else R4) = R4 := by simp [s_j0, s_j1, s_j2, s_j3]
    exact gx_vret (pc := 20) hC dX1_draft_20 (Nat.zero_le _) (Nat.zero_le _) (⟨rfl, by rw [f0, f1, f2, f3, f4]⟩)
  have s_j4 : (od + sn) % 5 = 4 := by omega
  refine gx_top (show nI ((od + sn) % 5) = 4 by rw [s_j4]; rfl) ?_
  refine gx_aald (pc := 16) hB dX1_draft_16 1 3 rfl rfl 4 rfl (by decide) (by decide) ?_
  refine gx_st (st' := [.ref r4, .ref h]) rfl ?_
  refine gx_dVv (pc := 17) (wr := [(g, .inr (1, [.ref ro, .int (nI od), .int (nI sn)])), (ro, .inl (K.2.1.2.2.2, 5, .inr (.inr (.inr (.inr (rwF r0 r1 r2 r3 r4)))))), (r0, .inl (K.2.1.2.1, 351, .inl R0)), (r1, .inl (K.2.1.2.1, 351, .inl R1)), (r2, .inl (K.2.1.2.1, 351, .inl R2)), (r3, .inl (K.2.1.2.1, 351, .inl R3))]) hB (c_X0_saveTo l K h t1 t2 t3 t4 c r4 C R4 ) mX0_saveTo dX1_draft_17 tb_231 pX0_saveTo ⟨Nat.le_of_ble_eq_true rfl, Nat.le_of_ble_eq_true rfl⟩ ⟨rfl, rfl⟩ ⟨Nat.zero_le _, Nat.zero_le _⟩ rfl (Nat.le_of_ble_eq_true rfl) [7, 8, 6] [0, 1, 2, 3, 4, 5] rfl rfl (by decide) (by decide) (by decide) rfl rfl [0, 1, 2, 3, 4, 5, 8, 6, 7] (by decide) (wHB K g ro r0 r1 r2 r3 r4 R0 R1 R2 R3 C od sn h t1 t2 t3 t4 c C) rfl ?_
  have f0 : (if (od + sn) % 5 = 0 then C else R0) = R0 := by simp [s_j0, s_j1, s_j2, s_j3, s_j4]
  have f1 : (if (od + sn) % 5 = 1 then C else R1) = R1 := by simp [s_j0, s_j1, s_j2, s_j3, s_j4]
  have f2 : (if (od + sn) % 5 = 2 then C else R2) = R2 := by simp [s_j0, s_j1, s_j2, s_j3, s_j4]
  have f3 : (if (od + sn) % 5 = 3 then C else R3) = R3 := by simp [s_j0, s_j1, s_j2, s_j3, s_j4]
  have f4 : (if (od + sn) % 5 = 4 then C else R4) = C := by simp [s_j0, s_j1, s_j2, s_j3, s_j4]
  exact gx_vret (pc := 20) hC dX1_draft_20 (Nat.zero_le _) (Nat.zero_le _) (⟨rfl, by rw [f0, f1, f2, f3, f4]⟩)
theorem pX1_keepUnlessError : (parseMethodDescriptor yX1_keepUnlessError.desc).map (fun d => d.parameters.length) = some 1 := by decide +kernel
theorem mX1_keepUnlessError : gx_M yX1_keepUnlessError cX1_keepUnlessError 2 (some .int) := ⟨tb_240, tb_241, tb_30, tb_242, by decide, by decide⟩
set_option maxHeartbeats 4000000 in
set_option maxRecDepth 100000 in
theorem c_X1_keepUnlessError (l : Launch) (K : gx_K) (g ro r0 r1 r2 r3 r4 : Nat) (R0 R1 R2 R3 R4 : Nat → Int32) (od sn : Nat) (x : Int32) (h0 : od ≤ 4) (h1 : sn ≤ 4) : gx_Ctr l K yX1_keepUnlessError cX1_keepUnlessError 2 (some .int) (rmm 1 0) [.ref g, .int x] (wH K g ro r0 r1 r2 r3 r4 R0 R1 R2 R3 R4 od sn) (gx_D (some (.int x)) (wH K g ro r0 r1 r2 r3 r4 R0 R1 R2 R3 R4 (kOd x od sn) (kSn x sn))) := by
  refine gx_of (by decide) (Nat.le_of_ble_eq_true rfl) (fun G hC => ?_)
  have hB := hC.b
  refine gx_lv (lv' := [(0, .ref g), (1, .int x)]) rfl ?_
  refine gx_iload_n (pc := 0) hB dX1_keepUnlessError_0 1 rfl ?_
  refine gx_if_lt (pc := 1) hB 37 dX1_keepUnlessError_1 (by decide) (fun c_1 => ?_) (fun c_1 => ?_)
  · refine gx_iload_n (pc := 37) hB dX1_keepUnlessError_37 1 rfl ?_
    have f0 : kOd x od sn = od := by simp [kSn, kOd, c_1, eq_false (Int32.not_le.mpr c_1)]
    have f1 : kSn x sn = sn := by simp [kSn, kOd, c_1, eq_false (Int32.not_le.mpr c_1)]
    exact gx_iret (pc := 38) hC dX1_keepUnlessError_38 (Nat.zero_le _) (Nat.zero_le _) (⟨rfl, by rw [f0, f1]⟩)
  · refine gx_aload_n (pc := 4) hB dX1_keepUnlessError_4 0 rfl ?_
    refine gx_get (pc := 5) hB dX1_keepUnlessError_5 inX1 rfl 0 rfl 2 (by decide) tb_106 rfl rfl ?_
    refine gx_iconst (pc := 8) hB dX1_keepUnlessError_8 4 (by decide) ?_
    refine gx_icmp_ge (pc := 9) hB 25 dX1_keepUnlessError_9 (by decide) (fun c_2 => ?_) (fun c_2 => ?_)
    · have s_k4 : (sn < 4) = False := eq_false (fun q => nI_ge q (by decide) c_2)
      refine gx_aload_n (pc := 25) hB dX1_keepUnlessError_25 0 rfl ?_
      refine gx_aload_n (pc := 26) hB dX1_keepUnlessError_26 0 rfl ?_
      refine gx_get (pc := 27) hB dX1_keepUnlessError_27 inX1 rfl 0 rfl 1 (by decide) tb_105 rfl rfl ?_
      refine gx_iconst (pc := 30) hB dX1_keepUnlessError_30 1 (by decide) ?_
      refine gx_iadd (pc := 31) hB dX1_keepUnlessError_31 ?_
      refine gx_top (show nI od + 1 = nI (od + 1) from nI_add od 1) ?_
      refine gx_iconst (pc := 32) hB dX1_keepUnlessError_32 5 (by decide) ?_
      refine gx_irem (pc := 33) hB dX1_keepUnlessError_33 (by decide) ?_
      refine gx_top (show (nI (od + 1)) - (nI (od + 1)) / 5 * 5 = nI ((od + 1) % 5) from pk_rem (by omega) (by decide) (by decide)) ?_
      refine gx_put (pc := 34) hB dX1_keepUnlessError_34 inX1 rfl tyX1 tyX1_ok nmX1 0 rfl 1 (by decide) tb_105 rfl rfl rfl rfl (Nat.le_of_ble_eq_true rfl) (wH K g ro r0 r1 r2 r3 r4 R0 R1 R2 R3 R4 ((od + 1) % 5) sn) rfl ?_
      refine gx_iload_n (pc := 37) hB dX1_keepUnlessError_37 1 rfl ?_
      have f0 : kOd x od sn = ((od + 1) % 5) := by simp [kSn, kOd, Int32.not_lt.mp c_1, eq_false c_1, c_2, eq_false (Int32.not_lt.mpr c_2), s_k4]
      have f1 : kSn x sn = sn := by simp [kSn, kOd, Int32.not_lt.mp c_1, eq_false c_1, c_2, eq_false (Int32.not_lt.mpr c_2), s_k4]
      exact gx_iret (pc := 38) hC dX1_keepUnlessError_38 (Nat.zero_le _) (Nat.zero_le _) (⟨rfl, by rw [f0, f1]⟩)
    · have s_k4 : sn < 4 := by rcases Nat.lt_or_ge sn 4 with q | q; exact q; exact absurd (nI_le q (by omega)) c_2
      refine gx_aload_n (pc := 12) hB dX1_keepUnlessError_12 0 rfl ?_
      refine gx_dup (pc := 13) hB dX1_keepUnlessError_13 rfl ?_
      refine gx_get (pc := 14) hB dX1_keepUnlessError_14 inX1 rfl 0 rfl 2 (by decide) tb_106 rfl rfl ?_
      refine gx_iconst (pc := 17) hB dX1_keepUnlessError_17 1 (by decide) ?_
      refine gx_iadd (pc := 18) hB dX1_keepUnlessError_18 ?_
      refine gx_top (show nI sn + 1 = nI (sn + 1) from nI_add sn 1) ?_
      refine gx_put (pc := 19) hB dX1_keepUnlessError_19 inX1 rfl tyX1 tyX1_ok nmX1 0 rfl 2 (by decide) tb_106 rfl rfl rfl rfl (Nat.le_of_ble_eq_true rfl) (wH K g ro r0 r1 r2 r3 r4 R0 R1 R2 R3 R4 od (sn + 1)) rfl ?_
      refine gx_goto (pc := 22) hB 37 dX1_keepUnlessError_22 (by decide) ?_
      refine gx_iload_n (pc := 37) hB dX1_keepUnlessError_37 1 rfl ?_
      have f0 : kOd x od sn = od := by simp [kSn, kOd, Int32.not_lt.mp c_1, eq_false c_1, Int32.not_le.mp c_2, eq_false c_2, s_k4]
      have f1 : kSn x sn = (sn + 1) := by simp [kSn, kOd, Int32.not_lt.mp c_1, eq_false c_1, Int32.not_le.mp c_2, eq_false c_2, s_k4]
      exact gx_iret (pc := 38) hC dX1_keepUnlessError_38 (Nat.zero_le _) (Nat.zero_le _) (⟨rfl, by rw [f0, f1]⟩)