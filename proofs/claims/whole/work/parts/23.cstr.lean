theorem pJ0_coder_7d493 : (parseMethodDescriptor yJ0_coder_7d493.desc).map (fun d => d.parameters.length) = some 0 := by decide +kernel
theorem mJ0_coder_7d493 : gx_M yJ0_coder_7d493 cJ0_coder_7d493 1 (some .byte) := ⟨tb_620, tb_621, tb_76, tb_622, by decide, by decide⟩
set_option maxHeartbeats 4000000 in
set_option maxRecDepth 100000 in
theorem c_J0_coder_7d493 (l : Launch) (K : gx_K) (i : Nat) (h0 : i < 9) : gx_Ctr l K yJ0_coder_7d493 cJ0_coder_7d493 1 (some .byte) (rmm 1 0) [.ref (K.2.2.1 i)] [] (gx_D (some (.int 0)) []) := by
  refine gx_of (by decide) (Nat.le_of_ble_eq_true rfl) (fun G hC => ?_)
  have hB := hC.b
  refine gx_lv (lv' := [(0, .ref (K.2.2.1 i))]) rfl ?_
  refine gx_cs (pc := 0) hB dJ0_coder_7d493_0 tb_623 ?_
  refine gx_if_eq (pc := 3) hB 13 dJ0_coder_7d493_3 (by decide) (fun c_1 => ?_) (fun c_1 => ?_)
  · exact absurd c_1 (by decide)
  · refine gx_aload_n (pc := 6) hB dJ0_coder_7d493_6 0 rfl ?_
    refine gx_strC (pc := 7) hB i h0 dJ0_coder_7d493_7 tb_1030 ?_
    refine gx_goto (pc := 10) hB 14 dJ0_coder_7d493_10 (by decide) ?_
    exact gx_bret (pc := 14) hC dJ0_coder_7d493_14 (Nat.zero_le _) (Nat.zero_le _) (by decide +kernel) (⟨rfl, rfl⟩)
theorem pJ0_length_8abf5 : (parseMethodDescriptor yJ0_length_8abf5.desc).map (fun d => d.parameters.length) = some 0 := by decide +kernel
theorem mJ0_length_8abf5 : gx_M yJ0_length_8abf5 cJ0_length_8abf5 1 (some .int) := ⟨tb_616, tb_617, tb_76, tb_618, by decide, by decide⟩
set_option maxHeartbeats 4000000 in
set_option maxRecDepth 100000 in
theorem c_J0_length_8abf5 (l : Launch) (K : gx_K) (i : Nat) (h0 : i < 9) : gx_Ctr l K yJ0_length_8abf5 cJ0_length_8abf5 1 (some .int) (rmm 2 20) [.ref (K.2.2.1 i)] [] (gx_D (some (.int (nI (gx_len.getD i 0)))) []) := by
  refine gx_of (by decide) (Nat.le_of_ble_eq_true rfl) (fun G hC => ?_)
  have hB := hC.b
  refine gx_lv (lv' := [(0, .ref (K.2.2.1 i))]) rfl ?_
  refine gx_aload_n (pc := 0) hB dJ0_length_8abf5_0 0 rfl ?_
  refine gx_strV (pc := 1) hB i h0 dJ0_length_8abf5_1 tb_1029 ?_
  refine gx_strL (pc := 4) hB i h0 dJ0_length_8abf5_4 ?_
  refine gx_aload_n (pc := 5) hB dJ0_length_8abf5_5 0 rfl ?_
  refine gx_dT (pc := 6) (r := 0) hB i h0 (c_J0_coder_7d493 l K i h0) mJ0_coder_7d493 dJ0_length_8abf5_6 tb_619 pJ0_coder_7d493 rfl ⟨Nat.le_of_ble_eq_true rfl, Nat.le_of_ble_eq_true rfl⟩ ⟨rfl, rfl⟩ ⟨Nat.zero_le _, Nat.zero_le _⟩ rfl (Nat.le_of_ble_eq_true rfl) [] rfl (by decide) ?_
  refine gx_ishr (pc := 9) hB dJ0_length_8abf5_9 ?_
  refine gx_top (show (nI (gx_len.getD i 0)) >>> (0 &&& 31) = nI (gx_len.getD i 0) from sb_shr0 _) ?_
  exact gx_iret (pc := 10) hC dJ0_length_8abf5_10 (Nat.zero_le _) (Nat.zero_le _) (⟨rfl, rfl⟩)
theorem pJ0_isLatin1_aae02 : (parseMethodDescriptor yJ0_isLatin1_aae02.desc).map (fun d => d.parameters.length) = some 0 := by decide +kernel
theorem mJ0_isLatin1_aae02 : gx_M yJ0_isLatin1_aae02 cJ0_isLatin1_aae02 1 (some .boolean) := ⟨tb_637, tb_638, tb_76, tb_639, by decide, by decide⟩
set_option maxHeartbeats 4000000 in
set_option maxRecDepth 100000 in
theorem c_J0_isLatin1_aae02 (l : Launch) (K : gx_K) (i : Nat) (h0 : i < 9) : gx_Ctr l K yJ0_isLatin1_aae02 cJ0_isLatin1_aae02 1 (some .boolean) (rmm 1 0) [.ref (K.2.2.1 i)] [] (gx_D (some (.int (bI true))) []) := by
  refine gx_of (by decide) (Nat.le_of_ble_eq_true rfl) (fun G hC => ?_)
  have hB := hC.b
  refine gx_lv (lv' := [(0, .ref (K.2.2.1 i))]) rfl ?_
  refine gx_cs (pc := 0) hB dJ0_isLatin1_aae02_0 tb_623 ?_
  refine gx_if_eq (pc := 3) hB 17 dJ0_isLatin1_aae02_3 (by decide) (fun c_1 => ?_) (fun c_1 => ?_)
  · exact absurd c_1 (by decide)
  · refine gx_aload_n (pc := 6) hB dJ0_isLatin1_aae02_6 0 rfl ?_
    refine gx_strC (pc := 7) hB i h0 dJ0_isLatin1_aae02_7 tb_1030 ?_
    refine gx_if_ne (pc := 10) hB 17 dJ0_isLatin1_aae02_10 (by decide) (fun c_2 => ?_) (fun c_2 => ?_)
    · exact absurd c_2 (by decide)
    · refine gx_iconst (pc := 13) hB dJ0_isLatin1_aae02_13 1 (by decide) ?_
      refine gx_goto (pc := 14) hB 18 dJ0_isLatin1_aae02_14 (by decide) ?_
      have e1 : bI true = 1 := by simp [bI]
      exact gx_zret (pc := 18) hC dJ0_isLatin1_aae02_18 (Nat.zero_le _) (Nat.zero_le _) (by decide) (⟨by rw [e1], rfl⟩)
theorem pJ3_checkIndex_8e157 : (parseMethodDescriptor yJ3_checkIndex_8e157.desc).map (fun d => d.parameters.length) = some 3 := by decide +kernel
theorem mJ3_checkIndex_8e157 : gx_MS yJ3_checkIndex_8e157 cJ3_checkIndex_8e157 3 (some .int) := ⟨tb_649, tb_78, tb_650, by decide, by decide⟩
set_option maxHeartbeats 4000000 in
set_option maxRecDepth 100000 in
theorem c_J3_checkIndex_8e157 (l : Launch) (K : gx_K) (j u r : Nat) (h0 : j < u) (h1 : u ≤ 6) : gx_Ctr l K yJ3_checkIndex_8e157 cJ3_checkIndex_8e157 3 (some .int) (rmm 1 0) [.int (nI j), .int (nI u), gx_fv r] [] (gx_D (some (.int (nI j))) []) := by
  cases r with
  | zero =>
    refine gx_of (by decide) (Nat.le_of_ble_eq_true rfl) (fun G hC => ?_)
    have hB := hC.b
    refine gx_lv (lv' := [(0, .int (nI j)), (1, .int (nI u)), (2, .null)]) rfl ?_
    refine gx_iload_n (pc := 0) hB dJ3_checkIndex_8e157_0 0 rfl ?_
    refine gx_if_lt (pc := 1) hB 9 dJ3_checkIndex_8e157_1 (by decide) (fun c_1 => ?_) (fun c_1 => ?_)
    · exact absurd c_1 (nI_pos (by omega))
    · refine gx_iload_n (pc := 4) hB dJ3_checkIndex_8e157_4 0 rfl ?_
      refine gx_iload_n (pc := 5) hB dJ3_checkIndex_8e157_5 1 rfl ?_
      refine gx_icmp_lt (pc := 6) hB 16 dJ3_checkIndex_8e157_6 (by decide) (fun c_2 => ?_) (fun c_2 => ?_)
      · refine gx_iload_n (pc := 16) hB dJ3_checkIndex_8e157_16 0 rfl ?_
        exact gx_iret (pc := 17) hC dJ3_checkIndex_8e157_17 (Nat.zero_le _) (Nat.zero_le _) (⟨rfl, rfl⟩)
      · exact absurd (nI_lt h0 (by omega)) c_2
  | succ r =>
    refine gx_of (by decide) (Nat.le_of_ble_eq_true rfl) (fun G hC => ?_)
    have hB := hC.b
    refine gx_lv (lv' := [(0, .int (nI j)), (1, .int (nI u)), (2, .ref r)]) rfl ?_
    refine gx_iload_n (pc := 0) hB dJ3_checkIndex_8e157_0 0 rfl ?_
    refine gx_if_lt (pc := 1) hB 9 dJ3_checkIndex_8e157_1 (by decide) (fun c_1 => ?_) (fun c_1 => ?_)
    · exact absurd c_1 (nI_pos (by omega))
    · refine gx_iload_n (pc := 4) hB dJ3_checkIndex_8e157_4 0 rfl ?_
      refine gx_iload_n (pc := 5) hB dJ3_checkIndex_8e157_5 1 rfl ?_
      refine gx_icmp_lt (pc := 6) hB 16 dJ3_checkIndex_8e157_6 (by decide) (fun c_2 => ?_) (fun c_2 => ?_)
      · refine gx_iload_n (pc := 16) hB dJ3_checkIndex_8e157_16 0 rfl ?_
        exact gx_iret (pc := 17) hC dJ3_checkIndex_8e157_17 (Nat.zero_le _) (Nat.zero_le _) (⟨rfl, rfl⟩)
      · exact absurd (nI_lt h0 (by omega)) c_2
theorem pJ0_checkIndex_df160 : (parseMethodDescriptor yJ0_checkIndex_df160.desc).map (fun d => d.parameters.length) = some 2 := by decide +kernel
theorem mJ0_checkIndex_df160 : gx_MS yJ0_checkIndex_df160 cJ0_checkIndex_df160 2 none := ⟨tb_644, tb_76, tb_645, by decide, by decide⟩
set_option maxHeartbeats 4000000 in
set_option maxRecDepth 100000 in
theorem c_J0_checkIndex_df160 (l : Launch) (K : gx_K) (j u : Nat) (h0 : j < u) (h1 : u ≤ 6) : gx_Ctr l K yJ0_checkIndex_df160 cJ0_checkIndex_df160 2 none (rmm 2 22) [.int (nI j), .int (nI u)] [] (gx_D none []) := by
  refine gx_of (by decide) (Nat.le_of_ble_eq_true rfl) (fun G hC => ?_)
  have hB := hC.b
  refine gx_lv (lv' := [(0, .int (nI j)), (1, .int (nI u))]) rfl ?_
  refine gx_iload_n (pc := 0) hB dJ0_checkIndex_df160_0 0 rfl ?_
  refine gx_iload_n (pc := 1) hB dJ0_checkIndex_df160_1 1 rfl ?_
  refine gx_sf (pc := 2) hB dJ0_checkIndex_df160_2 tb_646 ?_
  refine gx_dSi (pc := 5) (r := nI j) (wr := []) hB (c_J3_checkIndex_8e157 l K j u K.2.2.2.2 (by first | assumption | omega | decide) (by first | assumption | omega | decide)) mJ3_checkIndex_8e157 dJ0_checkIndex_df160_5 tb_648 pJ3_checkIndex_8e157 ⟨Nat.le_of_ble_eq_true rfl, Nat.le_of_ble_eq_true rfl⟩ ⟨rfl, rfl⟩ ⟨Nat.zero_le _, Nat.zero_le _⟩ rfl (Nat.le_of_ble_eq_true rfl) [] [] rfl rfl (by decide) (by decide) (by decide) [] (by decide) ([]) rfl ?_
  refine gx_pop (pc := 8) hB dJ0_checkIndex_df160_8 rfl ?_
  exact gx_vret (pc := 9) hC dJ0_checkIndex_df160_9 (Nat.zero_le _) (Nat.zero_le _) (⟨rfl, rfl⟩)
theorem pJ1_charAt_3b067 : (parseMethodDescriptor yJ1_charAt_3b067.desc).map (fun d => d.parameters.length) = some 2 := by decide +kernel
theorem mJ1_charAt_3b067 : gx_MS yJ1_charAt_3b067 cJ1_charAt_3b067 2 (some .char) := ⟨tb_641, tb_77, tb_642, by decide, by decide⟩
set_option maxHeartbeats 4000000 in
set_option maxRecDepth 100000 in
theorem c_J1_charAt_3b067 (l : Launch) (K : gx_K) (i j : Nat) (h0 : i < 9) (h1 : j < gx_len.getD i 0) : gx_Ctr l K yJ1_charAt_3b067 cJ1_charAt_3b067 2 (some .char) (rmm 3 43) [.ref (K.2.2.2.1 i), .int (nI j)] [] (gx_D (some (.int ((gx_byt.getD i []).getD j 0))) []) := by
  refine gx_of (by decide) (Nat.le_of_ble_eq_true rfl) (fun G hC => ?_)
  have hB := hC.b
  refine gx_lv (lv' := [(0, .ref (K.2.2.2.1 i)), (1, .int (nI j))]) rfl ?_
  have hl6 := (gx_len_le i h0).1
  refine gx_iload_n (pc := 0) hB dJ1_charAt_3b067_0 1 rfl ?_
  refine gx_aload_n (pc := 1) hB dJ1_charAt_3b067_1 0 rfl ?_
  refine gx_strL (pc := 2) hB i h0 dJ1_charAt_3b067_2 ?_
  refine gx_dSv (pc := 3) (wr := []) hB (c_J0_checkIndex_df160 l K j (gx_len.getD i 0) h1 (gx_len_le i h0).1) mJ0_checkIndex_df160 dJ1_charAt_3b067_3 tb_643 pJ0_checkIndex_df160 ⟨Nat.le_of_ble_eq_true rfl, Nat.le_of_ble_eq_true rfl⟩ ⟨rfl, rfl⟩ ⟨Nat.zero_le _, Nat.zero_le _⟩ rfl (Nat.le_of_ble_eq_true rfl) [] [] rfl rfl (by decide) (by decide) (by decide) [] (by decide) ([]) rfl ?_
  refine gx_aload_n (pc := 6) hB dJ1_charAt_3b067_6 0 rfl ?_
  refine gx_iload_n (pc := 7) hB dJ1_charAt_3b067_7 1 rfl ?_
  refine gx_strB (pc := 8) hB i j h0 h1 (by omega) dJ1_charAt_3b067_8 ?_
  refine gx_sipush (pc := 9) hB dJ1_charAt_3b067_9 255 (by decide) ?_
  refine gx_iand (pc := 12) hB dJ1_charAt_3b067_12 ?_
  refine gx_i2c (pc := 13) hB dJ1_charAt_3b067_13 _ rfl ?_
  refine gx_top (show ((((gx_byt.getD i []).getD j 0) &&& 255).toUInt32 % 65536).toInt32 = (gx_byt.getD i []).getD j 0 from gx_chars i h0 j h1) ?_
  exact gx_cret (pc := 14) hC dJ1_charAt_3b067_14 (Nat.zero_le _) (Nat.zero_le _) (gx_charN i h0 j h1) (⟨rfl, rfl⟩)
theorem pJ0_charAt_5068e : (parseMethodDescriptor yJ0_charAt_5068e.desc).map (fun d => d.parameters.length) = some 1 := by decide +kernel
theorem mJ0_charAt_5068e : gx_M yJ0_charAt_5068e cJ0_charAt_5068e 2 (some .char) := ⟨tb_633, tb_634, tb_76, tb_635, by decide, by decide⟩
set_option maxHeartbeats 4000000 in
set_option maxRecDepth 100000 in
theorem c_J0_charAt_5068e (l : Launch) (K : gx_K) (i j : Nat) (h0 : i < 9) (h1 : j < gx_len.getD i 0) : gx_Ctr l K yJ0_charAt_5068e cJ0_charAt_5068e 2 (some .char) (rmm 4 64) [.ref (K.2.2.1 i), .int (nI j)] [] (gx_D (some (.int ((gx_byt.getD i []).getD j 0))) []) := by
  refine gx_of (by decide) (Nat.le_of_ble_eq_true rfl) (fun G hC => ?_)
  have hB := hC.b
  refine gx_lv (lv' := [(0, .ref (K.2.2.1 i)), (1, .int (nI j))]) rfl ?_
  refine gx_aload_n (pc := 0) hB dJ0_charAt_5068e_0 0 rfl ?_
  refine gx_dT (pc := 1) (r := bI true) hB i h0 (c_J0_isLatin1_aae02 l K i h0) mJ0_isLatin1_aae02 dJ0_charAt_5068e_1 tb_636 pJ0_isLatin1_aae02 rfl ⟨Nat.le_of_ble_eq_true rfl, Nat.le_of_ble_eq_true rfl⟩ ⟨rfl, rfl⟩ ⟨Nat.zero_le _, Nat.zero_le _⟩ rfl (Nat.le_of_ble_eq_true rfl) [] rfl (by decide) ?_
  refine gx_if_eq_b (pc := 4) hB 16 dJ0_charAt_5068e_4 (by decide) (fun c_1 => ?_) (fun c_1 => ?_)
  · exact absurd c_1 (by decide)
  · refine gx_aload_n (pc := 7) hB dJ0_charAt_5068e_7 0 rfl ?_
    refine gx_strV (pc := 8) hB i h0 dJ0_charAt_5068e_8 tb_1029 ?_
    refine gx_iload_n (pc := 11) hB dJ0_charAt_5068e_11 1 rfl ?_
    refine gx_dSi (pc := 12) (r := (gx_byt.getD i []).getD j 0) (wr := []) hB (c_J1_charAt_3b067 l K i j (by first | assumption | omega | decide) (by first | assumption | omega | decide)) mJ1_charAt_3b067 dJ0_charAt_5068e_12 tb_640 pJ1_charAt_3b067 ⟨Nat.le_of_ble_eq_true rfl, Nat.le_of_ble_eq_true rfl⟩ ⟨rfl, rfl⟩ ⟨Nat.zero_le _, Nat.zero_le _⟩ rfl (Nat.le_of_ble_eq_true rfl) [] [] rfl rfl (by decide) (by decide) (by decide) [] (by decide) ([]) rfl ?_
    exact gx_cret (pc := 15) hC dJ0_charAt_5068e_15 (Nat.zero_le _) (Nat.zero_le _) (gx_charN i h0 j h1) (⟨rfl, rfl⟩)
