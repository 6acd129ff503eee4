theorem pX2_size : (parseMethodDescriptor yX2_size.desc).map (fun d => d.parameters.length) = some 0 := by decide +kernel
theorem mX2_size : gx_M yX2_size cX2_size 1 (some .int) := ⟨tb_505, tb_506, tb_72, tb_507, by decide, by decide⟩
set_option maxHeartbeats 4000000 in
set_option maxRecDepth 100000 in
theorem c_X2_size (l : Launch) (K : gx_K) (v sg nu : Nat) (X : Nat → Int32) (ln : Nat) (N : Nat → Int32) (rd pl : Nat) (rs ca : Int32)  : gx_Ctr l K yX2_size cX2_size 1 (some .int) (rmm 1 0) [.ref v] (wSc K v sg nu X ln N rd pl rs ca) (gx_D (some (.int (nI ln))) (wSc K v sg nu X ln N rd pl rs ca)) := by
  refine gx_of (by decide) (Nat.le_of_ble_eq_true rfl) (fun G hC => ?_)
  have hB := hC.b
  refine gx_lv (lv' := [(0, .ref v)]) rfl ?_
  refine gx_aload_n (pc := 0) hB dX2_size_0 0 rfl ?_
  refine gx_get (pc := 1) hB dX2_size_1 inX2 rfl 0 rfl 1 (by decide) tb_167 rfl rfl ?_
  exact gx_iret (pc := 4) hC dX2_size_4 (Nat.zero_le _) (Nat.zero_le _) (⟨rfl, rfl⟩)
theorem pX2_append : (parseMethodDescriptor yX2_append.desc).map (fun d => d.parameters.length) = some 1 := by decide +kernel
theorem mX2_append : gx_M yX2_append cX2_append 2 (some .int) := ⟨tb_570, tb_571, tb_72, tb_572, by decide, by decide⟩
set_option maxHeartbeats 4000000 in
set_option maxRecDepth 100000 in
theorem c_X2_append (l : Launch) (K : gx_K) (v sg nu : Nat) (X : Nat → Int32) (ln : Nat) (N : Nat → Int32) (rd pl : Nat) (rs ca : Int32) (x : Int32) (h0 : ln ≤ 80) : gx_Ctr l K yX2_append cX2_append 2 (some .int) (rmm 2 22) [.ref v, .int x] (wSc K v sg nu X ln N rd pl rs ca) (gx_D (some (.int (if bIn x 32 126 then (if ln = 80 then (-3) else nI (ln + 1)) else (-1)))) (wSc K v sg nu (if bIn x 32 126 then (if ln = 80 then X else upd X ln x) else X) (if bIn x 32 126 then (if ln = 80 then ln else ln + 1) else ln) N rd pl rs ca)) := by
  refine gx_of (by decide) (Nat.le_of_ble_eq_true rfl) (fun G hC => ?_)
  have hB := hC.b
  refine gx_lv (lv' := [(0, .ref v), (1, .int x)]) rfl ?_
  refine gx_iload_n (pc := 0) hB dX2_append_0 1 rfl ?_
  refine gx_bipush (pc := 1) hB dX2_append_1 32 (by decide) ?_
  refine gx_bipush (pc := 3) hB dX2_append_3 126 (by decide) ?_
  refine gx_w2 (pc := 5) (r := bI (bIn x 32 126)) hB (c_X4_within l K x 32 126 ) mX4_within dX2_append_5 ⟨Nat.le_of_ble_eq_true rfl, Nat.le_of_ble_eq_true rfl⟩ ⟨rfl, rfl⟩ ⟨Nat.zero_le _, Nat.zero_le _⟩ (Nat.le_of_ble_eq_true rfl) [0, 1, 2] rfl (by decide) ?_
  refine gx_if_ne_b (pc := 8) hB 13 dX2_append_8 (by decide) (fun c_1 => ?_) (fun c_1 => ?_)
  · refine gx_aload_n (pc := 13) hB dX2_append_13 0 rfl ?_
    refine gx_get (pc := 14) hB dX2_append_14 inX2 rfl 0 rfl 1 (by decide) tb_167 rfl rfl ?_
    refine gx_bipush (pc := 17) hB dX2_append_17 80 (by decide) ?_
    refine gx_icmp_lt (pc := 19) hB 25 dX2_append_19 (by decide) (fun c_2 => ?_) (fun c_2 => ?_)
    · have s_l8 : ln < 80 := by rcases Nat.lt_or_ge ln 80 with q | q; exact q; exact absurd c_2 (nI_nlt q (by omega))
      have s_l : (ln = 80) = False := eq_false (by omega)
      refine gx_aload_n (pc := 25) hB dX2_append_25 0 rfl ?_
      refine gx_get (pc := 26) hB dX2_append_26 inX2 rfl 0 rfl 0 (by decide) tb_166 rfl rfl ?_
      refine gx_aload_n (pc := 29) hB dX2_append_29 0 rfl ?_
      refine gx_get (pc := 30) hB dX2_append_30 inX2 rfl 0 rfl 1 (by decide) tb_167 rfl rfl ?_
      refine gx_iload_n (pc := 33) hB dX2_append_33 1 rfl ?_
      refine gx_i2c (pc := 34) hB dX2_append_34 _ rfl ?_
      refine gx_top (show ((x).toUInt32 % 65536).toInt32 = x from (c_id c_1).1) ?_
      refine gx_cast (pc := 35) hB dX2_append_35 1 0 rfl rfl ln rfl (by omega) (by decide) (c_id c_1).2.2 (wSc K v sg nu (upd X ln x) ln N rd pl rs ca) rfl ?_
      refine gx_aload_n (pc := 36) hB dX2_append_36 0 rfl ?_
      refine gx_dup (pc := 37) hB dX2_append_37 rfl ?_
      refine gx_get (pc := 38) hB dX2_append_38 inX2 rfl 0 rfl 1 (by decide) tb_167 rfl rfl ?_
      refine gx_iconst (pc := 41) hB dX2_append_41 1 (by decide) ?_
      refine gx_iadd (pc := 42) hB dX2_append_42 ?_
      refine gx_top (show nI ln + 1 = nI (ln + 1) from nI_add ln 1) ?_
      refine gx_put (pc := 43) hB dX2_append_43 inX2 rfl tyX2 tyX2_ok nmX2 0 rfl 1 (by decide) tb_167 rfl rfl rfl rfl (Nat.le_of_ble_eq_true rfl) (wSc K v sg nu (upd X ln x) (ln + 1) N rd pl rs ca) rfl ?_
      refine gx_aload_n (pc := 46) hB dX2_append_46 0 rfl ?_
      refine gx_get (pc := 47) hB dX2_append_47 inX2 rfl 0 rfl 1 (by decide) tb_167 rfl rfl ?_
      have e1 : (if bIn x 32 126 then (if ln = 80 then (-3) else nI (ln + 1)) else (-1)) = (nI (ln + 1)) := by simp [c_1, c_2, eq_false (Int32.not_le.mpr c_2), s_l]
      have f0 : (if bIn x 32 126 then (if ln = 80 then X else upd X ln x) else X) = upd X ln x := by simp [c_1, c_2, eq_false (Int32.not_le.mpr c_2), s_l]
      have f1 : (if bIn x 32 126 then (if ln = 80 then ln else ln + 1) else ln) = (ln + 1) := by simp [c_1, c_2, eq_false (Int32.not_le.mpr c_2), s_l]
      exact gx_iret (pc := 50) hC dX2_append_50 (Nat.zero_le _) (Nat.zero_le _) (⟨by rw [e1], by rw [f0, f1]⟩)
    · have s_l : ln = 80 := by rcases Nat.lt_or_ge ln 80 with q | q; exact absurd (nI_lt q (by decide)) c_2; omega
      refine gx_bipush (pc := 22) hB dX2_append_22 (-3) (by decide) ?_
      have e1 : (if bIn x 32 126 then (if ln = 80 then (-3) else nI (ln + 1)) else (-1)) = (-3) := by simp [c_1, Int32.not_lt.mp c_2, eq_false c_2, s_l]
      have f0 : (if bIn x 32 126 then (if ln = 80 then X else upd X ln x) else X) = X := by simp [c_1, Int32.not_lt.mp c_2, eq_false c_2, s_l]
      have f1 : (if bIn x 32 126 then (if ln = 80 then ln else ln + 1) else ln) = ln := by simp [c_1, Int32.not_lt.mp c_2, eq_false c_2, s_l]
      exact gx_iret (pc := 24) hC dX2_append_24 (Nat.zero_le _) (Nat.zero_le _) (⟨by rw [e1], by rw [f0, f1]⟩)
  · refine gx_iconst (pc := 11) hB dX2_append_11 (-1) (by decide) ?_
    have e1 : (if bIn x 32 126 then (if ln = 80 then (-3) else nI (ln + 1)) else (-1)) = (-1) := by simp [c_1]
    have f0 : (if bIn x 32 126 then (if ln = 80 then X else upd X ln x) else X) = X := by simp [c_1]
    have f1 : (if bIn x 32 126 then (if ln = 80 then ln else ln + 1) else ln) = ln := by simp [c_1]
    exact gx_iret (pc := 12) hC dX2_append_12 (Nat.zero_le _) (Nat.zero_le _) (⟨by rw [e1], by rw [f0, f1]⟩)
theorem pX2_empty : (parseMethodDescriptor yX2_empty.desc).map (fun d => d.parameters.length) = some 0 := by decide +kernel
theorem mX2_empty : gx_M yX2_empty cX2_empty 2 (some .int) := ⟨tb_579, tb_580, tb_72, tb_581, by decide, by decide⟩
set_option maxHeartbeats 4000000 in
set_option maxRecDepth 100000 in
theorem c_X2_empty (l : Launch) (K : gx_K) (v sg nu : Nat) (X : Nat → Int32) (ln : Nat) (N : Nat → Int32) (rd pl : Nat) (rs ca : Int32)  : gx_Ctr l K yX2_empty cX2_empty 2 (some .int) (rmm 1 0) [.ref v] (wSc K v sg nu X ln N rd pl rs ca) (gx_D (some (.int (nI ln))) (wSc K v sg nu X 0 N rd pl rs ca)) := by
  refine gx_of (by decide) (Nat.le_of_ble_eq_true rfl) (fun G hC => ?_)
  have hB := hC.b
  refine gx_lv (lv' := [(0, .ref v)]) rfl ?_
  refine gx_aload_n (pc := 0) hB dX2_empty_0 0 rfl ?_
  refine gx_get (pc := 1) hB dX2_empty_1 inX2 rfl 0 rfl 1 (by decide) tb_167 rfl rfl ?_
  refine gx_istore_n (pc := 4) hB dX2_empty_4 (by decide) [(1, .int (nI ln)), (0, .ref v)] rfl ?_
  refine gx_aload_n (pc := 5) hB dX2_empty_5 1 rfl ?_
  refine gx_iconst (pc := 6) hB dX2_empty_6 0 (by decide) ?_
  refine gx_put (pc := 7) hB dX2_empty_7 inX2 rfl tyX2 tyX2_ok nmX2 0 rfl 1 (by decide) tb_167 rfl rfl rfl rfl (Nat.le_of_ble_eq_true rfl) (wSc K v sg nu X 0 N rd pl rs ca) rfl ?_
  refine gx_iload_n (pc := 10) hB dX2_empty_10 0 rfl ?_
  exact gx_iret (pc := 11) hC dX2_empty_11 (Nat.zero_le _) (Nat.zero_le _) (⟨rfl, rfl⟩)
theorem pX2_fail : (parseMethodDescriptor yX2_fail.desc).map (fun d => d.parameters.length) = some 2 := by decide +kernel
theorem mX2_fail : gx_M yX2_fail cX2_fail 3 (some .int) := ⟨tb_683, tb_32, tb_72, tb_684, by decide, by decide⟩
set_option maxHeartbeats 4000000 in
set_option maxRecDepth 100000 in
theorem c_X2_fail (l : Launch) (K : gx_K) (v sg nu : Nat) (X : Nat → Int32) (ln : Nat) (N : Nat → Int32) (rd pl : Nat) (rs ca : Int32) (x y : Int32)  : gx_Ctr l K yX2_fail cX2_fail 3 (some .int) (rmm 1 0) [.ref v, .int x, .int y] (wSc K v sg nu X ln N rd pl rs ca) (gx_D (some (.int (-1))) (wSc K v sg nu X ln N rd pl x y)) := by
  refine gx_of (by decide) (Nat.le_of_ble_eq_true rfl) (fun G hC => ?_)
  have hB := hC.b
  refine gx_lv (lv' := [(0, .ref v), (1, .int x), (2, .int y)]) rfl ?_
  refine gx_aload_n (pc := 0) hB dX2_fail_0 0 rfl ?_
  refine gx_iload_n (pc := 1) hB dX2_fail_1 1 rfl ?_
  refine gx_put (pc := 2) hB dX2_fail_2 inX2 rfl tyX2 tyX2_ok nmX2 0 rfl 5 (by decide) tb_171 rfl rfl rfl rfl (Nat.le_of_ble_eq_true rfl) (wSc K v sg nu X ln N rd pl x ca) rfl ?_
  refine gx_aload_n (pc := 5) hB dX2_fail_5 0 rfl ?_
  refine gx_iload_n (pc := 6) hB dX2_fail_6 2 rfl ?_
  refine gx_put (pc := 7) hB dX2_fail_7 inX2 rfl tyX2 tyX2_ok nmX2 0 rfl 6 (by decide) tb_172 rfl rfl rfl rfl (Nat.le_of_ble_eq_true rfl) (wSc K v sg nu X ln N rd pl x y) rfl ?_
  refine gx_iconst (pc := 10) hB dX2_fail_10 (-1) (by decide) ?_
  exact gx_iret (pc := 11) hC dX2_fail_11 (Nat.zero_le _) (Nat.zero_le _) (⟨rfl, rfl⟩)
theorem pX2_tellFault : (parseMethodDescriptor yX2_tellFault.desc).map (fun d => d.parameters.length) = some 1 := by decide +kernel
theorem mX2_tellFault : gx_M yX2_tellFault cX2_tellFault 2 (some .int) := ⟨tb_699, tb_700, tb_72, tb_701, by decide, by decide⟩
set_option maxHeartbeats 4000000 in
set_option maxRecDepth 100000 in
theorem c_X2_tellFault (l : Launch) (K : gx_K) (v sg nu : Nat) (X : Nat → Int32) (ln : Nat) (N : Nat → Int32) (rd pl : Nat) (rs ca : Int32) (x : Int32)  : gx_Ctr l K yX2_tellFault cX2_tellFault 2 (some .int) (rmm 1 0) [.ref v, .int x] (wSc K v sg nu X ln N rd pl rs ca) (gx_D (some (.int (if rs = 0 then (-4) else if x = 0 then nI pl else if x = 1 then rs else ca))) (wSc K v sg nu X ln N rd pl rs ca)) := by
  refine gx_of (by decide) (Nat.le_of_ble_eq_true rfl) (fun G hC => ?_)
  have hB := hC.b
  refine gx_lv (lv' := [(0, .ref v), (1, .int x)]) rfl ?_
  refine gx_aload_n (pc := 0) hB dX2_tellFault_0 0 rfl ?_
  refine gx_get (pc := 1) hB dX2_tellFault_1 inX2 rfl 0 rfl 5 (by decide) tb_171 rfl rfl ?_
  refine gx_if_ne (pc := 4) hB 10 dX2_tellFault_4 (by decide) (fun c_1 => ?_) (fun c_1 => ?_)
  · refine gx_iload_n (pc := 10) hB dX2_tellFault_10 1 rfl ?_
    by_cases c_2 : x = 0
    · refine gx_top c_2 ?_
      refine gx_lookup (pc := 11) hB 36 dX2_tellFault_11 (by decide) (off := 25) (by decide) (by decide) ?_
      have s_2 := c_2
      refine gx_aload_n (pc := 36) hB dX2_tellFault_36 0 rfl ?_
      refine gx_get (pc := 37) hB dX2_tellFault_37 inX2 rfl 0 rfl 4 (by decide) tb_170 rfl rfl ?_
      have e1 : (if rs = 0 then (-4) else if x = 0 then nI pl else if x = 1 then rs else ca) = nI pl := by simp [eq_false c_1, s_2]
      exact gx_iret (pc := 40) hC dX2_tellFault_40 (Nat.zero_le _) (Nat.zero_le _) (⟨by rw [e1], rfl⟩)
    by_cases c_3 : x = 1
    · refine gx_top c_3 ?_
      refine gx_lookup (pc := 11) hB 41 dX2_tellFault_11 (by decide) (off := 30) (by decide) (by decide) ?_
      have s_3 := c_3
      refine gx_aload_n (pc := 41) hB dX2_tellFault_41 0 rfl ?_
      refine gx_get (pc := 42) hB dX2_tellFault_42 inX2 rfl 0 rfl 5 (by decide) tb_171 rfl rfl ?_
      have e1 : (if rs = 0 then (-4) else if x = 0 then nI pl else if x = 1 then rs else ca) = rs := by simp [eq_false c_1, eq_false c_2, s_3]
      exact gx_iret (pc := 45) hC dX2_tellFault_45 (Nat.zero_le _) (Nat.zero_le _) (⟨by rw [e1], rfl⟩)
    have zc_2 : ¬ 0 = (x).toInt := fun q => c_2 (Int32.toInt_inj.mp q.symm)
    have zc_3 : ¬ 1 = (x).toInt := fun q => c_3 (Int32.toInt_inj.mp q.symm)
    refine gx_lookup (pc := 11) hB 46 dX2_tellFault_11 (by decide) (off := 35) (by simp [Op.lookupswitch.offset, zc_2, zc_3]) (by decide) ?_
    refine gx_aload_n (pc := 46) hB dX2_tellFault_46 0 rfl ?_
    refine gx_get (pc := 47) hB dX2_tellFault_47 inX2 rfl 0 rfl 6 (by decide) tb_172 rfl rfl ?_
    have e1 : (if rs = 0 then (-4) else if x = 0 then nI pl else if x = 1 then rs else ca) = ca := by simp [eq_false c_1, eq_false c_2, eq_false c_3]
    exact gx_iret (pc := 50) hC dX2_tellFault_50 (Nat.zero_le _) (Nat.zero_le _) (⟨by rw [e1], rfl⟩)
  · refine gx_bipush (pc := 7) hB dX2_tellFault_7 (-4) (by decide) ?_
    have e1 : (if rs = 0 then (-4) else if x = 0 then nI pl else if x = 1 then rs else ca) = (-4) := by simp [eq_true c_1]
    exact gx_iret (pc := 9) hC dX2_tellFault_9 (Nat.zero_le _) (Nat.zero_le _) (⟨by rw [e1], rfl⟩)
theorem pX2_signAt : (parseMethodDescriptor yX2_signAt.desc).map (fun d => d.parameters.length) = some 1 := by decide +kernel
theorem mX2_signAt : gx_M yX2_signAt cX2_signAt 2 (some .char) := ⟨tb_627, tb_29, tb_72, tb_628, by decide, by decide⟩
set_option maxHeartbeats 4000000 in
set_option maxRecDepth 100000 in
theorem c_X2_signAt (l : Launch) (K : gx_K) (v sg nu : Nat) (X : Nat → Int32) (ln : Nat) (N : Nat → Int32) (rd pl : Nat) (rs ca : Int32) (k : Nat) (h0 : ln ≤ 80) (h1 : k < 2 ^ 30) (h2 : chOk X) : gx_Ctr l K yX2_signAt cX2_signAt 2 (some .char) (rmm 2 22) [.ref v, .int (nI k)] (wSc K v sg nu X ln N rd pl rs ca) (gx_D (some (.int (sgn X ln k))) (wSc K v sg nu X ln N rd pl rs ca)) := by
  refine gx_of (by decide) (Nat.le_of_ble_eq_true rfl) (fun G hC => ?_)
  have hB := hC.b
  refine gx_lv (lv' := [(0, .ref v), (1, .int (nI k))]) rfl ?_
  refine gx_iload_n (pc := 0) hB dX2_signAt_0 1 rfl ?_
  refine gx_iconst (pc := 1) hB dX2_signAt_1 0 (by decide) ?_
  refine gx_aload_n (pc := 2) hB dX2_signAt_2 0 rfl ?_
  refine gx_get (pc := 3) hB dX2_signAt_3 inX2 rfl 0 rfl 1 (by decide) tb_167 rfl rfl ?_
  refine gx_bipush (pc := 6) hB dX2_signAt_6 80 (by decide) ?_
  refine gx_min (pc := 8) hB dX2_signAt_8 tb_629 tb_630 tb_75 tb_631 (Nat.le_of_ble_eq_true rfl) (Nat.le_of_ble_eq_true rfl) (Nat.zero_le _) (Nat.zero_le _) ?_
  refine gx_top (show (if 80 < nI ln then 80 else nI ln) = nI ln from if_neg (fun q => nI_nlt (a := 80) (b := ln) h0 (by decide) q)) ?_
  refine gx_iconst (pc := 11) hB dX2_signAt_11 1 (by decide) ?_
  refine gx_isub (pc := 12) hB dX2_signAt_12 ?_
  refine gx_w2 (pc := 13) (r := bI (bIn (nI k) 0 (nI ln - 1))) hB (c_X4_within l K (nI k) 0 (nI ln - 1) ) mX4_within dX2_signAt_13 ⟨Nat.le_of_ble_eq_true rfl, Nat.le_of_ble_eq_true rfl⟩ ⟨rfl, rfl⟩ ⟨Nat.zero_le _, Nat.zero_le _⟩ (Nat.le_of_ble_eq_true rfl) [0, 1, 2] rfl (by decide) ?_
  refine gx_if_eq_b (pc := 16) hB 28 dX2_signAt_16 (by decide) (fun c_1 => ?_) (fun c_1 => ?_)
  · have s_k : (k < ln) = False := eq_false (by have q := c_1; rw [sg_in h1 h0] at q; exact of_decide_eq_false q)
    refine gx_iconst (pc := 28) hB dX2_signAt_28 0 (by decide) ?_
    have e1 : sgn X ln k = 0 := by simp [sgn, c_1, s_k]
    exact gx_cret (pc := 29) hC dX2_signAt_29 (Nat.zero_le _) (Nat.zero_le _) (by first | exact h2 _ | decide +kernel) (⟨by rw [e1], rfl⟩)
  · have s_k : k < ln := by have q := c_1; rw [sg_in h1 h0] at q; exact of_decide_eq_true q
    refine gx_aload_n (pc := 19) hB dX2_signAt_19 0 rfl ?_
    refine gx_get (pc := 20) hB dX2_signAt_20 inX2 rfl 0 rfl 0 (by decide) tb_166 rfl rfl ?_
    refine gx_iload_n (pc := 23) hB dX2_signAt_23 1 rfl ?_
    refine gx_cald (pc := 24) hB dX2_signAt_24 1 0 rfl rfl k rfl (by omega) (by decide) ?_
    refine gx_goto (pc := 25) hB 29 dX2_signAt_25 (by decide) ?_
    have e1 : sgn X ln k = X k := by simp [sgn, c_1, s_k]
    exact gx_cret (pc := 29) hC dX2_signAt_29 (Nat.zero_le _) (Nat.zero_le _) (by first | exact h2 _ | decide +kernel) (⟨by rw [e1], rfl⟩)
theorem pX2_readSign : (parseMethodDescriptor yX2_readSign.desc).map (fun d => d.parameters.length) = some 1 := by decide +kernel
theorem mX2_readSign : gx_M yX2_readSign cX2_readSign 2 (some .boolean) := ⟨tb_675, tb_30, tb_72, tb_676, by decide, by decide⟩
set_option maxHeartbeats 4000000 in
set_option maxRecDepth 100000 in
theorem c_X2_readSign (l : Launch) (K : gx_K) (v sg nu : Nat) (X : Nat → Int32) (ln : Nat) (N : Nat → Int32) (rd pl : Nat) (rs ca : Int32) (x : Int32) (h0 : ln ≤ 80) (h1 : rd ≤ 200) (h2 : chOk X) : gx_Ctr l K yX2_readSign cX2_readSign 2 (some .boolean) (rmm 3 43) [.ref v, .int x] (wSc K v sg nu X ln N rd pl rs ca) (gx_D (some (.int (bI (decide (sgn X ln rd = x))))) (wSc K v sg nu X ln N (if sgn X ln rd = x then rd + 1 else rd) pl rs ca)) := by
  refine gx_of (by decide) (Nat.le_of_ble_eq_true rfl) (fun G hC => ?_)
  have hB := hC.b
  refine gx_lv (lv' := [(0, .ref v), (1, .int x)]) rfl ?_
  refine gx_aload_n (pc := 0) hB dX2_readSign_0 0 rfl ?_
  refine gx_aload_n (pc := 1) hB dX2_readSign_1 0 rfl ?_
  refine gx_get (pc := 2) hB dX2_readSign_2 inX2 rfl 0 rfl 3 (by decide) tb_169 rfl rfl ?_
  refine gx_dVi (pc := 5) (r := sgn X ln rd) (wr := []) hB (c_X2_signAt l K v sg nu X ln N rd pl rs ca rd (by first | assumption | omega | decide) (by first | assumption | omega | decide) (by first | assumption | omega | decide)) mX2_signAt dX2_readSign_5 tb_625 pX2_signAt ⟨Nat.le_of_ble_eq_true rfl, Nat.le_of_ble_eq_true rfl⟩ ⟨rfl, rfl⟩ ⟨Nat.zero_le _, Nat.zero_le _⟩ rfl (Nat.le_of_ble_eq_true rfl) [0, 1, 2] [] rfl rfl (by decide) (by decide) (by decide) rfl rfl [0, 1, 2] (by decide) (wSc K v sg nu X ln N rd pl rs ca) rfl ?_
  refine gx_iload_n (pc := 8) hB dX2_readSign_8 1 rfl ?_
  refine gx_icmp_eq (pc := 9) hB 14 dX2_readSign_9 (by decide) (fun c_1 => ?_) (fun c_1 => ?_)
  · refine gx_aload_n (pc := 14) hB dX2_readSign_14 0 rfl ?_
    refine gx_dup (pc := 15) hB dX2_readSign_15 rfl ?_
    refine gx_get (pc := 16) hB dX2_readSign_16 inX2 rfl 0 rfl 3 (by decide) tb_169 rfl rfl ?_
    refine gx_iconst (pc := 19) hB dX2_readSign_19 1 (by decide) ?_
    refine gx_iadd (pc := 20) hB dX2_readSign_20 ?_
    refine gx_top (show nI rd + 1 = nI (rd + 1) from nI_add rd 1) ?_
    refine gx_put (pc := 21) hB dX2_readSign_21 inX2 rfl tyX2 tyX2_ok nmX2 0 rfl 3 (by decide) tb_169 rfl rfl rfl rfl (Nat.le_of_ble_eq_true rfl) (wSc K v sg nu X ln N (rd + 1) pl rs ca) rfl ?_
    refine gx_iconst (pc := 24) hB dX2_readSign_24 1 (by decide) ?_
    have e1 : (bI (decide (sgn X ln rd = x))) = 1 := by simp [bI, eq_true c_1]
    have f0 : (if sgn X ln rd = x then rd + 1 else rd) = (rd + 1) := by simp [bI, eq_true c_1]
    exact gx_zret (pc := 25) hC dX2_readSign_25 (Nat.zero_le _) (Nat.zero_le _) (by decide) (⟨by rw [e1], by rw [f0]⟩)
  · refine gx_iconst (pc := 12) hB dX2_readSign_12 0 (by decide) ?_
    have e1 : (bI (decide (sgn X ln rd = x))) = 0 := by simp [bI, eq_false c_1]
    have f0 : (if sgn X ln rd = x then rd + 1 else rd) = rd := by simp [bI, eq_false c_1]
    exact gx_zret (pc := 13) hC dX2_readSign_13 (Nat.zero_le _) (Nat.zero_le _) (by decide) (⟨by rw [e1], by rw [f0]⟩)
theorem pX2_readNumber : (parseMethodDescriptor yX2_readNumber.desc).map (fun d => d.parameters.length) = some 1 := by decide +kernel
theorem mX2_readNumber : gx_M yX2_readNumber cX2_readNumber 4 (some .boolean) := ⟨tb_679, tb_31, tb_72, tb_680, by decide, by decide⟩
set_option maxHeartbeats 4000000 in
set_option maxRecDepth 100000 in
theorem c_X2_readNumber (l : Launch) (K : gx_K) (v sg nu : Nat) (X : Nat → Int32) (ln : Nat) (N : Nat → Int32) (rd pl : Nat) (rs ca : Int32) (x : Int32) (h0 : ln ≤ 80) (h1 : rd ≤ 200) (h2 : chOk X) : gx_Ctr l K yX2_readNumber cX2_readNumber 4 (some .boolean) (rmm 3 43) [.ref v, .int x] (wSc K v sg nu X ln N rd pl rs ca) (gx_D (some (.int (bI (!decide ((dxN X ln rd) = 0) && bIn x 0 3)))) (wSc K v sg nu X ln (if (!decide ((dxN X ln rd) = 0) && bIn x 0 3) then upd N x.toNatClampNeg (dxV X ln rd (dxN X ln rd)) else N) (rd + (dxN X ln rd)) pl rs ca)) := by
  refine gx_of (by decide) (Nat.le_of_ble_eq_true rfl) (fun G hC => ?_)
  have hB := hC.b
  refine gx_lv (lv' := [(0, .ref v), (1, .int x)]) rfl ?_
  refine gx_iconst (pc := 0) hB dX2_readNumber_0 0 (by decide) ?_
  refine gx_istore_n (pc := 1) hB dX2_readNumber_1 (by decide) [(2, .int 0), (0, .ref v), (1, .int x)] rfl ?_
  refine gx_iconst (pc := 2) hB dX2_readNumber_2 0 (by decide) ?_
  refine gx_istore_n (pc := 3) hB dX2_readNumber_3 (by decide) [(3, .int 0), (2, .int 0), (0, .ref v), (1, .int x)] rfl ?_
  have loop_4 : ∀ f i : Nat, i + f = 4 → dxC X ln rd f i = (dxN X ln rd) → G 0 0 (wSc K v sg nu X ln N (rd + i) pl rs ca) [(0, .ref v), (1, .int x), (2, .int (dxV X ln rd i)), (3, .int (nI i))] 4 [] := by
    intro f
    induction f with
    | zero =>
      intro i hi he
      refine gx_iload_n (pc := 4) hB dX2_readNumber_4 3 rfl ?_
      refine gx_iconst (pc := 5) hB dX2_readNumber_5 4 (by decide) ?_
      refine gx_icmp_ge (pc := 6) hB 60 dX2_readNumber_6 (by decide) (fun c_1 => ?_) (fun c_1 => ?_)
      · have s_ei : (dxN X ln rd) = i := he.symm
        refine gx_iload_n (pc := 60) hB dX2_readNumber_60 3 rfl ?_
        refine gx_if_eq (pc := 61) hB 73 dX2_readNumber_61 (by decide) (fun c_2 => ?_) (fun c_2 => ?_)
        · have s_i0 : i = 0 := (nI_eq (a := i) (b := 0) (by omega) (by decide)).mp c_2
          refine gx_iconst (pc := 73) hB dX2_readNumber_73 0 (by decide) ?_
          have e1 : (bI (!decide ((dxN X ln rd) = 0) && bIn x 0 3)) = 0 := by simp [bI, s_ei, s_i0]
          have f0 : (if (!decide ((dxN X ln rd) = 0) && bIn x 0 3) then upd N x.toNatClampNeg (dxV X ln rd (dxN X ln rd)) else N) = N := by simp [bI, s_ei, s_i0]
          have f1 : (rd + (dxN X ln rd)) = (rd + i) := by simp [bI, s_ei, s_i0]
          exact gx_zret (pc := 74) hC dX2_readNumber_74 (Nat.zero_le _) (Nat.zero_le _) (by decide) (⟨by rw [e1], by rw [f0, f1]⟩)
        · refine gx_iload_n (pc := 64) hB dX2_readNumber_64 1 rfl ?_
          refine gx_iconst (pc := 65) hB dX2_readNumber_65 0 (by decide) ?_
          refine gx_iconst (pc := 66) hB dX2_readNumber_66 3 (by decide) ?_
          refine gx_w2 (pc := 67) (r := bI (bIn x 0 3)) hB (c_X4_within l K x 0 3 ) mX4_within dX2_readNumber_67 ⟨Nat.le_of_ble_eq_true rfl, Nat.le_of_ble_eq_true rfl⟩ ⟨rfl, rfl⟩ ⟨Nat.zero_le _, Nat.zero_le _⟩ (Nat.le_of_ble_eq_true rfl) [0, 1, 2] rfl (by decide) ?_
          refine gx_if_ne_b (pc := 70) hB 75 dX2_readNumber_70 (by decide) (fun c_3 => ?_) (fun c_3 => ?_)
          · have s_i0 : (i = 0) = False := eq_false (fun q => c_2 (by rw [q]; rfl))
            refine gx_aload_n (pc := 75) hB dX2_readNumber_75 0 rfl ?_
            refine gx_get (pc := 76) hB dX2_readNumber_76 inX2 rfl 0 rfl 2 (by decide) tb_168 rfl rfl ?_
            refine gx_iload_n (pc := 79) hB dX2_readNumber_79 1 rfl ?_
            refine gx_iload_n (pc := 80) hB dX2_readNumber_80 2 rfl ?_
            obtain ⟨jx, hjx, ejx⟩ := bIn_of (n := 3) (by decide) c_3
            have s_x : x.toNatClampNeg = jx := by rw [ejx, nI_clamp (by omega)]
            refine gx_st (st' := [.int (dxV X ln rd i), .int (nI jx), .ref nu]) (by rw [ejx]) ?_
            refine gx_iast (pc := 81) hB dX2_readNumber_81 2 1 rfl rfl jx rfl (by omega) (by decide) (wSc K v sg nu X ln (upd N jx (dxV X ln rd i)) (rd + i) pl rs ca) rfl ?_
            refine gx_iconst (pc := 82) hB dX2_readNumber_82 1 (by decide) ?_
            have e1 : (bI (!decide ((dxN X ln rd) = 0) && bIn x 0 3)) = 1 := by simp [bI, s_ei, eq_false c_2, c_3, s_i0, s_x]
            have f0 : (if (!decide ((dxN X ln rd) = 0) && bIn x 0 3) then upd N x.toNatClampNeg (dxV X ln rd (dxN X ln rd)) else N) = (upd N jx (dxV X ln rd i)) := by simp [bI, s_ei, eq_false c_2, c_3, s_i0, s_x]
            have f1 : (rd + (dxN X ln rd)) = (rd + i) := by simp [bI, s_ei, eq_false c_2, c_3, s_i0, s_x]
            exact gx_zret (pc := 83) hC dX2_readNumber_83 (Nat.zero_le _) (Nat.zero_le _) (by decide) (⟨by rw [e1], by rw [f0, f1]⟩)
          · have s_i0 : (i = 0) = False := eq_false (fun q => c_2 (by rw [q]; rfl))
            refine gx_iconst (pc := 73) hB dX2_readNumber_73 0 (by decide) ?_
            have e1 : (bI (!decide ((dxN X ln rd) = 0) && bIn x 0 3)) = 0 := by simp [bI, s_ei, eq_false c_2, c_3, s_i0]
            have f0 : (if (!decide ((dxN X ln rd) = 0) && bIn x 0 3) then upd N x.toNatClampNeg (dxV X ln rd (dxN X ln rd)) else N) = N := by simp [bI, s_ei, eq_false c_2, c_3, s_i0]
            have f1 : (rd + (dxN X ln rd)) = (rd + i) := by simp [bI, s_ei, eq_false c_2, c_3, s_i0]
            exact gx_zret (pc := 74) hC dX2_readNumber_74 (Nat.zero_le _) (Nat.zero_le _) (by decide) (⟨by rw [e1], by rw [f0, f1]⟩)
      · exact absurd (by rw [show i = 4 by omega]; decide) c_1
    | succ f ihf =>
      intro i hi he
      refine gx_iload_n (pc := 4) hB dX2_readNumber_4 3 rfl ?_
      refine gx_iconst (pc := 5) hB dX2_readNumber_5 4 (by decide) ?_
      refine gx_icmp_ge (pc := 6) hB 60 dX2_readNumber_6 (by decide) (fun c_4 => ?_) (fun c_4 => ?_)
      · exact absurd c_4 (nI_ge (b := 4) (by omega) (by decide))
      · refine gx_aload_n (pc := 9) hB dX2_readNumber_9 0 rfl ?_
        refine gx_aload_n (pc := 10) hB dX2_readNumber_10 0 rfl ?_
        refine gx_get (pc := 11) hB dX2_readNumber_11 inX2 rfl 0 rfl 3 (by decide) tb_169 rfl rfl ?_
        refine gx_dVi (pc := 14) (r := sgn X ln (rd + i)) (wr := []) hB (c_X2_signAt l K v sg nu X ln N (rd + i) pl rs ca (rd + i) (by first | assumption | omega | decide) (by first | assumption | omega | decide) (by first | assumption | omega | decide)) mX2_signAt dX2_readNumber_14 tb_625 pX2_signAt ⟨Nat.le_of_ble_eq_true rfl, Nat.le_of_ble_eq_true rfl⟩ ⟨rfl, rfl⟩ ⟨Nat.zero_le _, Nat.zero_le _⟩ rfl (Nat.le_of_ble_eq_true rfl) [0, 1, 2] [] rfl rfl (by decide) (by decide) (by decide) rfl rfl [0, 1, 2] (by decide) (wSc K v sg nu X ln N (rd + i) pl rs ca) rfl ?_
        refine gx_bipush (pc := 17) hB dX2_readNumber_17 48 (by decide) ?_
        refine gx_bipush (pc := 19) hB dX2_readNumber_19 57 (by decide) ?_
        refine gx_w2 (pc := 21) (r := bI (bIn (sgn X ln (rd + i)) 48 57)) hB (c_X4_within l K (sgn X ln (rd + i)) 48 57 ) mX4_within dX2_readNumber_21 ⟨Nat.le_of_ble_eq_true rfl, Nat.le_of_ble_eq_true rfl⟩ ⟨rfl, rfl⟩ ⟨Nat.zero_le _, Nat.zero_le _⟩ (Nat.le_of_ble_eq_true rfl) [0, 1, 2] rfl (by decide) ?_
        refine gx_if_eq_b (pc := 24) hB 60 dX2_readNumber_24 (by decide) (fun c_5 => ?_) (fun c_5 => ?_)
        · have s_ei : (dxN X ln rd) = i := by rw [← he]; simp [dxC, c_5]
          refine gx_iload_n (pc := 60) hB dX2_readNumber_60 3 rfl ?_
          refine gx_if_eq (pc := 61) hB 73 dX2_readNumber_61 (by decide) (fun c_6 => ?_) (fun c_6 => ?_)
          · have s_i0 : i = 0 := (nI_eq (a := i) (b := 0) (by omega) (by decide)).mp c_6
            refine gx_iconst (pc := 73) hB dX2_readNumber_73 0 (by decide) ?_
            have e1 : (bI (!decide ((dxN X ln rd) = 0) && bIn x 0 3)) = 0 := by simp [bI, s_ei, s_i0]
            have f0 : (if (!decide ((dxN X ln rd) = 0) && bIn x 0 3) then upd N x.toNatClampNeg (dxV X ln rd (dxN X ln rd)) else N) = N := by simp [bI, s_ei, s_i0]
            have f1 : (rd + (dxN X ln rd)) = (rd + i) := by simp [bI, s_ei, s_i0]
            exact gx_zret (pc := 74) hC dX2_readNumber_74 (Nat.zero_le _) (Nat.zero_le _) (by decide) (⟨by rw [e1], by rw [f0, f1]⟩)
          · refine gx_iload_n (pc := 64) hB dX2_readNumber_64 1 rfl ?_
            refine gx_iconst (pc := 65) hB dX2_readNumber_65 0 (by decide) ?_
            refine gx_iconst (pc := 66) hB dX2_readNumber_66 3 (by decide) ?_
            refine gx_w2 (pc := 67) (r := bI (bIn x 0 3)) hB (c_X4_within l K x 0 3 ) mX4_within dX2_readNumber_67 ⟨Nat.le_of_ble_eq_true rfl, Nat.le_of_ble_eq_true rfl⟩ ⟨rfl, rfl⟩ ⟨Nat.zero_le _, Nat.zero_le _⟩ (Nat.le_of_ble_eq_true rfl) [0, 1, 2] rfl (by decide) ?_
            refine gx_if_ne_b (pc := 70) hB 75 dX2_readNumber_70 (by decide) (fun c_7 => ?_) (fun c_7 => ?_)
            · have s_i0 : (i = 0) = False := eq_false (fun q => c_6 (by rw [q]; rfl))
              refine gx_aload_n (pc := 75) hB dX2_readNumber_75 0 rfl ?_
              refine gx_get (pc := 76) hB dX2_readNumber_76 inX2 rfl 0 rfl 2 (by decide) tb_168 rfl rfl ?_
              refine gx_iload_n (pc := 79) hB dX2_readNumber_79 1 rfl ?_
              refine gx_iload_n (pc := 80) hB dX2_readNumber_80 2 rfl ?_
              obtain ⟨jx, hjx, ejx⟩ := bIn_of (n := 3) (by decide) c_7
              have s_x : x.toNatClampNeg = jx := by rw [ejx, nI_clamp (by omega)]
              refine gx_st (st' := [.int (dxV X ln rd i), .int (nI jx), .ref nu]) (by rw [ejx]) ?_
              refine gx_iast (pc := 81) hB dX2_readNumber_81 2 1 rfl rfl jx rfl (by omega) (by decide) (wSc K v sg nu X ln (upd N jx (dxV X ln rd i)) (rd + i) pl rs ca) rfl ?_
              refine gx_iconst (pc := 82) hB dX2_readNumber_82 1 (by decide) ?_
              have e1 : (bI (!decide ((dxN X ln rd) = 0) && bIn x 0 3)) = 1 := by simp [bI, s_ei, eq_false c_6, c_7, s_i0, s_x]
              have f0 : (if (!decide ((dxN X ln rd) = 0) && bIn x 0 3) then upd N x.toNatClampNeg (dxV X ln rd (dxN X ln rd)) else N) = (upd N jx (dxV X ln rd i)) := by simp [bI, s_ei, eq_false c_6, c_7, s_i0, s_x]
              have f1 : (rd + (dxN X ln rd)) = (rd + i) := by simp [bI, s_ei, eq_false c_6, c_7, s_i0, s_x]
              exact gx_zret (pc := 83) hC dX2_readNumber_83 (Nat.zero_le _) (Nat.zero_le _) (by decide) (⟨by rw [e1], by rw [f0, f1]⟩)
            · have s_i0 : (i = 0) = False := eq_false (fun q => c_6 (by rw [q]; rfl))
              refine gx_iconst (pc := 73) hB dX2_readNumber_73 0 (by decide) ?_
              have e1 : (bI (!decide ((dxN X ln rd) = 0) && bIn x 0 3)) = 0 := by simp [bI, s_ei, eq_false c_6, c_7, s_i0]
              have f0 : (if (!decide ((dxN X ln rd) = 0) && bIn x 0 3) then upd N x.toNatClampNeg (dxV X ln rd (dxN X ln rd)) else N) = N := by simp [bI, s_ei, eq_false c_6, c_7, s_i0]
              have f1 : (rd + (dxN X ln rd)) = (rd + i) := by simp [bI, s_ei, eq_false c_6, c_7, s_i0]
              exact gx_zret (pc := 74) hC dX2_readNumber_74 (Nat.zero_le _) (Nat.zero_le _) (by decide) (⟨by rw [e1], by rw [f0, f1]⟩)
        · refine gx_iload_n (pc := 27) hB dX2_readNumber_27 2 rfl ?_
          refine gx_bipush (pc := 28) hB dX2_readNumber_28 10 (by decide) ?_
          refine gx_imul (pc := 30) hB dX2_readNumber_30 ?_
          refine gx_aload_n (pc := 31) hB dX2_readNumber_31 0 rfl ?_
          refine gx_aload_n (pc := 32) hB dX2_readNumber_32 0 rfl ?_
          refine gx_get (pc := 33) hB dX2_readNumber_33 inX2 rfl 0 rfl 3 (by decide) tb_169 rfl rfl ?_
          refine gx_dVi (pc := 36) (r := sgn X ln (rd + i)) (wr := []) hB (c_X2_signAt l K v sg nu X ln N (rd + i) pl rs ca (rd + i) (by first | assumption | omega | decide) (by first | assumption | omega | decide) (by first | assumption | omega | decide)) mX2_signAt dX2_readNumber_36 tb_625 pX2_signAt ⟨Nat.le_of_ble_eq_true rfl, Nat.le_of_ble_eq_true rfl⟩ ⟨rfl, rfl⟩ ⟨Nat.zero_le _, Nat.zero_le _⟩ rfl (Nat.le_of_ble_eq_true rfl) [0, 1, 2] [] rfl rfl (by decide) (by decide) (by decide) rfl rfl [0, 1, 2] (by decide) (wSc K v sg nu X ln N (rd + i) pl rs ca) rfl ?_
          refine gx_iadd (pc := 39) hB dX2_readNumber_39 ?_
          refine gx_bipush (pc := 40) hB dX2_readNumber_40 48 (by decide) ?_
          refine gx_isub (pc := 42) hB dX2_readNumber_42 ?_
          refine gx_istore_n (pc := 43) hB dX2_readNumber_43 (by decide) [(2, .int (((dxV X ln rd i * 10) + (sgn X ln (rd + i))) - 48)), (0, .ref v), (1, .int x), (3, .int (nI i))] rfl ?_
          refine gx_iinc (pc := 44) hB dX2_readNumber_44 3 (by decide) rfl (nI (i + 1)) (nI_1 _) [(3, .int (nI (i + 1))), (2, .int (((dxV X ln rd i * 10) + (sgn X ln (rd + i))) - 48)), (0, .ref v), (1, .int x)] rfl ?_
          refine gx_aload_n (pc := 47) hB dX2_readNumber_47 2 rfl ?_
          refine gx_dup (pc := 48) hB dX2_readNumber_48 rfl ?_
          refine gx_get (pc := 49) hB dX2_readNumber_49 inX2 rfl 0 rfl 3 (by decide) tb_169 rfl rfl ?_
          refine gx_iconst (pc := 52) hB dX2_readNumber_52 1 (by decide) ?_
          refine gx_iadd (pc := 53) hB dX2_readNumber_53 ?_
          refine gx_top (show (nI (rd + i)) + 1 = nI (rd + i + 1) from nI_add (rd + i) 1) ?_
          refine gx_put (pc := 54) hB dX2_readNumber_54 inX2 rfl tyX2 tyX2_ok nmX2 0 rfl 3 (by decide) tb_169 rfl rfl rfl rfl (Nat.le_of_ble_eq_true rfl) (wSc K v sg nu X ln N (rd + i + 1) pl rs ca) rfl ?_
          refine gx_goto (pc := 57) hB 4 dX2_readNumber_57 (by decide) ?_
          refine gx_sub hB (lv' := [(0, .ref v), (1, .int x), (2, .int (((dxV X ln rd i * 10) + (sgn X ln (rd + i))) - 48)), (3, .int (nI (i + 1)))]) [2, 3, 1, 0] rfl ?_
          exact ihf (i + 1) (by omega) (by rw [← he]; simp [dxC, c_5])
  refine gx_sub hB (lv' := [(0, .ref v), (1, .int x), (2, .int 0), (3, .int 0)]) [2, 3, 1, 0] rfl ?_
  exact loop_4 4 0 rfl rfl
