theorem pX3_size : (parseMethodDescriptor yX3_size.desc).map (fun d => d.parameters.length) = some 0 := by decide +kernel
theorem mX3_size : gx_M yX3_size cX3_size 1 (some .int) := ⟨tb_196, tb_197, tb_29, tb_198, by decide, by decide⟩
set_option maxHeartbeats 4000000 in
set_option maxRecDepth 100000 in
/-- Table.size -/
theorem c_X3_size (l : Launch) (K : gx_K) (t c s m w : Nat) (C : Nat → Int32) (h0 : s < 351) : gx_Ctr l K yX3_size cX3_size 1 (some .int) (rmm 1 0) [.ref t] (wT K t c s m w C) (gx_D (some (.int (C s))) (wT K t c s m w C)) := by
  refine gx_of (by decide) (Nat.le_of_ble_eq_true rfl) (fun G hC => ?_)
  have hB := hC.b
  refine gx_lv (lv' := [(0, .ref t)]) rfl ?_
  refine gx_aload_n (pc := 0) hB dX3_size_0 0 rfl ?_
  refine gx_get (pc := 1) hB dX3_size_1 inX3 rfl 0 rfl 0 (by decide) tb_54 rfl rfl ?_
  refine gx_aload_n (pc := 4) hB dX3_size_4 0 rfl ?_
  refine gx_get (pc := 5) hB dX3_size_5 inX3 rfl 0 rfl 1 (by decide) tb_55 rfl rfl ?_
  refine gx_iald (pc := 8) hB dX3_size_8 1 1 rfl rfl s rfl (by omega) (by decide) ?_
  exact gx_iret (pc := 9) hC dX3_size_9 (Nat.zero_le _) (Nat.zero_le _) (⟨rfl, rfl⟩)
theorem pX3_has : (parseMethodDescriptor yX3_has.desc).map (fun d => d.parameters.length) = some 1 := by decide +kernel
theorem mX3_has : gx_M yX3_has cX3_has 2 (some .boolean) := ⟨tb_165, tb_166, tb_29, tb_167, by decide, by decide⟩
set_option maxHeartbeats 4000000 in
set_option maxRecDepth 100000 in
theorem c_X3_has (l : Launch) (K : gx_K) (t c s m w : Nat) (C : Nat → Int32) (r : Int32) (h0 : s < 351) : gx_Ctr l K yX3_has cX3_has 2 (some .boolean) (rmm 1 0) [.ref t, .int r] (wT K t c s m w C) (gx_D (some (.int (bI (tHas C s r)))) (wT K t c s m w C)) := by
  refine gx_of (by decide) (Nat.le_of_ble_eq_true rfl) (fun G hC => ?_)
  have hB := hC.b
  refine gx_lv (lv' := [(0, .ref t), (1, .int r)]) rfl ?_
  refine gx_iload_n (pc := 0) hB dX3_has_0 1 rfl ?_
  refine gx_if_lt (pc := 1) hB 21 dX3_has_1 (by decide) (fun c_1 => ?_) (fun c_1 => ?_)
  · refine gx_iconst (pc := 21) hB dX3_has_21 0 (by decide) ?_
    have e1 : (bI (tHas C s r)) = 0 := by simp [tHas, bI, c_1, eq_false (Int32.not_le.mpr c_1)]
    exact gx_zret (pc := 22) hC dX3_has_22 (Nat.zero_le _) (Nat.zero_le _) (by decide) (⟨by rw [e1], rfl⟩)
  · refine gx_iload_n (pc := 4) hB dX3_has_4 1 rfl ?_
    refine gx_aload_n (pc := 5) hB dX3_has_5 0 rfl ?_
    refine gx_get (pc := 6) hB dX3_has_6 inX3 rfl 0 rfl 0 (by decide) tb_54 rfl rfl ?_
    refine gx_aload_n (pc := 9) hB dX3_has_9 0 rfl ?_
    refine gx_get (pc := 10) hB dX3_has_10 inX3 rfl 0 rfl 1 (by decide) tb_55 rfl rfl ?_
    refine gx_iald (pc := 13) hB dX3_has_13 1 1 rfl rfl s rfl (by omega) (by decide) ?_
    refine gx_icmp_ge (pc := 14) hB 21 dX3_has_14 (by decide) (fun c_2 => ?_) (fun c_2 => ?_)
    · refine gx_iconst (pc := 21) hB dX3_has_21 0 (by decide) ?_
      have e1 : (bI (tHas C s r)) = 0 := by simp [tHas, bI, Int32.not_lt.mp c_1, eq_false c_1, c_2, eq_false (Int32.not_lt.mpr c_2)]
      exact gx_zret (pc := 22) hC dX3_has_22 (Nat.zero_le _) (Nat.zero_le _) (by decide) (⟨by rw [e1], rfl⟩)
    · refine gx_iconst (pc := 17) hB dX3_has_17 1 (by decide) ?_
      refine gx_goto (pc := 18) hB 22 dX3_has_18 (by decide) ?_
      have e1 : (bI (tHas C s r)) = 1 := by simp [tHas, bI, Int32.not_lt.mp c_1, eq_false c_1, Int32.not_le.mp c_2, eq_false c_2]
      exact gx_zret (pc := 22) hC dX3_has_22 (Nat.zero_le _) (Nat.zero_le _) (by decide) (⟨by rw [e1], rfl⟩)
theorem pX3_isFull : (parseMethodDescriptor yX3_isFull.desc).map (fun d => d.parameters.length) = some 0 := by decide +kernel
theorem mX3_isFull : gx_M yX3_isFull cX3_isFull 1 (some .boolean) := ⟨tb_271, tb_272, tb_29, tb_273, by decide, by decide⟩
set_option maxHeartbeats 4000000 in
set_option maxRecDepth 100000 in
theorem c_X3_isFull (l : Launch) (K : gx_K) (t c s m w : Nat) (C : Nat → Int32) (h0 : s < 351) : gx_Ctr l K yX3_isFull cX3_isFull 1 (some .boolean) (rmm 1 0) [.ref t] (wT K t c s m w C) (gx_D (some (.int (bI (tFull C s m)))) (wT K t c s m w C)) := by
  refine gx_of (by decide) (Nat.le_of_ble_eq_true rfl) (fun G hC => ?_)
  have hB := hC.b
  refine gx_lv (lv' := [(0, .ref t)]) rfl ?_
  refine gx_aload_n (pc := 0) hB dX3_isFull_0 0 rfl ?_
  refine gx_get (pc := 1) hB dX3_isFull_1 inX3 rfl 0 rfl 0 (by decide) tb_54 rfl rfl ?_
  refine gx_aload_n (pc := 4) hB dX3_isFull_4 0 rfl ?_
  refine gx_get (pc := 5) hB dX3_isFull_5 inX3 rfl 0 rfl 1 (by decide) tb_55 rfl rfl ?_
  refine gx_iald (pc := 8) hB dX3_isFull_8 1 1 rfl rfl s rfl (by omega) (by decide) ?_
  refine gx_aload_n (pc := 9) hB dX3_isFull_9 0 rfl ?_
  refine gx_get (pc := 10) hB dX3_isFull_10 inX3 rfl 0 rfl 2 (by decide) tb_56 rfl rfl ?_
  refine gx_icmp_lt (pc := 13) hB 20 dX3_isFull_13 (by decide) (fun c_1 => ?_) (fun c_1 => ?_)
  · refine gx_iconst (pc := 20) hB dX3_isFull_20 0 (by decide) ?_
    have e1 : (bI (tFull C s m)) = 0 := by simp [tFull, bI, c_1, eq_false (Int32.not_le.mpr c_1)]
    exact gx_zret (pc := 21) hC dX3_isFull_21 (Nat.zero_le _) (Nat.zero_le _) (by decide) (⟨by rw [e1], rfl⟩)
  · refine gx_iconst (pc := 16) hB dX3_isFull_16 1 (by decide) ?_
    refine gx_goto (pc := 17) hB 21 dX3_isFull_17 (by decide) ?_
    have e1 : (bI (tFull C s m)) = 1 := by simp [tFull, bI, Int32.not_lt.mp c_1, eq_false c_1]
    exact gx_zret (pc := 21) hC dX3_isFull_21 (Nat.zero_le _) (Nat.zero_le _) (by decide) (⟨by rw [e1], rfl⟩)
theorem pX3_addRow : (parseMethodDescriptor yX3_addRow.desc).map (fun d => d.parameters.length) = some 0 := by decide +kernel
theorem mX3_addRow : gx_M yX3_addRow cX3_addRow 2 (some .int) := ⟨tb_73, tb_74, tb_29, tb_75, by decide, by decide⟩
set_option maxHeartbeats 4000000 in
set_option maxRecDepth 100000 in
theorem c_X3_addRow (l : Launch) (K : gx_K) (t c s m w : Nat) (C : Nat → Int32) (h0 : s < 351) : gx_Ctr l K yX3_addRow cX3_addRow 2 (some .int) (rmm 1 0) [.ref t] (wT K t c s m w C) (gx_D (some (.int (tNew C s m))) (wT K t c s m w (tNewC C s m))) := by
  refine gx_of (by decide) (Nat.le_of_ble_eq_true rfl) (fun G hC => ?_)
  have hB := hC.b
  refine gx_lv (lv' := [(0, .ref t)]) rfl ?_
  refine gx_aload_n (pc := 0) hB dX3_addRow_0 0 rfl ?_
  refine gx_get (pc := 1) hB dX3_addRow_1 inX3 rfl 0 rfl 0 (by decide) tb_54 rfl rfl ?_
  refine gx_aload_n (pc := 4) hB dX3_addRow_4 0 rfl ?_
  refine gx_get (pc := 5) hB dX3_addRow_5 inX3 rfl 0 rfl 1 (by decide) tb_55 rfl rfl ?_
  refine gx_iald (pc := 8) hB dX3_addRow_8 1 1 rfl rfl s rfl (by omega) (by decide) ?_
  refine gx_istore_n (pc := 9) hB dX3_addRow_9 (by decide) [(1, .int (C s)), (0, .ref t)] rfl ?_
  refine gx_iload_n (pc := 10) hB dX3_addRow_10 0 rfl ?_
  refine gx_aload_n (pc := 11) hB dX3_addRow_11 1 rfl ?_
  refine gx_get (pc := 12) hB dX3_addRow_12 inX3 rfl 0 rfl 2 (by decide) tb_56 rfl rfl ?_
  refine gx_icmp_lt (pc := 15) hB 20 dX3_addRow_15 (by decide) (fun c_1 => ?_) (fun c_1 => ?_)
  · refine gx_aload_n (pc := 20) hB dX3_addRow_20 1 rfl ?_
    refine gx_get (pc := 21) hB dX3_addRow_21 inX3 rfl 0 rfl 0 (by decide) tb_54 rfl rfl ?_
    refine gx_aload_n (pc := 24) hB dX3_addRow_24 1 rfl ?_
    refine gx_get (pc := 25) hB dX3_addRow_25 inX3 rfl 0 rfl 1 (by decide) tb_55 rfl rfl ?_
    refine gx_iload_n (pc := 28) hB dX3_addRow_28 0 rfl ?_
    refine gx_iconst (pc := 29) hB dX3_addRow_29 1 (by decide) ?_
    refine gx_iadd (pc := 30) hB dX3_addRow_30 ?_
    refine gx_iast (pc := 31) hB dX3_addRow_31 1 1 rfl rfl s rfl (by omega) (by decide) (wT K t c s m w (upd C s (C s + 1))) rfl ?_
    refine gx_iload_n (pc := 32) hB dX3_addRow_32 0 rfl ?_
    have e1 : tNew C s m = C s := by simp [tNew, tNewC, c_1, eq_false (Int32.not_le.mpr c_1)]
    have f0 : tNewC C s m = (upd C s (C s + 1)) := by simp [tNew, tNewC, c_1, eq_false (Int32.not_le.mpr c_1)]
    exact gx_iret (pc := 33) hC dX3_addRow_33 (Nat.zero_le _) (Nat.zero_le _) (⟨by rw [e1], by rw [f0]⟩)
  · refine gx_iconst (pc := 18) hB dX3_addRow_18 (-1) (by decide) ?_
    have e1 : tNew C s m = (-1) := by simp [tNew, tNewC, Int32.not_lt.mp c_1, eq_false c_1]
    have f0 : tNewC C s m = C := by simp [tNew, tNewC, Int32.not_lt.mp c_1, eq_false c_1]
    exact gx_iret (pc := 19) hC dX3_addRow_19 (Nat.zero_le _) (Nat.zero_le _) (⟨by rw [e1], by rw [f0]⟩)
theorem pX3_at : (parseMethodDescriptor yX3_at.desc).map (fun d => d.parameters.length) = some 2 := by decide +kernel
theorem mX3_at : gx_M yX3_at cX3_at 3 (some .int) := ⟨tb_176, tb_177, tb_29, tb_178, by decide, by decide⟩
set_option maxHeartbeats 4000000 in
set_option maxRecDepth 100000 in
theorem c_X3_at (l : Launch) (K : gx_K) (t c s m w : Nat) (C : Nat → Int32) (r k : Int32) (h0 : tHb s m w) : gx_Ctr l K yX3_at cX3_at 3 (some .int) (rmm 1 0) [.ref t, .int r, .int k] (wT K t c s m w C) (gx_D (some (.int (tAt C s m w r k))) (wT K t c s m w C)) := by
  refine gx_of (by decide) (Nat.le_of_ble_eq_true rfl) (fun G hC => ?_)
  have hB := hC.b
  refine gx_lv (lv' := [(0, .ref t), (1, .int r), (2, .int k)]) rfl ?_
  refine gx_iload_n (pc := 0) hB dX3_at_0 1 rfl ?_
  refine gx_if_lt (pc := 1) hB 24 dX3_at_1 (by decide) (fun c_1 => ?_) (fun c_1 => ?_)
  · refine gx_iconst (pc := 24) hB dX3_at_24 0 (by decide) ?_
    have e1 : tAt C s m w r k = 0 := by simp [tAt, tOk, c_1, eq_false (Int32.not_le.mpr c_1)]
    exact gx_iret (pc := 25) hC dX3_at_25 (Nat.zero_le _) (Nat.zero_le _) (⟨by rw [e1], rfl⟩)
  · refine gx_iload_n (pc := 4) hB dX3_at_4 1 rfl ?_
    refine gx_aload_n (pc := 5) hB dX3_at_5 0 rfl ?_
    refine gx_get (pc := 6) hB dX3_at_6 inX3 rfl 0 rfl 2 (by decide) tb_56 rfl rfl ?_
    refine gx_icmp_ge (pc := 9) hB 24 dX3_at_9 (by decide) (fun c_2 => ?_) (fun c_2 => ?_)
    · refine gx_iconst (pc := 24) hB dX3_at_24 0 (by decide) ?_
      have e1 : tAt C s m w r k = 0 := by simp [tAt, tOk, Int32.not_lt.mp c_1, eq_false c_1, c_2, eq_false (Int32.not_lt.mpr c_2)]
      exact gx_iret (pc := 25) hC dX3_at_25 (Nat.zero_le _) (Nat.zero_le _) (⟨by rw [e1], rfl⟩)
    · refine gx_iload_n (pc := 12) hB dX3_at_12 2 rfl ?_
      refine gx_if_lt (pc := 13) hB 24 dX3_at_13 (by decide) (fun c_3 => ?_) (fun c_3 => ?_)
      · refine gx_iconst (pc := 24) hB dX3_at_24 0 (by decide) ?_
        have e1 : tAt C s m w r k = 0 := by simp [tAt, tOk, Int32.not_lt.mp c_1, eq_false c_1, Int32.not_le.mp c_2, eq_false c_2, c_3, eq_false (Int32.not_le.mpr c_3)]
        exact gx_iret (pc := 25) hC dX3_at_25 (Nat.zero_le _) (Nat.zero_le _) (⟨by rw [e1], rfl⟩)
      · refine gx_iload_n (pc := 16) hB dX3_at_16 2 rfl ?_
        refine gx_aload_n (pc := 17) hB dX3_at_17 0 rfl ?_
        refine gx_get (pc := 18) hB dX3_at_18 inX3 rfl 0 rfl 3 (by decide) tb_57 rfl rfl ?_
        refine gx_icmp_lt (pc := 21) hB 26 dX3_at_21 (by decide) (fun c_4 => ?_) (fun c_4 => ?_)
        · refine gx_aload_n (pc := 26) hB dX3_at_26 0 rfl ?_
          refine gx_get (pc := 27) hB dX3_at_27 inX3 rfl 0 rfl 0 (by decide) tb_54 rfl rfl ?_
          refine gx_aload_n (pc := 30) hB dX3_at_30 0 rfl ?_
          refine gx_get (pc := 31) hB dX3_at_31 inX3 rfl 0 rfl 1 (by decide) tb_55 rfl rfl ?_
          refine gx_iconst (pc := 34) hB dX3_at_34 1 (by decide) ?_
          refine gx_iadd (pc := 35) hB dX3_at_35 ?_
          refine gx_top (show nI s + 1 = nI (s + 1) from nI_add s 1) ?_
          refine gx_iload_n (pc := 36) hB dX3_at_36 1 rfl ?_
          refine gx_aload_n (pc := 37) hB dX3_at_37 0 rfl ?_
          refine gx_get (pc := 38) hB dX3_at_38 inX3 rfl 0 rfl 3 (by decide) tb_57 rfl rfl ?_
          refine gx_imul (pc := 41) hB dX3_at_41 ?_
          refine gx_iadd (pc := 42) hB dX3_at_42 ?_
          refine gx_iload_n (pc := 43) hB dX3_at_43 2 rfl ?_
          refine gx_iadd (pc := 44) hB dX3_at_44 ?_
          refine gx_iald (pc := 45) hB dX3_at_45 1 1 rfl rfl (tIx s w r k) (tIx_eq h0 c_1 c_2 c_3 c_4).1 (tIx_eq h0 c_1 c_2 c_3 c_4).2 (by decide) ?_
          have e1 : tAt C s m w r k = (C (tIx s w r k)) := by simp [tAt, tOk, Int32.not_lt.mp c_1, eq_false c_1, Int32.not_le.mp c_2, eq_false c_2, Int32.not_lt.mp c_3, eq_false c_3, c_4, eq_false (Int32.not_le.mpr c_4)]
          exact gx_iret (pc := 46) hC dX3_at_46 (Nat.zero_le _) (Nat.zero_le _) (⟨by rw [e1], rfl⟩)
        · refine gx_iconst (pc := 24) hB dX3_at_24 0 (by decide) ?_
          have e1 : tAt C s m w r k = 0 := by simp [tAt, tOk, Int32.not_lt.mp c_1, eq_false c_1, Int32.not_le.mp c_2, eq_false c_2, Int32.not_lt.mp c_3, eq_false c_3, Int32.not_lt.mp c_4, eq_false c_4]
          exact gx_iret (pc := 25) hC dX3_at_25 (Nat.zero_le _) (Nat.zero_le _) (⟨by rw [e1], rfl⟩)
theorem pX3_put : (parseMethodDescriptor yX3_put.desc).map (fun d => d.parameters.length) = some 3 := by decide +kernel
theorem mX3_put : gx_M yX3_put cX3_put 4 none := ⟨tb_77, tb_78, tb_29, tb_79, by decide, by decide⟩
set_option maxHeartbeats 4000000 in
set_option maxRecDepth 100000 in
theorem c_X3_put (l : Launch) (K : gx_K) (t c s m w : Nat) (C : Nat → Int32) (r k v : Int32) (h0 : tHb s m w) : gx_Ctr l K yX3_put cX3_put 4 none (rmm 1 0) [.ref t, .int r, .int k, .int v] (wT K t c s m w C) (gx_D none (wT K t c s m w (tPut C s m w r k v))) := by
  refine gx_of (by decide) (Nat.le_of_ble_eq_true rfl) (fun G hC => ?_)
  have hB := hC.b
  refine gx_lv (lv' := [(0, .ref t), (1, .int r), (2, .int k), (3, .int v)]) rfl ?_
  refine gx_iload_n (pc := 0) hB dX3_put_0 1 rfl ?_
  refine gx_if_lt (pc := 1) hB 45 dX3_put_1 (by decide) (fun c_1 => ?_) (fun c_1 => ?_)
  · have f0 : tPut C s m w r k v = C := by simp [tPut, tOk, c_1, eq_false (Int32.not_le.mpr c_1)]
    exact gx_vret (pc := 45) hC dX3_put_45 (Nat.zero_le _) (Nat.zero_le _) (⟨rfl, by rw [f0]⟩)
  · refine gx_iload_n (pc := 4) hB dX3_put_4 1 rfl ?_
    refine gx_aload_n (pc := 5) hB dX3_put_5 0 rfl ?_
    refine gx_get (pc := 6) hB dX3_put_6 inX3 rfl 0 rfl 2 (by decide) tb_56 rfl rfl ?_
    refine gx_icmp_ge (pc := 9) hB 45 dX3_put_9 (by decide) (fun c_2 => ?_) (fun c_2 => ?_)
    · have f0 : tPut C s m w r k v = C := by simp [tPut, tOk, Int32.not_lt.mp c_1, eq_false c_1, c_2, eq_false (Int32.not_lt.mpr c_2)]
      exact gx_vret (pc := 45) hC dX3_put_45 (Nat.zero_le _) (Nat.zero_le _) (⟨rfl, by rw [f0]⟩)
    · refine gx_iload_n (pc := 12) hB dX3_put_12 2 rfl ?_
      refine gx_if_lt (pc := 13) hB 45 dX3_put_13 (by decide) (fun c_3 => ?_) (fun c_3 => ?_)
      · have f0 : tPut C s m w r k v = C := by simp [tPut, tOk, Int32.not_lt.mp c_1, eq_false c_1, Int32.not_le.mp c_2, eq_false c_2, c_3, eq_false (Int32.not_le.mpr c_3)]
        exact gx_vret (pc := 45) hC dX3_put_45 (Nat.zero_le _) (Nat.zero_le _) (⟨rfl, by rw [f0]⟩)
      · refine gx_iload_n (pc := 16) hB dX3_put_16 2 rfl ?_
        refine gx_aload_n (pc := 17) hB dX3_put_17 0 rfl ?_
        refine gx_get (pc := 18) hB dX3_put_18 inX3 rfl 0 rfl 3 (by decide) tb_57 rfl rfl ?_
        refine gx_icmp_ge (pc := 21) hB 45 dX3_put_21 (by decide) (fun c_4 => ?_) (fun c_4 => ?_)
        · have f0 : tPut C s m w r k v = C := by simp [tPut, tOk, Int32.not_lt.mp c_1, eq_false c_1, Int32.not_le.mp c_2, eq_false c_2, Int32.not_lt.mp c_3, eq_false c_3, c_4, eq_false (Int32.not_lt.mpr c_4)]
          exact gx_vret (pc := 45) hC dX3_put_45 (Nat.zero_le _) (Nat.zero_le _) (⟨rfl, by rw [f0]⟩)
        · refine gx_aload_n (pc := 24) hB dX3_put_24 0 rfl ?_
          refine gx_get (pc := 25) hB dX3_put_25 inX3 rfl 0 rfl 0 (by decide) tb_54 rfl rfl ?_
          refine gx_aload_n (pc := 28) hB dX3_put_28 0 rfl ?_
          refine gx_get (pc := 29) hB dX3_put_29 inX3 rfl 0 rfl 1 (by decide) tb_55 rfl rfl ?_
          refine gx_iconst (pc := 32) hB dX3_put_32 1 (by decide) ?_
          refine gx_iadd (pc := 33) hB dX3_put_33 ?_
          refine gx_top (show nI s + 1 = nI (s + 1) from nI_add s 1) ?_
          refine gx_iload_n (pc := 34) hB dX3_put_34 1 rfl ?_
          refine gx_aload_n (pc := 35) hB dX3_put_35 0 rfl ?_
          refine gx_get (pc := 36) hB dX3_put_36 inX3 rfl 0 rfl 3 (by decide) tb_57 rfl rfl ?_
          refine gx_imul (pc := 39) hB dX3_put_39 ?_
          refine gx_iadd (pc := 40) hB dX3_put_40 ?_
          refine gx_iload_n (pc := 41) hB dX3_put_41 2 rfl ?_
          refine gx_iadd (pc := 42) hB dX3_put_42 ?_
          refine gx_iload_n (pc := 43) hB dX3_put_43 3 rfl ?_
          refine gx_iast (pc := 44) hB dX3_put_44 1 1 rfl rfl (tIx s w r k) (tIx_eq h0 c_1 c_2 c_3 (Int32.not_le.mp c_4)).1 (tIx_eq h0 c_1 c_2 c_3 (Int32.not_le.mp c_4)).2 (by decide) (wT K t c s m w (upd C (tIx s w r k) v)) rfl ?_
          have f0 : tPut C s m w r k v = (upd C (tIx s w r k) v) := by simp [tPut, tOk, Int32.not_lt.mp c_1, eq_false c_1, Int32.not_le.mp c_2, eq_false c_2, Int32.not_lt.mp c_3, eq_false c_3, Int32.not_le.mp c_4, eq_false c_4]
          exact gx_vret (pc := 45) hC dX3_put_45 (Nat.zero_le _) (Nat.zero_le _) (⟨rfl, by rw [f0]⟩)
theorem pX3_add : (parseMethodDescriptor yX3_add.desc).map (fun d => d.parameters.length) = some 3 := by decide +kernel
theorem mX3_add : gx_M yX3_add cX3_add 4 none := ⟨tb_279, tb_280, tb_29, tb_281, by decide, by decide⟩
set_option maxHeartbeats 4000000 in
set_option maxRecDepth 100000 in
theorem c_X3_add (l : Launch) (K : gx_K) (t c s m w : Nat) (C : Nat → Int32) (r k v : Int32) (h0 : tHb s m w) : gx_Ctr l K yX3_add cX3_add 4 none (rmm 1 0) [.ref t, .int r, .int k, .int v] (wT K t c s m w C) (gx_D none (wT K t c s m w (tAdd C s m w r k v))) := by
  refine gx_of (by decide) (Nat.le_of_ble_eq_true rfl) (fun G hC => ?_)
  have hB := hC.b
  refine gx_lv (lv' := [(0, .ref t), (1, .int r), (2, .int k), (3, .int v)]) rfl ?_
  refine gx_iload_n (pc := 0) hB dX3_add_0 1 rfl ?_
  refine gx_if_lt (pc := 1) hB 48 dX3_add_1 (by decide) (fun c_1 => ?_) (fun c_1 => ?_)
  · have f0 : tAdd C s m w r k v = C := by simp [tAdd, tOk, c_1, eq_false (Int32.not_le.mpr c_1)]
    exact gx_vret (pc := 48) hC dX3_add_48 (Nat.zero_le _) (Nat.zero_le _) (⟨rfl, by rw [f0]⟩)
  · refine gx_iload_n (pc := 4) hB dX3_add_4 1 rfl ?_
    refine gx_aload_n (pc := 5) hB dX3_add_5 0 rfl ?_
    refine gx_get (pc := 6) hB dX3_add_6 inX3 rfl 0 rfl 2 (by decide) tb_56 rfl rfl ?_
    refine gx_icmp_ge (pc := 9) hB 48 dX3_add_9 (by decide) (fun c_2 => ?_) (fun c_2 => ?_)
    · have f0 : tAdd C s m w r k v = C := by simp [tAdd, tOk, Int32.not_lt.mp c_1, eq_false c_1, c_2, eq_false (Int32.not_lt.mpr c_2)]
      exact gx_vret (pc := 48) hC dX3_add_48 (Nat.zero_le _) (Nat.zero_le _) (⟨rfl, by rw [f0]⟩)
    · refine gx_iload_n (pc := 12) hB dX3_add_12 2 rfl ?_
      refine gx_if_lt (pc := 13) hB 48 dX3_add_13 (by decide) (fun c_3 => ?_) (fun c_3 => ?_)
      · have f0 : tAdd C s m w r k v = C := by simp [tAdd, tOk, Int32.not_lt.mp c_1, eq_false c_1, Int32.not_le.mp c_2, eq_false c_2, c_3, eq_false (Int32.not_le.mpr c_3)]
        exact gx_vret (pc := 48) hC dX3_add_48 (Nat.zero_le _) (Nat.zero_le _) (⟨rfl, by rw [f0]⟩)
      · refine gx_iload_n (pc := 16) hB dX3_add_16 2 rfl ?_
        refine gx_aload_n (pc := 17) hB dX3_add_17 0 rfl ?_
        refine gx_get (pc := 18) hB dX3_add_18 inX3 rfl 0 rfl 3 (by decide) tb_57 rfl rfl ?_
        refine gx_icmp_ge (pc := 21) hB 48 dX3_add_21 (by decide) (fun c_4 => ?_) (fun c_4 => ?_)
        · have f0 : tAdd C s m w r k v = C := by simp [tAdd, tOk, Int32.not_lt.mp c_1, eq_false c_1, Int32.not_le.mp c_2, eq_false c_2, Int32.not_lt.mp c_3, eq_false c_3, c_4, eq_false (Int32.not_lt.mpr c_4)]
          exact gx_vret (pc := 48) hC dX3_add_48 (Nat.zero_le _) (Nat.zero_le _) (⟨rfl, by rw [f0]⟩)
        · refine gx_aload_n (pc := 24) hB dX3_add_24 0 rfl ?_
          refine gx_get (pc := 25) hB dX3_add_25 inX3 rfl 0 rfl 0 (by decide) tb_54 rfl rfl ?_
          refine gx_aload_n (pc := 28) hB dX3_add_28 0 rfl ?_
          refine gx_get (pc := 29) hB dX3_add_29 inX3 rfl 0 rfl 1 (by decide) tb_55 rfl rfl ?_
          refine gx_iconst (pc := 32) hB dX3_add_32 1 (by decide) ?_
          refine gx_iadd (pc := 33) hB dX3_add_33 ?_
          refine gx_top (show nI s + 1 = nI (s + 1) from nI_add s 1) ?_
          refine gx_iload_n (pc := 34) hB dX3_add_34 1 rfl ?_
          refine gx_aload_n (pc := 35) hB dX3_add_35 0 rfl ?_
          refine gx_get (pc := 36) hB dX3_add_36 inX3 rfl 0 rfl 3 (by decide) tb_57 rfl rfl ?_
          refine gx_imul (pc := 39) hB dX3_add_39 ?_
          refine gx_iadd (pc := 40) hB dX3_add_40 ?_
          refine gx_iload_n (pc := 41) hB dX3_add_41 2 rfl ?_
          refine gx_iadd (pc := 42) hB dX3_add_42 ?_
          refine gx_dup2 (pc := 43) hB dX3_add_43 rfl rfl ?_
          refine gx_iald (pc := 44) hB dX3_add_44 1 1 rfl rfl (tIx s w r k) (tIx_eq h0 c_1 c_2 c_3 (Int32.not_le.mp c_4)).1 (tIx_eq h0 c_1 c_2 c_3 (Int32.not_le.mp c_4)).2 (by decide) ?_
          refine gx_iload_n (pc := 45) hB dX3_add_45 3 rfl ?_
          refine gx_iadd (pc := 46) hB dX3_add_46 ?_
          refine gx_iast (pc := 47) hB dX3_add_47 1 1 rfl rfl (tIx s w r k) (tIx_eq h0 c_1 c_2 c_3 (Int32.not_le.mp c_4)).1 (tIx_eq h0 c_1 c_2 c_3 (Int32.not_le.mp c_4)).2 (by decide) (wT K t c s m w (upd C (tIx s w r k) ((C (tIx s w r k)) + v))) rfl ?_
          have f0 : tAdd C s m w r k v = (upd C (tIx s w r k) ((C (tIx s w r k)) + v)) := by simp [tAdd, tOk, Int32.not_lt.mp c_1, eq_false c_1, Int32.not_le.mp c_2, eq_false c_2, Int32.not_lt.mp c_3, eq_false c_3, Int32.not_le.mp c_4, eq_false c_4]
          exact gx_vret (pc := 48) hC dX3_add_48 (Nat.zero_le _) (Nat.zero_le _) (⟨rfl, by rw [f0]⟩)
theorem pX3_sumOf : (parseMethodDescriptor yX3_sumOf.desc).map (fun d => d.parameters.length) = some 1 := by decide +kernel
theorem mX3_sumOf : gx_M yX3_sumOf cX3_sumOf 4 (some .int) := ⟨tb_200, tb_201, tb_29, tb_202, by decide, by decide⟩
set_option maxHeartbeats 4000000 in
set_option maxRecDepth 100000 in
theorem c_X3_sumOf (l : Launch) (K : gx_K) (t c s m w : Nat) (C : Nat → Int32) (k : Int32) (h0 : tHb s m w) : gx_Ctr l K yX3_sumOf cX3_sumOf 4 (some .int) (rmm 2 22) [.ref t, .int k] (wT K t c s m w C) (gx_D (some (.int (tSum C s m w k))) (wT K t c s m w C)) := by
  refine gx_of (by decide) (Nat.le_of_ble_eq_true rfl) (fun G hC => ?_)
  have hB := hC.b
  refine gx_lv (lv' := [(0, .ref t), (1, .int k)]) rfl ?_
  refine gx_iconst (pc := 0) hB dX3_sumOf_0 0 (by decide) ?_
  refine gx_istore_n (pc := 1) hB dX3_sumOf_1 (by decide) [(2, .int 0), (0, .ref t), (1, .int k)] rfl ?_
  refine gx_iconst (pc := 2) hB dX3_sumOf_2 0 (by decide) ?_
  refine gx_istore_n (pc := 3) hB dX3_sumOf_3 (by decide) [(3, .int 0), (2, .int 0), (0, .ref t), (1, .int k)] rfl ?_
  have loop_4 : ∀ dq i : Nat, i + dq = (C s).toNatClampNeg → G 0 0 (wT K t c s m w C) [(0, .ref t), (1, .int k), (2, .int (tSumN C s m w k i)), (3, .int (nI i))] 4 [] := by
    intro dq
    induction dq with
    | zero =>
      intro i hi4
      obtain rfl : (C s).toNatClampNeg = i := by omega
      refine gx_iload_n (pc := 4) hB dX3_sumOf_4 3 rfl ?_
      refine gx_aload_n (pc := 5) hB dX3_sumOf_5 0 rfl ?_
      refine gx_get (pc := 6) hB dX3_sumOf_6 inX3 rfl 0 rfl 0 (by decide) tb_54 rfl rfl ?_
      refine gx_aload_n (pc := 9) hB dX3_sumOf_9 0 rfl ?_
      refine gx_get (pc := 10) hB dX3_sumOf_10 inX3 rfl 0 rfl 1 (by decide) tb_55 rfl rfl ?_
      refine gx_iald (pc := 13) hB dX3_sumOf_13 1 1 rfl rfl s rfl (by unfold tHb at h0; omega) (by decide) ?_
      refine gx_icmp_ge (pc := 14) hB 32 dX3_sumOf_14 (by decide) (fun c_1 => ?_) (fun c_1 => ?_)
      · refine gx_iload_n (pc := 32) hB dX3_sumOf_32 2 rfl ?_
        have e1 : tSum C s m w k = (tSumN C s m w k ((C s).toNatClampNeg)) := by simp [tSum, c_1, eq_false (Int32.not_lt.mpr c_1)]
        exact gx_iret (pc := 33) hC dX3_sumOf_33 (Nat.zero_le _) (Nat.zero_le _) (⟨by rw [e1], rfl⟩)
      · exact absurd (lpT (x := (C s)) hi4) c_1
    | succ dq ih4 =>
      intro i hi4
      refine gx_iload_n (pc := 4) hB dX3_sumOf_4 3 rfl ?_
      refine gx_aload_n (pc := 5) hB dX3_sumOf_5 0 rfl ?_
      refine gx_get (pc := 6) hB dX3_sumOf_6 inX3 rfl 0 rfl 0 (by decide) tb_54 rfl rfl ?_
      refine gx_aload_n (pc := 9) hB dX3_sumOf_9 0 rfl ?_
      refine gx_get (pc := 10) hB dX3_sumOf_10 inX3 rfl 0 rfl 1 (by decide) tb_55 rfl rfl ?_
      refine gx_iald (pc := 13) hB dX3_sumOf_13 1 1 rfl rfl s rfl (by unfold tHb at h0; omega) (by decide) ?_
      refine gx_icmp_ge (pc := 14) hB 32 dX3_sumOf_14 (by decide) (fun c_2 => ?_) (fun c_2 => ?_)
      · exact absurd c_2 (lpF (x := (C s)) hi4)
      · refine gx_iload_n (pc := 17) hB dX3_sumOf_17 2 rfl ?_
        refine gx_aload_n (pc := 18) hB dX3_sumOf_18 0 rfl ?_
        refine gx_iload_n (pc := 19) hB dX3_sumOf_19 3 rfl ?_
        refine gx_iload_n (pc := 20) hB dX3_sumOf_20 1 rfl ?_
        refine gx_dVi (pc := 21) (r := tAt C s m w (nI i) k) (wr := []) hB (c_X3_at l K t c s m w C (nI i) k (by first | assumption | omega | decide)) mX3_at dX3_sumOf_21 tb_203 pX3_at ⟨Nat.le_of_ble_eq_true rfl, Nat.le_of_ble_eq_true rfl⟩ ⟨rfl, rfl⟩ ⟨Nat.zero_le _, Nat.zero_le _⟩ rfl (Nat.le_of_ble_eq_true rfl) [0, 1] [] rfl rfl (by decide) (by decide) (by decide) rfl rfl [0, 1] (by decide) (wT K t c s m w C) rfl ?_
        refine gx_iadd (pc := 24) hB dX3_sumOf_24 ?_
        refine gx_istore_n (pc := 25) hB dX3_sumOf_25 (by decide) [(2, .int (tSumN C s m w k i + (tAt C s m w (nI i) k))), (0, .ref t), (1, .int k), (3, .int (nI i))] rfl ?_
        refine gx_iinc (pc := 26) hB dX3_sumOf_26 3 (by decide) rfl (nI (i + 1)) (nI_1 _) [(3, .int (nI (i + 1))), (2, .int (tSumN C s m w k i + (tAt C s m w (nI i) k))), (0, .ref t), (1, .int k)] rfl ?_
        refine gx_goto (pc := 29) hB 4 dX3_sumOf_29 (by decide) ?_
        have g2 : tSumN C s m w k i + (tAt C s m w (nI i) k) = tSumN C s m w k (i + 1) := by simp [tSum, tSumN, Int32.not_le.mp c_2, eq_false c_2]
        refine gx_sub hB (lv' := [(0, .ref t), (1, .int k), (2, .int (tSumN C s m w k i + (tAt C s m w (nI i) k))), (3, .int (nI (i + 1)))]) [2, 3, 1, 0] rfl ?_
        refine gx_all (ws' := wT K t c s m w C) (lv' := [(0, .ref t), (1, .int k), (2, .int (tSumN C s m w k (i + 1))), (3, .int (nI (i + 1)))]) (rfl) (by rw [← g2]) ?_
        exact ih4 (i + 1) (by omega)
  refine gx_sub hB (lv' := [(0, .ref t), (1, .int k), (2, .int 0), (3, .int 0)]) [2, 3, 1, 0] rfl ?_
  refine gx_all (ws' := wT K t c s m w C) (lv' := [(0, .ref t), (1, .int k), (2, .int (tSumN C s m w k 0)), (3, .int (nI 0))]) (rfl) (rfl) ?_
  exact loop_4 ((C s).toNatClampNeg) 0 (by omega)
