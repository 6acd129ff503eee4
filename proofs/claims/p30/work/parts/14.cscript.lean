theorem pX2_size : (parseMethodDescriptor yX2_size.desc).map (fun d => d.parameters.length) = some 0 := by decide +kernel
theorem mX2_size : gx_M yX2_size cX2_size 1 (some .int) := ⟨tb_188, tb_189, tb_31, tb_190, by decide, by decide⟩
set_option maxHeartbeats 4000000 in
set_option maxRecDepth 100000 in
theorem c_X2_size (l : Launch) (K : gx_K) (v sg nu : Nat) (X : Nat → Int32) (ln : Nat) (N : Nat → Int32) (rd pl : Nat) (rs ca : Int32)  : gx_Ctr l K yX2_size cX2_size 1 (some .int) (rmm 1 0) [.ref v] (wSc K v sg nu X ln N rd pl rs ca) (gx_D (some (.int (nI ln))) (wSc K v sg nu X ln N rd pl rs ca)) := by
  refine gx_of (by decide) (Nat.le_of_ble_eq_true rfl) (fun G hC => ?_)
  have hB := hC.b
  refine gx_lv (lv' := [(0, .ref v)]) rfl ?_
  refine gx_aload_n (pc := 0) hB dX2_size_0 0 rfl ?_
  refine gx_get (pc := 1) hB dX2_size_1 inX2 rfl 0 rfl 1 (by decide) tb_121 rfl rfl ?_
  exact gx_iret (pc := 4) hC dX2_size_4 (Nat.zero_le _) (Nat.zero_le _) (⟨rfl, rfl⟩)