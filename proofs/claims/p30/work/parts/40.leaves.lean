/-! The law's own methods, the smaller ones. -/
theorem pL_home : (parseMethodDescriptor yL_home.desc).map (fun d => d.parameters.length) = some 2 := by decide +kernel
theorem mL_home : gx_MS yL_home cL_home 3 (some .int) := ⟨tb_327, tb_26, tb_328, by decide, by decide⟩
set_option maxHeartbeats 4000000 in
set_option maxRecDepth 100000 in
theorem c_L_home (l : Launch) (K : gx_K) (uf : Nat) (F S : Nat → Int32) (a b c e p : Nat) (h0 : sOk S a b c e) (h1 : ∀ q, q < a → F (10 * q + 9) = sP S q 9) (h2 : p < a) : gx_Ctr l K yL_home cL_home 3 (some .int) (rmm 1 0) [.ref uf, .int (nI p)] ([(uf, .inl (K.2.1.2.1, 60, .inl F))]) (gx_D (some (.int (nI (sHome S p)))) ([(uf, .inl (K.2.1.2.1, 60, .inl F))])) := by
  refine gx_of (by decide) (Nat.le_of_ble_eq_true rfl) (fun GG hC => ?_)
  have hB := hC.b
  refine gx_lv (lv' := [(0, .ref uf), (1, .int (nI p))]) rfl ?_
  refine gx_iload_n (pc := 0) hB dL_home_0 1 rfl ?_
  refine gx_istore_n (pc := 1) hB dL_home_1 (by decide) [(2, .int (nI p)), (0, .ref uf), (1, .int (nI p))] rfl ?_
  obtain ⟨rk, hrk⟩ := h0.2.2.2
  have hb := h0.1
  have loop_2 : ∀ f q : Nat, q < a → rk q ≤ f → sHomeN S f q = sHome S p → GG 0 0 ([(uf, .inl (K.2.1.2.1, 60, .inl F))]) [(0, .ref uf), (1, .int (nI p)), (2, .int (nI q))] 2 [] := by
    intro f
    induction f with
    | zero =>
      intro q hq hr he
      refine gx_aload_n (pc := 2) hB dL_home_2 0 rfl ?_
      refine gx_bipush (pc := 3) hB dL_home_3 10 (by decide) ?_
      refine gx_iload_n (pc := 5) hB dL_home_5 2 rfl ?_
      refine gx_imul (pc := 6) hB dL_home_6 ?_
      refine gx_top (show 10 * nI q = nI (10 * q) from pk_mul 10 q) ?_
      refine gx_bipush (pc := 7) hB dL_home_7 9 (by decide) ?_
      refine gx_iadd (pc := 9) hB dL_home_9 ?_
      refine gx_top (show (nI (10 * q)) + 9 = nI (10 * q + 9) from nI_add (10 * q) 9) ?_
      refine gx_iald (pc := 10) hB dL_home_10 0 1 rfl rfl (10 * q + 9) rfl (by omega) (by decide) ?_
      refine gx_top (show F (10 * q + 9) = sP S q 9 from h1 q hq) ?_
      refine gx_if_lt (pc := 11) hB 27 dL_home_11 (by decide) (fun c_1 => ?_) (fun c_1 => ?_)
      · have e_o : sClosed S q = false := decide_eq_false (Int32.not_le.mpr c_1)
        refine gx_iload_n (pc := 27) hB dL_home_27 2 rfl ?_
        have e1 : (nI (sHome S p)) = nI q := by rw [← he, sHomeN_open e_o]
        exact gx_iret (pc := 28) hC dL_home_28 (Nat.le_of_ble_eq_true rfl) (Nat.le_of_ble_eq_true rfl) ⟨by rw [e1], rfl⟩
      · have e_c : sClosed S q = true := decide_eq_true (Int32.not_lt.mp c_1)
        obtain ⟨w2, hw2, e_2, r_2, e_q⟩ := sCl_of (by omega) hrk hq e_c
        exact absurd r_2 (by omega)
    | succ f ihf =>
      intro q hq hr he
      refine gx_aload_n (pc := 2) hB dL_home_2 0 rfl ?_
      refine gx_bipush (pc := 3) hB dL_home_3 10 (by decide) ?_
      refine gx_iload_n (pc := 5) hB dL_home_5 2 rfl ?_
      refine gx_imul (pc := 6) hB dL_home_6 ?_
      refine gx_top (show 10 * nI q = nI (10 * q) from pk_mul 10 q) ?_
      refine gx_bipush (pc := 7) hB dL_home_7 9 (by decide) ?_
      refine gx_iadd (pc := 9) hB dL_home_9 ?_
      refine gx_top (show (nI (10 * q)) + 9 = nI (10 * q + 9) from nI_add (10 * q) 9) ?_
      refine gx_iald (pc := 10) hB dL_home_10 0 1 rfl rfl (10 * q + 9) rfl (by omega) (by decide) ?_
      refine gx_top (show F (10 * q + 9) = sP S q 9 from h1 q hq) ?_
      refine gx_if_lt (pc := 11) hB 27 dL_home_11 (by decide) (fun c_2 => ?_) (fun c_2 => ?_)
      · have e_o : sClosed S q = false := decide_eq_false (Int32.not_le.mpr c_2)
        refine gx_iload_n (pc := 27) hB dL_home_27 2 rfl ?_
        have e1 : (nI (sHome S p)) = nI q := by rw [← he, sHomeN_open e_o]
        exact gx_iret (pc := 28) hC dL_home_28 (Nat.le_of_ble_eq_true rfl) (Nat.le_of_ble_eq_true rfl) ⟨by rw [e1], rfl⟩
      · have e_c : sClosed S q = true := decide_eq_true (Int32.not_lt.mp c_2)
        obtain ⟨w2, hw2, e_2, r_2, e_q⟩ := sCl_of (by omega) hrk hq e_c
        refine gx_aload_n (pc := 14) hB dL_home_14 0 rfl ?_
        refine gx_bipush (pc := 15) hB dL_home_15 10 (by decide) ?_
        refine gx_iload_n (pc := 17) hB dL_home_17 2 rfl ?_
        refine gx_imul (pc := 18) hB dL_home_18 ?_
        refine gx_top (show 10 * nI q = nI (10 * q) from pk_mul 10 q) ?_
        refine gx_bipush (pc := 19) hB dL_home_19 9 (by decide) ?_
        refine gx_iadd (pc := 21) hB dL_home_21 ?_
        refine gx_top (show (nI (10 * q)) + 9 = nI (10 * q + 9) from nI_add (10 * q) 9) ?_
        refine gx_iald (pc := 22) hB dL_home_22 0 1 rfl rfl (10 * q + 9) rfl (by omega) (by decide) ?_
        refine gx_top (show F (10 * q + 9) = nI w2 from (h1 q hq).trans e_2) ?_
        refine gx_istore_n (pc := 23) hB dL_home_23 (by decide) [(2, .int (nI w2)), (0, .ref uf), (1, .int (nI p))] rfl ?_
        refine gx_goto (pc := 24) hB 2 dL_home_24 (by decide) ?_
        refine gx_sub hB (lv' := [(0, .ref uf), (1, .int (nI p)), (2, .int (nI w2))]) [1, 2, 0] rfl ?_
        exact ihf w2 hw2 (by omega) (by rw [← he]; show _ = sHomeN S f (sStep S q); rw [e_q])
  refine gx_sub hB (lv' := [(0, .ref uf), (1, .int (nI p)), (2, .int (nI p))]) [1, 2, 0] rfl ?_
  exact loop_2 6 p h2 (hrk p h2).1 rfl
theorem pL_gift : (parseMethodDescriptor yL_gift.desc).map (fun d => d.parameters.length) = some 9 := by decide +kernel
theorem mL_gift : gx_MS yL_gift cL_gift 10 (some .int) := ⟨tb_283, tb_26, tb_284, by decide, by decide⟩
set_option maxHeartbeats 4000000 in
set_option maxRecDepth 100000 in
theorem c_L_gift (l : Launch) (K : gx_K) (ug uf uh uv uj : Nat) (G F H V J : Nat → Int32) (c p : Nat) (x z w : Int32) (h0 : G 4 = nI c) (h1 : c < 24) (h2 : p < 6) : gx_Ctr l K yL_gift cL_gift 10 (some .int) (rmm 1 0) [.ref ug, .ref uf, .ref uh, .ref uv, .ref uj, .int x, .int (nI p), .int z, .int w] ([(ug, .inl (K.2.1.2.1, 8, .inl G)), (uf, .inl (K.2.1.2.1, 60, .inl F)), (uh, .inl (K.2.1.2.1, 48, .inl H)), (uv, .inl (K.2.1.2.1, 48, .inl V)), (uj, .inl (K.2.1.2.1, 48, .inl J))]) (gx_D (some (.int (nI c))) ([(ug, .inl (K.2.1.2.1, 8, .inl (upd G 4 (nI (c + 1))))), (uf, .inl (K.2.1.2.1, 60, .inl (upd (upd F (10 * p) ((F (10 * p)) + z)) (10 * p + 1) (((upd F (10 * p) ((F (10 * p)) + z)) (10 * p + 1)) + z)))), (uh, .inl (K.2.1.2.1, 48, .inl (upd (upd H (2 * c) x) (2 * c + 1) (nI p)))), (uv, .inl (K.2.1.2.1, 48, .inl (upd (upd V (2 * c) z) (2 * c + 1) (G 6)))), (uj, .inl (K.2.1.2.1, 48, .inl (upd (upd J (2 * c) 0) (2 * c + 1) w)))])) := by
  refine gx_of (by decide) (Nat.le_of_ble_eq_true rfl) (fun GG hC => ?_)
  have hB := hC.b
  refine gx_lv (lv' := [(0, .ref ug), (1, .ref uf), (2, .ref uh), (3, .ref uv), (4, .ref uj), (5, .int x), (6, .int (nI p)), (7, .int z), (8, .int w)]) rfl ?_
  refine gx_iconst (pc := 0) hB dL_gift_0 2 (by decide) ?_
  refine gx_aload_n (pc := 1) hB dL_gift_1 0 rfl ?_
  refine gx_iconst (pc := 2) hB dL_gift_2 4 (by decide) ?_
  refine gx_iald (pc := 3) hB dL_gift_3 0 1 rfl rfl 4 rfl (by decide) (by decide) ?_
  refine gx_top (show G 4 = nI c from h0) ?_
  refine gx_imul (pc := 4) hB dL_gift_4 ?_
  refine gx_top (show 2 * nI c = nI (2 * c) from pk_mul 2 c) ?_
  refine gx_istore (pc := 5) hB dL_gift_5 (by decide) [(9, .int (nI (2 * c))), (0, .ref ug), (1, .ref uf), (2, .ref uh), (3, .ref uv), (4, .ref uj), (5, .int x), (6, .int (nI p)), (7, .int z), (8, .int w)] rfl ?_
  refine gx_aload_n (pc := 7) hB dL_gift_7 3 rfl ?_
  refine gx_iload (pc := 8) hB dL_gift_8 0 rfl ?_
  refine gx_iload (pc := 10) hB dL_gift_10 6 rfl ?_
  refine gx_iast (pc := 12) hB dL_gift_12 2 1 rfl rfl (2 * c) rfl (by omega) (by decide) ([(ug, .inl (K.2.1.2.1, 8, .inl G)), (uf, .inl (K.2.1.2.1, 60, .inl F)), (uh, .inl (K.2.1.2.1, 48, .inl (upd H (2 * c) x))), (uv, .inl (K.2.1.2.1, 48, .inl V)), (uj, .inl (K.2.1.2.1, 48, .inl J))]) rfl ?_
  refine gx_aload_n (pc := 13) hB dL_gift_13 3 rfl ?_
  refine gx_iload (pc := 14) hB dL_gift_14 0 rfl ?_
  refine gx_iconst (pc := 16) hB dL_gift_16 1 (by decide) ?_
  refine gx_iadd (pc := 17) hB dL_gift_17 ?_
  refine gx_top (show (nI (2 * c)) + 1 = nI (2 * c + 1) from nI_add (2 * c) 1) ?_
  refine gx_iload (pc := 18) hB dL_gift_18 7 rfl ?_
  refine gx_iast (pc := 20) hB dL_gift_20 2 1 rfl rfl (2 * c + 1) rfl (by omega) (by decide) ([(ug, .inl (K.2.1.2.1, 8, .inl G)), (uf, .inl (K.2.1.2.1, 60, .inl F)), (uh, .inl (K.2.1.2.1, 48, .inl (upd (upd H (2 * c) x) (2 * c + 1) (nI p)))), (uv, .inl (K.2.1.2.1, 48, .inl V)), (uj, .inl (K.2.1.2.1, 48, .inl J))]) rfl ?_
  refine gx_aload_n (pc := 21) hB dL_gift_21 4 rfl ?_
  refine gx_iload (pc := 22) hB dL_gift_22 0 rfl ?_
  refine gx_iload (pc := 24) hB dL_gift_24 8 rfl ?_
  refine gx_iast (pc := 26) hB dL_gift_26 3 1 rfl rfl (2 * c) rfl (by omega) (by decide) ([(ug, .inl (K.2.1.2.1, 8, .inl G)), (uf, .inl (K.2.1.2.1, 60, .inl F)), (uh, .inl (K.2.1.2.1, 48, .inl (upd (upd H (2 * c) x) (2 * c + 1) (nI p)))), (uv, .inl (K.2.1.2.1, 48, .inl (upd V (2 * c) z))), (uj, .inl (K.2.1.2.1, 48, .inl J))]) rfl ?_
  refine gx_aload_n (pc := 27) hB dL_gift_27 4 rfl ?_
  refine gx_iload (pc := 28) hB dL_gift_28 0 rfl ?_
  refine gx_iconst (pc := 30) hB dL_gift_30 1 (by decide) ?_
  refine gx_iadd (pc := 31) hB dL_gift_31 ?_
  refine gx_top (show (nI (2 * c)) + 1 = nI (2 * c + 1) from nI_add (2 * c) 1) ?_
  refine gx_aload_n (pc := 32) hB dL_gift_32 1 rfl ?_
  refine gx_bipush (pc := 33) hB dL_gift_33 6 (by decide) ?_
  refine gx_iald (pc := 35) hB dL_gift_35 0 1 rfl rfl 6 rfl (by decide) (by decide) ?_
  refine gx_iast (pc := 36) hB dL_gift_36 3 1 rfl rfl (2 * c + 1) rfl (by omega) (by decide) ([(ug, .inl (K.2.1.2.1, 8, .inl G)), (uf, .inl (K.2.1.2.1, 60, .inl F)), (uh, .inl (K.2.1.2.1, 48, .inl (upd (upd H (2 * c) x) (2 * c + 1) (nI p)))), (uv, .inl (K.2.1.2.1, 48, .inl (upd (upd V (2 * c) z) (2 * c + 1) (G 6)))), (uj, .inl (K.2.1.2.1, 48, .inl J))]) rfl ?_
  refine gx_aload (pc := 37) hB dL_gift_37 5 rfl ?_
  refine gx_iload (pc := 39) hB dL_gift_39 0 rfl ?_
  refine gx_iconst (pc := 41) hB dL_gift_41 0 (by decide) ?_
  refine gx_iast (pc := 42) hB dL_gift_42 4 1 rfl rfl (2 * c) rfl (by omega) (by decide) ([(ug, .inl (K.2.1.2.1, 8, .inl G)), (uf, .inl (K.2.1.2.1, 60, .inl F)), (uh, .inl (K.2.1.2.1, 48, .inl (upd (upd H (2 * c) x) (2 * c + 1) (nI p)))), (uv, .inl (K.2.1.2.1, 48, .inl (upd (upd V (2 * c) z) (2 * c + 1) (G 6)))), (uj, .inl (K.2.1.2.1, 48, .inl (upd J (2 * c) 0)))]) rfl ?_
  refine gx_aload (pc := 43) hB dL_gift_43 5 rfl ?_
  refine gx_iload (pc := 45) hB dL_gift_45 0 rfl ?_
  refine gx_iconst (pc := 47) hB dL_gift_47 1 (by decide) ?_
  refine gx_iadd (pc := 48) hB dL_gift_48 ?_
  refine gx_top (show (nI (2 * c)) + 1 = nI (2 * c + 1) from nI_add (2 * c) 1) ?_
  refine gx_iload (pc := 49) hB dL_gift_49 9 rfl ?_
  refine gx_iast (pc := 51) hB dL_gift_51 4 1 rfl rfl (2 * c + 1) rfl (by omega) (by decide) ([(ug, .inl (K.2.1.2.1, 8, .inl G)), (uf, .inl (K.2.1.2.1, 60, .inl F)), (uh, .inl (K.2.1.2.1, 48, .inl (upd (upd H (2 * c) x) (2 * c + 1) (nI p)))), (uv, .inl (K.2.1.2.1, 48, .inl (upd (upd V (2 * c) z) (2 * c + 1) (G 6)))), (uj, .inl (K.2.1.2.1, 48, .inl (upd (upd J (2 * c) 0) (2 * c + 1) w)))]) rfl ?_
  refine gx_aload_n (pc := 52) hB dL_gift_52 2 rfl ?_
  refine gx_bipush (pc := 53) hB dL_gift_53 10 (by decide) ?_
  refine gx_iload (pc := 55) hB dL_gift_55 7 rfl ?_
  refine gx_imul (pc := 57) hB dL_gift_57 ?_
  refine gx_top (show 10 * nI p = nI (10 * p) from pk_mul 10 p) ?_
  refine gx_dup2 (pc := 58) hB dL_gift_58 rfl rfl ?_
  refine gx_iald (pc := 59) hB dL_gift_59 1 1 rfl rfl (10 * p) rfl (by omega) (by decide) ?_
  refine gx_iload (pc := 60) hB dL_gift_60 8 rfl ?_
  refine gx_iadd (pc := 62) hB dL_gift_62 ?_
  refine gx_iast (pc := 63) hB dL_gift_63 1 1 rfl rfl (10 * p) rfl (by omega) (by decide) ([(ug, .inl (K.2.1.2.1, 8, .inl G)), (uf, .inl (K.2.1.2.1, 60, .inl (upd F (10 * p) ((F (10 * p)) + z)))), (uh, .inl (K.2.1.2.1, 48, .inl (upd (upd H (2 * c) x) (2 * c + 1) (nI p)))), (uv, .inl (K.2.1.2.1, 48, .inl (upd (upd V (2 * c) z) (2 * c + 1) (G 6)))), (uj, .inl (K.2.1.2.1, 48, .inl (upd (upd J (2 * c) 0) (2 * c + 1) w)))]) rfl ?_
  refine gx_aload_n (pc := 64) hB dL_gift_64 2 rfl ?_
  refine gx_bipush (pc := 65) hB dL_gift_65 10 (by decide) ?_
  refine gx_iload (pc := 67) hB dL_gift_67 7 rfl ?_
  refine gx_imul (pc := 69) hB dL_gift_69 ?_
  refine gx_top (show 10 * nI p = nI (10 * p) from pk_mul 10 p) ?_
  refine gx_iconst (pc := 70) hB dL_gift_70 1 (by decide) ?_
  refine gx_iadd (pc := 71) hB dL_gift_71 ?_
  refine gx_top (show (nI (10 * p)) + 1 = nI (10 * p + 1) from nI_add (10 * p) 1) ?_
  refine gx_dup2 (pc := 72) hB dL_gift_72 rfl rfl ?_
  refine gx_iald (pc := 73) hB dL_gift_73 1 1 rfl rfl (10 * p + 1) rfl (by omega) (by decide) ?_
  refine gx_iload (pc := 74) hB dL_gift_74 8 rfl ?_
  refine gx_iadd (pc := 76) hB dL_gift_76 ?_
  refine gx_iast (pc := 77) hB dL_gift_77 1 1 rfl rfl (10 * p + 1) rfl (by omega) (by decide) ([(ug, .inl (K.2.1.2.1, 8, .inl G)), (uf, .inl (K.2.1.2.1, 60, .inl (upd (upd F (10 * p) ((F (10 * p)) + z)) (10 * p + 1) (((upd F (10 * p) ((F (10 * p)) + z)) (10 * p + 1)) + z)))), (uh, .inl (K.2.1.2.1, 48, .inl (upd (upd H (2 * c) x) (2 * c + 1) (nI p)))), (uv, .inl (K.2.1.2.1, 48, .inl (upd (upd V (2 * c) z) (2 * c + 1) (G 6)))), (uj, .inl (K.2.1.2.1, 48, .inl (upd (upd J (2 * c) 0) (2 * c + 1) w)))]) rfl ?_
  refine gx_aload_n (pc := 78) hB dL_gift_78 1 rfl ?_
  refine gx_iconst (pc := 79) hB dL_gift_79 4 (by decide) ?_
  refine gx_dup2 (pc := 80) hB dL_gift_80 rfl rfl ?_
  refine gx_iald (pc := 81) hB dL_gift_81 0 1 rfl rfl 4 rfl (by decide) (by decide) ?_
  refine gx_top (show G 4 = nI c from h0) ?_
  refine gx_iconst (pc := 82) hB dL_gift_82 1 (by decide) ?_
  refine gx_iadd (pc := 83) hB dL_gift_83 ?_
  refine gx_top (show nI c + 1 = nI (c + 1) from nI_add c 1) ?_
  refine gx_iast (pc := 84) hB dL_gift_84 0 1 rfl rfl 4 rfl (by decide) (by decide) ([(ug, .inl (K.2.1.2.1, 8, .inl (upd G 4 (nI (c + 1))))), (uf, .inl (K.2.1.2.1, 60, .inl (upd (upd F (10 * p) ((F (10 * p)) + z)) (10 * p + 1) (((upd F (10 * p) ((F (10 * p)) + z)) (10 * p + 1)) + z)))), (uh, .inl (K.2.1.2.1, 48, .inl (upd (upd H (2 * c) x) (2 * c + 1) (nI p)))), (uv, .inl (K.2.1.2.1, 48, .inl (upd (upd V (2 * c) z) (2 * c + 1) (G 6)))), (uj, .inl (K.2.1.2.1, 48, .inl (upd (upd J (2 * c) 0) (2 * c + 1) w)))]) rfl ?_
  refine gx_aload_n (pc := 85) hB dL_gift_85 1 rfl ?_
  refine gx_iconst (pc := 86) hB dL_gift_86 4 (by decide) ?_
  refine gx_iald (pc := 87) hB dL_gift_87 0 1 rfl rfl 4 rfl (by decide) (by decide) ?_
  refine gx_top (show (upd G 4 (nI (c + 1))) 4 = nI (c + 1) from pk_us) ?_
  refine gx_iconst (pc := 88) hB dL_gift_88 1 (by decide) ?_
  refine gx_isub (pc := 89) hB dL_gift_89 ?_
  refine gx_top (show (nI (c + 1)) - 1 = nI c from nI_pred c) ?_
  exact gx_iret (pc := 90) hC dL_gift_90 (Nat.le_of_ble_eq_true rfl) (Nat.le_of_ble_eq_true rfl) ⟨rfl, rfl⟩
theorem pL_year : (parseMethodDescriptor yL_year.desc).map (fun d => d.parameters.length) = some 6 := by decide +kernel
theorem mL_year : gx_MS yL_year cL_year 8 (some .int) := ⟨tb_324, tb_26, tb_325, by decide, by decide⟩
set_option maxHeartbeats 4000000 in
set_option maxRecDepth 100000 in
theorem c_L_year (l : Launch) (K : gx_K) (ug uh uv uj : Nat) (G H V J S : Nat → Int32) (c : Nat) (x y : Int32) (h0 : G 4 = nI c) (h1 : c ≤ 24) (h2 : ∀ g, g < c → (H (2 * g) = sG S g 0 ∧ H (2 * g + 1) = sG S g 1 ∧ V (2 * g) = sG S g 2 ∧ V (2 * g + 1) = sG S g 3) ∧ J (2 * g) = hJ (sG S g 4) (sG S g 5) ∧ J (2 * g + 1) = sG S g 6) : gx_Ctr l K yL_year cL_year 8 (some .int) (rmm 1 0) [.ref ug, .ref uh, .ref uv, .ref uj, .int x, .int y] ([(ug, .inl (K.2.1.2.1, 8, .inl G)), (uh, .inl (K.2.1.2.1, 48, .inl H)), (uv, .inl (K.2.1.2.1, 48, .inl V)), (uj, .inl (K.2.1.2.1, 48, .inl J))]) (gx_D (some (.int (yrN S x y c))) ([(ug, .inl (K.2.1.2.1, 8, .inl G)), (uh, .inl (K.2.1.2.1, 48, .inl H)), (uv, .inl (K.2.1.2.1, 48, .inl V)), (uj, .inl (K.2.1.2.1, 48, .inl J))])) := by
  refine gx_of (by decide) (Nat.le_of_ble_eq_true rfl) (fun GG hC => ?_)
  have hB := hC.b
  refine gx_lv (lv' := [(0, .ref ug), (1, .ref uh), (2, .ref uv), (3, .ref uj), (4, .int x), (5, .int y)]) rfl ?_
  refine gx_iconst (pc := 0) hB dL_year_0 0 (by decide) ?_
  refine gx_istore (pc := 1) hB dL_year_1 (by decide) [(6, .int 0), (0, .ref ug), (1, .ref uh), (2, .ref uv), (3, .ref uj), (4, .int x), (5, .int y)] rfl ?_
  refine gx_iconst (pc := 3) hB dL_year_3 0 (by decide) ?_
  refine gx_istore (pc := 4) hB dL_year_4 (by decide) [(7, .int 0), (6, .int 0), (0, .ref ug), (1, .ref uh), (2, .ref uv), (3, .ref uj), (4, .int x), (5, .int y)] rfl ?_
  have loop_6 : ∀ (dq i : Nat) (sm : Int32), i + dq = c → (sm = yrN S x y i) → GG 0 0 ([(ug, .inl (K.2.1.2.1, 8, .inl G)), (uh, .inl (K.2.1.2.1, 48, .inl H)), (uv, .inl (K.2.1.2.1, 48, .inl V)), (uj, .inl (K.2.1.2.1, 48, .inl J))]) [(0, .ref ug), (1, .ref uh), (2, .ref uv), (3, .ref uj), (4, .int x), (5, .int y), (6, .int sm), (7, .int (nI i))] 6 [] := by
    intro dq
    induction dq with
    | zero =>
      intro i sm hi6 hm
      have hz6 : i = c := by omega
      refine gx_iload (pc := 6) hB dL_year_6 7 rfl ?_
      refine gx_aload_n (pc := 8) hB dL_year_8 0 rfl ?_
      refine gx_iconst (pc := 9) hB dL_year_9 4 (by decide) ?_
      refine gx_iald (pc := 10) hB dL_year_10 0 1 rfl rfl 4 rfl (by decide) (by decide) ?_
      refine gx_top (show G 4 = nI c from h0) ?_
      refine gx_icmp_ge (pc := 11) hB 72 dL_year_11 (by decide) (fun c_1 => ?_) (fun c_1 => ?_)
      · refine gx_iload (pc := 72) hB dL_year_72 6 rfl ?_
        have e1 : yrN S x y c = sm := by rw [hm, hz6]
        exact gx_iret (pc := 74) hC dL_year_74 (Nat.le_of_ble_eq_true rfl) (Nat.le_of_ble_eq_true rfl) ⟨by rw [e1], rfl⟩
      · exact absurd (lpTn (c := c) (by omega) hi6) c_1
    | succ dq ih6 =>
      intro i sm hi6 hm
      refine gx_iload (pc := 6) hB dL_year_6 7 rfl ?_
      refine gx_aload_n (pc := 8) hB dL_year_8 0 rfl ?_
      refine gx_iconst (pc := 9) hB dL_year_9 4 (by decide) ?_
      refine gx_iald (pc := 10) hB dL_year_10 0 1 rfl rfl 4 rfl (by decide) (by decide) ?_
      refine gx_top (show G 4 = nI c from h0) ?_
      refine gx_icmp_ge (pc := 11) hB 72 dL_year_11 (by decide) (fun c_2 => ?_) (fun c_2 => ?_)
      · exact absurd c_2 (lpFn (c := c) (by omega) hi6)
      · refine gx_iload (pc := 14) hB dL_year_14 6 rfl ?_
        refine gx_aload_n (pc := 16) hB dL_year_16 1 rfl ?_
        refine gx_iconst (pc := 17) hB dL_year_17 2 (by decide) ?_
        refine gx_iload (pc := 18) hB dL_year_18 7 rfl ?_
        refine gx_imul (pc := 20) hB dL_year_20 ?_
        refine gx_top (show 2 * nI i = nI (2 * i) from pk_mul 2 i) ?_
        refine gx_iald (pc := 21) hB dL_year_21 1 1 rfl rfl (2 * i) rfl (by omega) (by decide) ?_
        refine gx_top (show H (2 * i) = sG S i 0 from (h2 i (by omega)).1.1) ?_
        refine gx_iload (pc := 22) hB dL_year_22 4 rfl ?_
        refine gx_icmp_ne (pc := 24) hB 62 dL_year_24 (by decide) (fun c_3 => ?_) (fun c_3 => ?_)
        · refine gx_iconst (pc := 62) hB dL_year_62 0 (by decide) ?_
          refine gx_iadd (pc := 63) hB dL_year_63 ?_
          refine gx_top (show sm + 0 = sm from Int32.add_zero _) ?_
          refine gx_istore (pc := 64) hB dL_year_64 (by decide) [(6, .int sm), (0, .ref ug), (1, .ref uh), (2, .ref uv), (3, .ref uj), (4, .int x), (5, .int y), (7, .int (nI i))] rfl ?_
          refine gx_iinc (pc := 66) hB dL_year_66 7 (by decide) rfl (nI (i + 1)) (nI_1 _) [(7, .int (nI (i + 1))), (6, .int sm), (0, .ref ug), (1, .ref uh), (2, .ref uv), (3, .ref uj), (4, .int x), (5, .int y)] rfl ?_
          refine gx_goto (pc := 69) hB 6 dL_year_69 (by decide) ?_
          refine gx_sub hB (lv' := [(0, .ref ug), (1, .ref uh), (2, .ref uv), (3, .ref uj), (4, .int x), (5, .int y), (6, .int sm), (7, .int (nI (i + 1)))]) [2, 3, 4, 5, 6, 7, 1, 0] rfl ?_
          exact ih6 (i + 1) sm (by omega) (by rw [hm]; simp [yrN, Int32.not_le.mp c_2, eq_false c_2, eq_false c_3])
        · refine gx_aload_n (pc := 27) hB dL_year_27 2 rfl ?_
          refine gx_iconst (pc := 28) hB dL_year_28 2 (by decide) ?_
          refine gx_iload (pc := 29) hB dL_year_29 7 rfl ?_
          refine gx_imul (pc := 31) hB dL_year_31 ?_
          refine gx_top (show 2 * nI i = nI (2 * i) from pk_mul 2 i) ?_
          refine gx_iconst (pc := 32) hB dL_year_32 1 (by decide) ?_
          refine gx_iadd (pc := 33) hB dL_year_33 ?_
          refine gx_top (show (nI (2 * i)) + 1 = nI (2 * i + 1) from nI_add (2 * i) 1) ?_
          refine gx_iald (pc := 34) hB dL_year_34 2 1 rfl rfl (2 * i + 1) rfl (by omega) (by decide) ?_
          refine gx_top (show V (2 * i + 1) = sG S i 3 from (h2 i (by omega)).1.2.2.2) ?_
          refine gx_bipush (pc := 35) hB dL_year_35 12 (by decide) ?_
          refine gx_idiv (pc := 37) hB dL_year_37 (by decide) ?_
          refine gx_iload (pc := 38) hB dL_year_38 5 rfl ?_
          refine gx_icmp_ne (pc := 40) hB 62 dL_year_40 (by decide) (fun c_4 => ?_) (fun c_4 => ?_)
          · refine gx_iconst (pc := 62) hB dL_year_62 0 (by decide) ?_
            refine gx_iadd (pc := 63) hB dL_year_63 ?_
            refine gx_top (show sm + 0 = sm from Int32.add_zero _) ?_
            refine gx_istore (pc := 64) hB dL_year_64 (by decide) [(6, .int sm), (0, .ref ug), (1, .ref uh), (2, .ref uv), (3, .ref uj), (4, .int x), (5, .int y), (7, .int (nI i))] rfl ?_
            refine gx_iinc (pc := 66) hB dL_year_66 7 (by decide) rfl (nI (i + 1)) (nI_1 _) [(7, .int (nI (i + 1))), (6, .int sm), (0, .ref ug), (1, .ref uh), (2, .ref uv), (3, .ref uj), (4, .int x), (5, .int y)] rfl ?_
            refine gx_goto (pc := 69) hB 6 dL_year_69 (by decide) ?_
            refine gx_sub hB (lv' := [(0, .ref ug), (1, .ref uh), (2, .ref uv), (3, .ref uj), (4, .int x), (5, .int y), (6, .int sm), (7, .int (nI (i + 1)))]) [2, 3, 4, 5, 6, 7, 1, 0] rfl ?_
            exact ih6 (i + 1) sm (by omega) (by rw [hm]; simp [yrN, Int32.not_le.mp c_2, eq_false c_2, eq_true c_3, eq_false c_4])
          · refine gx_aload_n (pc := 43) hB dL_year_43 3 rfl ?_
            refine gx_iconst (pc := 44) hB dL_year_44 2 (by decide) ?_
            refine gx_iload (pc := 45) hB dL_year_45 7 rfl ?_
            refine gx_imul (pc := 47) hB dL_year_47 ?_
            refine gx_top (show 2 * nI i = nI (2 * i) from pk_mul 2 i) ?_
            refine gx_iald (pc := 48) hB dL_year_48 3 1 rfl rfl (2 * i) rfl (by omega) (by decide) ?_
            refine gx_top (show J (2 * i) = hJ (sG S i 4) (sG S i 5) from (h2 i (by omega)).2.1) ?_
            refine gx_iconst (pc := 49) hB dL_year_49 1 (by decide) ?_
            refine gx_icmp_ne (pc := 50) hB 62 dL_year_50 (by decide) (fun c_5 => ?_) (fun c_5 => ?_)
            · refine gx_iconst (pc := 62) hB dL_year_62 0 (by decide) ?_
              refine gx_iadd (pc := 63) hB dL_year_63 ?_
              refine gx_top (show sm + 0 = sm from Int32.add_zero _) ?_
              refine gx_istore (pc := 64) hB dL_year_64 (by decide) [(6, .int sm), (0, .ref ug), (1, .ref uh), (2, .ref uv), (3, .ref uj), (4, .int x), (5, .int y), (7, .int (nI i))] rfl ?_
              refine gx_iinc (pc := 66) hB dL_year_66 7 (by decide) rfl (nI (i + 1)) (nI_1 _) [(7, .int (nI (i + 1))), (6, .int sm), (0, .ref ug), (1, .ref uh), (2, .ref uv), (3, .ref uj), (4, .int x), (5, .int y)] rfl ?_
              refine gx_goto (pc := 69) hB 6 dL_year_69 (by decide) ?_
              refine gx_sub hB (lv' := [(0, .ref ug), (1, .ref uh), (2, .ref uv), (3, .ref uj), (4, .int x), (5, .int y), (6, .int sm), (7, .int (nI (i + 1)))]) [2, 3, 4, 5, 6, 7, 1, 0] rfl ?_
              exact ih6 (i + 1) sm (by omega) (by rw [hm]; simp [yrN, Int32.not_le.mp c_2, eq_false c_2, eq_true c_3, eq_true c_4, eq_false c_5])
            · refine gx_aload_n (pc := 53) hB dL_year_53 2 rfl ?_
              refine gx_iconst (pc := 54) hB dL_year_54 2 (by decide) ?_
              refine gx_iload (pc := 55) hB dL_year_55 7 rfl ?_
              refine gx_imul (pc := 57) hB dL_year_57 ?_
              refine gx_top (show 2 * nI i = nI (2 * i) from pk_mul 2 i) ?_
              refine gx_iald (pc := 58) hB dL_year_58 2 1 rfl rfl (2 * i) rfl (by omega) (by decide) ?_
              refine gx_top (show V (2 * i) = sG S i 2 from (h2 i (by omega)).1.2.2.1) ?_
              refine gx_goto (pc := 59) hB 63 dL_year_59 (by decide) ?_
              refine gx_iadd (pc := 63) hB dL_year_63 ?_
              refine gx_istore (pc := 64) hB dL_year_64 (by decide) [(6, .int (sm + sG S i 2)), (0, .ref ug), (1, .ref uh), (2, .ref uv), (3, .ref uj), (4, .int x), (5, .int y), (7, .int (nI i))] rfl ?_
              refine gx_iinc (pc := 66) hB dL_year_66 7 (by decide) rfl (nI (i + 1)) (nI_1 _) [(7, .int (nI (i + 1))), (6, .int (sm + sG S i 2)), (0, .ref ug), (1, .ref uh), (2, .ref uv), (3, .ref uj), (4, .int x), (5, .int y)] rfl ?_
              refine gx_goto (pc := 69) hB 6 dL_year_69 (by decide) ?_
              refine gx_sub hB (lv' := [(0, .ref ug), (1, .ref uh), (2, .ref uv), (3, .ref uj), (4, .int x), (5, .int y), (6, .int (sm + sG S i 2)), (7, .int (nI (i + 1)))]) [2, 3, 4, 5, 6, 7, 1, 0] rfl ?_
              exact ih6 (i + 1) (sm + sG S i 2) (by omega) (by rw [hm]; simp [yrN, Int32.not_le.mp c_2, eq_false c_2, eq_true c_3, eq_true c_4, eq_true c_5])
  refine gx_sub hB (lv' := [(0, .ref ug), (1, .ref uh), (2, .ref uv), (3, .ref uj), (4, .int x), (5, .int y), (6, .int 0), (7, .int 0)]) [2, 3, 4, 5, 6, 7, 1, 0] rfl ?_
  exact loop_6 (c) 0 0 (by omega) rfl
theorem pL_weight : (parseMethodDescriptor yL_weight.desc).map (fun d => d.parameters.length) = some 6 := by decide +kernel
theorem mL_weight : gx_MS yL_weight cL_weight 8 (some .int) := ⟨tb_405, tb_26, tb_406, by decide, by decide⟩
set_option maxHeartbeats 4000000 in
set_option maxRecDepth 100000 in
theorem c_L_weight (l : Launch) (K : gx_K) (ug uh uv uj : Nat) (G H V J S : Nat → Int32) (c : Nat) (x y : Int32) (h0 : G 4 = nI c) (h1 : c ≤ 24) (h2 : ∀ g, g < c → (H (2 * g) = sG S g 0 ∧ H (2 * g + 1) = sG S g 1 ∧ V (2 * g) = sG S g 2 ∧ V (2 * g + 1) = sG S g 3) ∧ J (2 * g) = hJ (sG S g 4) (sG S g 5) ∧ J (2 * g + 1) = sG S g 6) : gx_Ctr l K yL_weight cL_weight 8 (some .int) (rmm 1 0) [.ref ug, .ref uh, .ref uv, .ref uj, .int x, .int y] ([(ug, .inl (K.2.1.2.1, 8, .inl G)), (uh, .inl (K.2.1.2.1, 48, .inl H)), (uv, .inl (K.2.1.2.1, 48, .inl V)), (uj, .inl (K.2.1.2.1, 48, .inl J))]) (gx_D (some (.int (wtN S x y c))) ([(ug, .inl (K.2.1.2.1, 8, .inl G)), (uh, .inl (K.2.1.2.1, 48, .inl H)), (uv, .inl (K.2.1.2.1, 48, .inl V)), (uj, .inl (K.2.1.2.1, 48, .inl J))])) := by
  refine gx_of (by decide) (Nat.le_of_ble_eq_true rfl) (fun GG hC => ?_)
  have hB := hC.b
  refine gx_lv (lv' := [(0, .ref ug), (1, .ref uh), (2, .ref uv), (3, .ref uj), (4, .int x), (5, .int y)]) rfl ?_
  refine gx_iconst (pc := 0) hB dL_weight_0 0 (by decide) ?_
  refine gx_istore (pc := 1) hB dL_weight_1 (by decide) [(6, .int 0), (0, .ref ug), (1, .ref uh), (2, .ref uv), (3, .ref uj), (4, .int x), (5, .int y)] rfl ?_
  refine gx_iconst (pc := 3) hB dL_weight_3 0 (by decide) ?_
  refine gx_istore (pc := 4) hB dL_weight_4 (by decide) [(7, .int 0), (6, .int 0), (0, .ref ug), (1, .ref uh), (2, .ref uv), (3, .ref uj), (4, .int x), (5, .int y)] rfl ?_
  have loop_6 : ∀ (dq i : Nat) (sm : Int32), i + dq = c → (sm = wtN S x y i) → GG 0 0 ([(ug, .inl (K.2.1.2.1, 8, .inl G)), (uh, .inl (K.2.1.2.1, 48, .inl H)), (uv, .inl (K.2.1.2.1, 48, .inl V)), (uj, .inl (K.2.1.2.1, 48, .inl J))]) [(0, .ref ug), (1, .ref uh), (2, .ref uv), (3, .ref uj), (4, .int x), (5, .int y), (6, .int sm), (7, .int (nI i))] 6 [] := by
    intro dq
    induction dq with
    | zero =>
      intro i sm hi6 hm
      have hz6 : i = c := by omega
      refine gx_iload (pc := 6) hB dL_weight_6 7 rfl ?_
      refine gx_aload_n (pc := 8) hB dL_weight_8 0 rfl ?_
      refine gx_iconst (pc := 9) hB dL_weight_9 4 (by decide) ?_
      refine gx_iald (pc := 10) hB dL_weight_10 0 1 rfl rfl 4 rfl (by decide) (by decide) ?_
      refine gx_top (show G 4 = nI c from h0) ?_
      refine gx_icmp_ge (pc := 11) hB 69 dL_weight_11 (by decide) (fun c_1 => ?_) (fun c_1 => ?_)
      · refine gx_iload (pc := 69) hB dL_weight_69 6 rfl ?_
        have e1 : wtN S x y c = sm := by rw [hm, hz6]
        exact gx_iret (pc := 71) hC dL_weight_71 (Nat.le_of_ble_eq_true rfl) (Nat.le_of_ble_eq_true rfl) ⟨by rw [e1], rfl⟩
      · exact absurd (lpTn (c := c) (by omega) hi6) c_1
    | succ dq ih6 =>
      intro i sm hi6 hm
      refine gx_iload (pc := 6) hB dL_weight_6 7 rfl ?_
      refine gx_aload_n (pc := 8) hB dL_weight_8 0 rfl ?_
      refine gx_iconst (pc := 9) hB dL_weight_9 4 (by decide) ?_
      refine gx_iald (pc := 10) hB dL_weight_10 0 1 rfl rfl 4 rfl (by decide) (by decide) ?_
      refine gx_top (show G 4 = nI c from h0) ?_
      refine gx_icmp_ge (pc := 11) hB 69 dL_weight_11 (by decide) (fun c_2 => ?_) (fun c_2 => ?_)
      · exact absurd c_2 (lpFn (c := c) (by omega) hi6)
      · refine gx_iload (pc := 14) hB dL_weight_14 6 rfl ?_
        refine gx_aload_n (pc := 16) hB dL_weight_16 1 rfl ?_
        refine gx_iconst (pc := 17) hB dL_weight_17 2 (by decide) ?_
        refine gx_iload (pc := 18) hB dL_weight_18 7 rfl ?_
        refine gx_imul (pc := 20) hB dL_weight_20 ?_
        refine gx_top (show 2 * nI i = nI (2 * i) from pk_mul 2 i) ?_
        refine gx_iald (pc := 21) hB dL_weight_21 1 1 rfl rfl (2 * i) rfl (by omega) (by decide) ?_
        refine gx_top (show H (2 * i) = sG S i 0 from (h2 i (by omega)).1.1) ?_
        refine gx_iload (pc := 22) hB dL_weight_22 4 rfl ?_
        refine gx_icmp_ne (pc := 24) hB 59 dL_weight_24 (by decide) (fun c_3 => ?_) (fun c_3 => ?_)
        · refine gx_iconst (pc := 59) hB dL_weight_59 0 (by decide) ?_
          refine gx_iadd (pc := 60) hB dL_weight_60 ?_
          refine gx_top (show sm + 0 = sm from Int32.add_zero _) ?_
          refine gx_istore (pc := 61) hB dL_weight_61 (by decide) [(6, .int sm), (0, .ref ug), (1, .ref uh), (2, .ref uv), (3, .ref uj), (4, .int x), (5, .int y), (7, .int (nI i))] rfl ?_
          refine gx_iinc (pc := 63) hB dL_weight_63 7 (by decide) rfl (nI (i + 1)) (nI_1 _) [(7, .int (nI (i + 1))), (6, .int sm), (0, .ref ug), (1, .ref uh), (2, .ref uv), (3, .ref uj), (4, .int x), (5, .int y)] rfl ?_
          refine gx_goto (pc := 66) hB 6 dL_weight_66 (by decide) ?_
          refine gx_sub hB (lv' := [(0, .ref ug), (1, .ref uh), (2, .ref uv), (3, .ref uj), (4, .int x), (5, .int y), (6, .int sm), (7, .int (nI (i + 1)))]) [2, 3, 4, 5, 6, 7, 1, 0] rfl ?_
          exact ih6 (i + 1) sm (by omega) (by rw [hm]; simp [wtN, Int32.not_le.mp c_2, eq_false c_2, eq_false c_3])
        · refine gx_aload_n (pc := 27) hB dL_weight_27 1 rfl ?_
          refine gx_iconst (pc := 28) hB dL_weight_28 2 (by decide) ?_
          refine gx_iload (pc := 29) hB dL_weight_29 7 rfl ?_
          refine gx_imul (pc := 31) hB dL_weight_31 ?_
          refine gx_top (show 2 * nI i = nI (2 * i) from pk_mul 2 i) ?_
          refine gx_iconst (pc := 32) hB dL_weight_32 1 (by decide) ?_
          refine gx_iadd (pc := 33) hB dL_weight_33 ?_
          refine gx_top (show (nI (2 * i)) + 1 = nI (2 * i + 1) from nI_add (2 * i) 1) ?_
          refine gx_iald (pc := 34) hB dL_weight_34 1 1 rfl rfl (2 * i + 1) rfl (by omega) (by decide) ?_
          refine gx_top (show H (2 * i + 1) = sG S i 1 from (h2 i (by omega)).1.2.1) ?_
          refine gx_iload (pc := 35) hB dL_weight_35 5 rfl ?_
          refine gx_icmp_ne (pc := 37) hB 59 dL_weight_37 (by decide) (fun c_4 => ?_) (fun c_4 => ?_)
          · refine gx_iconst (pc := 59) hB dL_weight_59 0 (by decide) ?_
            refine gx_iadd (pc := 60) hB dL_weight_60 ?_
            refine gx_top (show sm + 0 = sm from Int32.add_zero _) ?_
            refine gx_istore (pc := 61) hB dL_weight_61 (by decide) [(6, .int sm), (0, .ref ug), (1, .ref uh), (2, .ref uv), (3, .ref uj), (4, .int x), (5, .int y), (7, .int (nI i))] rfl ?_
            refine gx_iinc (pc := 63) hB dL_weight_63 7 (by decide) rfl (nI (i + 1)) (nI_1 _) [(7, .int (nI (i + 1))), (6, .int sm), (0, .ref ug), (1, .ref uh), (2, .ref uv), (3, .ref uj), (4, .int x), (5, .int y)] rfl ?_
            refine gx_goto (pc := 66) hB 6 dL_weight_66 (by decide) ?_
            refine gx_sub hB (lv' := [(0, .ref ug), (1, .ref uh), (2, .ref uv), (3, .ref uj), (4, .int x), (5, .int y), (6, .int sm), (7, .int (nI (i + 1)))]) [2, 3, 4, 5, 6, 7, 1, 0] rfl ?_
            exact ih6 (i + 1) sm (by omega) (by rw [hm]; simp [wtN, Int32.not_le.mp c_2, eq_false c_2, eq_true c_3, eq_false c_4])
          · refine gx_aload_n (pc := 40) hB dL_weight_40 3 rfl ?_
            refine gx_iconst (pc := 41) hB dL_weight_41 2 (by decide) ?_
            refine gx_iload (pc := 42) hB dL_weight_42 7 rfl ?_
            refine gx_imul (pc := 44) hB dL_weight_44 ?_
            refine gx_top (show 2 * nI i = nI (2 * i) from pk_mul 2 i) ?_
            refine gx_iald (pc := 45) hB dL_weight_45 3 1 rfl rfl (2 * i) rfl (by omega) (by decide) ?_
            refine gx_top (show J (2 * i) = hJ (sG S i 4) (sG S i 5) from (h2 i (by omega)).2.1) ?_
            refine gx_iconst (pc := 46) hB dL_weight_46 2 (by decide) ?_
            refine gx_icmp_ge (pc := 47) hB 59 dL_weight_47 (by decide) (fun c_5 => ?_) (fun c_5 => ?_)
            · refine gx_iconst (pc := 59) hB dL_weight_59 0 (by decide) ?_
              refine gx_iadd (pc := 60) hB dL_weight_60 ?_
              refine gx_top (show sm + 0 = sm from Int32.add_zero _) ?_
              refine gx_istore (pc := 61) hB dL_weight_61 (by decide) [(6, .int sm), (0, .ref ug), (1, .ref uh), (2, .ref uv), (3, .ref uj), (4, .int x), (5, .int y), (7, .int (nI i))] rfl ?_
              refine gx_iinc (pc := 63) hB dL_weight_63 7 (by decide) rfl (nI (i + 1)) (nI_1 _) [(7, .int (nI (i + 1))), (6, .int sm), (0, .ref ug), (1, .ref uh), (2, .ref uv), (3, .ref uj), (4, .int x), (5, .int y)] rfl ?_
              refine gx_goto (pc := 66) hB 6 dL_weight_66 (by decide) ?_
              refine gx_sub hB (lv' := [(0, .ref ug), (1, .ref uh), (2, .ref uv), (3, .ref uj), (4, .int x), (5, .int y), (6, .int sm), (7, .int (nI (i + 1)))]) [2, 3, 4, 5, 6, 7, 1, 0] rfl ?_
              exact ih6 (i + 1) sm (by omega) (by rw [hm]; simp [wtN, Int32.not_le.mp c_2, eq_false c_2, eq_true c_3, eq_true c_4, c_5, eq_false (Int32.not_lt.mpr c_5)])
            · refine gx_aload_n (pc := 50) hB dL_weight_50 2 rfl ?_
              refine gx_iconst (pc := 51) hB dL_weight_51 2 (by decide) ?_
              refine gx_iload (pc := 52) hB dL_weight_52 7 rfl ?_
              refine gx_imul (pc := 54) hB dL_weight_54 ?_
              refine gx_top (show 2 * nI i = nI (2 * i) from pk_mul 2 i) ?_
              refine gx_iald (pc := 55) hB dL_weight_55 2 1 rfl rfl (2 * i) rfl (by omega) (by decide) ?_
              refine gx_top (show V (2 * i) = sG S i 2 from (h2 i (by omega)).1.2.2.1) ?_
              refine gx_goto (pc := 56) hB 60 dL_weight_56 (by decide) ?_
              refine gx_iadd (pc := 60) hB dL_weight_60 ?_
              refine gx_istore (pc := 61) hB dL_weight_61 (by decide) [(6, .int (sm + sG S i 2)), (0, .ref ug), (1, .ref uh), (2, .ref uv), (3, .ref uj), (4, .int x), (5, .int y), (7, .int (nI i))] rfl ?_
              refine gx_iinc (pc := 63) hB dL_weight_63 7 (by decide) rfl (nI (i + 1)) (nI_1 _) [(7, .int (nI (i + 1))), (6, .int (sm + sG S i 2)), (0, .ref ug), (1, .ref uh), (2, .ref uv), (3, .ref uj), (4, .int x), (5, .int y)] rfl ?_
              refine gx_goto (pc := 66) hB 6 dL_weight_66 (by decide) ?_
              refine gx_sub hB (lv' := [(0, .ref ug), (1, .ref uh), (2, .ref uv), (3, .ref uj), (4, .int x), (5, .int y), (6, .int (sm + sG S i 2)), (7, .int (nI (i + 1)))]) [2, 3, 4, 5, 6, 7, 1, 0] rfl ?_
              exact ih6 (i + 1) (sm + sG S i 2) (by omega) (by rw [hm]; simp [wtN, Int32.not_le.mp c_2, eq_false c_2, eq_true c_3, eq_true c_4, Int32.not_le.mp c_5, eq_false c_5])
  refine gx_sub hB (lv' := [(0, .ref ug), (1, .ref uh), (2, .ref uv), (3, .ref uj), (4, .int x), (5, .int y), (6, .int 0), (7, .int 0)]) [2, 3, 4, 5, 6, 7, 1, 0] rfl ?_
  exact loop_6 (c) 0 0 (by omega) rfl
theorem pL_weights : (parseMethodDescriptor yL_weights.desc).map (fun d => d.parameters.length) = some 7 := by decide +kernel
theorem mL_weights : gx_MS yL_weights cL_weights 9 (some .int) := ⟨tb_408, tb_26, tb_409, by decide, by decide⟩
set_option maxHeartbeats 4000000 in
set_option maxRecDepth 100000 in
theorem c_L_weights (l : Launch) (K : gx_K) (ug ud uh uv uj : Nat) (G D H V J S : Nat → Int32) (b c p : Nat) (y : Int32) (h0 : G 4 = nI c) (h1 : c ≤ 24) (h2 : ∀ g, g < c → (H (2 * g) = sG S g 0 ∧ H (2 * g + 1) = sG S g 1 ∧ V (2 * g) = sG S g 2 ∧ V (2 * g + 1) = sG S g 3) ∧ J (2 * g) = hJ (sG S g 4) (sG S g 5) ∧ J (2 * g + 1) = sG S g 6) (h3 : G 3 = nI b) (h4 : b ≤ 8) (h5 : p < 6) (h6 : ∀ d, d < b → D (7 * d + 1 + p) = sD S d (1 + p)) : gx_Ctr l K yL_weights cL_weights 9 (some .int) (rmm 2 27) [.ref ug, .ref ud, .ref uh, .ref uv, .ref uj, .int (nI p), .int y] ([(ug, .inl (K.2.1.2.1, 8, .inl G)), (ud, .inl (K.2.1.2.1, 56, .inl D)), (uh, .inl (K.2.1.2.1, 48, .inl H)), (uv, .inl (K.2.1.2.1, 48, .inl V)), (uj, .inl (K.2.1.2.1, 48, .inl J))]) (gx_D (some (.int (wsN S c p y b))) ([(ug, .inl (K.2.1.2.1, 8, .inl G)), (ud, .inl (K.2.1.2.1, 56, .inl D)), (uh, .inl (K.2.1.2.1, 48, .inl H)), (uv, .inl (K.2.1.2.1, 48, .inl V)), (uj, .inl (K.2.1.2.1, 48, .inl J))])) := by
  refine gx_of (by decide) (Nat.le_of_ble_eq_true rfl) (fun GG hC => ?_)
  have hB := hC.b
  refine gx_lv (lv' := [(0, .ref ug), (1, .ref ud), (2, .ref uh), (3, .ref uv), (4, .ref uj), (5, .int (nI p)), (6, .int y)]) rfl ?_
  refine gx_iconst (pc := 0) hB dL_weights_0 0 (by decide) ?_
  refine gx_istore (pc := 1) hB dL_weights_1 (by decide) [(7, .int 0), (0, .ref ug), (1, .ref ud), (2, .ref uh), (3, .ref uv), (4, .ref uj), (5, .int (nI p)), (6, .int y)] rfl ?_
  refine gx_iconst (pc := 3) hB dL_weights_3 0 (by decide) ?_
  refine gx_istore (pc := 4) hB dL_weights_4 (by decide) [(8, .int 0), (7, .int 0), (0, .ref ug), (1, .ref ud), (2, .ref uh), (3, .ref uv), (4, .ref uj), (5, .int (nI p)), (6, .int y)] rfl ?_
  have loop_6 : ∀ (dq i : Nat) (sm : Int32), i + dq = b → (sm = wsN S c p y i) → GG 0 0 ([(ug, .inl (K.2.1.2.1, 8, .inl G)), (ud, .inl (K.2.1.2.1, 56, .inl D)), (uh, .inl (K.2.1.2.1, 48, .inl H)), (uv, .inl (K.2.1.2.1, 48, .inl V)), (uj, .inl (K.2.1.2.1, 48, .inl J))]) [(0, .ref ug), (1, .ref ud), (2, .ref uh), (3, .ref uv), (4, .ref uj), (5, .int (nI p)), (6, .int y), (7, .int sm), (8, .int (nI i))] 6 [] := by
    intro dq
    induction dq with
    | zero =>
      intro i sm hi6 hm
      have hz6 : i = b := by omega
      refine gx_iload (pc := 6) hB dL_weights_6 8 rfl ?_
      refine gx_aload_n (pc := 8) hB dL_weights_8 0 rfl ?_
      refine gx_iconst (pc := 9) hB dL_weights_9 3 (by decide) ?_
      refine gx_iald (pc := 10) hB dL_weights_10 0 1 rfl rfl 3 rfl (by decide) (by decide) ?_
      refine gx_top (show G 3 = nI b from h3) ?_
      refine gx_icmp_ge (pc := 11) hB 64 dL_weights_11 (by decide) (fun c_1 => ?_) (fun c_1 => ?_)
      · refine gx_iload (pc := 64) hB dL_weights_64 7 rfl ?_
        have e1 : wsN S c p y b = sm := by rw [hm, hz6]
        exact gx_iret (pc := 66) hC dL_weights_66 (Nat.le_of_ble_eq_true rfl) (Nat.le_of_ble_eq_true rfl) ⟨by rw [e1], rfl⟩
      · exact absurd (lpTn (c := b) (by omega) hi6) c_1
    | succ dq ih6 =>
      intro i sm hi6 hm
      refine gx_iload (pc := 6) hB dL_weights_6 8 rfl ?_
      refine gx_aload_n (pc := 8) hB dL_weights_8 0 rfl ?_
      refine gx_iconst (pc := 9) hB dL_weights_9 3 (by decide) ?_
      refine gx_iald (pc := 10) hB dL_weights_10 0 1 rfl rfl 3 rfl (by decide) (by decide) ?_
      refine gx_top (show G 3 = nI b from h3) ?_
      refine gx_icmp_ge (pc := 11) hB 64 dL_weights_11 (by decide) (fun c_2 => ?_) (fun c_2 => ?_)
      · exact absurd c_2 (lpFn (c := b) (by omega) hi6)
      · refine gx_iload (pc := 14) hB dL_weights_14 7 rfl ?_
        refine gx_iload (pc := 16) hB dL_weights_16 6 rfl ?_
        refine gx_iconst (pc := 18) hB dL_weights_18 (-1) (by decide) ?_
        refine gx_icmp_eq (pc := 19) hB 39 dL_weights_19 (by decide) (fun c_3 => ?_) (fun c_3 => ?_)
        · refine gx_aload_n (pc := 39) hB dL_weights_39 0 rfl ?_
          refine gx_aload_n (pc := 40) hB dL_weights_40 2 rfl ?_
          refine gx_aload_n (pc := 41) hB dL_weights_41 3 rfl ?_
          refine gx_aload (pc := 42) hB dL_weights_42 4 rfl ?_
          refine gx_iload (pc := 44) hB dL_weights_44 8 rfl ?_
          refine gx_iload (pc := 46) hB dL_weights_46 5 rfl ?_
          refine gx_dSi (pc := 48) (r := wtN S (nI i) (nI p) c) (wr := [(ud, .inl (K.2.1.2.1, 56, .inl D))]) hB (c_L_weight l K ug uh uv uj G H V J S c (nI i) (nI p) (by first | assumption | omega | decide) (by first | assumption | omega | decide) (by first | assumption | omega | decide)) mL_weight dL_weights_48 tb_404 pL_weight ⟨Nat.le_of_ble_eq_true rfl, Nat.le_of_ble_eq_true rfl⟩ ⟨rfl, rfl⟩ ⟨Nat.le_of_ble_eq_true rfl, Nat.le_of_ble_eq_true rfl⟩ rfl (Nat.le_of_ble_eq_true rfl) [0, 2, 3, 4] [1] rfl rfl (by decide) (by decide) (by decide) [1, 0, 2, 3, 4] (by decide) ([(ug, .inl (K.2.1.2.1, 8, .inl G)), (ud, .inl (K.2.1.2.1, 56, .inl D)), (uh, .inl (K.2.1.2.1, 48, .inl H)), (uv, .inl (K.2.1.2.1, 48, .inl V)), (uj, .inl (K.2.1.2.1, 48, .inl J))]) rfl ?_
          refine gx_goto (pc := 51) hB 55 dL_weights_51 (by decide) ?_
          refine gx_iadd (pc := 55) hB dL_weights_55 ?_
          refine gx_istore (pc := 56) hB dL_weights_56 (by decide) [(7, .int (sm + (wtN S (nI i) (nI p) c))), (0, .ref ug), (1, .ref ud), (2, .ref uh), (3, .ref uv), (4, .ref uj), (5, .int (nI p)), (6, .int y), (8, .int (nI i))] rfl ?_
          refine gx_iinc (pc := 58) hB dL_weights_58 8 (by decide) rfl (nI (i + 1)) (nI_1 _) [(8, .int (nI (i + 1))), (7, .int (sm + (wtN S (nI i) (nI p) c))), (0, .ref ug), (1, .ref ud), (2, .ref uh), (3, .ref uv), (4, .ref uj), (5, .int (nI p)), (6, .int y)] rfl ?_
          refine gx_goto (pc := 61) hB 6 dL_weights_61 (by decide) ?_
          refine gx_sub hB (lv' := [(0, .ref ug), (1, .ref ud), (2, .ref uh), (3, .ref uv), (4, .ref uj), (5, .int (nI p)), (6, .int y), (7, .int (sm + (wtN S (nI i) (nI p) c))), (8, .int (nI (i + 1)))]) [2, 3, 4, 5, 6, 7, 8, 1, 0] rfl ?_
          exact ih6 (i + 1) (sm + (wtN S (nI i) (nI p) c)) (by omega) (by rw [hm]; simp [wsN, Int32.not_le.mp c_2, eq_false c_2, eq_true c_3])
        · refine gx_aload_n (pc := 22) hB dL_weights_22 1 rfl ?_
          refine gx_bipush (pc := 23) hB dL_weights_23 7 (by decide) ?_
          refine gx_iload (pc := 25) hB dL_weights_25 8 rfl ?_
          refine gx_imul (pc := 27) hB dL_weights_27 ?_
          refine gx_top (show 7 * nI i = nI (7 * i) from pk_mul 7 i) ?_
          refine gx_iconst (pc := 28) hB dL_weights_28 1 (by decide) ?_
          refine gx_iadd (pc := 29) hB dL_weights_29 ?_
          refine gx_top (show (nI (7 * i)) + 1 = nI (7 * i + 1) from nI_add (7 * i) 1) ?_
          refine gx_iload (pc := 30) hB dL_weights_30 5 rfl ?_
          refine gx_iadd (pc := 32) hB dL_weights_32 ?_
          refine gx_top (show (nI (7 * i + 1)) + nI p = nI (7 * i + 1 + p) from nI_add (7 * i + 1) p) ?_
          refine gx_iald (pc := 33) hB dL_weights_33 1 1 rfl rfl (7 * i + 1 + p) rfl (by omega) (by decide) ?_
          refine gx_top (show D (7 * i + 1 + p) = sD S i (1 + p) from h6 i (by omega)) ?_
          refine gx_iload (pc := 34) hB dL_weights_34 6 rfl ?_
          refine gx_icmp_ne (pc := 36) hB 54 dL_weights_36 (by decide) (fun c_4 => ?_) (fun c_4 => ?_)
          · refine gx_iconst (pc := 54) hB dL_weights_54 0 (by decide) ?_
            refine gx_iadd (pc := 55) hB dL_weights_55 ?_
            refine gx_top (show sm + 0 = sm from Int32.add_zero _) ?_
            refine gx_istore (pc := 56) hB dL_weights_56 (by decide) [(7, .int sm), (0, .ref ug), (1, .ref ud), (2, .ref uh), (3, .ref uv), (4, .ref uj), (5, .int (nI p)), (6, .int y), (8, .int (nI i))] rfl ?_
            refine gx_iinc (pc := 58) hB dL_weights_58 8 (by decide) rfl (nI (i + 1)) (nI_1 _) [(8, .int (nI (i + 1))), (7, .int sm), (0, .ref ug), (1, .ref ud), (2, .ref uh), (3, .ref uv), (4, .ref uj), (5, .int (nI p)), (6, .int y)] rfl ?_
            refine gx_goto (pc := 61) hB 6 dL_weights_61 (by decide) ?_
            refine gx_sub hB (lv' := [(0, .ref ug), (1, .ref ud), (2, .ref uh), (3, .ref uv), (4, .ref uj), (5, .int (nI p)), (6, .int y), (7, .int sm), (8, .int (nI (i + 1)))]) [2, 3, 4, 5, 6, 7, 8, 1, 0] rfl ?_
            exact ih6 (i + 1) sm (by omega) (by rw [hm]; simp [wsN, Int32.not_le.mp c_2, eq_false c_2, eq_false c_3, eq_false c_4])
          · refine gx_aload_n (pc := 39) hB dL_weights_39 0 rfl ?_
            refine gx_aload_n (pc := 40) hB dL_weights_40 2 rfl ?_
            refine gx_aload_n (pc := 41) hB dL_weights_41 3 rfl ?_
            refine gx_aload (pc := 42) hB dL_weights_42 4 rfl ?_
            refine gx_iload (pc := 44) hB dL_weights_44 8 rfl ?_
            refine gx_iload (pc := 46) hB dL_weights_46 5 rfl ?_
            refine gx_dSi (pc := 48) (r := wtN S (nI i) (nI p) c) (wr := [(ud, .inl (K.2.1.2.1, 56, .inl D))]) hB (c_L_weight l K ug uh uv uj G H V J S c (nI i) (nI p) (by first | assumption | omega | decide) (by first | assumption | omega | decide) (by first | assumption | omega | decide)) mL_weight dL_weights_48 tb_404 pL_weight ⟨Nat.le_of_ble_eq_true rfl, Nat.le_of_ble_eq_true rfl⟩ ⟨rfl, rfl⟩ ⟨Nat.le_of_ble_eq_true rfl, Nat.le_of_ble_eq_true rfl⟩ rfl (Nat.le_of_ble_eq_true rfl) [0, 2, 3, 4] [1] rfl rfl (by decide) (by decide) (by decide) [1, 0, 2, 3, 4] (by decide) ([(ug, .inl (K.2.1.2.1, 8, .inl G)), (ud, .inl (K.2.1.2.1, 56, .inl D)), (uh, .inl (K.2.1.2.1, 48, .inl H)), (uv, .inl (K.2.1.2.1, 48, .inl V)), (uj, .inl (K.2.1.2.1, 48, .inl J))]) rfl ?_
            refine gx_goto (pc := 51) hB 55 dL_weights_51 (by decide) ?_
            refine gx_iadd (pc := 55) hB dL_weights_55 ?_
            refine gx_istore (pc := 56) hB dL_weights_56 (by decide) [(7, .int (sm + (wtN S (nI i) (nI p) c))), (0, .ref ug), (1, .ref ud), (2, .ref uh), (3, .ref uv), (4, .ref uj), (5, .int (nI p)), (6, .int y), (8, .int (nI i))] rfl ?_
            refine gx_iinc (pc := 58) hB dL_weights_58 8 (by decide) rfl (nI (i + 1)) (nI_1 _) [(8, .int (nI (i + 1))), (7, .int (sm + (wtN S (nI i) (nI p) c))), (0, .ref ug), (1, .ref ud), (2, .ref uh), (3, .ref uv), (4, .ref uj), (5, .int (nI p)), (6, .int y)] rfl ?_
            refine gx_goto (pc := 61) hB 6 dL_weights_61 (by decide) ?_
            refine gx_sub hB (lv' := [(0, .ref ug), (1, .ref ud), (2, .ref uh), (3, .ref uv), (4, .ref uj), (5, .int (nI p)), (6, .int y), (7, .int (sm + (wtN S (nI i) (nI p) c))), (8, .int (nI (i + 1)))]) [2, 3, 4, 5, 6, 7, 8, 1, 0] rfl ?_
            exact ih6 (i + 1) (sm + (wtN S (nI i) (nI p) c)) (by omega) (by rw [hm]; simp [wsN, Int32.not_le.mp c_2, eq_false c_2, eq_false c_3, eq_true c_4])
  refine gx_sub hB (lv' := [(0, .ref ug), (1, .ref ud), (2, .ref uh), (3, .ref uv), (4, .ref uj), (5, .int (nI p)), (6, .int y), (7, .int 0), (8, .int 0)]) [2, 3, 4, 5, 6, 7, 8, 1, 0] rfl ?_
  exact loop_6 (b) 0 0 (by omega) rfl
theorem pL_open : (parseMethodDescriptor yL_open.desc).map (fun d => d.parameters.length) = some 3 := by decide +kernel
theorem mL_open : gx_MS yL_open cL_open 5 (some .int) := ⟨tb_260, tb_26, tb_261, by decide, by decide⟩
set_option maxHeartbeats 4000000 in
set_option maxRecDepth 100000 in
theorem c_L_open (l : Launch) (K : gx_K) (ug uf : Nat) (G F : Nat → Int32) (a y : Nat) (h0 : G 2 = nI a) (h1 : 1 ≤ a) (h2 : a ≤ 6) (h3 : y < 10000000) : gx_Ctr l K yL_open cL_open 5 (some .int) (rmm 1 0) [.ref ug, .ref uf, .int (nI y)] ([(ug, .inl (K.2.1.2.1, 8, .inl G)), (uf, .inl (K.2.1.2.1, 60, .inl F))]) (fun v w => w = [(ug, .inl (K.2.1.2.1, 8, .inl G)), (uf, .inl (K.2.1.2.1, 60, .inl F))] ∧ ∃ q, q < a ∧ v = some (.int (nI q))) := by
  refine gx_of (by decide) (Nat.le_of_ble_eq_true rfl) (fun GG hC => ?_)
  have hB := hC.b
  refine gx_lv (lv' := [(0, .ref ug), (1, .ref uf), (2, .int (nI y))]) rfl ?_
  refine gx_iload_n (pc := 0) hB dL_open_0 2 rfl ?_
  refine gx_aload_n (pc := 1) hB dL_open_1 0 rfl ?_
  refine gx_iconst (pc := 2) hB dL_open_2 2 (by decide) ?_
  refine gx_iald (pc := 3) hB dL_open_3 0 1 rfl rfl 2 rfl (by decide) (by decide) ?_
  refine gx_top (show G 2 = nI a from h0) ?_
  refine gx_irem (pc := 4) hB dL_open_4 (nI_ne0 (n := a) (by omega) (by omega)) ?_
  refine gx_top (show nI y - nI y / nI a * nI a = nI (y % a) from pk_rem (a := y) (d := a) (by omega) (by omega) (by omega)) ?_
  obtain ⟨r, hr, er⟩ : ∃ zz : Nat, zz < a ∧ nI (y % a) = nI zz := ⟨_, Nat.mod_lt _ (by omega), rfl⟩
  refine gx_top er ?_
  refine gx_istore_n (pc := 5) hB dL_open_5 (by decide) [(3, .int (nI r)), (0, .ref ug), (1, .ref uf), (2, .int (nI y))] rfl ?_
  refine gx_iconst (pc := 6) hB dL_open_6 0 (by decide) ?_
  refine gx_istore (pc := 7) hB dL_open_7 (by decide) [(4, .int 0), (3, .int (nI r)), (0, .ref ug), (1, .ref uf), (2, .int (nI y))] rfl ?_
  have loop_9 : ∀ (dq i : Nat) (q : Nat), i + dq = 6 → (q < a) → GG 0 0 ([(ug, .inl (K.2.1.2.1, 8, .inl G)), (uf, .inl (K.2.1.2.1, 60, .inl F))]) [(0, .ref ug), (1, .ref uf), (2, .int (nI y)), (3, .int (nI q)), (4, .int (nI i))] 9 [] := by
    intro dq
    induction dq with
    | zero =>
      intro i q hi9 hq
      have hz9 : i = 6 := by omega
      refine gx_iload (pc := 9) hB dL_open_9 4 rfl ?_
      refine gx_bipush (pc := 11) hB dL_open_11 6 (by decide) ?_
      refine gx_icmp_ge (pc := 13) hB 49 dL_open_13 (by decide) (fun c_1 => ?_) (fun c_1 => ?_)
      · refine gx_iload_n (pc := 49) hB dL_open_49 3 rfl ?_
        exact gx_iret (pc := 50) hC dL_open_50 (Nat.zero_le _) (Nat.zero_le _) ⟨rfl, q, hq, rfl⟩
      · exact absurd (lpTn (c := 6) (by omega) hi9) c_1
    | succ dq ih9 =>
      intro i q hi9 hq
      refine gx_iload (pc := 9) hB dL_open_9 4 rfl ?_
      refine gx_bipush (pc := 11) hB dL_open_11 6 (by decide) ?_
      refine gx_icmp_ge (pc := 13) hB 49 dL_open_13 (by decide) (fun c_2 => ?_) (fun c_2 => ?_)
      · exact absurd c_2 (lpFn (c := 6) (by omega) hi9)
      · refine gx_iload_n (pc := 16) hB dL_open_16 2 rfl ?_
        refine gx_bipush (pc := 17) hB dL_open_17 7 (by decide) ?_
        refine gx_irem (pc := 19) hB dL_open_19 (by decide) ?_
        refine gx_top (show nI y - nI y / 7 * 7 = nI (y % 7) from pk_rem (a := y) (d := 7) (by omega) (by omega) (by omega)) ?_
        refine gx_if_le (pc := 20) hB 49 dL_open_20 (by decide) (fun c_3 => ?_) (fun c_3 => ?_)
        · refine gx_iload_n (pc := 49) hB dL_open_49 3 rfl ?_
          exact gx_iret (pc := 50) hC dL_open_50 (Nat.zero_le _) (Nat.zero_le _) ⟨rfl, q, hq, rfl⟩
        · refine gx_aload_n (pc := 23) hB dL_open_23 1 rfl ?_
          refine gx_bipush (pc := 24) hB dL_open_24 10 (by decide) ?_
          refine gx_iload_n (pc := 26) hB dL_open_26 3 rfl ?_
          refine gx_imul (pc := 27) hB dL_open_27 ?_
          refine gx_top (show 10 * nI q = nI (10 * q) from pk_mul 10 q) ?_
          refine gx_bipush (pc := 28) hB dL_open_28 9 (by decide) ?_
          refine gx_iadd (pc := 30) hB dL_open_30 ?_
          refine gx_top (show (nI (10 * q)) + 9 = nI (10 * q + 9) from nI_add (10 * q) 9) ?_
          refine gx_iald (pc := 31) hB dL_open_31 1 1 rfl rfl (10 * q + 9) rfl (by omega) (by decide) ?_
          refine gx_if_lt (pc := 32) hB 49 dL_open_32 (by decide) (fun c_4 => ?_) (fun c_4 => ?_)
          · refine gx_iload_n (pc := 49) hB dL_open_49 3 rfl ?_
            exact gx_iret (pc := 50) hC dL_open_50 (Nat.zero_le _) (Nat.zero_le _) ⟨rfl, q, hq, rfl⟩
          · refine gx_iload_n (pc := 35) hB dL_open_35 3 rfl ?_
            refine gx_iconst (pc := 36) hB dL_open_36 1 (by decide) ?_
            refine gx_iadd (pc := 37) hB dL_open_37 ?_
            refine gx_top (show nI q + 1 = nI (q + 1) from nI_add q 1) ?_
            refine gx_aload_n (pc := 38) hB dL_open_38 0 rfl ?_
            refine gx_iconst (pc := 39) hB dL_open_39 2 (by decide) ?_
            refine gx_iald (pc := 40) hB dL_open_40 0 1 rfl rfl 2 rfl (by decide) (by decide) ?_
            refine gx_top (show G 2 = nI a from h0) ?_
            refine gx_irem (pc := 41) hB dL_open_41 (nI_ne0 (n := a) (by omega) (by omega)) ?_
            refine gx_top (show (nI (q + 1)) - (nI (q + 1)) / nI a * nI a = nI ((q + 1) % a) from pk_rem (a := q + 1) (d := a) (by omega) (by omega) (by omega)) ?_
            obtain ⟨r, hr, er⟩ : ∃ zz : Nat, zz < a ∧ nI ((q + 1) % a) = nI zz := ⟨_, Nat.mod_lt _ (by omega), rfl⟩
            refine gx_top er ?_
            refine gx_istore_n (pc := 42) hB dL_open_42 (by decide) [(3, .int (nI r)), (0, .ref ug), (1, .ref uf), (2, .int (nI y)), (4, .int (nI i))] rfl ?_
            refine gx_iinc (pc := 43) hB dL_open_43 4 (by decide) rfl (nI (i + 1)) (nI_1 _) [(4, .int (nI (i + 1))), (3, .int (nI r)), (0, .ref ug), (1, .ref uf), (2, .int (nI y))] rfl ?_
            refine gx_goto (pc := 46) hB 9 dL_open_46 (by decide) ?_
            refine gx_sub hB (lv' := [(0, .ref ug), (1, .ref uf), (2, .int (nI y)), (3, .int (nI r)), (4, .int (nI (i + 1)))]) [2, 3, 4, 1, 0] rfl ?_
            exact ih9 (i + 1) r (by omega) hr
  refine gx_sub hB (lv' := [(0, .ref ug), (1, .ref uf), (2, .int (nI y)), (3, .int (nI r)), (4, .int 0)]) [2, 3, 4, 1, 0] rfl ?_
  exact loop_9 (6) 0 r (by omega) hr
