/-! The law's mergings. -/
theorem t_mg_same2 {C G F D H V J Q S : Nat → Int32} {a b c e od sn p q : Nat} (h : LJ C G F D H V J Q S a b c e od sn) (hpq : p = q) : (bMerge C (nI p) (nI q)).1 = -1 ∧ LJ (bMerge C (nI p) (nI q)).2 G F D H V J Q S a b c e (kOd (bMerge C (nI p) (nI q)).1 od sn) (kSn (bMerge C (nI p) (nI q)).1 sn) := by
  subst hpq
  exact t_mg_same h
theorem t_cons2 {C G F D H V J Q S : Nat → Int32} {a b c e od sn p q : Nat} (h : LJ C G F D H V J Q S a b c e od sn) (hpq : p = q) : bConsents C (nI p) (nI q) = -1 := by
  subst hpq
  exact t_cons_same h
theorem pL_merges : (parseMethodDescriptor yL_merges.desc).map (fun d => d.parameters.length) = some 10 := by decide +kernel
theorem mL_merges : gx_MS yL_merges cL_merges 15 (some .boolean) := ⟨tb_411, tb_26, tb_412, by decide, by decide⟩
set_option maxHeartbeats 4000000 in
set_option maxRecDepth 100000 in
theorem c_L_merges (l : Launch) (K : gx_K) (ad : Nat → Nat) (ug uf ud uh uv uj uq : Nat) (C : Nat → Int32) (R : Nat → Nat → Int32) (od sn : Nat) (G F D H V J Q S : Nat → Int32) (a b c e : Nat) (p q : Nat) (h0 : LJ C G F D H V J Q S a b c e od sn) (h1 : p < a) (h2 : q < a) : gx_Ctr l K yL_merges cL_merges 15 (some .boolean) (rmm 6 124) [.ref (ad 0), .ref ug, .ref uf, .ref ud, .ref uh, .ref uv, .ref uj, .ref uq, .int (nI p), .int (nI q)] ((wZ K ad C R od sn ++ [(ug, .inl (K.2.1.2.1, 8, .inl G)), (uf, .inl (K.2.1.2.1, 60, .inl F)), (ud, .inl (K.2.1.2.1, 56, .inl D)), (uh, .inl (K.2.1.2.1, 48, .inl H)), (uv, .inl (K.2.1.2.1, 48, .inl V)), (uj, .inl (K.2.1.2.1, 48, .inl J)), (uq, .inl (K.2.1.2.1, 48, .inl Q))])) (pL K ad ug uf ud uh uv uj uq) := by
  refine gx_of (by decide) (Nat.le_of_ble_eq_true rfl) (fun GG hC => ?_)
  have hB := hC.b
  refine gx_lv (lv' := [(0, .ref (ad 0)), (1, .ref ug), (2, .ref uf), (3, .ref ud), (4, .ref uh), (5, .ref uv), (6, .ref uj), (7, .ref uq), (8, .int (nI p)), (9, .int (nI q))]) rfl ?_
  have hb := LJ_b h0
  have ho := h0.2.2.2.2.1
  have hsn := h0.2.2.2.2.2
  refine gx_iload (pc := 0) hB dL_merges_0 8 rfl ?_
  refine gx_iload (pc := 2) hB dL_merges_2 9 rfl ?_
  refine gx_icmp_ne (pc := 4) hB 37 dL_merges_4 (by decide) (fun c_1 => ?_) (fun c_1 => ?_)
  · have hpq : ¬ p = q := fun z => c_1 (by rw [z])
    refine gx_aload_n (pc := 37) hB dL_merges_37 1 rfl ?_
    refine gx_aload_n (pc := 38) hB dL_merges_38 3 rfl ?_
    refine gx_aload (pc := 39) hB dL_merges_39 4 rfl ?_
    refine gx_aload (pc := 41) hB dL_merges_41 5 rfl ?_
    refine gx_aload (pc := 43) hB dL_merges_43 6 rfl ?_
    refine gx_iload (pc := 45) hB dL_merges_45 8 rfl ?_
    refine gx_iconst (pc := 47) hB dL_merges_47 (-1) (by decide) ?_
    refine gx_dSi (pc := 48) (r := wsN S c p (-1) b) (wr := (wZ K ad C R od sn ++ [(uf, .inl (K.2.1.2.1, 60, .inl F)), (uq, .inl (K.2.1.2.1, 48, .inl Q))])) hB (c_L_weights l K ug ud uh uv uj G D H V J S b c p (-1) h0.2.1.1.2.2.2.2.1 (by first | assumption | omega | decide) h0.2.1.2.2.2.1 h0.2.1.1.2.2.2.1 (by first | assumption | omega | decide) (by first | assumption | omega | decide) (fun d hd => HS_D1 h0.2.1 hd (by omega))) mL_weights dL_merges_48 tb_407 pL_weights ⟨Nat.le_of_ble_eq_true rfl, Nat.le_of_ble_eq_true rfl⟩ ⟨rfl, rfl⟩ ⟨Nat.le_of_ble_eq_true rfl, Nat.le_of_ble_eq_true rfl⟩ rfl (Nat.le_of_ble_eq_true rfl) [23, 25, 26, 27, 28] [0, 1, 2, 3, 4, 5, 6, 7, 8, 9, 10, 11, 12, 13, 14, 15, 16, 17, 18, 19, 20, 21, 22, 24, 29] rfl rfl (by decide) (by decide) (by decide) [0, 1, 2, 3, 4, 5, 6, 7, 8, 9, 10, 11, 12, 13, 14, 15, 16, 17, 18, 19, 20, 21, 22, 25, 23, 26, 27, 28, 29, 24] (by decide) ((wZ K ad C R od sn ++ [(ug, .inl (K.2.1.2.1, 8, .inl G)), (uf, .inl (K.2.1.2.1, 60, .inl F)), (ud, .inl (K.2.1.2.1, 56, .inl D)), (uh, .inl (K.2.1.2.1, 48, .inl H)), (uv, .inl (K.2.1.2.1, 48, .inl V)), (uj, .inl (K.2.1.2.1, 48, .inl J)), (uq, .inl (K.2.1.2.1, 48, .inl Q))])) rfl ?_
    refine gx_istore (pc := 51) hB dL_merges_51 (by decide) [(10, .int (wsN S c p (-1) b)), (0, .ref (ad 0)), (1, .ref ug), (2, .ref uf), (3, .ref ud), (4, .ref uh), (5, .ref uv), (6, .ref uj), (7, .ref uq), (8, .int (nI p)), (9, .int (nI q))] rfl ?_
    refine gx_aload_n (pc := 53) hB dL_merges_53 2 rfl ?_
    refine gx_aload_n (pc := 54) hB dL_merges_54 4 rfl ?_
    refine gx_aload (pc := 55) hB dL_merges_55 5 rfl ?_
    refine gx_aload (pc := 57) hB dL_merges_57 6 rfl ?_
    refine gx_aload (pc := 59) hB dL_merges_59 7 rfl ?_
    refine gx_iload (pc := 61) hB dL_merges_61 9 rfl ?_
    refine gx_iload (pc := 63) hB dL_merges_63 10 rfl ?_
    refine gx_dSi (pc := 65) (r := wsN S c p (nI q) b) (wr := (wZ K ad C R od sn ++ [(uf, .inl (K.2.1.2.1, 60, .inl F)), (uq, .inl (K.2.1.2.1, 48, .inl Q))])) hB (c_L_weights l K ug ud uh uv uj G D H V J S b c p (nI q) h0.2.1.1.2.2.2.2.1 (by first | assumption | omega | decide) h0.2.1.2.2.2.1 h0.2.1.1.2.2.2.1 (by first | assumption | omega | decide) (by first | assumption | omega | decide) (fun d hd => HS_D1 h0.2.1 hd (by omega))) mL_weights dL_merges_65 tb_407 pL_weights ⟨Nat.le_of_ble_eq_true rfl, Nat.le_of_ble_eq_true rfl⟩ ⟨rfl, rfl⟩ ⟨Nat.le_of_ble_eq_true rfl, Nat.le_of_ble_eq_true rfl⟩ rfl (Nat.le_of_ble_eq_true rfl) [23, 25, 26, 27, 28] [0, 1, 2, 3, 4, 5, 6, 7, 8, 9, 10, 11, 12, 13, 14, 15, 16, 17, 18, 19, 20, 21, 22, 24, 29] rfl rfl (by decide) (by decide) (by decide) [0, 1, 2, 3, 4, 5, 6, 7, 8, 9, 10, 11, 12, 13, 14, 15, 16, 17, 18, 19, 20, 21, 22, 25, 23, 26, 27, 28, 29, 24] (by decide) ((wZ K ad C R od sn ++ [(ug, .inl (K.2.1.2.1, 8, .inl G)), (uf, .inl (K.2.1.2.1, 60, .inl F)), (ud, .inl (K.2.1.2.1, 56, .inl D)), (uh, .inl (K.2.1.2.1, 48, .inl H)), (uv, .inl (K.2.1.2.1, 48, .inl V)), (uj, .inl (K.2.1.2.1, 48, .inl J)), (uq, .inl (K.2.1.2.1, 48, .inl Q))])) rfl ?_
    refine gx_istore (pc := 68) hB dL_merges_68 (by decide) [(11, .int (wsN S c p (nI q) b)), (10, .int (wsN S c p (-1) b)), (0, .ref (ad 0)), (1, .ref ug), (2, .ref uf), (3, .ref ud), (4, .ref uh), (5, .ref uv), (6, .ref uj), (7, .ref uq), (8, .int (nI p)), (9, .int (nI q))] rfl ?_
    refine gx_iload (pc := 70) hB dL_merges_70 10 rfl ?_
    refine gx_if_eq (pc := 72) hB 120 dL_merges_72 (by decide) (fun c_2 => ?_) (fun c_2 => ?_)
    · refine gx_aload_n (pc := 120) hB dL_merges_120 2 rfl ?_
      refine gx_iload (pc := 121) hB dL_merges_121 10 rfl ?_
      refine gx_iload (pc := 123) hB dL_merges_123 11 rfl ?_
      refine gx_dVA (pc := 125) (r := (bMerge C (nI p) (nI q)).1) (W1 := wZ K ad ((bMerge C (nI p) (nI q)).2) (kR C R od sn) (kOd (bMerge C (nI p) (nI q)).1 od sn) (kSn (bMerge C (nI p) (nI q)).1 sn)) (wr := [(ug, .inl (K.2.1.2.1, 8, .inl G)), (uf, .inl (K.2.1.2.1, 60, .inl F)), (ud, .inl (K.2.1.2.1, 56, .inl D)), (uh, .inl (K.2.1.2.1, 48, .inl H)), (uv, .inl (K.2.1.2.1, 48, .inl V)), (uj, .inl (K.2.1.2.1, 48, .inl J)), (uq, .inl (K.2.1.2.1, 48, .inl Q))]) hB (k_merge l K ad C R od sn (nI p) (nI q) ho hsn) mX4_merge dL_merges_125 tb_413 pX4_merge ⟨Nat.le_of_ble_eq_true rfl, Nat.le_of_ble_eq_true rfl⟩ ⟨rfl, rfl⟩ ⟨Nat.le_of_ble_eq_true rfl, Nat.le_of_ble_eq_true rfl⟩ rfl (Nat.le_of_ble_eq_true rfl) (List.range 23) (List.range' 23 7) rfl rfl (by decide) (by decide) (by decide) rfl rfl (List.range' 7 23 ++ List.range 7) (by decide) rfl ?_
      obtain ⟨e_1, hI⟩ := t_mg_no h0 h1 h2 hpq (Or.inl c_2)
      refine gx_top (x := (bMerge C (nI p) (nI q)).1) (y := (-2)) e_1 ?_
      refine gx_bipush (pc := 128) hB dL_merges_128 (-2) (by decide) ?_
      refine gx_icmp_ne (pc := 130) hB 137 dL_merges_130 (by decide) (fun c_3 => ?_) (fun c_3 => ?_)
      · exact absurd c_3 (by decide)
      · refine gx_iconst (pc := 133) hB dL_merges_133 1 (by decide) ?_
        refine gx_goto (pc := 134) hB 138 dL_merges_134 (by decide) ?_
        exact gx_zret (pc := 138) hC dL_merges_138 (Nat.zero_le _) (Nat.zero_le _) (by decide) ⟨rfl, _, _, _, _, _, _, _, _, _, _, _, rfl, hI⟩
    · refine gx_aload_n (pc := 75) hB dL_merges_75 4 rfl ?_
      refine gx_bipush (pc := 76) hB dL_merges_76 10 (by decide) ?_
      refine gx_iload (pc := 78) hB dL_merges_78 10 rfl ?_
      refine gx_imul (pc := 80) hB dL_merges_80 ?_
      refine gx_top (show 10 * nI p = nI (10 * p) from pk_mul 10 p) ?_
      refine gx_bipush (pc := 81) hB dL_merges_81 9 (by decide) ?_
      refine gx_iadd (pc := 83) hB dL_merges_83 ?_
      refine gx_top (show (nI (10 * p)) + 9 = nI (10 * p + 9) from nI_add (10 * p) 9) ?_
      refine gx_iald (pc := 84) hB dL_merges_84 24 1 rfl rfl (10 * p + 9) rfl (by omega) (by decide) ?_
      refine gx_if_ge (pc := 85) hB 120 dL_merges_85 (by decide) (fun c_4 => ?_) (fun c_4 => ?_)
      · refine gx_aload_n (pc := 120) hB dL_merges_120 2 rfl ?_
        refine gx_iload (pc := 121) hB dL_merges_121 10 rfl ?_
        refine gx_iload (pc := 123) hB dL_merges_123 11 rfl ?_
        refine gx_dVA (pc := 125) (r := (bMerge C (nI p) (nI q)).1) (W1 := wZ K ad ((bMerge C (nI p) (nI q)).2) (kR C R od sn) (kOd (bMerge C (nI p) (nI q)).1 od sn) (kSn (bMerge C (nI p) (nI q)).1 sn)) (wr := [(ug, .inl (K.2.1.2.1, 8, .inl G)), (uf, .inl (K.2.1.2.1, 60, .inl F)), (ud, .inl (K.2.1.2.1, 56, .inl D)), (uh, .inl (K.2.1.2.1, 48, .inl H)), (uv, .inl (K.2.1.2.1, 48, .inl V)), (uj, .inl (K.2.1.2.1, 48, .inl J)), (uq, .inl (K.2.1.2.1, 48, .inl Q))]) hB (k_merge l K ad C R od sn (nI p) (nI q) ho hsn) mX4_merge dL_merges_125 tb_413 pX4_merge ⟨Nat.le_of_ble_eq_true rfl, Nat.le_of_ble_eq_true rfl⟩ ⟨rfl, rfl⟩ ⟨Nat.le_of_ble_eq_true rfl, Nat.le_of_ble_eq_true rfl⟩ rfl (Nat.le_of_ble_eq_true rfl) (List.range 23) (List.range' 23 7) rfl rfl (by decide) (by decide) (by decide) rfl rfl (List.range' 7 23 ++ List.range 7) (by decide) rfl ?_
        obtain ⟨e_1, hI⟩ := t_mg_no h0 h1 h2 hpq (Or.inr (Or.inl c_4))
        refine gx_top (x := (bMerge C (nI p) (nI q)).1) (y := (-2)) e_1 ?_
        refine gx_bipush (pc := 128) hB dL_merges_128 (-2) (by decide) ?_
        refine gx_icmp_ne (pc := 130) hB 137 dL_merges_130 (by decide) (fun c_5 => ?_) (fun c_5 => ?_)
        · exact absurd c_5 (by decide)
        · refine gx_iconst (pc := 133) hB dL_merges_133 1 (by decide) ?_
          refine gx_goto (pc := 134) hB 138 dL_merges_134 (by decide) ?_
          exact gx_zret (pc := 138) hC dL_merges_138 (Nat.zero_le _) (Nat.zero_le _) (by decide) ⟨rfl, _, _, _, _, _, _, _, _, _, _, _, rfl, hI⟩
      · refine gx_aload_n (pc := 88) hB dL_merges_88 4 rfl ?_
        refine gx_bipush (pc := 89) hB dL_merges_89 10 (by decide) ?_
        refine gx_iload (pc := 91) hB dL_merges_91 11 rfl ?_
        refine gx_imul (pc := 93) hB dL_merges_93 ?_
        refine gx_top (show 10 * nI q = nI (10 * q) from pk_mul 10 q) ?_
        refine gx_bipush (pc := 94) hB dL_merges_94 9 (by decide) ?_
        refine gx_iadd (pc := 96) hB dL_merges_96 ?_
        refine gx_top (show (nI (10 * q)) + 9 = nI (10 * q + 9) from nI_add (10 * q) 9) ?_
        refine gx_iald (pc := 97) hB dL_merges_97 24 1 rfl rfl (10 * q + 9) rfl (by omega) (by decide) ?_
        refine gx_if_ge (pc := 98) hB 120 dL_merges_98 (by decide) (fun c_6 => ?_) (fun c_6 => ?_)
        · refine gx_aload_n (pc := 120) hB dL_merges_120 2 rfl ?_
          refine gx_iload (pc := 121) hB dL_merges_121 10 rfl ?_
          refine gx_iload (pc := 123) hB dL_merges_123 11 rfl ?_
          refine gx_dVA (pc := 125) (r := (bMerge C (nI p) (nI q)).1) (W1 := wZ K ad ((bMerge C (nI p) (nI q)).2) (kR C R od sn) (kOd (bMerge C (nI p) (nI q)).1 od sn) (kSn (bMerge C (nI p) (nI q)).1 sn)) (wr := [(ug, .inl (K.2.1.2.1, 8, .inl G)), (uf, .inl (K.2.1.2.1, 60, .inl F)), (ud, .inl (K.2.1.2.1, 56, .inl D)), (uh, .inl (K.2.1.2.1, 48, .inl H)), (uv, .inl (K.2.1.2.1, 48, .inl V)), (uj, .inl (K.2.1.2.1, 48, .inl J)), (uq, .inl (K.2.1.2.1, 48, .inl Q))]) hB (k_merge l K ad C R od sn (nI p) (nI q) ho hsn) mX4_merge dL_merges_125 tb_413 pX4_merge ⟨Nat.le_of_ble_eq_true rfl, Nat.le_of_ble_eq_true rfl⟩ ⟨rfl, rfl⟩ ⟨Nat.le_of_ble_eq_true rfl, Nat.le_of_ble_eq_true rfl⟩ rfl (Nat.le_of_ble_eq_true rfl) (List.range 23) (List.range' 23 7) rfl rfl (by decide) (by decide) (by decide) rfl rfl (List.range' 7 23 ++ List.range 7) (by decide) rfl ?_
          obtain ⟨e_1, hI⟩ := t_mg_no h0 h1 h2 hpq (Or.inr (Or.inr (Or.inl c_6)))
          refine gx_top (x := (bMerge C (nI p) (nI q)).1) (y := (-2)) e_1 ?_
          refine gx_bipush (pc := 128) hB dL_merges_128 (-2) (by decide) ?_
          refine gx_icmp_ne (pc := 130) hB 137 dL_merges_130 (by decide) (fun c_7 => ?_) (fun c_7 => ?_)
          · exact absurd c_7 (by decide)
          · refine gx_iconst (pc := 133) hB dL_merges_133 1 (by decide) ?_
            refine gx_goto (pc := 134) hB 138 dL_merges_134 (by decide) ?_
            exact gx_zret (pc := 138) hC dL_merges_138 (Nat.zero_le _) (Nat.zero_le _) (by decide) ⟨rfl, _, _, _, _, _, _, _, _, _, _, _, rfl, hI⟩
        · refine gx_iload (pc := 101) hB dL_merges_101 1 rfl ?_
          refine gx_if_eq (pc := 103) hB 120 dL_merges_103 (by decide) (fun c_8 => ?_) (fun c_8 => ?_)
          · refine gx_aload_n (pc := 120) hB dL_merges_120 2 rfl ?_
            refine gx_iload (pc := 121) hB dL_merges_121 10 rfl ?_
            refine gx_iload (pc := 123) hB dL_merges_123 11 rfl ?_
            refine gx_dVA (pc := 125) (r := (bMerge C (nI p) (nI q)).1) (W1 := wZ K ad ((bMerge C (nI p) (nI q)).2) (kR C R od sn) (kOd (bMerge C (nI p) (nI q)).1 od sn) (kSn (bMerge C (nI p) (nI q)).1 sn)) (wr := [(ug, .inl (K.2.1.2.1, 8, .inl G)), (uf, .inl (K.2.1.2.1, 60, .inl F)), (ud, .inl (K.2.1.2.1, 56, .inl D)), (uh, .inl (K.2.1.2.1, 48, .inl H)), (uv, .inl (K.2.1.2.1, 48, .inl V)), (uj, .inl (K.2.1.2.1, 48, .inl J)), (uq, .inl (K.2.1.2.1, 48, .inl Q))]) hB (k_merge l K ad C R od sn (nI p) (nI q) ho hsn) mX4_merge dL_merges_125 tb_413 pX4_merge ⟨Nat.le_of_ble_eq_true rfl, Nat.le_of_ble_eq_true rfl⟩ ⟨rfl, rfl⟩ ⟨Nat.le_of_ble_eq_true rfl, Nat.le_of_ble_eq_true rfl⟩ rfl (Nat.le_of_ble_eq_true rfl) (List.range 23) (List.range' 23 7) rfl rfl (by decide) (by decide) (by decide) rfl rfl (List.range' 7 23 ++ List.range 7) (by decide) rfl ?_
            obtain ⟨e_1, hI⟩ := t_mg_no h0 h1 h2 hpq (Or.inr (Or.inr (Or.inr (Or.inl c_8))))
            refine gx_top (x := (bMerge C (nI p) (nI q)).1) (y := (-2)) e_1 ?_
            refine gx_bipush (pc := 128) hB dL_merges_128 (-2) (by decide) ?_
            refine gx_icmp_ne (pc := 130) hB 137 dL_merges_130 (by decide) (fun c_9 => ?_) (fun c_9 => ?_)
            · exact absurd c_9 (by decide)
            · refine gx_iconst (pc := 133) hB dL_merges_133 1 (by decide) ?_
              refine gx_goto (pc := 134) hB 138 dL_merges_134 (by decide) ?_
              exact gx_zret (pc := 138) hC dL_merges_138 (Nat.zero_le _) (Nat.zero_le _) (by decide) ⟨rfl, _, _, _, _, _, _, _, _, _, _, _, rfl, hI⟩
          · refine gx_iload (pc := 106) hB dL_merges_106 0 rfl ?_
            refine gx_bipush (pc := 108) hB dL_merges_108 100 (by decide) ?_
            refine gx_imul (pc := 110) hB dL_merges_110 ?_
            refine gx_iload (pc := 111) hB dL_merges_111 1 rfl ?_
            refine gx_aload_n (pc := 113) hB dL_merges_113 3 rfl ?_
            refine gx_iconst (pc := 114) hB dL_merges_114 0 (by decide) ?_
            refine gx_iald (pc := 115) hB dL_merges_115 23 1 rfl rfl 0 rfl (by decide) (by decide) ?_
            refine gx_imul (pc := 116) hB dL_merges_116 ?_
            refine gx_icmp_ge (pc := 117) hB 139 dL_merges_117 (by decide) (fun c_10 => ?_) (fun c_10 => ?_)
            · refine gx_aload_n (pc := 139) hB dL_merges_139 4 rfl ?_
              refine gx_bipush (pc := 140) hB dL_merges_140 10 (by decide) ?_
              refine gx_iload (pc := 142) hB dL_merges_142 10 rfl ?_
              refine gx_imul (pc := 144) hB dL_merges_144 ?_
              refine gx_top (show 10 * nI p = nI (10 * p) from pk_mul 10 p) ?_
              refine gx_iald (pc := 145) hB dL_merges_145 24 1 rfl rfl (10 * p) rfl (by omega) (by decide) ?_
              refine gx_istore (pc := 146) hB dL_merges_146 (by decide) [(12, .int (F (10 * p))), (11, .int (wsN S c p (nI q) b)), (10, .int (wsN S c p (-1) b)), (0, .ref (ad 0)), (1, .ref ug), (2, .ref uf), (3, .ref ud), (4, .ref uh), (5, .ref uv), (6, .ref uj), (7, .ref uq), (8, .int (nI p)), (9, .int (nI q))] rfl ?_
              refine gx_aload_n (pc := 148) hB dL_merges_148 5 rfl ?_
              refine gx_bipush (pc := 149) hB dL_merges_149 10 (by decide) ?_
              refine gx_iload (pc := 151) hB dL_merges_151 11 rfl ?_
              refine gx_imul (pc := 153) hB dL_merges_153 ?_
              refine gx_top (show 10 * nI p = nI (10 * p) from pk_mul 10 p) ?_
              refine gx_iconst (pc := 154) hB dL_merges_154 0 (by decide) ?_
              refine gx_iast (pc := 155) hB dL_merges_155 24 1 rfl rfl (10 * p) rfl (by omega) (by decide) ((wZ K ad C R od sn ++ [(ug, .inl (K.2.1.2.1, 8, .inl G)), (uf, .inl (K.2.1.2.1, 60, .inl (upd F (10 * p) 0))), (ud, .inl (K.2.1.2.1, 56, .inl D)), (uh, .inl (K.2.1.2.1, 48, .inl H)), (uv, .inl (K.2.1.2.1, 48, .inl V)), (uj, .inl (K.2.1.2.1, 48, .inl J)), (uq, .inl (K.2.1.2.1, 48, .inl Q))])) rfl ?_
              refine gx_aload_n (pc := 156) hB dL_merges_156 5 rfl ?_
              refine gx_bipush (pc := 157) hB dL_merges_157 10 (by decide) ?_
              refine gx_iload (pc := 159) hB dL_merges_159 11 rfl ?_
              refine gx_imul (pc := 161) hB dL_merges_161 ?_
              refine gx_top (show 10 * nI p = nI (10 * p) from pk_mul 10 p) ?_
              refine gx_bipush (pc := 162) hB dL_merges_162 8 (by decide) ?_
              refine gx_iadd (pc := 164) hB dL_merges_164 ?_
              refine gx_top (show (nI (10 * p)) + 8 = nI (10 * p + 8) from nI_add (10 * p) 8) ?_
              refine gx_dup2 (pc := 165) hB dL_merges_165 rfl rfl ?_
              refine gx_iald (pc := 166) hB dL_merges_166 24 1 rfl rfl (10 * p + 8) rfl (by omega) (by decide) ?_
              refine gx_iload (pc := 167) hB dL_merges_167 0 rfl ?_
              refine gx_iadd (pc := 169) hB dL_merges_169 ?_
              refine gx_iast (pc := 170) hB dL_merges_170 24 1 rfl rfl (10 * p + 8) rfl (by omega) (by decide) ((wZ K ad C R od sn ++ [(ug, .inl (K.2.1.2.1, 8, .inl G)), (uf, .inl (K.2.1.2.1, 60, .inl (upd (upd F (10 * p) 0) (10 * p + 8) (((upd F (10 * p) 0) (10 * p + 8)) + (F (10 * p)))))), (ud, .inl (K.2.1.2.1, 56, .inl D)), (uh, .inl (K.2.1.2.1, 48, .inl H)), (uv, .inl (K.2.1.2.1, 48, .inl V)), (uj, .inl (K.2.1.2.1, 48, .inl J)), (uq, .inl (K.2.1.2.1, 48, .inl Q))])) rfl ?_
              refine gx_aload_n (pc := 171) hB dL_merges_171 5 rfl ?_
              refine gx_bipush (pc := 172) hB dL_merges_172 10 (by decide) ?_
              refine gx_iload (pc := 174) hB dL_merges_174 11 rfl ?_
              refine gx_imul (pc := 176) hB dL_merges_176 ?_
              refine gx_top (show 10 * nI p = nI (10 * p) from pk_mul 10 p) ?_
              refine gx_bipush (pc := 177) hB dL_merges_177 9 (by decide) ?_
              refine gx_iadd (pc := 179) hB dL_merges_179 ?_
              refine gx_top (show (nI (10 * p)) + 9 = nI (10 * p + 9) from nI_add (10 * p) 9) ?_
              refine gx_iload (pc := 180) hB dL_merges_180 12 rfl ?_
              refine gx_iast (pc := 182) hB dL_merges_182 24 1 rfl rfl (10 * p + 9) rfl (by omega) (by decide) ((wZ K ad C R od sn ++ [(ug, .inl (K.2.1.2.1, 8, .inl G)), (uf, .inl (K.2.1.2.1, 60, .inl (upd (upd (upd F (10 * p) 0) (10 * p + 8) (((upd F (10 * p) 0) (10 * p + 8)) + (F (10 * p)))) (10 * p + 9) (nI q)))), (ud, .inl (K.2.1.2.1, 56, .inl D)), (uh, .inl (K.2.1.2.1, 48, .inl H)), (uv, .inl (K.2.1.2.1, 48, .inl V)), (uj, .inl (K.2.1.2.1, 48, .inl J)), (uq, .inl (K.2.1.2.1, 48, .inl Q))])) rfl ?_
              refine gx_aload_n (pc := 183) hB dL_merges_183 5 rfl ?_
              refine gx_bipush (pc := 184) hB dL_merges_184 10 (by decide) ?_
              refine gx_iload (pc := 186) hB dL_merges_186 12 rfl ?_
              refine gx_imul (pc := 188) hB dL_merges_188 ?_
              refine gx_top (show 10 * nI q = nI (10 * q) from pk_mul 10 q) ?_
              refine gx_dup2 (pc := 189) hB dL_merges_189 rfl rfl ?_
              refine gx_iald (pc := 190) hB dL_merges_190 24 1 rfl rfl (10 * q) rfl (by omega) (by decide) ?_
              refine gx_iload (pc := 191) hB dL_merges_191 0 rfl ?_
              refine gx_iadd (pc := 193) hB dL_merges_193 ?_
              refine gx_iast (pc := 194) hB dL_merges_194 24 1 rfl rfl (10 * q) rfl (by omega) (by decide) ((wZ K ad C R od sn ++ [(ug, .inl (K.2.1.2.1, 8, .inl G)), (uf, .inl (K.2.1.2.1, 60, .inl (upd (upd (upd (upd F (10 * p) 0) (10 * p + 8) (((upd F (10 * p) 0) (10 * p + 8)) + (F (10 * p)))) (10 * p + 9) (nI q)) (10 * q) (((upd (upd (upd F (10 * p) 0) (10 * p + 8) (((upd F (10 * p) 0) (10 * p + 8)) + (F (10 * p)))) (10 * p + 9) (nI q)) (10 * q)) + (F (10 * p)))))), (ud, .inl (K.2.1.2.1, 56, .inl D)), (uh, .inl (K.2.1.2.1, 48, .inl H)), (uv, .inl (K.2.1.2.1, 48, .inl V)), (uj, .inl (K.2.1.2.1, 48, .inl J)), (uq, .inl (K.2.1.2.1, 48, .inl Q))])) rfl ?_
              refine gx_aload_n (pc := 195) hB dL_merges_195 5 rfl ?_
              refine gx_bipush (pc := 196) hB dL_merges_196 10 (by decide) ?_
              refine gx_iload (pc := 198) hB dL_merges_198 12 rfl ?_
              refine gx_imul (pc := 200) hB dL_merges_200 ?_
              refine gx_top (show 10 * nI q = nI (10 * q) from pk_mul 10 q) ?_
              refine gx_bipush (pc := 201) hB dL_merges_201 7 (by decide) ?_
              refine gx_iadd (pc := 203) hB dL_merges_203 ?_
              refine gx_top (show (nI (10 * q)) + 7 = nI (10 * q + 7) from nI_add (10 * q) 7) ?_
              refine gx_dup2 (pc := 204) hB dL_merges_204 rfl rfl ?_
              refine gx_iald (pc := 205) hB dL_merges_205 24 1 rfl rfl (10 * q + 7) rfl (by omega) (by decide) ?_
              refine gx_iload (pc := 206) hB dL_merges_206 0 rfl ?_
              refine gx_iadd (pc := 208) hB dL_merges_208 ?_
              refine gx_iast (pc := 209) hB dL_merges_209 24 1 rfl rfl (10 * q + 7) rfl (by omega) (by decide) ((wZ K ad C R od sn ++ [(ug, .inl (K.2.1.2.1, 8, .inl G)), (uf, .inl (K.2.1.2.1, 60, .inl (upd (upd (upd (upd (upd F (10 * p) 0) (10 * p + 8) (((upd F (10 * p) 0) (10 * p + 8)) + (F (10 * p)))) (10 * p + 9) (nI q)) (10 * q) (((upd (upd (upd F (10 * p) 0) (10 * p + 8) (((upd F (10 * p) 0) (10 * p + 8)) + (F (10 * p)))) (10 * p + 9) (nI q)) (10 * q)) + (F (10 * p)))) (10 * q + 7) (((upd (upd (upd (upd F (10 * p) 0) (10 * p + 8) (((upd F (10 * p) 0) (10 * p + 8)) + (F (10 * p)))) (10 * p + 9) (nI q)) (10 * q) (((upd (upd (upd F (10 * p) 0) (10 * p + 8) (((upd F (10 * p) 0) (10 * p + 8)) + (F (10 * p)))) (10 * p + 9) (nI q)) (10 * q)) + (F (10 * p)))) (10 * q + 7)) + (F (10 * p)))))), (ud, .inl (K.2.1.2.1, 56, .inl D)), (uh, .inl (K.2.1.2.1, 48, .inl H)), (uv, .inl (K.2.1.2.1, 48, .inl V)), (uj, .inl (K.2.1.2.1, 48, .inl J)), (uq, .inl (K.2.1.2.1, 48, .inl Q))])) rfl ?_
              have hs1 := HS_mg1 h0.2.1 (LJ_b3 h0) h1 h2 rfl rfl rfl rfl rfl
              obtain ⟨F5, hF5⟩ : ∃ F5 : Nat → Int32, F5 = upd (upd (upd (upd (upd F (10 * p) 0) (10 * p + 8) (((upd F (10 * p) 0) (10 * p + 8)) + (F (10 * p)))) (10 * p + 9) (nI q)) (10 * q) (((upd (upd (upd F (10 * p) 0) (10 * p + 8) (((upd F (10 * p) 0) (10 * p + 8)) + (F (10 * p)))) (10 * p + 9) (nI q)) (10 * q)) + (F (10 * p)))) (10 * q + 7) (((upd (upd (upd (upd F (10 * p) 0) (10 * p + 8) (((upd F (10 * p) 0) (10 * p + 8)) + (F (10 * p)))) (10 * p + 9) (nI q)) (10 * q) (((upd (upd (upd F (10 * p) 0) (10 * p + 8) (((upd F (10 * p) 0) (10 * p + 8)) + (F (10 * p)))) (10 * p + 9) (nI q)) (10 * q)) + (F (10 * p)))) (10 * q + 7)) + (F (10 * p))) := ⟨_, rfl⟩
              rw [← hF5] at hs1
              refine gx_ws (ws' := (wZ K ad C R od sn ++ [(ug, .inl (K.2.1.2.1, 8, .inl G)), (uf, .inl (K.2.1.2.1, 60, .inl F5)), (ud, .inl (K.2.1.2.1, 56, .inl D)), (uh, .inl (K.2.1.2.1, 48, .inl H)), (uv, .inl (K.2.1.2.1, 48, .inl V)), (uj, .inl (K.2.1.2.1, 48, .inl J)), (uq, .inl (K.2.1.2.1, 48, .inl Q))])) (by rw [hF5]) ?_
              refine gx_iconst (pc := 210) hB dL_merges_210 0 (by decide) ?_
              refine gx_istore (pc := 211) hB dL_merges_211 (by decide) [(13, .int 0), (12, .int (F (10 * p))), (11, .int (wsN S c p (nI q) b)), (10, .int (wsN S c p (-1) b)), (0, .ref (ad 0)), (1, .ref ug), (2, .ref uf), (3, .ref ud), (4, .ref uh), (5, .ref uv), (6, .ref uj), (7, .ref uq), (8, .int (nI p)), (9, .int (nI q))] rfl ?_
              have loop_213 : ∀ (dq i : Nat) (Q1 : Nat → Int32), i + dq = e → (HS G F5 D H V J Q1 (mHandN (mMerge1 S p q) p (nI q) i) a b c e) → GG 0 0 ((wZ K ad C R od sn ++ [(ug, .inl (K.2.1.2.1, 8, .inl G)), (uf, .inl (K.2.1.2.1, 60, .inl F5)), (ud, .inl (K.2.1.2.1, 56, .inl D)), (uh, .inl (K.2.1.2.1, 48, .inl H)), (uv, .inl (K.2.1.2.1, 48, .inl V)), (uj, .inl (K.2.1.2.1, 48, .inl J)), (uq, .inl (K.2.1.2.1, 48, .inl Q1))])) [(0, .ref (ad 0)), (1, .ref ug), (2, .ref uf), (3, .ref ud), (4, .ref uh), (5, .ref uv), (6, .ref uj), (7, .ref uq), (8, .int (nI p)), (9, .int (nI q)), (10, .int (wsN S c p (-1) b)), (11, .int (wsN S c p (nI q) b)), (12, .int (F (10 * p))), (13, .int (nI i))] 213 [] := by
                intro dq
                induction dq with
                | zero =>
                  intro i Q1 hi213 hs
                  have hz213 : i = e := by omega
                  refine gx_iload (pc := 213) hB dL_merges_213 13 rfl ?_
                  refine gx_aload_n (pc := 215) hB dL_merges_215 1 rfl ?_
                  refine gx_iconst (pc := 216) hB dL_merges_216 5 (by decide) ?_
                  refine gx_iald (pc := 217) hB dL_merges_217 23 1 rfl rfl 5 rfl (by decide) (by decide) ?_
                  refine gx_top (show G 5 = nI e from h0.2.1.1.2.2.2.2.2.1) ?_
                  refine gx_icmp_ge (pc := 218) hB 358 dL_merges_218 (by decide) (fun c_11 => ?_) (fun c_11 => ?_)
                  · obtain rfl : e = i := hz213.symm
                    refine gx_iconst (pc := 358) hB dL_merges_358 0 (by decide) ?_
                    refine gx_istore (pc := 359) hB dL_merges_359 (by decide) [(13, .int 0), (0, .ref (ad 0)), (1, .ref ug), (2, .ref uf), (3, .ref ud), (4, .ref uh), (5, .ref uv), (6, .ref uj), (7, .ref uq), (8, .int (nI p)), (9, .int (nI q)), (10, .int (wsN S c p (-1) b)), (11, .int (wsN S c p (nI q) b)), (12, .int (F (10 * p)))] rfl ?_
                    have loop_361 : ∀ (dq i : Nat) (D1 : Nat → Int32), i + dq = b → (HS G F5 D1 H V J Q1 (mForgN (mHandN (mMerge1 S p q) p (nI q) e) p i) a b c e) → GG 0 0 ((wZ K ad C R od sn ++ [(ug, .inl (K.2.1.2.1, 8, .inl G)), (uf, .inl (K.2.1.2.1, 60, .inl F5)), (ud, .inl (K.2.1.2.1, 56, .inl D1)), (uh, .inl (K.2.1.2.1, 48, .inl H)), (uv, .inl (K.2.1.2.1, 48, .inl V)), (uj, .inl (K.2.1.2.1, 48, .inl J)), (uq, .inl (K.2.1.2.1, 48, .inl Q1))])) [(0, .ref (ad 0)), (1, .ref ug), (2, .ref uf), (3, .ref ud), (4, .ref uh), (5, .ref uv), (6, .ref uj), (7, .ref uq), (8, .int (nI p)), (9, .int (nI q)), (10, .int (wsN S c p (-1) b)), (11, .int (wsN S c p (nI q) b)), (12, .int (F (10 * p))), (13, .int (nI i))] 361 [] := by
                      intro dq
                      induction dq with
                      | zero =>
                        intro i D1 hi361 hs
                        have hz361 : i = b := by omega
                        refine gx_iload (pc := 361) hB dL_merges_361 13 rfl ?_
                        refine gx_aload_n (pc := 363) hB dL_merges_363 1 rfl ?_
                        refine gx_iconst (pc := 364) hB dL_merges_364 3 (by decide) ?_
                        refine gx_iald (pc := 365) hB dL_merges_365 23 1 rfl rfl 3 rfl (by decide) (by decide) ?_
                        refine gx_top (show G 3 = nI b from h0.2.1.1.2.2.2.1) ?_
                        refine gx_icmp_ge (pc := 366) hB 389 dL_merges_366 (by decide) (fun c_12 => ?_) (fun c_12 => ?_)
                        · obtain rfl : b = i := hz361.symm
                          refine gx_aload_n (pc := 389) hB dL_merges_389 0 rfl ?_
                          refine gx_iload (pc := 390) hB dL_merges_390 8 rfl ?_
                          refine gx_iload (pc := 392) hB dL_merges_392 9 rfl ?_
                          refine gx_dVA (pc := 394) (r := (bMerge C (nI p) (nI q)).1) (W1 := wZ K ad ((bMerge C (nI p) (nI q)).2) (kR C R od sn) (kOd (bMerge C (nI p) (nI q)).1 od sn) (kSn (bMerge C (nI p) (nI q)).1 sn)) (wr := [(ug, .inl (K.2.1.2.1, 8, .inl G)), (uf, .inl (K.2.1.2.1, 60, .inl F5)), (ud, .inl (K.2.1.2.1, 56, .inl D1)), (uh, .inl (K.2.1.2.1, 48, .inl H)), (uv, .inl (K.2.1.2.1, 48, .inl V)), (uj, .inl (K.2.1.2.1, 48, .inl J)), (uq, .inl (K.2.1.2.1, 48, .inl Q1))]) hB (k_merge l K ad C R od sn (nI p) (nI q) ho hsn) mX4_merge dL_merges_394 tb_413 pX4_merge ⟨Nat.le_of_ble_eq_true rfl, Nat.le_of_ble_eq_true rfl⟩ ⟨rfl, rfl⟩ ⟨Nat.le_of_ble_eq_true rfl, Nat.le_of_ble_eq_true rfl⟩ rfl (Nat.le_of_ble_eq_true rfl) (List.range 23) (List.range' 23 7) rfl rfl (by decide) (by decide) (by decide) rfl rfl (List.range' 7 23 ++ List.range 7) (by decide) rfl ?_
                          obtain ⟨e_1, hI⟩ := t_mg_ok h0 h1 h2 hpq c_2 c_4 c_6 c_8 (Int32.not_lt.mpr c_10) hs
                          refine gx_top (x := (bMerge C (nI p) (nI q)).1) (y := F (10 * p)) e_1 ?_
                          refine gx_iload (pc := 397) hB dL_merges_397 12 rfl ?_
                          refine gx_icmp_ne (pc := 399) hB 406 dL_merges_399 (by decide) (fun c_13 => ?_) (fun c_13 => ?_)
                          · exact absurd rfl c_13
                          · refine gx_iconst (pc := 402) hB dL_merges_402 1 (by decide) ?_
                            refine gx_goto (pc := 403) hB 407 dL_merges_403 (by decide) ?_
                            exact gx_zret (pc := 407) hC dL_merges_407 (Nat.zero_le _) (Nat.zero_le _) (by decide) ⟨rfl, _, _, _, _, _, _, _, _, _, _, _, rfl, hI⟩
                        · exact absurd (lpTn (c := b) (by omega) hi361) c_12
                      | succ dq ih361 =>
                        intro i D1 hi361 hs
                        have hi : i < b := by omega
                        refine gx_iload (pc := 361) hB dL_merges_361 13 rfl ?_
                        refine gx_aload_n (pc := 363) hB dL_merges_363 1 rfl ?_
                        refine gx_iconst (pc := 364) hB dL_merges_364 3 (by decide) ?_
                        refine gx_iald (pc := 365) hB dL_merges_365 23 1 rfl rfl 3 rfl (by decide) (by decide) ?_
                        refine gx_top (show G 3 = nI b from h0.2.1.1.2.2.2.1) ?_
                        refine gx_icmp_ge (pc := 366) hB 389 dL_merges_366 (by decide) (fun c_14 => ?_) (fun c_14 => ?_)
                        · exact absurd c_14 (lpFn (c := b) (by omega) hi361)
                        · refine gx_aload_n (pc := 369) hB dL_merges_369 3 rfl ?_
                          refine gx_bipush (pc := 370) hB dL_merges_370 7 (by decide) ?_
                          refine gx_iload (pc := 372) hB dL_merges_372 13 rfl ?_
                          refine gx_imul (pc := 374) hB dL_merges_374 ?_
                          refine gx_top (show 7 * nI i = nI (7 * i) from pk_mul 7 i) ?_
                          refine gx_iconst (pc := 375) hB dL_merges_375 1 (by decide) ?_
                          refine gx_iadd (pc := 376) hB dL_merges_376 ?_
                          refine gx_top (show (nI (7 * i)) + 1 = nI (7 * i + 1) from nI_add (7 * i) 1) ?_
                          refine gx_iload (pc := 377) hB dL_merges_377 8 rfl ?_
                          refine gx_iadd (pc := 379) hB dL_merges_379 ?_
                          refine gx_top (show (nI (7 * i + 1)) + nI p = nI (7 * i + 1 + p) from nI_add (7 * i + 1) p) ?_
                          refine gx_bipush (pc := 380) hB dL_merges_380 (-4) (by decide) ?_
                          refine gx_iast (pc := 382) hB dL_merges_382 25 1 rfl rfl (7 * i + 1 + p) rfl (by omega) (by decide) ((wZ K ad C R od sn ++ [(ug, .inl (K.2.1.2.1, 8, .inl G)), (uf, .inl (K.2.1.2.1, 60, .inl F5)), (ud, .inl (K.2.1.2.1, 56, .inl (upd D1 (7 * i + 1 + p) (-4)))), (uh, .inl (K.2.1.2.1, 48, .inl H)), (uv, .inl (K.2.1.2.1, 48, .inl V)), (uj, .inl (K.2.1.2.1, 48, .inl J)), (uq, .inl (K.2.1.2.1, 48, .inl Q1))])) rfl ?_
                          refine gx_iinc (pc := 383) hB dL_merges_383 13 (by decide) rfl (nI (i + 1)) (nI_1 _) [(13, .int (nI (i + 1))), (0, .ref (ad 0)), (1, .ref ug), (2, .ref uf), (3, .ref ud), (4, .ref uh), (5, .ref uv), (6, .ref uj), (7, .ref uq), (8, .int (nI p)), (9, .int (nI q)), (10, .int (wsN S c p (-1) b)), (11, .int (wsN S c p (nI q) b)), (12, .int (F (10 * p)))] rfl ?_
                          refine gx_goto (pc := 386) hB 361 dL_merges_386 (by decide) ?_
                          refine gx_sub hB (lv' := [(0, .ref (ad 0)), (1, .ref ug), (2, .ref uf), (3, .ref ud), (4, .ref uh), (5, .ref uv), (6, .ref uj), (7, .ref uq), (8, .int (nI p)), (9, .int (nI q)), (10, .int (wsN S c p (-1) b)), (11, .int (wsN S c p (nI q) b)), (12, .int (F (10 * p))), (13, .int (nI (i + 1)))]) [1, 2, 3, 4, 5, 6, 7, 8, 9, 10, 11, 12, 13, 0] rfl ?_
                          exact ih361 (i + 1) (upd D1 (7 * i + 1 + p) (-4)) (by omega) (by have z := HS_D (j := 1 + p) (v := -4) hs (LJ_b3 h0) hi (by omega); rw [← Nat.add_assoc] at z; exact z)
                    refine gx_sub hB (lv' := [(0, .ref (ad 0)), (1, .ref ug), (2, .ref uf), (3, .ref ud), (4, .ref uh), (5, .ref uv), (6, .ref uj), (7, .ref uq), (8, .int (nI p)), (9, .int (nI q)), (10, .int (wsN S c p (-1) b)), (11, .int (wsN S c p (nI q) b)), (12, .int (F (10 * p))), (13, .int 0)]) [1, 2, 3, 4, 5, 6, 7, 8, 9, 10, 11, 12, 13, 0] rfl ?_
                    exact loop_361 (b) 0 D (by omega) hs
                  · exact absurd (lpTn (c := e) (by omega) hi213) c_11
                | succ dq ih213 =>
                  intro i Q1 hi213 hs
                  have hi : i < e := by omega
                  obtain ⟨d, hd, ed⟩ : ∃ d : Nat, d < b ∧ sK (mHandN (mMerge1 S p q) p (nI q) i) i 0 = nI d := by rw [mHandN_by, show sK (mMerge1 S p q) i 0 = sK S i 0 from mMerge1_hi (by omega) (by omega) (by omega)]; exact (h0.1.2.1.2.2.1 i hi).1
                  refine gx_iload (pc := 213) hB dL_merges_213 13 rfl ?_
                  refine gx_aload_n (pc := 215) hB dL_merges_215 1 rfl ?_
                  refine gx_iconst (pc := 216) hB dL_merges_216 5 (by decide) ?_
                  refine gx_iald (pc := 217) hB dL_merges_217 23 1 rfl rfl 5 rfl (by decide) (by decide) ?_
                  refine gx_top (show G 5 = nI e from h0.2.1.1.2.2.2.2.2.1) ?_
                  refine gx_icmp_ge (pc := 218) hB 358 dL_merges_218 (by decide) (fun c_15 => ?_) (fun c_15 => ?_)
                  · exact absurd c_15 (lpFn (c := e) (by omega) hi213)
                  · refine gx_aload (pc := 221) hB dL_merges_221 7 rfl ?_
                    refine gx_bipush (pc := 223) hB dL_merges_223 8 (by decide) ?_
                    refine gx_iload (pc := 225) hB dL_merges_225 13 rfl ?_
                    refine gx_imul (pc := 227) hB dL_merges_227 ?_
                    refine gx_top (show 8 * nI i = nI (8 * i) from pk_mul 8 i) ?_
                    refine gx_iconst (pc := 228) hB dL_merges_228 5 (by decide) ?_
                    refine gx_iadd (pc := 229) hB dL_merges_229 ?_
                    refine gx_top (show (nI (8 * i)) + 5 = nI (8 * i + 5) from nI_add (8 * i) 5) ?_
                    refine gx_iald (pc := 230) hB dL_merges_230 29 1 rfl rfl (8 * i + 5) rfl (by omega) (by decide) ?_
                    refine gx_if_ne (pc := 231) hB 352 dL_merges_231 (by decide) (fun c_16 => ?_) (fun c_16 => ?_)
                    · refine gx_iinc (pc := 352) hB dL_merges_352 13 (by decide) rfl (nI (i + 1)) (nI_1 _) [(13, .int (nI (i + 1))), (0, .ref (ad 0)), (1, .ref ug), (2, .ref uf), (3, .ref ud), (4, .ref uh), (5, .ref uv), (6, .ref uj), (7, .ref uq), (8, .int (nI p)), (9, .int (nI q)), (10, .int (wsN S c p (-1) b)), (11, .int (wsN S c p (nI q) b)), (12, .int (F (10 * p)))] rfl ?_
                      refine gx_goto (pc := 355) hB 213 dL_merges_355 (by decide) ?_
                      refine gx_sub hB (lv' := [(0, .ref (ad 0)), (1, .ref ug), (2, .ref uf), (3, .ref ud), (4, .ref uh), (5, .ref uv), (6, .ref uj), (7, .ref uq), (8, .int (nI p)), (9, .int (nI q)), (10, .int (wsN S c p (-1) b)), (11, .int (wsN S c p (nI q) b)), (12, .int (F (10 * p))), (13, .int (nI (i + 1)))]) [1, 2, 3, 4, 5, 6, 7, 8, 9, 10, 11, 12, 13, 0] rfl ?_
                      exact ih213 (i + 1) Q1 (by omega) (by rw [hand_no (fun z => c_16 ((hs.2.2.2.2 i hi 5 (by omega)).trans z.1))]; exact hs)
                    · refine gx_aload (pc := 234) hB dL_merges_234 7 rfl ?_
                      refine gx_bipush (pc := 236) hB dL_merges_236 8 (by decide) ?_
                      refine gx_iload (pc := 238) hB dL_merges_238 13 rfl ?_
                      refine gx_imul (pc := 240) hB dL_merges_240 ?_
                      refine gx_top (show 8 * nI i = nI (8 * i) from pk_mul 8 i) ?_
                      refine gx_iconst (pc := 241) hB dL_merges_241 1 (by decide) ?_
                      refine gx_iadd (pc := 242) hB dL_merges_242 ?_
                      refine gx_top (show (nI (8 * i)) + 1 = nI (8 * i + 1) from nI_add (8 * i) 1) ?_
                      refine gx_iald (pc := 243) hB dL_merges_243 29 1 rfl rfl (8 * i + 1) rfl (by omega) (by decide) ?_
                      refine gx_iload (pc := 244) hB dL_merges_244 8 rfl ?_
                      refine gx_icmp_ne (pc := 246) hB 352 dL_merges_246 (by decide) (fun c_17 => ?_) (fun c_17 => ?_)
                      · refine gx_iinc (pc := 352) hB dL_merges_352 13 (by decide) rfl (nI (i + 1)) (nI_1 _) [(13, .int (nI (i + 1))), (0, .ref (ad 0)), (1, .ref ug), (2, .ref uf), (3, .ref ud), (4, .ref uh), (5, .ref uv), (6, .ref uj), (7, .ref uq), (8, .int (nI p)), (9, .int (nI q)), (10, .int (wsN S c p (-1) b)), (11, .int (wsN S c p (nI q) b)), (12, .int (F (10 * p)))] rfl ?_
                        refine gx_goto (pc := 355) hB 213 dL_merges_355 (by decide) ?_
                        refine gx_sub hB (lv' := [(0, .ref (ad 0)), (1, .ref ug), (2, .ref uf), (3, .ref ud), (4, .ref uh), (5, .ref uv), (6, .ref uj), (7, .ref uq), (8, .int (nI p)), (9, .int (nI q)), (10, .int (wsN S c p (-1) b)), (11, .int (wsN S c p (nI q) b)), (12, .int (F (10 * p))), (13, .int (nI (i + 1)))]) [1, 2, 3, 4, 5, 6, 7, 8, 9, 10, 11, 12, 13, 0] rfl ?_
                        exact ih213 (i + 1) Q1 (by omega) (by rw [hand_no (fun z => c_17 ((hs.2.2.2.2 i hi 1 (by omega)).trans z.2))]; exact hs)
                      · refine gx_aload_n (pc := 249) hB dL_merges_249 3 rfl ?_
                        refine gx_bipush (pc := 250) hB dL_merges_250 7 (by decide) ?_
                        refine gx_aload (pc := 252) hB dL_merges_252 7 rfl ?_
                        refine gx_bipush (pc := 254) hB dL_merges_254 8 (by decide) ?_
                        refine gx_iload (pc := 256) hB dL_merges_256 13 rfl ?_
                        refine gx_imul (pc := 258) hB dL_merges_258 ?_
                        refine gx_top (show 8 * nI i = nI (8 * i) from pk_mul 8 i) ?_
                        refine gx_iald (pc := 259) hB dL_merges_259 29 1 rfl rfl (8 * i) rfl (by omega) (by decide) ?_
                        refine gx_top (show Q1 (8 * i) = nI d from (hs.2.2.2.2 i hi 0 (by omega)).trans ed) ?_
                        refine gx_imul (pc := 260) hB dL_merges_260 ?_
                        refine gx_top (show 7 * nI d = nI (7 * d) from pk_mul 7 d) ?_
                        refine gx_iconst (pc := 261) hB dL_merges_261 1 (by decide) ?_
                        refine gx_iadd (pc := 262) hB dL_merges_262 ?_
                        refine gx_top (show (nI (7 * d)) + 1 = nI (7 * d + 1) from nI_add (7 * d) 1) ?_
                        refine gx_iload (pc := 263) hB dL_merges_263 8 rfl ?_
                        refine gx_iadd (pc := 265) hB dL_merges_265 ?_
                        refine gx_top (show (nI (7 * d + 1)) + nI p = nI (7 * d + 1 + p) from nI_add (7 * d + 1) p) ?_
                        refine gx_iald (pc := 266) hB dL_merges_266 25 1 rfl rfl (7 * d + 1 + p) rfl (by omega) (by decide) ?_
                        refine gx_iload (pc := 267) hB dL_merges_267 9 rfl ?_
                        refine gx_icmp_ne (pc := 269) hB 276 dL_merges_269 (by decide) (fun c_18 => ?_) (fun c_18 => ?_)
                        · refine gx_iconst (pc := 276) hB dL_merges_276 0 (by decide) ?_
                          refine gx_istore (pc := 277) hB dL_merges_277 (by decide) [(14, .int 0), (0, .ref (ad 0)), (1, .ref ug), (2, .ref uf), (3, .ref ud), (4, .ref uh), (5, .ref uv), (6, .ref uj), (7, .ref uq), (8, .int (nI p)), (9, .int (nI q)), (10, .int (wsN S c p (-1) b)), (11, .int (wsN S c p (nI q) b)), (12, .int (F (10 * p))), (13, .int (nI i))] rfl ?_
                          refine gx_aload (pc := 279) hB dL_merges_279 8 rfl ?_
                          refine gx_bipush (pc := 281) hB dL_merges_281 8 (by decide) ?_
                          refine gx_iload (pc := 283) hB dL_merges_283 14 rfl ?_
                          refine gx_imul (pc := 285) hB dL_merges_285 ?_
                          refine gx_top (show 8 * nI i = nI (8 * i) from pk_mul 8 i) ?_
                          refine gx_iconst (pc := 286) hB dL_merges_286 1 (by decide) ?_
                          refine gx_iadd (pc := 287) hB dL_merges_287 ?_
                          refine gx_top (show (nI (8 * i)) + 1 = nI (8 * i + 1) from nI_add (8 * i) 1) ?_
                          refine gx_iload (pc := 288) hB dL_merges_288 0 rfl ?_
                          refine gx_if_eq (pc := 290) hB 298 dL_merges_290 (by decide) (fun c_19 => ?_) (fun c_19 => ?_)
                          · refine gx_iload (pc := 298) hB dL_merges_298 9 rfl ?_
                            refine gx_iast (pc := 300) hB dL_merges_300 29 1 rfl rfl (8 * i + 1) rfl (by omega) (by decide) ((wZ K ad C R od sn ++ [(ug, .inl (K.2.1.2.1, 8, .inl G)), (uf, .inl (K.2.1.2.1, 60, .inl F5)), (ud, .inl (K.2.1.2.1, 56, .inl D)), (uh, .inl (K.2.1.2.1, 48, .inl H)), (uv, .inl (K.2.1.2.1, 48, .inl V)), (uj, .inl (K.2.1.2.1, 48, .inl J)), (uq, .inl (K.2.1.2.1, 48, .inl (upd Q1 (8 * i + 1) (nI p))))])) rfl ?_
                            refine gx_aload (pc := 301) hB dL_merges_301 8 rfl ?_
                            refine gx_bipush (pc := 303) hB dL_merges_303 8 (by decide) ?_
                            refine gx_iload (pc := 305) hB dL_merges_305 14 rfl ?_
                            refine gx_imul (pc := 307) hB dL_merges_307 ?_
                            refine gx_top (show 8 * nI i = nI (8 * i) from pk_mul 8 i) ?_
                            refine gx_iconst (pc := 308) hB dL_merges_308 5 (by decide) ?_
                            refine gx_iadd (pc := 309) hB dL_merges_309 ?_
                            refine gx_top (show (nI (8 * i)) + 5 = nI (8 * i + 5) from nI_add (8 * i) 5) ?_
                            refine gx_iload (pc := 310) hB dL_merges_310 0 rfl ?_
                            refine gx_if_eq (pc := 312) hB 319 dL_merges_312 (by decide) (fun c_20 => ?_) (fun c_20 => ?_)
                            · refine gx_iconst (pc := 319) hB dL_merges_319 2 (by decide) ?_
                              refine gx_iast (pc := 320) hB dL_merges_320 29 1 rfl rfl (8 * i + 5) rfl (by omega) (by decide) ((wZ K ad C R od sn ++ [(ug, .inl (K.2.1.2.1, 8, .inl G)), (uf, .inl (K.2.1.2.1, 60, .inl F5)), (ud, .inl (K.2.1.2.1, 56, .inl D)), (uh, .inl (K.2.1.2.1, 48, .inl H)), (uv, .inl (K.2.1.2.1, 48, .inl V)), (uj, .inl (K.2.1.2.1, 48, .inl J)), (uq, .inl (K.2.1.2.1, 48, .inl (upd (upd Q1 (8 * i + 1) (nI p)) (8 * i + 5) 2)))])) rfl ?_
                              refine gx_aload (pc := 321) hB dL_merges_321 8 rfl ?_
                              refine gx_bipush (pc := 323) hB dL_merges_323 8 (by decide) ?_
                              refine gx_iload (pc := 325) hB dL_merges_325 14 rfl ?_
                              refine gx_imul (pc := 327) hB dL_merges_327 ?_
                              refine gx_top (show 8 * nI i = nI (8 * i) from pk_mul 8 i) ?_
                              refine gx_bipush (pc := 328) hB dL_merges_328 7 (by decide) ?_
                              refine gx_iadd (pc := 330) hB dL_merges_330 ?_
                              refine gx_top (show (nI (8 * i)) + 7 = nI (8 * i + 7) from nI_add (8 * i) 7) ?_
                              refine gx_iload (pc := 331) hB dL_merges_331 0 rfl ?_
                              refine gx_if_eq (pc := 333) hB 350 dL_merges_333 (by decide) (fun c_21 => ?_) (fun c_21 => ?_)
                              · refine gx_iconst (pc := 350) hB dL_merges_350 0 (by decide) ?_
                                refine gx_iast (pc := 351) hB dL_merges_351 29 1 rfl rfl (8 * i + 7) rfl (by omega) (by decide) ((wZ K ad C R od sn ++ [(ug, .inl (K.2.1.2.1, 8, .inl G)), (uf, .inl (K.2.1.2.1, 60, .inl F5)), (ud, .inl (K.2.1.2.1, 56, .inl D)), (uh, .inl (K.2.1.2.1, 48, .inl H)), (uv, .inl (K.2.1.2.1, 48, .inl V)), (uj, .inl (K.2.1.2.1, 48, .inl J)), (uq, .inl (K.2.1.2.1, 48, .inl (upd (upd (upd Q1 (8 * i + 1) (nI p)) (8 * i + 5) 2) (8 * i + 7) 0)))])) rfl ?_
                                refine gx_iinc (pc := 352) hB dL_merges_352 14 (by decide) rfl (nI (i + 1)) (nI_1 _) [(13, .int (nI (i + 1))), (14, .int 0), (0, .ref (ad 0)), (1, .ref ug), (2, .ref uf), (3, .ref ud), (4, .ref uh), (5, .ref uv), (6, .ref uj), (7, .ref uq), (8, .int (nI p)), (9, .int (nI q)), (10, .int (wsN S c p (-1) b)), (11, .int (wsN S c p (nI q) b)), (12, .int (F (10 * p)))] rfl ?_
                                refine gx_goto (pc := 355) hB 213 dL_merges_355 (by decide) ?_
                                refine gx_sub hB (lv' := [(0, .ref (ad 0)), (1, .ref ug), (2, .ref uf), (3, .ref ud), (4, .ref uh), (5, .ref uv), (6, .ref uj), (7, .ref uq), (8, .int (nI p)), (9, .int (nI q)), (10, .int (wsN S c p (-1) b)), (11, .int (wsN S c p (nI q) b)), (12, .int (F (10 * p))), (13, .int (nI (i + 1)))]) [2, 3, 4, 5, 6, 7, 8, 9, 10, 11, 12, 13, 14, 0] rfl ?_
                                exact ih213 (i + 1) (upd (upd (upd Q1 (8 * i + 1) (nI p)) (8 * i + 5) 2) (8 * i + 7) 0) (by omega) (HS_hand2 hs (LJ_b3 h0) ed hd (by omega) hi c_16 c_17 c_18)
                              · exact absurd c_21 (by decide)
                            · exact absurd c_20 (by decide)
                          · exact absurd c_19 (by decide)
                        · refine gx_iconst (pc := 272) hB dL_merges_272 1 (by decide) ?_
                          refine gx_goto (pc := 273) hB 277 dL_merges_273 (by decide) ?_
                          refine gx_istore (pc := 277) hB dL_merges_277 (by decide) [(14, .int 1), (0, .ref (ad 0)), (1, .ref ug), (2, .ref uf), (3, .ref ud), (4, .ref uh), (5, .ref uv), (6, .ref uj), (7, .ref uq), (8, .int (nI p)), (9, .int (nI q)), (10, .int (wsN S c p (-1) b)), (11, .int (wsN S c p (nI q) b)), (12, .int (F (10 * p))), (13, .int (nI i))] rfl ?_
                          refine gx_aload (pc := 279) hB dL_merges_279 8 rfl ?_
                          refine gx_bipush (pc := 281) hB dL_merges_281 8 (by decide) ?_
                          refine gx_iload (pc := 283) hB dL_merges_283 14 rfl ?_
                          refine gx_imul (pc := 285) hB dL_merges_285 ?_
                          refine gx_top (show 8 * nI i = nI (8 * i) from pk_mul 8 i) ?_
                          refine gx_iconst (pc := 286) hB dL_merges_286 1 (by decide) ?_
                          refine gx_iadd (pc := 287) hB dL_merges_287 ?_
                          refine gx_top (show (nI (8 * i)) + 1 = nI (8 * i + 1) from nI_add (8 * i) 1) ?_
                          refine gx_iload (pc := 288) hB dL_merges_288 0 rfl ?_
                          refine gx_if_eq (pc := 290) hB 298 dL_merges_290 (by decide) (fun c_22 => ?_) (fun c_22 => ?_)
                          · exact absurd c_22 (by decide)
                          · refine gx_iload (pc := 293) hB dL_merges_293 10 rfl ?_
                            refine gx_goto (pc := 295) hB 300 dL_merges_295 (by decide) ?_
                            refine gx_iast (pc := 300) hB dL_merges_300 29 1 rfl rfl (8 * i + 1) rfl (by omega) (by decide) ((wZ K ad C R od sn ++ [(ug, .inl (K.2.1.2.1, 8, .inl G)), (uf, .inl (K.2.1.2.1, 60, .inl F5)), (ud, .inl (K.2.1.2.1, 56, .inl D)), (uh, .inl (K.2.1.2.1, 48, .inl H)), (uv, .inl (K.2.1.2.1, 48, .inl V)), (uj, .inl (K.2.1.2.1, 48, .inl J)), (uq, .inl (K.2.1.2.1, 48, .inl (upd Q1 (8 * i + 1) (nI q))))])) rfl ?_
                            refine gx_aload (pc := 301) hB dL_merges_301 8 rfl ?_
                            refine gx_bipush (pc := 303) hB dL_merges_303 8 (by decide) ?_
                            refine gx_iload (pc := 305) hB dL_merges_305 14 rfl ?_
                            refine gx_imul (pc := 307) hB dL_merges_307 ?_
                            refine gx_top (show 8 * nI i = nI (8 * i) from pk_mul 8 i) ?_
                            refine gx_iconst (pc := 308) hB dL_merges_308 5 (by decide) ?_
                            refine gx_iadd (pc := 309) hB dL_merges_309 ?_
                            refine gx_top (show (nI (8 * i)) + 5 = nI (8 * i + 5) from nI_add (8 * i) 5) ?_
                            refine gx_iload (pc := 310) hB dL_merges_310 0 rfl ?_
                            refine gx_if_eq (pc := 312) hB 319 dL_merges_312 (by decide) (fun c_23 => ?_) (fun c_23 => ?_)
                            · exact absurd c_23 (by decide)
                            · refine gx_iconst (pc := 315) hB dL_merges_315 0 (by decide) ?_
                              refine gx_goto (pc := 316) hB 320 dL_merges_316 (by decide) ?_
                              refine gx_iast (pc := 320) hB dL_merges_320 29 1 rfl rfl (8 * i + 5) rfl (by omega) (by decide) ((wZ K ad C R od sn ++ [(ug, .inl (K.2.1.2.1, 8, .inl G)), (uf, .inl (K.2.1.2.1, 60, .inl F5)), (ud, .inl (K.2.1.2.1, 56, .inl D)), (uh, .inl (K.2.1.2.1, 48, .inl H)), (uv, .inl (K.2.1.2.1, 48, .inl V)), (uj, .inl (K.2.1.2.1, 48, .inl J)), (uq, .inl (K.2.1.2.1, 48, .inl (upd (upd Q1 (8 * i + 1) (nI q)) (8 * i + 5) 0)))])) rfl ?_
                              refine gx_aload (pc := 321) hB dL_merges_321 8 rfl ?_
                              refine gx_bipush (pc := 323) hB dL_merges_323 8 (by decide) ?_
                              refine gx_iload (pc := 325) hB dL_merges_325 14 rfl ?_
                              refine gx_imul (pc := 327) hB dL_merges_327 ?_
                              refine gx_top (show 8 * nI i = nI (8 * i) from pk_mul 8 i) ?_
                              refine gx_bipush (pc := 328) hB dL_merges_328 7 (by decide) ?_
                              refine gx_iadd (pc := 330) hB dL_merges_330 ?_
                              refine gx_top (show (nI (8 * i)) + 7 = nI (8 * i + 7) from nI_add (8 * i) 7) ?_
                              refine gx_iload (pc := 331) hB dL_merges_331 0 rfl ?_
                              refine gx_if_eq (pc := 333) hB 350 dL_merges_333 (by decide) (fun c_24 => ?_) (fun c_24 => ?_)
                              · exact absurd c_24 (by decide)
                              · refine gx_aload (pc := 336) hB dL_merges_336 8 rfl ?_
                                refine gx_bipush (pc := 338) hB dL_merges_338 8 (by decide) ?_
                                refine gx_iload (pc := 340) hB dL_merges_340 14 rfl ?_
                                refine gx_imul (pc := 342) hB dL_merges_342 ?_
                                refine gx_top (show 8 * nI i = nI (8 * i) from pk_mul 8 i) ?_
                                refine gx_bipush (pc := 343) hB dL_merges_343 7 (by decide) ?_
                                refine gx_iadd (pc := 345) hB dL_merges_345 ?_
                                refine gx_top (show (nI (8 * i)) + 7 = nI (8 * i + 7) from nI_add (8 * i) 7) ?_
                                refine gx_iald (pc := 346) hB dL_merges_346 29 1 rfl rfl (8 * i + 7) rfl (by omega) (by decide) ?_
                                refine gx_goto (pc := 347) hB 351 dL_merges_347 (by decide) ?_
                                refine gx_iast (pc := 351) hB dL_merges_351 29 1 rfl rfl (8 * i + 7) rfl (by omega) (by decide) ((wZ K ad C R od sn ++ [(ug, .inl (K.2.1.2.1, 8, .inl G)), (uf, .inl (K.2.1.2.1, 60, .inl F5)), (ud, .inl (K.2.1.2.1, 56, .inl D)), (uh, .inl (K.2.1.2.1, 48, .inl H)), (uv, .inl (K.2.1.2.1, 48, .inl V)), (uj, .inl (K.2.1.2.1, 48, .inl J)), (uq, .inl (K.2.1.2.1, 48, .inl (upd (upd (upd Q1 (8 * i + 1) (nI q)) (8 * i + 5) 0) (8 * i + 7) ((upd (upd Q1 (8 * i + 1) (nI q)) (8 * i + 5) 0) (8 * i + 7)))))])) rfl ?_
                                refine gx_iinc (pc := 352) hB dL_merges_352 14 (by decide) rfl (nI (i + 1)) (nI_1 _) [(13, .int (nI (i + 1))), (14, .int 1), (0, .ref (ad 0)), (1, .ref ug), (2, .ref uf), (3, .ref ud), (4, .ref uh), (5, .ref uv), (6, .ref uj), (7, .ref uq), (8, .int (nI p)), (9, .int (nI q)), (10, .int (wsN S c p (-1) b)), (11, .int (wsN S c p (nI q) b)), (12, .int (F (10 * p)))] rfl ?_
                                refine gx_goto (pc := 355) hB 213 dL_merges_355 (by decide) ?_
                                refine gx_sub hB (lv' := [(0, .ref (ad 0)), (1, .ref ug), (2, .ref uf), (3, .ref ud), (4, .ref uh), (5, .ref uv), (6, .ref uj), (7, .ref uq), (8, .int (nI p)), (9, .int (nI q)), (10, .int (wsN S c p (-1) b)), (11, .int (wsN S c p (nI q) b)), (12, .int (F (10 * p))), (13, .int (nI (i + 1)))]) [2, 3, 4, 5, 6, 7, 8, 9, 10, 11, 12, 13, 14, 0] rfl ?_
                                exact ih213 (i + 1) (upd (upd (upd Q1 (8 * i + 1) (nI q)) (8 * i + 5) 0) (8 * i + 7) ((upd (upd Q1 (8 * i + 1) (nI q)) (8 * i + 5) 0) (8 * i + 7))) (by omega) (HS_hand1 hs (LJ_b3 h0) ed hd (by omega) hi c_16 c_17 c_18)
              refine gx_sub hB (lv' := [(0, .ref (ad 0)), (1, .ref ug), (2, .ref uf), (3, .ref ud), (4, .ref uh), (5, .ref uv), (6, .ref uj), (7, .ref uq), (8, .int (nI p)), (9, .int (nI q)), (10, .int (wsN S c p (-1) b)), (11, .int (wsN S c p (nI q) b)), (12, .int (F (10 * p))), (13, .int 0)]) [4, 5, 6, 7, 8, 9, 10, 11, 12, 13, 3, 2, 1, 0] rfl ?_
              exact loop_213 (e) 0 Q (by omega) hs1
            · refine gx_aload_n (pc := 120) hB dL_merges_120 2 rfl ?_
              refine gx_iload (pc := 121) hB dL_merges_121 10 rfl ?_
              refine gx_iload (pc := 123) hB dL_merges_123 11 rfl ?_
              refine gx_dVA (pc := 125) (r := (bMerge C (nI p) (nI q)).1) (W1 := wZ K ad ((bMerge C (nI p) (nI q)).2) (kR C R od sn) (kOd (bMerge C (nI p) (nI q)).1 od sn) (kSn (bMerge C (nI p) (nI q)).1 sn)) (wr := [(ug, .inl (K.2.1.2.1, 8, .inl G)), (uf, .inl (K.2.1.2.1, 60, .inl F)), (ud, .inl (K.2.1.2.1, 56, .inl D)), (uh, .inl (K.2.1.2.1, 48, .inl H)), (uv, .inl (K.2.1.2.1, 48, .inl V)), (uj, .inl (K.2.1.2.1, 48, .inl J)), (uq, .inl (K.2.1.2.1, 48, .inl Q))]) hB (k_merge l K ad C R od sn (nI p) (nI q) ho hsn) mX4_merge dL_merges_125 tb_413 pX4_merge ⟨Nat.le_of_ble_eq_true rfl, Nat.le_of_ble_eq_true rfl⟩ ⟨rfl, rfl⟩ ⟨Nat.le_of_ble_eq_true rfl, Nat.le_of_ble_eq_true rfl⟩ rfl (Nat.le_of_ble_eq_true rfl) (List.range 23) (List.range' 23 7) rfl rfl (by decide) (by decide) (by decide) rfl rfl (List.range' 7 23 ++ List.range 7) (by decide) rfl ?_
              obtain ⟨e_1, hI⟩ := t_mg_no h0 h1 h2 hpq (Or.inr (Or.inr (Or.inr (Or.inr (Int32.not_le.mp c_10)))))
              refine gx_top (x := (bMerge C (nI p) (nI q)).1) (y := (-2)) e_1 ?_
              refine gx_bipush (pc := 128) hB dL_merges_128 (-2) (by decide) ?_
              refine gx_icmp_ne (pc := 130) hB 137 dL_merges_130 (by decide) (fun c_25 => ?_) (fun c_25 => ?_)
              · exact absurd c_25 (by decide)
              · refine gx_iconst (pc := 133) hB dL_merges_133 1 (by decide) ?_
                refine gx_goto (pc := 134) hB 138 dL_merges_134 (by decide) ?_
                exact gx_zret (pc := 138) hC dL_merges_138 (Nat.zero_le _) (Nat.zero_le _) (by decide) ⟨rfl, _, _, _, _, _, _, _, _, _, _, _, rfl, hI⟩
  · have hpq : p = q := (nI_eq (by omega) (by omega)).mp c_1
    refine gx_aload_n (pc := 7) hB dL_merges_7 0 rfl ?_
    refine gx_iload (pc := 8) hB dL_merges_8 8 rfl ?_
    refine gx_iload (pc := 10) hB dL_merges_10 9 rfl ?_
    refine gx_dVA (pc := 12) (r := (bMerge C (nI p) (nI q)).1) (W1 := wZ K ad ((bMerge C (nI p) (nI q)).2) (kR C R od sn) (kOd (bMerge C (nI p) (nI q)).1 od sn) (kSn (bMerge C (nI p) (nI q)).1 sn)) (wr := [(ug, .inl (K.2.1.2.1, 8, .inl G)), (uf, .inl (K.2.1.2.1, 60, .inl F)), (ud, .inl (K.2.1.2.1, 56, .inl D)), (uh, .inl (K.2.1.2.1, 48, .inl H)), (uv, .inl (K.2.1.2.1, 48, .inl V)), (uj, .inl (K.2.1.2.1, 48, .inl J)), (uq, .inl (K.2.1.2.1, 48, .inl Q))]) hB (k_merge l K ad C R od sn (nI p) (nI q) ho hsn) mX4_merge dL_merges_12 tb_413 pX4_merge ⟨Nat.le_of_ble_eq_true rfl, Nat.le_of_ble_eq_true rfl⟩ ⟨rfl, rfl⟩ ⟨Nat.le_of_ble_eq_true rfl, Nat.le_of_ble_eq_true rfl⟩ rfl (Nat.le_of_ble_eq_true rfl) (List.range 23) (List.range' 23 7) rfl rfl (by decide) (by decide) (by decide) rfl rfl (List.range' 7 23 ++ List.range 7) (by decide) rfl ?_
    obtain ⟨e_1, hJ⟩ := t_mg_same2 h0 hpq
    refine gx_top (x := (bMerge C (nI p) (nI q)).1) (y := (-1)) e_1 ?_
    refine gx_iconst (pc := 15) hB dL_merges_15 (-1) (by decide) ?_
    refine gx_icmp_ne (pc := 16) hB 35 dL_merges_16 (by decide) (fun c_26 => ?_) (fun c_26 => ?_)
    · exact absurd c_26 (by decide)
    · refine gx_aload_n (pc := 19) hB dL_merges_19 0 rfl ?_
      refine gx_iload (pc := 20) hB dL_merges_20 8 rfl ?_
      refine gx_iload (pc := 22) hB dL_merges_22 9 rfl ?_
      refine gx_dVA (pc := 24) (r := bConsents ((bMerge C (nI p) (nI q)).2) (nI p) (nI q)) (W1 := wZ K ad ((bMerge C (nI p) (nI q)).2) (kR C R od sn) (kOd (bMerge C (nI p) (nI q)).1 od sn) (kSn (bMerge C (nI p) (nI q)).1 sn)) (wr := [(ug, .inl (K.2.1.2.1, 8, .inl G)), (uf, .inl (K.2.1.2.1, 60, .inl F)), (ud, .inl (K.2.1.2.1, 56, .inl D)), (uh, .inl (K.2.1.2.1, 48, .inl H)), (uv, .inl (K.2.1.2.1, 48, .inl V)), (uj, .inl (K.2.1.2.1, 48, .inl J)), (uq, .inl (K.2.1.2.1, 48, .inl Q))]) hB (k_consents l K ad ((bMerge C (nI p) (nI q)).2) (kR C R od sn) (kOd (bMerge C (nI p) (nI q)).1 od sn) (kSn (bMerge C (nI p) (nI q)).1 sn) (nI p) (nI q) hJ.2.2.2.2.1 hJ.2.2.2.2.2) mX4_consents dL_merges_24 tb_449 pX4_consents ⟨Nat.le_of_ble_eq_true rfl, Nat.le_of_ble_eq_true rfl⟩ ⟨rfl, rfl⟩ ⟨Nat.le_of_ble_eq_true rfl, Nat.le_of_ble_eq_true rfl⟩ rfl (Nat.le_of_ble_eq_true rfl) (List.range 23) (List.range' 23 7) rfl rfl (by decide) (by decide) (by decide) rfl rfl (List.range' 7 23 ++ List.range 7) (by decide) rfl ?_
      have e_1 := t_cons2 hJ hpq
      refine gx_top (x := bConsents ((bMerge C (nI p) (nI q)).2) (nI p) (nI q)) (y := (-1)) e_1 ?_
      have hI : LI _ _ _ _ _ _ _ _ _ _ := ⟨_, _, _, _, _, hJ⟩
      refine gx_iconst (pc := 27) hB dL_merges_27 (-1) (by decide) ?_
      refine gx_icmp_ne (pc := 28) hB 35 dL_merges_28 (by decide) (fun c_27 => ?_) (fun c_27 => ?_)
      · exact absurd c_27 (by decide)
      · refine gx_iconst (pc := 31) hB dL_merges_31 1 (by decide) ?_
        refine gx_goto (pc := 32) hB 36 dL_merges_32 (by decide) ?_
        exact gx_zret (pc := 36) hC dL_merges_36 (Nat.zero_le _) (Nat.zero_le _) (by decide) ⟨rfl, _, _, _, _, _, _, _, _, _, _, _, rfl, hI⟩
