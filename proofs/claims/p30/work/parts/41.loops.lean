/-! The law's claims and months. -/
theorem pL_claim : (parseMethodDescriptor yL_claim.desc).map (fun d => d.parameters.length) = some 8 := by decide +kernel
theorem mL_claim : gx_MS yL_claim cL_claim 13 (some .int) := ⟨tb_321, tb_26, tb_322, by decide, by decide⟩
set_option maxHeartbeats 4000000 in
set_option maxRecDepth 100000 in
theorem c_L_claim (l : Launch) (K : gx_K) (ug uf ud uh uv uj un : Nat) (C G F D H V J Q M S : Nat → Int32) (a b c e : Nat) (h0 : Rx C S a b c e 2000) (h1 : HS G F D H V J Q S a b c e) (h2 : AC S a) (h3 : KM S c e) (h4 : M 0 = 0) : gx_Ctr l K yL_claim cL_claim 13 (some .int) (rmm 2 27) [.ref ug, .ref uf, .ref ud, .ref uh, .ref uv, .ref uj, .int (-1), .ref un] ([(ug, .inl (K.2.1.2.1, 8, .inl G)), (uf, .inl (K.2.1.2.1, 60, .inl F)), (ud, .inl (K.2.1.2.1, 56, .inl D)), (uh, .inl (K.2.1.2.1, 48, .inl H)), (uv, .inl (K.2.1.2.1, 48, .inl V)), (uj, .inl (K.2.1.2.1, 48, .inl J)), (un, .inl (K.2.1.2.1, 1, .inl M))]) (fun v w => ∃ F1 J1 M1 : Nat → Int32, v = some (.int (mClN S c (-1) c).1) ∧ w = [(ug, .inl (K.2.1.2.1, 8, .inl G)), (uf, .inl (K.2.1.2.1, 60, .inl F1)), (ud, .inl (K.2.1.2.1, 56, .inl D)), (uh, .inl (K.2.1.2.1, 48, .inl H)), (uv, .inl (K.2.1.2.1, 48, .inl V)), (uj, .inl (K.2.1.2.1, 48, .inl J1)), (un, .inl (K.2.1.2.1, 1, .inl M1))] ∧ HS G F1 D H V J1 Q (mClN S c (-1) c).2.2 a b c e ∧ M1 0 = (mClN S c (-1) c).2.1) := by
  refine gx_of (by decide) (Nat.le_of_ble_eq_true rfl) (fun GG hC => ?_)
  have hB := hC.b
  refine gx_lv (lv' := [(0, .ref ug), (1, .ref uf), (2, .ref ud), (3, .ref uh), (4, .ref uv), (5, .ref uj), (6, .int (-1)), (7, .ref un)]) rfl ?_
  have hb := Rx_b h0
  refine gx_iconst (pc := 0) hB dL_claim_0 0 (by decide) ?_
  refine gx_istore (pc := 1) hB dL_claim_1 (by decide) [(8, .int 0), (0, .ref ug), (1, .ref uf), (2, .ref ud), (3, .ref uh), (4, .ref uv), (5, .ref uj), (6, .int (-1)), (7, .ref un)] rfl ?_
  refine gx_iconst (pc := 3) hB dL_claim_3 0 (by decide) ?_
  refine gx_istore (pc := 4) hB dL_claim_4 (by decide) [(9, .int 0), (8, .int 0), (0, .ref ug), (1, .ref uf), (2, .ref ud), (3, .ref uh), (4, .ref uv), (5, .ref uj), (6, .int (-1)), (7, .ref un)] rfl ?_
  have loop_6 : ∀ (dq i : Nat) (sm : Int32) (F1 : Nat → Int32) (J1 : Nat → Int32) (M1 : Nat → Int32), i + dq = c → (HS G F1 D H V J1 Q (mClN S c (-1) i).2.2 a b c e) → (sm = (mClN S c (-1) i).1) → (M1 0 = (mClN S c (-1) i).2.1) → GG 0 0 ([(ug, .inl (K.2.1.2.1, 8, .inl G)), (uf, .inl (K.2.1.2.1, 60, .inl F1)), (ud, .inl (K.2.1.2.1, 56, .inl D)), (uh, .inl (K.2.1.2.1, 48, .inl H)), (uv, .inl (K.2.1.2.1, 48, .inl V)), (uj, .inl (K.2.1.2.1, 48, .inl J1)), (un, .inl (K.2.1.2.1, 1, .inl M1))]) [(0, .ref ug), (1, .ref uf), (2, .ref ud), (3, .ref uh), (4, .ref uv), (5, .ref uj), (6, .int (-1)), (7, .ref un), (8, .int sm), (9, .int (nI i))] 6 [] := by
    intro dq
    induction dq with
    | zero =>
      intro i sm F1 J1 M1 hi6 hs hm hn
      have hz6 : i = c := by omega
      refine gx_iload (pc := 6) hB dL_claim_6 9 rfl ?_
      refine gx_aload_n (pc := 8) hB dL_claim_8 0 rfl ?_
      refine gx_iconst (pc := 9) hB dL_claim_9 4 (by decide) ?_
      refine gx_iald (pc := 10) hB dL_claim_10 0 1 rfl rfl 4 rfl (by decide) (by decide) ?_
      refine gx_top (show G 4 = nI c from h1.1.2.2.2.2.1) ?_
      refine gx_icmp_ge (pc := 11) hB 213 dL_claim_11 (by decide) (fun c_1 => ?_) (fun c_1 => ?_)
      · subst hz6
        refine gx_iload (pc := 213) hB dL_claim_213 8 rfl ?_
        exact gx_iret (pc := 215) hC dL_claim_215 (Nat.zero_le _) (Nat.zero_le _) ⟨F1, J1, M1, by rw [hm], rfl, hs, hn⟩
      · exact absurd (lpTn (c := c) (by omega) hi6) c_1
    | succ dq ih6 =>
      intro i sm F1 J1 M1 hi6 hs hm hn
      have hi : i < c := by omega
      obtain ⟨hx1, ha1, hk1⟩ := clN_keep h0 h2 h3 i (by omega)
      obtain ⟨d, hd, ed⟩ := (hx1.2.1.2.1 i hi).1
      obtain ⟨p, hp, ep⟩ := (hx1.2.1.2.1 i hi).2
      have eh : H (2 * i) = nI d := (hs.2.2.2.1 i hi).1.1.trans ed
      have ehp : H (2 * i + 1) = nI p := (hs.2.2.2.1 i hi).1.2.1.trans ep
      have hcan := can_J hx1 hs hk1.2 hi ed hd
      refine gx_iload (pc := 6) hB dL_claim_6 9 rfl ?_
      refine gx_aload_n (pc := 8) hB dL_claim_8 0 rfl ?_
      refine gx_iconst (pc := 9) hB dL_claim_9 4 (by decide) ?_
      refine gx_iald (pc := 10) hB dL_claim_10 0 1 rfl rfl 4 rfl (by decide) (by decide) ?_
      refine gx_top (show G 4 = nI c from h1.1.2.2.2.2.1) ?_
      refine gx_icmp_ge (pc := 11) hB 213 dL_claim_11 (by decide) (fun c_2 => ?_) (fun c_2 => ?_)
      · exact absurd c_2 (lpFn (c := c) (by omega) hi6)
      · refine gx_aload_n (pc := 14) hB dL_claim_14 3 rfl ?_
        refine gx_iconst (pc := 15) hB dL_claim_15 2 (by decide) ?_
        refine gx_iload (pc := 16) hB dL_claim_16 9 rfl ?_
        refine gx_imul (pc := 18) hB dL_claim_18 ?_
        refine gx_top (show 2 * nI i = nI (2 * i) from pk_mul 2 i) ?_
        refine gx_iald (pc := 19) hB dL_claim_19 3 1 rfl rfl (2 * i) rfl (by omega) (by decide) ?_
        refine gx_top (show H (2 * i) = nI d from eh) ?_
        refine gx_istore (pc := 20) hB dL_claim_20 (by decide) [(10, .int (nI d)), (0, .ref ug), (1, .ref uf), (2, .ref ud), (3, .ref uh), (4, .ref uv), (5, .ref uj), (6, .int (-1)), (7, .ref un), (8, .int sm), (9, .int (nI i))] rfl ?_
        refine gx_iload (pc := 22) hB dL_claim_22 7 rfl ?_
        refine gx_if_lt (pc := 24) hB 34 dL_claim_24 (by decide) (fun c_3 => ?_) (fun c_3 => ?_)
        · refine gx_aload (pc := 34) hB dL_claim_34 6 rfl ?_
          refine gx_iconst (pc := 36) hB dL_claim_36 2 (by decide) ?_
          refine gx_iload (pc := 37) hB dL_claim_37 10 rfl ?_
          refine gx_imul (pc := 39) hB dL_claim_39 ?_
          refine gx_top (show 2 * nI i = nI (2 * i) from pk_mul 2 i) ?_
          refine gx_iald (pc := 40) hB dL_claim_40 5 1 rfl rfl (2 * i) rfl (by omega) (by decide) ?_
          refine gx_if_ne (pc := 41) hB 78 dL_claim_41 (by decide) (fun c_4 => ?_) (fun c_4 => ?_)
          · refine gx_iconst (pc := 78) hB dL_claim_78 0 (by decide) ?_
            refine gx_istore (pc := 79) hB dL_claim_79 (by decide) [(11, .int 0), (10, .int (nI d)), (0, .ref ug), (1, .ref uf), (2, .ref ud), (3, .ref uh), (4, .ref uv), (5, .ref uj), (6, .int (-1)), (7, .ref un), (8, .int sm), (9, .int (nI i))] rfl ?_
            refine gx_iload (pc := 81) hB dL_claim_81 0 rfl ?_
            refine gx_if_eq (pc := 83) hB 207 dL_claim_83 (by decide) (fun c_5 => ?_) (fun c_5 => ?_)
            · refine gx_iinc (pc := 207) hB dL_claim_207 11 (by decide) rfl (nI (i + 1)) (nI_1 _) [(9, .int (nI (i + 1))), (11, .int 0), (10, .int (nI d)), (0, .ref ug), (1, .ref uf), (2, .ref ud), (3, .ref uh), (4, .ref uv), (5, .ref uj), (6, .int (-1)), (7, .ref un), (8, .int sm)] rfl ?_
              refine gx_goto (pc := 210) hB 6 dL_claim_210 (by decide) ?_
              have hno : ¬ mCan (mClN S c (-1) i).2.2 c i = true := fun z => by
                have zz := hcan.mp z
                first | exact c_4 zz.1 | exact c_4 zz.2.1 | exact zz.2.2.1 c_4 | exact zz.2.2.2 c_4
              have hy := clN_no hno
              refine gx_sub hB (lv' := [(0, .ref ug), (1, .ref uf), (2, .ref ud), (3, .ref uh), (4, .ref uv), (5, .ref uj), (6, .int (-1)), (7, .ref un), (8, .int sm), (9, .int (nI (i + 1)))]) [3, 4, 5, 6, 7, 8, 9, 10, 11, 0] rfl ?_
              exact ih6 (i + 1) sm F1 J1 M1 (by omega) (by rw [hy]; exact hs) (by rw [hy]; exact hm) (by rw [hy]; exact hn)
            · exact absurd c_5 (by decide)
          · refine gx_aload_n (pc := 44) hB dL_claim_44 3 rfl ?_
            refine gx_bipush (pc := 45) hB dL_claim_45 7 (by decide) ?_
            refine gx_iload (pc := 47) hB dL_claim_47 0 rfl ?_
            refine gx_imul (pc := 49) hB dL_claim_49 ?_
            refine gx_top (show 7 * nI d = nI (7 * d) from pk_mul 7 d) ?_
            refine gx_iald (pc := 50) hB dL_claim_50 2 1 rfl rfl (7 * d) rfl (by omega) (by decide) ?_
            refine gx_iconst (pc := 51) hB dL_claim_51 1 (by decide) ?_
            refine gx_icmp_ne (pc := 52) hB 78 dL_claim_52 (by decide) (fun c_6 => ?_) (fun c_6 => ?_)
            · refine gx_iconst (pc := 78) hB dL_claim_78 0 (by decide) ?_
              refine gx_istore (pc := 79) hB dL_claim_79 (by decide) [(11, .int 0), (10, .int (nI d)), (0, .ref ug), (1, .ref uf), (2, .ref ud), (3, .ref uh), (4, .ref uv), (5, .ref uj), (6, .int (-1)), (7, .ref un), (8, .int sm), (9, .int (nI i))] rfl ?_
              refine gx_iload (pc := 81) hB dL_claim_81 0 rfl ?_
              refine gx_if_eq (pc := 83) hB 207 dL_claim_83 (by decide) (fun c_7 => ?_) (fun c_7 => ?_)
              · refine gx_iinc (pc := 207) hB dL_claim_207 11 (by decide) rfl (nI (i + 1)) (nI_1 _) [(9, .int (nI (i + 1))), (11, .int 0), (10, .int (nI d)), (0, .ref ug), (1, .ref uf), (2, .ref ud), (3, .ref uh), (4, .ref uv), (5, .ref uj), (6, .int (-1)), (7, .ref un), (8, .int sm)] rfl ?_
                refine gx_goto (pc := 210) hB 6 dL_claim_210 (by decide) ?_
                have hno : ¬ mCan (mClN S c (-1) i).2.2 c i = true := fun z => by
                  have zz := hcan.mp z
                  first | exact c_6 zz.1 | exact c_6 zz.2.1 | exact zz.2.2.1 c_6 | exact zz.2.2.2 c_6
                have hy := clN_no hno
                refine gx_sub hB (lv' := [(0, .ref ug), (1, .ref uf), (2, .ref ud), (3, .ref uh), (4, .ref uv), (5, .ref uj), (6, .int (-1)), (7, .ref un), (8, .int sm), (9, .int (nI (i + 1)))]) [3, 4, 5, 6, 7, 8, 9, 10, 11, 0] rfl ?_
                exact ih6 (i + 1) sm F1 J1 M1 (by omega) (by rw [hy]; exact hs) (by rw [hy]; exact hm) (by rw [hy]; exact hn)
              · exact absurd c_7 (by decide)
            · refine gx_aload (pc := 55) hB dL_claim_55 5 rfl ?_
              refine gx_iconst (pc := 57) hB dL_claim_57 2 (by decide) ?_
              refine gx_iload (pc := 58) hB dL_claim_58 10 rfl ?_
              refine gx_imul (pc := 60) hB dL_claim_60 ?_
              refine gx_top (show 2 * nI i = nI (2 * i) from pk_mul 2 i) ?_
              refine gx_iconst (pc := 61) hB dL_claim_61 1 (by decide) ?_
              refine gx_iadd (pc := 62) hB dL_claim_62 ?_
              refine gx_top (show (nI (2 * i)) + 1 = nI (2 * i + 1) from nI_add (2 * i) 1) ?_
              refine gx_iald (pc := 63) hB dL_claim_63 4 1 rfl rfl (2 * i + 1) rfl (by omega) (by decide) ?_
              refine gx_aload_n (pc := 64) hB dL_claim_64 1 rfl ?_
              refine gx_bipush (pc := 65) hB dL_claim_65 6 (by decide) ?_
              refine gx_iald (pc := 67) hB dL_claim_67 0 1 rfl rfl 6 rfl (by decide) (by decide) ?_
              refine gx_bipush (pc := 68) hB dL_claim_68 47 (by decide) ?_
              refine gx_isub (pc := 70) hB dL_claim_70 ?_
              refine gx_icmp_lt (pc := 71) hB 78 dL_claim_71 (by decide) (fun c_8 => ?_) (fun c_8 => ?_)
              · refine gx_iconst (pc := 78) hB dL_claim_78 0 (by decide) ?_
                refine gx_istore (pc := 79) hB dL_claim_79 (by decide) [(11, .int 0), (10, .int (nI d)), (0, .ref ug), (1, .ref uf), (2, .ref ud), (3, .ref uh), (4, .ref uv), (5, .ref uj), (6, .int (-1)), (7, .ref un), (8, .int sm), (9, .int (nI i))] rfl ?_
                refine gx_iload (pc := 81) hB dL_claim_81 0 rfl ?_
                refine gx_if_eq (pc := 83) hB 207 dL_claim_83 (by decide) (fun c_9 => ?_) (fun c_9 => ?_)
                · refine gx_iinc (pc := 207) hB dL_claim_207 11 (by decide) rfl (nI (i + 1)) (nI_1 _) [(9, .int (nI (i + 1))), (11, .int 0), (10, .int (nI d)), (0, .ref ug), (1, .ref uf), (2, .ref ud), (3, .ref uh), (4, .ref uv), (5, .ref uj), (6, .int (-1)), (7, .ref un), (8, .int sm)] rfl ?_
                  refine gx_goto (pc := 210) hB 6 dL_claim_210 (by decide) ?_
                  have hno : ¬ mCan (mClN S c (-1) i).2.2 c i = true := fun z => by
                    have zz := hcan.mp z
                    first | exact c_8 zz.1 | exact c_8 zz.2.1 | exact zz.2.2.1 c_8 | exact zz.2.2.2 c_8
                  have hy := clN_no hno
                  refine gx_sub hB (lv' := [(0, .ref ug), (1, .ref uf), (2, .ref ud), (3, .ref uh), (4, .ref uv), (5, .ref uj), (6, .int (-1)), (7, .ref un), (8, .int sm), (9, .int (nI (i + 1)))]) [3, 4, 5, 6, 7, 8, 9, 10, 11, 0] rfl ?_
                  exact ih6 (i + 1) sm F1 J1 M1 (by omega) (by rw [hy]; exact hs) (by rw [hy]; exact hm) (by rw [hy]; exact hn)
                · exact absurd c_9 (by decide)
              · refine gx_iconst (pc := 74) hB dL_claim_74 1 (by decide) ?_
                refine gx_goto (pc := 75) hB 79 dL_claim_75 (by decide) ?_
                refine gx_istore (pc := 79) hB dL_claim_79 (by decide) [(11, .int 1), (10, .int (nI d)), (0, .ref ug), (1, .ref uf), (2, .ref ud), (3, .ref uh), (4, .ref uv), (5, .ref uj), (6, .int (-1)), (7, .ref un), (8, .int sm), (9, .int (nI i))] rfl ?_
                refine gx_iload (pc := 81) hB dL_claim_81 0 rfl ?_
                refine gx_if_eq (pc := 83) hB 207 dL_claim_83 (by decide) (fun c_10 => ?_) (fun c_10 => ?_)
                · exact absurd c_10 (by decide)
                · refine gx_aload_n (pc := 86) hB dL_claim_86 2 rfl ?_
                  refine gx_aload_n (pc := 87) hB dL_claim_87 5 rfl ?_
                  refine gx_aload (pc := 88) hB dL_claim_88 6 rfl ?_
                  refine gx_aload (pc := 90) hB dL_claim_90 7 rfl ?_
                  refine gx_iload (pc := 92) hB dL_claim_92 1 rfl ?_
                  refine gx_aload (pc := 94) hB dL_claim_94 6 rfl ?_
                  refine gx_iconst (pc := 96) hB dL_claim_96 2 (by decide) ?_
                  refine gx_iload (pc := 97) hB dL_claim_97 11 rfl ?_
                  refine gx_imul (pc := 99) hB dL_claim_99 ?_
                  refine gx_top (show 2 * nI i = nI (2 * i) from pk_mul 2 i) ?_
                  refine gx_iconst (pc := 100) hB dL_claim_100 1 (by decide) ?_
                  refine gx_iadd (pc := 101) hB dL_claim_101 ?_
                  refine gx_top (show (nI (2 * i)) + 1 = nI (2 * i + 1) from nI_add (2 * i) 1) ?_
                  refine gx_iald (pc := 102) hB dL_claim_102 4 1 rfl rfl (2 * i + 1) rfl (by omega) (by decide) ?_
                  refine gx_bipush (pc := 103) hB dL_claim_103 12 (by decide) ?_
                  refine gx_idiv (pc := 105) hB dL_claim_105 (by decide) ?_
                  refine gx_dSi (pc := 106) (r := yrN ((mClN S c (-1) i).2.2) (nI d) ((V (2 * i + 1)) / 12) c) (wr := [(uf, .inl (K.2.1.2.1, 60, .inl F1)), (ud, .inl (K.2.1.2.1, 56, .inl D)), (un, .inl (K.2.1.2.1, 1, .inl M1))]) hB (c_L_year l K ug uh uv uj G H V J1 ((mClN S c (-1) i).2.2) c (nI d) ((V (2 * i + 1)) / 12) h1.1.2.2.2.2.1 (by first | assumption | omega | decide) hs.2.2.2.1) mL_year dL_claim_106 tb_323 pL_year ⟨Nat.le_of_ble_eq_true rfl, Nat.le_of_ble_eq_true rfl⟩ ⟨rfl, rfl⟩ ⟨Nat.le_of_ble_eq_true rfl, Nat.le_of_ble_eq_true rfl⟩ rfl (Nat.le_of_ble_eq_true rfl) [0, 3, 4, 5] [1, 2, 6] rfl rfl (by decide) (by decide) (by decide) [3, 0, 1, 4, 5, 6, 2] (by decide) ([(ug, .inl (K.2.1.2.1, 8, .inl G)), (uf, .inl (K.2.1.2.1, 60, .inl F1)), (ud, .inl (K.2.1.2.1, 56, .inl D)), (uh, .inl (K.2.1.2.1, 48, .inl H)), (uv, .inl (K.2.1.2.1, 48, .inl V)), (uj, .inl (K.2.1.2.1, 48, .inl J1)), (un, .inl (K.2.1.2.1, 1, .inl M1))]) rfl ?_
                  refine gx_aload (pc := 109) hB dL_claim_109 6 rfl ?_
                  refine gx_iconst (pc := 111) hB dL_claim_111 2 (by decide) ?_
                  refine gx_iload (pc := 112) hB dL_claim_112 11 rfl ?_
                  refine gx_imul (pc := 114) hB dL_claim_114 ?_
                  refine gx_top (show 2 * nI i = nI (2 * i) from pk_mul 2 i) ?_
                  refine gx_iald (pc := 115) hB dL_claim_115 4 1 rfl rfl (2 * i) rfl (by omega) (by decide) ?_
                  refine gx_iadd (pc := 116) hB dL_claim_116 ?_
                  refine gx_aload_n (pc := 117) hB dL_claim_117 2 rfl ?_
                  refine gx_iconst (pc := 118) hB dL_claim_118 1 (by decide) ?_
                  refine gx_iald (pc := 119) hB dL_claim_119 0 1 rfl rfl 1 rfl (by decide) (by decide) ?_
                  refine gx_icmp_gt (pc := 120) hB 207 dL_claim_120 (by decide) (fun c_11 => ?_) (fun c_11 => ?_)
                  · refine gx_iinc (pc := 207) hB dL_claim_207 11 (by decide) rfl (nI (i + 1)) (nI_1 _) [(9, .int (nI (i + 1))), (11, .int 1), (10, .int (nI d)), (0, .ref ug), (1, .ref uf), (2, .ref ud), (3, .ref uh), (4, .ref uv), (5, .ref uj), (6, .int (-1)), (7, .ref un), (8, .int sm)] rfl ?_
                    refine gx_goto (pc := 210) hB 6 dL_claim_210 (by decide) ?_
                    have hno : ¬ mCan (mClN S c (-1) i).2.2 c i = true := fun z => by
                      have zz := hcan.mp z
                      first | exact c_11 zz.1 | exact c_11 zz.2.1 | exact zz.2.2.1 c_11 | exact zz.2.2.2 c_11
                    have hy := clN_no hno
                    refine gx_sub hB (lv' := [(0, .ref ug), (1, .ref uf), (2, .ref ud), (3, .ref uh), (4, .ref uv), (5, .ref uj), (6, .int (-1)), (7, .ref un), (8, .int sm), (9, .int (nI (i + 1)))]) [3, 4, 5, 6, 7, 8, 9, 10, 11, 0] rfl ?_
                    exact ih6 (i + 1) sm F1 J1 M1 (by omega) (by rw [hy]; exact hs) (by rw [hy]; exact hm) (by rw [hy]; exact hn)
                  · refine gx_aload_n (pc := 123) hB dL_claim_123 3 rfl ?_
                    refine gx_aload_n (pc := 124) hB dL_claim_124 5 rfl ?_
                    refine gx_iconst (pc := 125) hB dL_claim_125 2 (by decide) ?_
                    refine gx_iload (pc := 126) hB dL_claim_126 11 rfl ?_
                    refine gx_imul (pc := 128) hB dL_claim_128 ?_
                    refine gx_top (show 2 * nI i = nI (2 * i) from pk_mul 2 i) ?_
                    refine gx_iconst (pc := 129) hB dL_claim_129 1 (by decide) ?_
                    refine gx_iadd (pc := 130) hB dL_claim_130 ?_
                    refine gx_top (show (nI (2 * i)) + 1 = nI (2 * i + 1) from nI_add (2 * i) 1) ?_
                    refine gx_iald (pc := 131) hB dL_claim_131 3 1 rfl rfl (2 * i + 1) rfl (by omega) (by decide) ?_
                    refine gx_top (show H (2 * i + 1) = nI p from ehp) ?_
                    refine gx_dSi (pc := 132) (r := nI (sHome ((mClN S c (-1) i).2.2) p)) (wr := [(ug, .inl (K.2.1.2.1, 8, .inl G)), (ud, .inl (K.2.1.2.1, 56, .inl D)), (uh, .inl (K.2.1.2.1, 48, .inl H)), (uv, .inl (K.2.1.2.1, 48, .inl V)), (uj, .inl (K.2.1.2.1, 48, .inl J1)), (un, .inl (K.2.1.2.1, 1, .inl M1))]) hB (c_L_home l K uf F1 ((mClN S c (-1) i).2.2) a b c e p hx1.2.1 (fun q hq => hs.2.1 q hq 9 (by omega)) (by first | assumption | omega | decide)) mL_home dL_claim_132 tb_326 pL_home ⟨Nat.le_of_ble_eq_true rfl, Nat.le_of_ble_eq_true rfl⟩ ⟨rfl, rfl⟩ ⟨Nat.le_of_ble_eq_true rfl, Nat.le_of_ble_eq_true rfl⟩ rfl (Nat.le_of_ble_eq_true rfl) [1] [0, 2, 3, 4, 5, 6] rfl rfl (by decide) (by decide) (by decide) [0, 6, 1, 2, 3, 4, 5] (by decide) ([(ug, .inl (K.2.1.2.1, 8, .inl G)), (uf, .inl (K.2.1.2.1, 60, .inl F1)), (ud, .inl (K.2.1.2.1, 56, .inl D)), (uh, .inl (K.2.1.2.1, 48, .inl H)), (uv, .inl (K.2.1.2.1, 48, .inl V)), (uj, .inl (K.2.1.2.1, 48, .inl J1)), (un, .inl (K.2.1.2.1, 1, .inl M1))]) rfl ?_
                    obtain ⟨q, hq, eq⟩ : ∃ zz : Nat, zz < a ∧ sHome (mClN S c (-1) i).2.2 p = zz := ⟨_, sOk_home hx1.2.1 hp, rfl⟩
                    refine gx_top (show nI (sHome ((mClN S c (-1) i).2.2) p) = nI q by rw [eq]) ?_
                    refine gx_istore (pc := 135) hB dL_claim_135 (by decide) [(12, .int (nI q)), (11, .int 1), (10, .int (nI d)), (0, .ref ug), (1, .ref uf), (2, .ref ud), (3, .ref uh), (4, .ref uv), (5, .ref uj), (6, .int (-1)), (7, .ref un), (8, .int sm), (9, .int (nI i))] rfl ?_
                    refine gx_aload (pc := 137) hB dL_claim_137 8 rfl ?_
                    refine gx_iconst (pc := 139) hB dL_claim_139 2 (by decide) ?_
                    refine gx_iload (pc := 140) hB dL_claim_140 12 rfl ?_
                    refine gx_imul (pc := 142) hB dL_claim_142 ?_
                    refine gx_top (show 2 * nI i = nI (2 * i) from pk_mul 2 i) ?_
                    refine gx_iconst (pc := 143) hB dL_claim_143 1 (by decide) ?_
                    refine gx_iast (pc := 144) hB dL_claim_144 5 1 rfl rfl (2 * i) rfl (by omega) (by decide) ([(ug, .inl (K.2.1.2.1, 8, .inl G)), (uf, .inl (K.2.1.2.1, 60, .inl F1)), (ud, .inl (K.2.1.2.1, 56, .inl D)), (uh, .inl (K.2.1.2.1, 48, .inl H)), (uv, .inl (K.2.1.2.1, 48, .inl V)), (uj, .inl (K.2.1.2.1, 48, .inl (upd J1 (2 * i) 1))), (un, .inl (K.2.1.2.1, 1, .inl M1))]) rfl ?_
                    refine gx_aload_n (pc := 145) hB dL_claim_145 4 rfl ?_
                    refine gx_bipush (pc := 146) hB dL_claim_146 10 (by decide) ?_
                    refine gx_iload (pc := 148) hB dL_claim_148 0 rfl ?_
                    refine gx_imul (pc := 150) hB dL_claim_150 ?_
                    refine gx_top (show 10 * nI q = nI (10 * q) from pk_mul 10 q) ?_
                    refine gx_dup2 (pc := 151) hB dL_claim_151 rfl rfl ?_
                    refine gx_iald (pc := 152) hB dL_claim_152 1 1 rfl rfl (10 * q) rfl (by omega) (by decide) ?_
                    refine gx_aload (pc := 153) hB dL_claim_153 7 rfl ?_
                    refine gx_iconst (pc := 155) hB dL_claim_155 2 (by decide) ?_
                    refine gx_iload (pc := 156) hB dL_claim_156 12 rfl ?_
                    refine gx_imul (pc := 158) hB dL_claim_158 ?_
                    refine gx_top (show 2 * nI i = nI (2 * i) from pk_mul 2 i) ?_
                    refine gx_iald (pc := 159) hB dL_claim_159 4 1 rfl rfl (2 * i) rfl (by omega) (by decide) ?_
                    refine gx_iconst (pc := 160) hB dL_claim_160 4 (by decide) ?_
                    refine gx_idiv (pc := 161) hB dL_claim_161 (by decide) ?_
                    refine gx_iadd (pc := 162) hB dL_claim_162 ?_
                    refine gx_iast (pc := 163) hB dL_claim_163 1 1 rfl rfl (10 * q) rfl (by omega) (by decide) ([(ug, .inl (K.2.1.2.1, 8, .inl G)), (uf, .inl (K.2.1.2.1, 60, .inl (upd F1 (10 * q) ((F1 (10 * q)) + ((V (2 * i)) / 4))))), (ud, .inl (K.2.1.2.1, 56, .inl D)), (uh, .inl (K.2.1.2.1, 48, .inl H)), (uv, .inl (K.2.1.2.1, 48, .inl V)), (uj, .inl (K.2.1.2.1, 48, .inl (upd J1 (2 * i) 1))), (un, .inl (K.2.1.2.1, 1, .inl M1))]) rfl ?_
                    refine gx_aload_n (pc := 164) hB dL_claim_164 4 rfl ?_
                    refine gx_bipush (pc := 165) hB dL_claim_165 10 (by decide) ?_
                    refine gx_iload (pc := 167) hB dL_claim_167 0 rfl ?_
                    refine gx_imul (pc := 169) hB dL_claim_169 ?_
                    refine gx_top (show 10 * nI q = nI (10 * q) from pk_mul 10 q) ?_
                    refine gx_iconst (pc := 170) hB dL_claim_170 2 (by decide) ?_
                    refine gx_iadd (pc := 171) hB dL_claim_171 ?_
                    refine gx_top (show (nI (10 * q)) + 2 = nI (10 * q + 2) from nI_add (10 * q) 2) ?_
                    refine gx_dup2 (pc := 172) hB dL_claim_172 rfl rfl ?_
                    refine gx_iald (pc := 173) hB dL_claim_173 1 1 rfl rfl (10 * q + 2) rfl (by omega) (by decide) ?_
                    refine gx_aload (pc := 174) hB dL_claim_174 7 rfl ?_
                    refine gx_iconst (pc := 176) hB dL_claim_176 2 (by decide) ?_
                    refine gx_iload (pc := 177) hB dL_claim_177 12 rfl ?_
                    refine gx_imul (pc := 179) hB dL_claim_179 ?_
                    refine gx_top (show 2 * nI i = nI (2 * i) from pk_mul 2 i) ?_
                    refine gx_iald (pc := 180) hB dL_claim_180 4 1 rfl rfl (2 * i) rfl (by omega) (by decide) ?_
                    refine gx_iconst (pc := 181) hB dL_claim_181 4 (by decide) ?_
                    refine gx_idiv (pc := 182) hB dL_claim_182 (by decide) ?_
                    refine gx_iadd (pc := 183) hB dL_claim_183 ?_
                    refine gx_iast (pc := 184) hB dL_claim_184 1 1 rfl rfl (10 * q + 2) rfl (by omega) (by decide) ([(ug, .inl (K.2.1.2.1, 8, .inl G)), (uf, .inl (K.2.1.2.1, 60, .inl (upd (upd F1 (10 * q) ((F1 (10 * q)) + ((V (2 * i)) / 4))) (10 * q + 2) (((upd F1 (10 * q) ((F1 (10 * q)) + ((V (2 * i)) / 4))) (10 * q + 2)) + ((V (2 * i)) / 4))))), (ud, .inl (K.2.1.2.1, 56, .inl D)), (uh, .inl (K.2.1.2.1, 48, .inl H)), (uv, .inl (K.2.1.2.1, 48, .inl V)), (uj, .inl (K.2.1.2.1, 48, .inl (upd J1 (2 * i) 1))), (un, .inl (K.2.1.2.1, 1, .inl M1))]) rfl ?_
                    refine gx_iload (pc := 185) hB dL_claim_185 11 rfl ?_
                    refine gx_aload (pc := 187) hB dL_claim_187 7 rfl ?_
                    refine gx_iconst (pc := 189) hB dL_claim_189 2 (by decide) ?_
                    refine gx_iload (pc := 190) hB dL_claim_190 12 rfl ?_
                    refine gx_imul (pc := 192) hB dL_claim_192 ?_
                    refine gx_top (show 2 * nI i = nI (2 * i) from pk_mul 2 i) ?_
                    refine gx_iald (pc := 193) hB dL_claim_193 4 1 rfl rfl (2 * i) rfl (by omega) (by decide) ?_
                    refine gx_iconst (pc := 194) hB dL_claim_194 4 (by decide) ?_
                    refine gx_idiv (pc := 195) hB dL_claim_195 (by decide) ?_
                    refine gx_iadd (pc := 196) hB dL_claim_196 ?_
                    refine gx_istore (pc := 197) hB dL_claim_197 (by decide) [(8, .int (sm + ((V (2 * i)) / 4))), (12, .int (nI q)), (11, .int 1), (10, .int (nI d)), (0, .ref ug), (1, .ref uf), (2, .ref ud), (3, .ref uh), (4, .ref uv), (5, .ref uj), (6, .int (-1)), (7, .ref un), (9, .int (nI i))] rfl ?_
                    refine gx_aload (pc := 199) hB dL_claim_199 11 rfl ?_
                    refine gx_iconst (pc := 201) hB dL_claim_201 0 (by decide) ?_
                    refine gx_dup2 (pc := 202) hB dL_claim_202 rfl rfl ?_
                    refine gx_iald (pc := 203) hB dL_claim_203 6 1 rfl rfl 0 rfl (by decide) (by decide) ?_
                    refine gx_iconst (pc := 204) hB dL_claim_204 1 (by decide) ?_
                    refine gx_iadd (pc := 205) hB dL_claim_205 ?_
                    refine gx_iast (pc := 206) hB dL_claim_206 6 1 rfl rfl 0 rfl (by decide) (by decide) ([(ug, .inl (K.2.1.2.1, 8, .inl G)), (uf, .inl (K.2.1.2.1, 60, .inl (upd (upd F1 (10 * q) ((F1 (10 * q)) + ((V (2 * i)) / 4))) (10 * q + 2) (((upd F1 (10 * q) ((F1 (10 * q)) + ((V (2 * i)) / 4))) (10 * q + 2)) + ((V (2 * i)) / 4))))), (ud, .inl (K.2.1.2.1, 56, .inl D)), (uh, .inl (K.2.1.2.1, 48, .inl H)), (uv, .inl (K.2.1.2.1, 48, .inl V)), (uj, .inl (K.2.1.2.1, 48, .inl (upd J1 (2 * i) 1))), (un, .inl (K.2.1.2.1, 1, .inl (upd M1 0 (M1 0 + 1))))]) rfl ?_
                    refine gx_iinc (pc := 207) hB dL_claim_207 12 (by decide) rfl (nI (i + 1)) (nI_1 _) [(9, .int (nI (i + 1))), (8, .int (sm + ((V (2 * i)) / 4))), (12, .int (nI q)), (11, .int 1), (10, .int (nI d)), (0, .ref ug), (1, .ref uf), (2, .ref ud), (3, .ref uh), (4, .ref uv), (5, .ref uj), (6, .int (-1)), (7, .ref un)] rfl ?_
                    refine gx_goto (pc := 210) hB 6 dL_claim_210 (by decide) ?_
                    have hy := clN_yes (hcan.mpr ⟨c_4, c_6, c_8, c_11⟩)
                    have ok := hx1.2.2.2.2.2.1 i hi
                    have h5 : sG (mClN S c (-1) i).2.2 i 5 = 0 := ((hJ_of ok.2.1 ok.2.2.1).1.mp ((hs.2.2.2.1 i hi).2.1.symm.trans c_4)).2
                    have hv : sG (upd (mClN S c (-1) i).2.2 (129 + 7 * i + 4) 1) i 2 = V (2 * i) := (show sG (upd (mClN S c (-1) i).2.2 (129 + 7 * i + 4) 1) i 2 = sG (mClN S c (-1) i).2.2 i 2 from upd_ne (by omega)).trans (hs.2.2.2.1 i hi).1.2.2.1.symm
                    refine gx_sub hB (lv' := [(0, .ref ug), (1, .ref uf), (2, .ref ud), (3, .ref uh), (4, .ref uv), (5, .ref uj), (6, .int (-1)), (7, .ref un), (8, .int (sm + ((V (2 * i)) / 4))), (9, .int (nI (i + 1)))]) [5, 6, 7, 8, 9, 10, 11, 12, 1, 0] rfl ?_
                    exact ih6 (i + 1) (sm + ((V (2 * i)) / 4)) (upd (upd F1 (10 * q) ((F1 (10 * q)) + ((V (2 * i)) / 4))) (10 * q + 2) (((upd F1 (10 * q) ((F1 (10 * q)) + ((V (2 * i)) / 4))) (10 * q + 2)) + ((V (2 * i)) / 4))) (upd J1 (2 * i) 1) (upd M1 0 (M1 0 + 1)) (by omega) (by rw [hy]; exact HS_cl1 hx1 hs hi ep hp eq hq h5) (by rw [hy, hm]; dsimp only; rw [hv]) (by rw [hy, pk_us, hn])
        · exact absurd c_3 (by decide)
  refine gx_sub hB (lv' := [(0, .ref ug), (1, .ref uf), (2, .ref ud), (3, .ref uh), (4, .ref uv), (5, .ref uj), (6, .int (-1)), (7, .ref un), (8, .int 0), (9, .int 0)]) [2, 3, 4, 5, 6, 7, 8, 9, 1, 0] rfl ?_
  exact loop_6 (c) 0 0 F J M (by omega) h1 rfl h4
theorem pL_month : (parseMethodDescriptor yL_month.desc).map (fun d => d.parameters.length) = some 6 := by decide +kernel
theorem mL_month : gx_MS yL_month cL_month 12 (some .int) := ⟨tb_488, tb_26, tb_489, by decide, by decide⟩
set_option maxHeartbeats 4000000 in
set_option maxRecDepth 100000 in
theorem c_L_month (l : Launch) (K : gx_K) (ug uf uh uv uj uq : Nat) (C G F D H V J Q S : Nat → Int32) (a b c e : Nat) (h0 : Rx C S a b c e 1999) (h1 : HS G F D H V J Q S a b c e) : gx_Ctr l K yL_month cL_month 12 (some .int) (rmm 2 29) [.ref ug, .ref uf, .ref uh, .ref uv, .ref uj, .ref uq] ([(ug, .inl (K.2.1.2.1, 8, .inl G)), (uf, .inl (K.2.1.2.1, 60, .inl F)), (uh, .inl (K.2.1.2.1, 48, .inl H)), (uv, .inl (K.2.1.2.1, 48, .inl V)), (uj, .inl (K.2.1.2.1, 48, .inl J)), (uq, .inl (K.2.1.2.1, 48, .inl Q))]) (fun v w => ∃ G1 F1 H1 V1 J1 Q1 : Nat → Int32, v = some (.int (mGoK (upd S 6 (S 6 + 1)) c e).1) ∧ w = [(ug, .inl (K.2.1.2.1, 8, .inl G1)), (uf, .inl (K.2.1.2.1, 60, .inl F1)), (uh, .inl (K.2.1.2.1, 48, .inl H1)), (uv, .inl (K.2.1.2.1, 48, .inl V1)), (uj, .inl (K.2.1.2.1, 48, .inl J1)), (uq, .inl (K.2.1.2.1, 48, .inl Q1))] ∧ HS G1 F1 D H1 V1 J1 Q1 (mGoK (upd S 6 (S 6 + 1)) c e).2.2 a b (mGoK (upd S 6 (S 6 + 1)) c e).2.1 e) := by
  refine gx_of (by decide) (Nat.le_of_ble_eq_true rfl) (fun GG hC => ?_)
  have hB := hC.b
  refine gx_lv (lv' := [(0, .ref ug), (1, .ref uf), (2, .ref uh), (3, .ref uv), (4, .ref uj), (5, .ref uq)]) rfl ?_
  have hb := Rx_b h0
  refine gx_iconst (pc := 0) hB dL_month_0 0 (by decide) ?_
  refine gx_istore (pc := 1) hB dL_month_1 (by decide) [(6, .int 0), (0, .ref ug), (1, .ref uf), (2, .ref uh), (3, .ref uv), (4, .ref uj), (5, .ref uq)] rfl ?_
  refine gx_aload_n (pc := 3) hB dL_month_3 1 rfl ?_
  refine gx_bipush (pc := 4) hB dL_month_4 6 (by decide) ?_
  refine gx_dup2 (pc := 6) hB dL_month_6 rfl rfl ?_
  refine gx_iald (pc := 7) hB dL_month_7 0 1 rfl rfl 6 rfl (by decide) (by decide) ?_
  refine gx_iconst (pc := 8) hB dL_month_8 1 (by decide) ?_
  refine gx_iadd (pc := 9) hB dL_month_9 ?_
  refine gx_iast (pc := 10) hB dL_month_10 0 1 rfl rfl 6 rfl (by decide) (by decide) ([(ug, .inl (K.2.1.2.1, 8, .inl (upd G 6 (G 6 + 1)))), (uf, .inl (K.2.1.2.1, 60, .inl F)), (uh, .inl (K.2.1.2.1, 48, .inl H)), (uv, .inl (K.2.1.2.1, 48, .inl V)), (uj, .inl (K.2.1.2.1, 48, .inl J)), (uq, .inl (K.2.1.2.1, 48, .inl Q))]) rfl ?_
  refine gx_iconst (pc := 11) hB dL_month_11 0 (by decide) ?_
  refine gx_istore (pc := 12) hB dL_month_12 (by decide) [(7, .int 0), (6, .int 0), (0, .ref ug), (1, .ref uf), (2, .ref uh), (3, .ref uv), (4, .ref uj), (5, .ref uq)] rfl ?_
  have loop_14 : ∀ (dq i : Nat) (mn : Int32) (G1 : Nat → Int32) (F1 : Nat → Int32) (H1 : Nat → Int32) (V1 : Nat → Int32) (J1 : Nat → Int32) (Q1 : Nat → Int32), i + dq = e → (HS G1 F1 D H1 V1 J1 Q1 (mGoK (upd S 6 (S 6 + 1)) c i).2.2 a b (mGoK (upd S 6 (S 6 + 1)) c i).2.1 e) → (mn = (mGoK (upd S 6 (S 6 + 1)) c i).1) → GG 0 0 ([(ug, .inl (K.2.1.2.1, 8, .inl G1)), (uf, .inl (K.2.1.2.1, 60, .inl F1)), (uh, .inl (K.2.1.2.1, 48, .inl H1)), (uv, .inl (K.2.1.2.1, 48, .inl V1)), (uj, .inl (K.2.1.2.1, 48, .inl J1)), (uq, .inl (K.2.1.2.1, 48, .inl Q1))]) [(0, .ref ug), (1, .ref uf), (2, .ref uh), (3, .ref uv), (4, .ref uj), (5, .ref uq), (6, .int mn), (7, .int (nI i))] 14 [] := by
    intro dq
    induction dq with
    | zero =>
      intro i mn G1 F1 H1 V1 J1 Q1 hi14 hs hm
      have hz14 : i = e := by omega
      refine gx_iload (pc := 14) hB dL_month_14 7 rfl ?_
      refine gx_aload_n (pc := 16) hB dL_month_16 0 rfl ?_
      refine gx_iconst (pc := 17) hB dL_month_17 5 (by decide) ?_
      refine gx_iald (pc := 18) hB dL_month_18 0 1 rfl rfl 5 rfl (by decide) (by decide) ?_
      refine gx_top (show G1 5 = nI e from hs.1.2.2.2.2.2.1) ?_
      refine gx_icmp_ge (pc := 19) hB 252 dL_month_19 (by decide) (fun c_1 => ?_) (fun c_1 => ?_)
      · subst hz14
        refine gx_iload (pc := 252) hB dL_month_252 6 rfl ?_
        exact gx_iret (pc := 254) hC dL_month_254 (Nat.zero_le _) (Nat.zero_le _) ⟨G1, F1, H1, V1, J1, Q1, by rw [hm], rfl, hs⟩
      · exact absurd (lpTn (c := e) (by omega) hi14) c_1
    | succ dq ih14 =>
      intro i mn G1 F1 H1 V1 J1 Q1 hi14 hs hm
      have hi : i < e := by omega
      have hx1 := (Rx_goK (Rx_time h0 (by omega)) i (by omega)).1
      obtain ⟨c1, hc1⟩ : ∃ c1 : Nat, (mGoK (upd S 6 (S 6 + 1)) c i).2.1 = c1 := ⟨_, rfl⟩
      obtain ⟨U, hU⟩ : ∃ U : Nat → Int32, (mGoK (upd S 6 (S 6 + 1)) c i).2.2 = U := ⟨_, rfl⟩
      rw [hc1, hU] at hs hx1
      have hb1 := Rx_b hx1
      have hb3 : a ≤ 6 ∧ b ≤ 8 ∧ c1 ≤ 24 := by omega
      have ok := hx1.2.2.2.2.2.2.1 i hi
      obtain ⟨p, hp, ep⟩ := (hx1.2.1.2.2.1 i hi).2
      refine gx_iload (pc := 14) hB dL_month_14 7 rfl ?_
      refine gx_aload_n (pc := 16) hB dL_month_16 0 rfl ?_
      refine gx_iconst (pc := 17) hB dL_month_17 5 (by decide) ?_
      refine gx_iald (pc := 18) hB dL_month_18 0 1 rfl rfl 5 rfl (by decide) (by decide) ?_
      refine gx_top (show G1 5 = nI e from hs.1.2.2.2.2.2.1) ?_
      refine gx_icmp_ge (pc := 19) hB 252 dL_month_19 (by decide) (fun c_2 => ?_) (fun c_2 => ?_)
      · exact absurd c_2 (lpFn (c := e) (by omega) hi14)
      · refine gx_bipush (pc := 22) hB dL_month_22 8 (by decide) ?_
        refine gx_iload (pc := 24) hB dL_month_24 7 rfl ?_
        refine gx_imul (pc := 26) hB dL_month_26 ?_
        refine gx_top (show 8 * nI i = nI (8 * i) from pk_mul 8 i) ?_
        refine gx_istore (pc := 27) hB dL_month_27 (by decide) [(8, .int (nI (8 * i))), (0, .ref ug), (1, .ref uf), (2, .ref uh), (3, .ref uv), (4, .ref uj), (5, .ref uq), (6, .int mn), (7, .int (nI i))] rfl ?_
        refine gx_aload (pc := 29) hB dL_month_29 6 rfl ?_
        refine gx_iload (pc := 31) hB dL_month_31 0 rfl ?_
        refine gx_iconst (pc := 33) hB dL_month_33 5 (by decide) ?_
        refine gx_iadd (pc := 34) hB dL_month_34 ?_
        refine gx_top (show (nI (8 * i)) + 5 = nI (8 * i + 5) from nI_add (8 * i) 5) ?_
        refine gx_iald (pc := 35) hB dL_month_35 5 1 rfl rfl (8 * i + 5) rfl (by omega) (by decide) ?_
        refine gx_if_ne (pc := 36) hB 246 dL_month_36 (by decide) (fun c_3 => ?_) (fun c_3 => ?_)
        · refine gx_iinc (pc := 246) hB dL_month_246 8 (by decide) rfl (nI (i + 1)) (nI_1 _) [(7, .int (nI (i + 1))), (8, .int (nI (8 * i))), (0, .ref ug), (1, .ref uf), (2, .ref uh), (3, .ref uv), (4, .ref uj), (5, .ref uq), (6, .int mn)] rfl ?_
          refine gx_goto (pc := 249) hB 14 dL_month_249 (by decide) ?_
          have hy : mGoK (upd S 6 (S 6 + 1)) c (i + 1) = mGoK (upd S 6 (S 6 + 1)) c i := goK_no (by rw [hU]; exact fun z => c_3 ((hs.2.2.2.2 i hi 5 (by omega)).trans z))
          refine gx_sub hB (lv' := [(0, .ref ug), (1, .ref uf), (2, .ref uh), (3, .ref uv), (4, .ref uj), (5, .ref uq), (6, .int mn), (7, .int (nI (i + 1)))]) [2, 3, 4, 5, 6, 7, 8, 0] rfl ?_
          exact ih14 (i + 1) mn G1 F1 H1 V1 J1 Q1 (by omega) (by rw [hy, hU, hc1]; exact hs) (by rw [hy]; exact hm)
        · refine gx_aload (pc := 39) hB dL_month_39 6 rfl ?_
          refine gx_iload (pc := 41) hB dL_month_41 0 rfl ?_
          refine gx_bipush (pc := 43) hB dL_month_43 7 (by decide) ?_
          refine gx_iadd (pc := 45) hB dL_month_45 ?_
          refine gx_top (show (nI (8 * i)) + 7 = nI (8 * i + 7) from nI_add (8 * i) 7) ?_
          refine gx_iald (pc := 46) hB dL_month_46 5 1 rfl rfl (8 * i + 7) rfl (by omega) (by decide) ?_
          refine gx_iconst (pc := 47) hB dL_month_47 1 (by decide) ?_
          refine gx_icmp_ne (pc := 48) hB 55 dL_month_48 (by decide) (fun c_4 => ?_) (fun c_4 => ?_)
          · refine gx_iconst (pc := 55) hB dL_month_55 0 (by decide) ?_
            refine gx_istore (pc := 56) hB dL_month_56 (by decide) [(9, .int 0), (8, .int (nI (8 * i))), (0, .ref ug), (1, .ref uf), (2, .ref uh), (3, .ref uv), (4, .ref uj), (5, .ref uq), (6, .int mn), (7, .int (nI i))] rfl ?_
            refine gx_iload (pc := 58) hB dL_month_58 0 rfl ?_
            refine gx_if_ne (pc := 60) hB 75 dL_month_60 (by decide) (fun c_5 => ?_) (fun c_5 => ?_)
            · exact absurd c_5 (by decide)
            · refine gx_aload_n (pc := 63) hB dL_month_63 2 rfl ?_
              refine gx_iconst (pc := 64) hB dL_month_64 4 (by decide) ?_
              refine gx_iald (pc := 65) hB dL_month_65 0 1 rfl rfl 4 rfl (by decide) (by decide) ?_
              refine gx_top (show G1 4 = nI c1 from hs.1.2.2.2.2.1) ?_
              refine gx_bipush (pc := 66) hB dL_month_66 24 (by decide) ?_
              refine gx_icmp_ne (pc := 68) hB 75 dL_month_68 (by decide) (fun c_6 => ?_) (fun c_6 => ?_)
              · refine gx_iconst (pc := 75) hB dL_month_75 0 (by decide) ?_
                refine gx_istore (pc := 76) hB dL_month_76 (by decide) [(10, .int 0), (9, .int 0), (8, .int (nI (8 * i))), (0, .ref ug), (1, .ref uf), (2, .ref uh), (3, .ref uv), (4, .ref uj), (5, .ref uq), (6, .int mn), (7, .int (nI i))] rfl ?_
                refine gx_aload (pc := 78) hB dL_month_78 8 rfl ?_
                refine gx_iload (pc := 80) hB dL_month_80 2 rfl ?_
                refine gx_bipush (pc := 82) hB dL_month_82 7 (by decide) ?_
                refine gx_iadd (pc := 84) hB dL_month_84 ?_
                refine gx_top (show (nI (8 * i)) + 7 = nI (8 * i + 7) from nI_add (8 * i) 7) ?_
                refine gx_iconst (pc := 85) hB dL_month_85 0 (by decide) ?_
                refine gx_iast (pc := 86) hB dL_month_86 5 1 rfl rfl (8 * i + 7) rfl (by omega) (by decide) ([(ug, .inl (K.2.1.2.1, 8, .inl G1)), (uf, .inl (K.2.1.2.1, 60, .inl F1)), (uh, .inl (K.2.1.2.1, 48, .inl H1)), (uv, .inl (K.2.1.2.1, 48, .inl V1)), (uj, .inl (K.2.1.2.1, 48, .inl J1)), (uq, .inl (K.2.1.2.1, 48, .inl (upd Q1 (8 * i + 7) 0)))]) rfl ?_
                refine gx_aload (pc := 87) hB dL_month_87 8 rfl ?_
                refine gx_iload (pc := 89) hB dL_month_89 2 rfl ?_
                refine gx_iconst (pc := 91) hB dL_month_91 4 (by decide) ?_
                refine gx_iadd (pc := 92) hB dL_month_92 ?_
                refine gx_top (show (nI (8 * i)) + 4 = nI (8 * i + 4) from nI_add (8 * i) 4) ?_
                refine gx_dup2 (pc := 93) hB dL_month_93 rfl rfl ?_
                refine gx_iald (pc := 94) hB dL_month_94 5 1 rfl rfl (8 * i + 4) rfl (by omega) (by decide) ?_
                refine gx_iload (pc := 95) hB dL_month_95 1 rfl ?_
                refine gx_if_eq (pc := 97) hB 104 dL_month_97 (by decide) (fun c_7 => ?_) (fun c_7 => ?_)
                · refine gx_iconst (pc := 104) hB dL_month_104 0 (by decide) ?_
                  refine gx_iadd (pc := 105) hB dL_month_105 ?_
                  refine gx_top (show ((upd Q1 (8 * i + 7) 0) (8 * i + 4)) + 0 = ((upd Q1 (8 * i + 7) 0) (8 * i + 4)) from Int32.add_zero _) ?_
                  refine gx_iast (pc := 106) hB dL_month_106 5 1 rfl rfl (8 * i + 4) rfl (by omega) (by decide) ([(ug, .inl (K.2.1.2.1, 8, .inl G1)), (uf, .inl (K.2.1.2.1, 60, .inl F1)), (uh, .inl (K.2.1.2.1, 48, .inl H1)), (uv, .inl (K.2.1.2.1, 48, .inl V1)), (uj, .inl (K.2.1.2.1, 48, .inl J1)), (uq, .inl (K.2.1.2.1, 48, .inl (upd (upd Q1 (8 * i + 7) 0) (8 * i + 4) ((upd Q1 (8 * i + 7) 0) (8 * i + 4)))))]) rfl ?_
                  refine gx_aload (pc := 107) hB dL_month_107 8 rfl ?_
                  refine gx_iload (pc := 109) hB dL_month_109 2 rfl ?_
                  refine gx_iconst (pc := 111) hB dL_month_111 3 (by decide) ?_
                  refine gx_iadd (pc := 112) hB dL_month_112 ?_
                  refine gx_top (show (nI (8 * i)) + 3 = nI (8 * i + 3) from nI_add (8 * i) 3) ?_
                  refine gx_dup2 (pc := 113) hB dL_month_113 rfl rfl ?_
                  refine gx_iald (pc := 114) hB dL_month_114 5 1 rfl rfl (8 * i + 3) rfl (by omega) (by decide) ?_
                  refine gx_iconst (pc := 115) hB dL_month_115 1 (by decide) ?_
                  refine gx_isub (pc := 116) hB dL_month_116 ?_
                  refine gx_iast (pc := 117) hB dL_month_117 5 1 rfl rfl (8 * i + 3) rfl (by omega) (by decide) ([(ug, .inl (K.2.1.2.1, 8, .inl G1)), (uf, .inl (K.2.1.2.1, 60, .inl F1)), (uh, .inl (K.2.1.2.1, 48, .inl H1)), (uv, .inl (K.2.1.2.1, 48, .inl V1)), (uj, .inl (K.2.1.2.1, 48, .inl J1)), (uq, .inl (K.2.1.2.1, 48, .inl (upd (upd (upd Q1 (8 * i + 7) 0) (8 * i + 4) ((upd Q1 (8 * i + 7) 0) (8 * i + 4))) (8 * i + 3) (((upd (upd Q1 (8 * i + 7) 0) (8 * i + 4) ((upd Q1 (8 * i + 7) 0) (8 * i + 4))) (8 * i + 3)) - 1))))]) rfl ?_
                  refine gx_iload (pc := 118) hB dL_month_118 1 rfl ?_
                  refine gx_if_ne (pc := 120) hB 193 dL_month_120 (by decide) (fun c_8 => ?_) (fun c_8 => ?_)
                  · exact absurd c_8 (by decide)
                  · refine gx_iload (pc := 123) hB dL_month_123 0 rfl ?_
                    refine gx_if_ne (pc := 125) hB 193 dL_month_125 (by decide) (fun c_9 => ?_) (fun c_9 => ?_)
                    · exact absurd c_9 (by decide)
                    · refine gx_aload (pc := 128) hB dL_month_128 8 rfl ?_
                      refine gx_iload (pc := 130) hB dL_month_130 2 rfl ?_
                      refine gx_bipush (pc := 132) hB dL_month_132 6 (by decide) ?_
                      refine gx_iadd (pc := 134) hB dL_month_134 ?_
                      refine gx_top (show (nI (8 * i)) + 6 = nI (8 * i + 6) from nI_add (8 * i) 6) ?_
                      refine gx_dup2 (pc := 135) hB dL_month_135 rfl rfl ?_
                      refine gx_iald (pc := 136) hB dL_month_136 5 1 rfl rfl (8 * i + 6) rfl (by omega) (by decide) ?_
                      refine gx_iconst (pc := 137) hB dL_month_137 1 (by decide) ?_
                      refine gx_iadd (pc := 138) hB dL_month_138 ?_
                      refine gx_iast (pc := 139) hB dL_month_139 5 1 rfl rfl (8 * i + 6) rfl (by omega) (by decide) ([(ug, .inl (K.2.1.2.1, 8, .inl G1)), (uf, .inl (K.2.1.2.1, 60, .inl F1)), (uh, .inl (K.2.1.2.1, 48, .inl H1)), (uv, .inl (K.2.1.2.1, 48, .inl V1)), (uj, .inl (K.2.1.2.1, 48, .inl J1)), (uq, .inl (K.2.1.2.1, 48, .inl (upd (upd (upd (upd Q1 (8 * i + 7) 0) (8 * i + 4) ((upd Q1 (8 * i + 7) 0) (8 * i + 4))) (8 * i + 3) (((upd (upd Q1 (8 * i + 7) 0) (8 * i + 4) ((upd Q1 (8 * i + 7) 0) (8 * i + 4))) (8 * i + 3)) - 1)) (8 * i + 6) (((upd (upd (upd Q1 (8 * i + 7) 0) (8 * i + 4) ((upd Q1 (8 * i + 7) 0) (8 * i + 4))) (8 * i + 3) (((upd (upd Q1 (8 * i + 7) 0) (8 * i + 4) ((upd Q1 (8 * i + 7) 0) (8 * i + 4))) (8 * i + 3)) - 1)) (8 * i + 6)) + 1))))]) rfl ?_
                      refine gx_iinc (pc := 140) hB dL_month_140 9 (by decide) rfl (mn + 1) rfl [(6, .int (mn + 1)), (10, .int 0), (9, .int 0), (8, .int (nI (8 * i))), (0, .ref ug), (1, .ref uf), (2, .ref uh), (3, .ref uv), (4, .ref uj), (5, .ref uq), (7, .int (nI i))] rfl ?_
                      refine gx_aload_n (pc := 143) hB dL_month_143 4 rfl ?_
                      refine gx_aload_n (pc := 144) hB dL_month_144 5 rfl ?_
                      refine gx_aload_n (pc := 145) hB dL_month_145 6 rfl ?_
                      refine gx_aload_n (pc := 146) hB dL_month_146 7 rfl ?_
                      refine gx_aload (pc := 147) hB dL_month_147 8 rfl ?_
                      refine gx_aload (pc := 149) hB dL_month_149 9 rfl ?_
                      refine gx_iload (pc := 151) hB dL_month_151 3 rfl ?_
                      refine gx_iald (pc := 153) hB dL_month_153 5 1 rfl rfl (8 * i) rfl (by omega) (by decide) ?_
                      refine gx_top (show (upd (upd (upd (upd Q1 (8 * i + 7) 0) (8 * i + 4) ((upd Q1 (8 * i + 7) 0) (8 * i + 4))) (8 * i + 3) (((upd (upd Q1 (8 * i + 7) 0) (8 * i + 4) ((upd Q1 (8 * i + 7) 0) (8 * i + 4))) (8 * i + 3)) - 1)) (8 * i + 6) (((upd (upd (upd Q1 (8 * i + 7) 0) (8 * i + 4) ((upd Q1 (8 * i + 7) 0) (8 * i + 4))) (8 * i + 3) (((upd (upd Q1 (8 * i + 7) 0) (8 * i + 4) ((upd Q1 (8 * i + 7) 0) (8 * i + 4))) (8 * i + 3)) - 1)) (8 * i + 6)) + 1)) (8 * i) = sK U i 0 from (by rw [upd_ne (by omega), upd_ne (by omega), upd_ne (by omega), upd_ne (by omega)]; exact hs.2.2.2.2 i hi 0 (by omega))) ?_
                      refine gx_aload (pc := 154) hB dL_month_154 9 rfl ?_
                      refine gx_iload (pc := 156) hB dL_month_156 3 rfl ?_
                      refine gx_iconst (pc := 158) hB dL_month_158 1 (by decide) ?_
                      refine gx_iadd (pc := 159) hB dL_month_159 ?_
                      refine gx_top (show (nI (8 * i)) + 1 = nI (8 * i + 1) from nI_add (8 * i) 1) ?_
                      refine gx_iald (pc := 160) hB dL_month_160 5 1 rfl rfl (8 * i + 1) rfl (by omega) (by decide) ?_
                      refine gx_top (show (upd (upd (upd (upd Q1 (8 * i + 7) 0) (8 * i + 4) ((upd Q1 (8 * i + 7) 0) (8 * i + 4))) (8 * i + 3) (((upd (upd Q1 (8 * i + 7) 0) (8 * i + 4) ((upd Q1 (8 * i + 7) 0) (8 * i + 4))) (8 * i + 3)) - 1)) (8 * i + 6) (((upd (upd (upd Q1 (8 * i + 7) 0) (8 * i + 4) ((upd Q1 (8 * i + 7) 0) (8 * i + 4))) (8 * i + 3) (((upd (upd Q1 (8 * i + 7) 0) (8 * i + 4) ((upd Q1 (8 * i + 7) 0) (8 * i + 4))) (8 * i + 3)) - 1)) (8 * i + 6)) + 1)) (8 * i + 1) = nI p from (by rw [upd_ne (by omega), upd_ne (by omega), upd_ne (by omega), upd_ne (by omega)]; exact (hs.2.2.2.2 i hi 1 (by omega)).trans ep)) ?_
                      refine gx_aload (pc := 161) hB dL_month_161 9 rfl ?_
                      refine gx_iload (pc := 163) hB dL_month_163 3 rfl ?_
                      refine gx_iconst (pc := 165) hB dL_month_165 2 (by decide) ?_
                      refine gx_iadd (pc := 166) hB dL_month_166 ?_
                      refine gx_top (show (nI (8 * i)) + 2 = nI (8 * i + 2) from nI_add (8 * i) 2) ?_
                      refine gx_iald (pc := 167) hB dL_month_167 5 1 rfl rfl (8 * i + 2) rfl (by omega) (by decide) ?_
                      refine gx_top (show (upd (upd (upd (upd Q1 (8 * i + 7) 0) (8 * i + 4) ((upd Q1 (8 * i + 7) 0) (8 * i + 4))) (8 * i + 3) (((upd (upd Q1 (8 * i + 7) 0) (8 * i + 4) ((upd Q1 (8 * i + 7) 0) (8 * i + 4))) (8 * i + 3)) - 1)) (8 * i + 6) (((upd (upd (upd Q1 (8 * i + 7) 0) (8 * i + 4) ((upd Q1 (8 * i + 7) 0) (8 * i + 4))) (8 * i + 3) (((upd (upd Q1 (8 * i + 7) 0) (8 * i + 4) ((upd Q1 (8 * i + 7) 0) (8 * i + 4))) (8 * i + 3)) - 1)) (8 * i + 6)) + 1)) (8 * i + 2) = sK U i 2 from (by rw [upd_ne (by omega), upd_ne (by omega), upd_ne (by omega), upd_ne (by omega)]; exact hs.2.2.2.2 i hi 2 (by omega))) ?_
                      refine gx_iload (pc := 168) hB dL_month_168 10 rfl ?_
                      refine gx_dSi (pc := 170) (r := nI c1) (wr := [(uq, .inl (K.2.1.2.1, 48, .inl (upd (upd (upd (upd Q1 (8 * i + 7) 0) (8 * i + 4) ((upd Q1 (8 * i + 7) 0) (8 * i + 4))) (8 * i + 3) (((upd (upd Q1 (8 * i + 7) 0) (8 * i + 4) ((upd Q1 (8 * i + 7) 0) (8 * i + 4))) (8 * i + 3)) - 1)) (8 * i + 6) (((upd (upd (upd Q1 (8 * i + 7) 0) (8 * i + 4) ((upd Q1 (8 * i + 7) 0) (8 * i + 4))) (8 * i + 3) (((upd (upd Q1 (8 * i + 7) 0) (8 * i + 4) ((upd Q1 (8 * i + 7) 0) (8 * i + 4))) (8 * i + 3)) - 1)) (8 * i + 6)) + 1))))]) hB (c_L_gift l K ug uf uh uv uj G1 F1 H1 V1 J1 c1 p (sK U i 0) (sK U i 2) (nI i) hs.1.2.2.2.2.1 (nI_ne (n := 24) c_6 (by omega)) (by first | assumption | omega | decide)) mL_gift dL_month_170 tb_282 pL_gift ⟨Nat.le_of_ble_eq_true rfl, Nat.le_of_ble_eq_true rfl⟩ ⟨rfl, rfl⟩ ⟨Nat.le_of_ble_eq_true rfl, Nat.le_of_ble_eq_true rfl⟩ rfl (Nat.le_of_ble_eq_true rfl) [0, 1, 2, 3, 4] [5] rfl rfl (by decide) (by decide) (by decide) [1, 2, 3, 4, 5, 0] (by decide) ([(ug, .inl (K.2.1.2.1, 8, .inl (upd G1 4 (nI (c1 + 1))))), (uf, .inl (K.2.1.2.1, 60, .inl (upd (upd F1 (10 * p) ((F1 (10 * p)) + (sK U i 2))) (10 * p + 1) (((upd F1 (10 * p) ((F1 (10 * p)) + (sK U i 2))) (10 * p + 1)) + (sK U i 2))))), (uh, .inl (K.2.1.2.1, 48, .inl (upd (upd H1 (2 * c1) (sK U i 0)) (2 * c1 + 1) (nI p)))), (uv, .inl (K.2.1.2.1, 48, .inl (upd (upd V1 (2 * c1) (sK U i 2)) (2 * c1 + 1) (G1 6)))), (uj, .inl (K.2.1.2.1, 48, .inl (upd (upd J1 (2 * c1) 0) (2 * c1 + 1) (nI i)))), (uq, .inl (K.2.1.2.1, 48, .inl (upd (upd (upd (upd Q1 (8 * i + 7) 0) (8 * i + 4) ((upd Q1 (8 * i + 7) 0) (8 * i + 4))) (8 * i + 3) (((upd (upd Q1 (8 * i + 7) 0) (8 * i + 4) ((upd Q1 (8 * i + 7) 0) (8 * i + 4))) (8 * i + 3)) - 1)) (8 * i + 6) (((upd (upd (upd Q1 (8 * i + 7) 0) (8 * i + 4) ((upd Q1 (8 * i + 7) 0) (8 * i + 4))) (8 * i + 3) (((upd (upd Q1 (8 * i + 7) 0) (8 * i + 4) ((upd Q1 (8 * i + 7) 0) (8 * i + 4))) (8 * i + 3)) - 1)) (8 * i + 6)) + 1))))]) rfl ?_
                      refine gx_istore (pc := 173) hB dL_month_173 (by decide) [(11, .int (nI c1)), (6, .int (mn + 1)), (10, .int 0), (9, .int 0), (8, .int (nI (8 * i))), (0, .ref ug), (1, .ref uf), (2, .ref uh), (3, .ref uv), (4, .ref uj), (5, .ref uq), (7, .int (nI i))] rfl ?_
                      refine gx_aload (pc := 175) hB dL_month_175 10 rfl ?_
                      refine gx_iload (pc := 177) hB dL_month_177 4 rfl ?_
                      refine gx_iconst (pc := 179) hB dL_month_179 5 (by decide) ?_
                      refine gx_iadd (pc := 180) hB dL_month_180 ?_
                      refine gx_top (show (nI (8 * i)) + 5 = nI (8 * i + 5) from nI_add (8 * i) 5) ?_
                      refine gx_iload (pc := 181) hB dL_month_181 0 rfl ?_
                      refine gx_if_ge (pc := 183) hB 191 dL_month_183 (by decide) (fun c_10 => ?_) (fun c_10 => ?_)
                      · refine gx_iconst (pc := 191) hB dL_month_191 0 (by decide) ?_
                        refine gx_iast (pc := 192) hB dL_month_192 5 1 rfl rfl (8 * i + 5) rfl (by omega) (by decide) ([(ug, .inl (K.2.1.2.1, 8, .inl (upd G1 4 (nI (c1 + 1))))), (uf, .inl (K.2.1.2.1, 60, .inl (upd (upd F1 (10 * p) ((F1 (10 * p)) + (sK U i 2))) (10 * p + 1) (((upd F1 (10 * p) ((F1 (10 * p)) + (sK U i 2))) (10 * p + 1)) + (sK U i 2))))), (uh, .inl (K.2.1.2.1, 48, .inl (upd (upd H1 (2 * c1) (sK U i 0)) (2 * c1 + 1) (nI p)))), (uv, .inl (K.2.1.2.1, 48, .inl (upd (upd V1 (2 * c1) (sK U i 2)) (2 * c1 + 1) (G1 6)))), (uj, .inl (K.2.1.2.1, 48, .inl (upd (upd J1 (2 * c1) 0) (2 * c1 + 1) (nI i)))), (uq, .inl (K.2.1.2.1, 48, .inl (upd (upd (upd (upd (upd Q1 (8 * i + 7) 0) (8 * i + 4) ((upd Q1 (8 * i + 7) 0) (8 * i + 4))) (8 * i + 3) (((upd (upd Q1 (8 * i + 7) 0) (8 * i + 4) ((upd Q1 (8 * i + 7) 0) (8 * i + 4))) (8 * i + 3)) - 1)) (8 * i + 6) (((upd (upd (upd Q1 (8 * i + 7) 0) (8 * i + 4) ((upd Q1 (8 * i + 7) 0) (8 * i + 4))) (8 * i + 3) (((upd (upd Q1 (8 * i + 7) 0) (8 * i + 4) ((upd Q1 (8 * i + 7) 0) (8 * i + 4))) (8 * i + 3)) - 1)) (8 * i + 6)) + 1)) (8 * i + 5) 0)))]) rfl ?_
                        refine gx_aload (pc := 193) hB dL_month_193 10 rfl ?_
                        refine gx_iload (pc := 195) hB dL_month_195 4 rfl ?_
                        refine gx_iconst (pc := 197) hB dL_month_197 5 (by decide) ?_
                        refine gx_iadd (pc := 198) hB dL_month_198 ?_
                        refine gx_top (show (nI (8 * i)) + 5 = nI (8 * i + 5) from nI_add (8 * i) 5) ?_
                        refine gx_iload (pc := 199) hB dL_month_199 2 rfl ?_
                        refine gx_if_ne (pc := 201) hB 220 dL_month_201 (by decide) (fun c_11 => ?_) (fun c_11 => ?_)
                        · exact absurd c_11 (by decide)
                        · refine gx_iload (pc := 204) hB dL_month_204 3 rfl ?_
                          refine gx_if_eq (pc := 206) hB 224 dL_month_206 (by decide) (fun c_12 => ?_) (fun c_12 => ?_)
                          · refine gx_aload (pc := 224) hB dL_month_224 10 rfl ?_
                            refine gx_iload (pc := 226) hB dL_month_226 4 rfl ?_
                            refine gx_iconst (pc := 228) hB dL_month_228 3 (by decide) ?_
                            refine gx_iadd (pc := 229) hB dL_month_229 ?_
                            refine gx_top (show (nI (8 * i)) + 3 = nI (8 * i + 3) from nI_add (8 * i) 3) ?_
                            refine gx_iald (pc := 230) hB dL_month_230 5 1 rfl rfl (8 * i + 3) rfl (by omega) (by decide) ?_
                            refine gx_if_ne (pc := 231) hB 238 dL_month_231 (by decide) (fun c_13 => ?_) (fun c_13 => ?_)
                            · refine gx_aload (pc := 238) hB dL_month_238 10 rfl ?_
                              refine gx_iload (pc := 240) hB dL_month_240 4 rfl ?_
                              refine gx_iconst (pc := 242) hB dL_month_242 5 (by decide) ?_
                              refine gx_iadd (pc := 243) hB dL_month_243 ?_
                              refine gx_top (show (nI (8 * i)) + 5 = nI (8 * i + 5) from nI_add (8 * i) 5) ?_
                              refine gx_iald (pc := 244) hB dL_month_244 5 1 rfl rfl (8 * i + 5) rfl (by omega) (by decide) ?_
                              refine gx_iast (pc := 245) hB dL_month_245 5 1 rfl rfl (8 * i + 5) rfl (by omega) (by decide) ([(ug, .inl (K.2.1.2.1, 8, .inl (upd G1 4 (nI (c1 + 1))))), (uf, .inl (K.2.1.2.1, 60, .inl (upd (upd F1 (10 * p) ((F1 (10 * p)) + (sK U i 2))) (10 * p + 1) (((upd F1 (10 * p) ((F1 (10 * p)) + (sK U i 2))) (10 * p + 1)) + (sK U i 2))))), (uh, .inl (K.2.1.2.1, 48, .inl (upd (upd H1 (2 * c1) (sK U i 0)) (2 * c1 + 1) (nI p)))), (uv, .inl (K.2.1.2.1, 48, .inl (upd (upd V1 (2 * c1) (sK U i 2)) (2 * c1 + 1) (G1 6)))), (uj, .inl (K.2.1.2.1, 48, .inl (upd (upd J1 (2 * c1) 0) (2 * c1 + 1) (nI i)))), (uq, .inl (K.2.1.2.1, 48, .inl (upd (upd (upd (upd (upd (upd Q1 (8 * i + 7) 0) (8 * i + 4) ((upd Q1 (8 * i + 7) 0) (8 * i + 4))) (8 * i + 3) (((upd (upd Q1 (8 * i + 7) 0) (8 * i + 4) ((upd Q1 (8 * i + 7) 0) (8 * i + 4))) (8 * i + 3)) - 1)) (8 * i + 6) (((upd (upd (upd Q1 (8 * i + 7) 0) (8 * i + 4) ((upd Q1 (8 * i + 7) 0) (8 * i + 4))) (8 * i + 3) (((upd (upd Q1 (8 * i + 7) 0) (8 * i + 4) ((upd Q1 (8 * i + 7) 0) (8 * i + 4))) (8 * i + 3)) - 1)) (8 * i + 6)) + 1)) (8 * i + 5) 0) (8 * i + 5) ((upd (upd (upd (upd (upd Q1 (8 * i + 7) 0) (8 * i + 4) ((upd Q1 (8 * i + 7) 0) (8 * i + 4))) (8 * i + 3) (((upd (upd Q1 (8 * i + 7) 0) (8 * i + 4) ((upd Q1 (8 * i + 7) 0) (8 * i + 4))) (8 * i + 3)) - 1)) (8 * i + 6) (((upd (upd (upd Q1 (8 * i + 7) 0) (8 * i + 4) ((upd Q1 (8 * i + 7) 0) (8 * i + 4))) (8 * i + 3) (((upd (upd Q1 (8 * i + 7) 0) (8 * i + 4) ((upd Q1 (8 * i + 7) 0) (8 * i + 4))) (8 * i + 3)) - 1)) (8 * i + 6)) + 1)) (8 * i + 5) 0) (8 * i + 5)))))]) rfl ?_
                              refine gx_iinc (pc := 246) hB dL_month_246 11 (by decide) rfl (nI (i + 1)) (nI_1 _) [(7, .int (nI (i + 1))), (11, .int (nI c1)), (6, .int (mn + 1)), (10, .int 0), (9, .int 0), (8, .int (nI (8 * i))), (0, .ref ug), (1, .ref uf), (2, .ref uh), (3, .ref uv), (4, .ref uj), (5, .ref uq)] rfl ?_
                              refine gx_goto (pc := 249) hB 14 dL_month_249 (by decide) ?_
                              have hy := goK_yes (S := (upd S 6 (S 6 + 1))) (c := c) (k := i) (by rw [hU]; exact (hs.2.2.2.2 i hi 5 (by omega)).symm.trans c_3)
                              rw [hU, hc1] at hy
                              obtain ⟨em, hs2⟩ := mo_B hs hb3 hi c_3 c_4 c_6 ok.2.2.2.2.1 ep hp rfl rfl rfl rfl rfl (by rw [if_neg c_13])
                              refine gx_sub hB (lv' := [(0, .ref ug), (1, .ref uf), (2, .ref uh), (3, .ref uv), (4, .ref uj), (5, .ref uq), (6, .int (mn + 1)), (7, .int (nI (i + 1)))]) [6, 7, 8, 9, 10, 11, 2, 0] rfl ?_
                              exact ih14 (i + 1) (mn + 1) (upd G1 4 (nI (c1 + 1))) (upd (upd F1 (10 * p) ((F1 (10 * p)) + (sK U i 2))) (10 * p + 1) (((upd F1 (10 * p) ((F1 (10 * p)) + (sK U i 2))) (10 * p + 1)) + (sK U i 2))) (upd (upd H1 (2 * c1) (sK U i 0)) (2 * c1 + 1) (nI p)) (upd (upd V1 (2 * c1) (sK U i 2)) (2 * c1 + 1) (G1 6)) (upd (upd J1 (2 * c1) 0) (2 * c1 + 1) (nI i)) (upd (upd (upd (upd (upd (upd Q1 (8 * i + 7) 0) (8 * i + 4) ((upd Q1 (8 * i + 7) 0) (8 * i + 4))) (8 * i + 3) (((upd (upd Q1 (8 * i + 7) 0) (8 * i + 4) ((upd Q1 (8 * i + 7) 0) (8 * i + 4))) (8 * i + 3)) - 1)) (8 * i + 6) (((upd (upd (upd Q1 (8 * i + 7) 0) (8 * i + 4) ((upd Q1 (8 * i + 7) 0) (8 * i + 4))) (8 * i + 3) (((upd (upd Q1 (8 * i + 7) 0) (8 * i + 4) ((upd Q1 (8 * i + 7) 0) (8 * i + 4))) (8 * i + 3)) - 1)) (8 * i + 6)) + 1)) (8 * i + 5) 0) (8 * i + 5) ((upd (upd (upd (upd (upd Q1 (8 * i + 7) 0) (8 * i + 4) ((upd Q1 (8 * i + 7) 0) (8 * i + 4))) (8 * i + 3) (((upd (upd Q1 (8 * i + 7) 0) (8 * i + 4) ((upd Q1 (8 * i + 7) 0) (8 * i + 4))) (8 * i + 3)) - 1)) (8 * i + 6) (((upd (upd (upd Q1 (8 * i + 7) 0) (8 * i + 4) ((upd Q1 (8 * i + 7) 0) (8 * i + 4))) (8 * i + 3) (((upd (upd Q1 (8 * i + 7) 0) (8 * i + 4) ((upd Q1 (8 * i + 7) 0) (8 * i + 4))) (8 * i + 3)) - 1)) (8 * i + 6)) + 1)) (8 * i + 5) 0) (8 * i + 5))) (by omega) (by rw [hy]; dsimp only; rw [em, if_pos (show (1 : Int32) = 1 from rfl)]; exact hs2) (by rw [hy]; dsimp only; rw [em, hm])
                            · refine gx_iconst (pc := 234) hB dL_month_234 1 (by decide) ?_
                              refine gx_goto (pc := 235) hB 245 dL_month_235 (by decide) ?_
                              refine gx_iast (pc := 245) hB dL_month_245 5 1 rfl rfl (8 * i + 5) rfl (by omega) (by decide) ([(ug, .inl (K.2.1.2.1, 8, .inl (upd G1 4 (nI (c1 + 1))))), (uf, .inl (K.2.1.2.1, 60, .inl (upd (upd F1 (10 * p) ((F1 (10 * p)) + (sK U i 2))) (10 * p + 1) (((upd F1 (10 * p) ((F1 (10 * p)) + (sK U i 2))) (10 * p + 1)) + (sK U i 2))))), (uh, .inl (K.2.1.2.1, 48, .inl (upd (upd H1 (2 * c1) (sK U i 0)) (2 * c1 + 1) (nI p)))), (uv, .inl (K.2.1.2.1, 48, .inl (upd (upd V1 (2 * c1) (sK U i 2)) (2 * c1 + 1) (G1 6)))), (uj, .inl (K.2.1.2.1, 48, .inl (upd (upd J1 (2 * c1) 0) (2 * c1 + 1) (nI i)))), (uq, .inl (K.2.1.2.1, 48, .inl (upd (upd (upd (upd (upd (upd Q1 (8 * i + 7) 0) (8 * i + 4) ((upd Q1 (8 * i + 7) 0) (8 * i + 4))) (8 * i + 3) (((upd (upd Q1 (8 * i + 7) 0) (8 * i + 4) ((upd Q1 (8 * i + 7) 0) (8 * i + 4))) (8 * i + 3)) - 1)) (8 * i + 6) (((upd (upd (upd Q1 (8 * i + 7) 0) (8 * i + 4) ((upd Q1 (8 * i + 7) 0) (8 * i + 4))) (8 * i + 3) (((upd (upd Q1 (8 * i + 7) 0) (8 * i + 4) ((upd Q1 (8 * i + 7) 0) (8 * i + 4))) (8 * i + 3)) - 1)) (8 * i + 6)) + 1)) (8 * i + 5) 0) (8 * i + 5) 1)))]) rfl ?_
                              refine gx_iinc (pc := 246) hB dL_month_246 11 (by decide) rfl (nI (i + 1)) (nI_1 _) [(7, .int (nI (i + 1))), (11, .int (nI c1)), (6, .int (mn + 1)), (10, .int 0), (9, .int 0), (8, .int (nI (8 * i))), (0, .ref ug), (1, .ref uf), (2, .ref uh), (3, .ref uv), (4, .ref uj), (5, .ref uq)] rfl ?_
                              refine gx_goto (pc := 249) hB 14 dL_month_249 (by decide) ?_
                              have hy := goK_yes (S := (upd S 6 (S 6 + 1))) (c := c) (k := i) (by rw [hU]; exact (hs.2.2.2.2 i hi 5 (by omega)).symm.trans c_3)
                              rw [hU, hc1] at hy
                              obtain ⟨em, hs2⟩ := mo_B hs hb3 hi c_3 c_4 c_6 ok.2.2.2.2.1 ep hp rfl rfl rfl rfl rfl (by rw [if_pos c_13])
                              refine gx_sub hB (lv' := [(0, .ref ug), (1, .ref uf), (2, .ref uh), (3, .ref uv), (4, .ref uj), (5, .ref uq), (6, .int (mn + 1)), (7, .int (nI (i + 1)))]) [6, 7, 8, 9, 10, 11, 2, 0] rfl ?_
                              exact ih14 (i + 1) (mn + 1) (upd G1 4 (nI (c1 + 1))) (upd (upd F1 (10 * p) ((F1 (10 * p)) + (sK U i 2))) (10 * p + 1) (((upd F1 (10 * p) ((F1 (10 * p)) + (sK U i 2))) (10 * p + 1)) + (sK U i 2))) (upd (upd H1 (2 * c1) (sK U i 0)) (2 * c1 + 1) (nI p)) (upd (upd V1 (2 * c1) (sK U i 2)) (2 * c1 + 1) (G1 6)) (upd (upd J1 (2 * c1) 0) (2 * c1 + 1) (nI i)) (upd (upd (upd (upd (upd (upd Q1 (8 * i + 7) 0) (8 * i + 4) ((upd Q1 (8 * i + 7) 0) (8 * i + 4))) (8 * i + 3) (((upd (upd Q1 (8 * i + 7) 0) (8 * i + 4) ((upd Q1 (8 * i + 7) 0) (8 * i + 4))) (8 * i + 3)) - 1)) (8 * i + 6) (((upd (upd (upd Q1 (8 * i + 7) 0) (8 * i + 4) ((upd Q1 (8 * i + 7) 0) (8 * i + 4))) (8 * i + 3) (((upd (upd Q1 (8 * i + 7) 0) (8 * i + 4) ((upd Q1 (8 * i + 7) 0) (8 * i + 4))) (8 * i + 3)) - 1)) (8 * i + 6)) + 1)) (8 * i + 5) 0) (8 * i + 5) 1) (by omega) (by rw [hy]; dsimp only; rw [em, if_pos (show (1 : Int32) = 1 from rfl)]; exact hs2) (by rw [hy]; dsimp only; rw [em, hm])
                          · exact absurd c_12 (by decide)
                      · exact absurd (nI_pos' (by omega)) c_10
                · exact absurd c_7 (by decide)
              · refine gx_iconst (pc := 71) hB dL_month_71 1 (by decide) ?_
                refine gx_goto (pc := 72) hB 76 dL_month_72 (by decide) ?_
                refine gx_istore (pc := 76) hB dL_month_76 (by decide) [(10, .int 1), (9, .int 0), (8, .int (nI (8 * i))), (0, .ref ug), (1, .ref uf), (2, .ref uh), (3, .ref uv), (4, .ref uj), (5, .ref uq), (6, .int mn), (7, .int (nI i))] rfl ?_
                refine gx_aload (pc := 78) hB dL_month_78 8 rfl ?_
                refine gx_iload (pc := 80) hB dL_month_80 2 rfl ?_
                refine gx_bipush (pc := 82) hB dL_month_82 7 (by decide) ?_
                refine gx_iadd (pc := 84) hB dL_month_84 ?_
                refine gx_top (show (nI (8 * i)) + 7 = nI (8 * i + 7) from nI_add (8 * i) 7) ?_
                refine gx_iconst (pc := 85) hB dL_month_85 0 (by decide) ?_
                refine gx_iast (pc := 86) hB dL_month_86 5 1 rfl rfl (8 * i + 7) rfl (by omega) (by decide) ([(ug, .inl (K.2.1.2.1, 8, .inl G1)), (uf, .inl (K.2.1.2.1, 60, .inl F1)), (uh, .inl (K.2.1.2.1, 48, .inl H1)), (uv, .inl (K.2.1.2.1, 48, .inl V1)), (uj, .inl (K.2.1.2.1, 48, .inl J1)), (uq, .inl (K.2.1.2.1, 48, .inl (upd Q1 (8 * i + 7) 0)))]) rfl ?_
                refine gx_aload (pc := 87) hB dL_month_87 8 rfl ?_
                refine gx_iload (pc := 89) hB dL_month_89 2 rfl ?_
                refine gx_iconst (pc := 91) hB dL_month_91 4 (by decide) ?_
                refine gx_iadd (pc := 92) hB dL_month_92 ?_
                refine gx_top (show (nI (8 * i)) + 4 = nI (8 * i + 4) from nI_add (8 * i) 4) ?_
                refine gx_dup2 (pc := 93) hB dL_month_93 rfl rfl ?_
                refine gx_iald (pc := 94) hB dL_month_94 5 1 rfl rfl (8 * i + 4) rfl (by omega) (by decide) ?_
                refine gx_iload (pc := 95) hB dL_month_95 1 rfl ?_
                refine gx_if_eq (pc := 97) hB 104 dL_month_97 (by decide) (fun c_14 => ?_) (fun c_14 => ?_)
                · refine gx_iconst (pc := 104) hB dL_month_104 0 (by decide) ?_
                  refine gx_iadd (pc := 105) hB dL_month_105 ?_
                  refine gx_top (show ((upd Q1 (8 * i + 7) 0) (8 * i + 4)) + 0 = ((upd Q1 (8 * i + 7) 0) (8 * i + 4)) from Int32.add_zero _) ?_
                  refine gx_iast (pc := 106) hB dL_month_106 5 1 rfl rfl (8 * i + 4) rfl (by omega) (by decide) ([(ug, .inl (K.2.1.2.1, 8, .inl G1)), (uf, .inl (K.2.1.2.1, 60, .inl F1)), (uh, .inl (K.2.1.2.1, 48, .inl H1)), (uv, .inl (K.2.1.2.1, 48, .inl V1)), (uj, .inl (K.2.1.2.1, 48, .inl J1)), (uq, .inl (K.2.1.2.1, 48, .inl (upd (upd Q1 (8 * i + 7) 0) (8 * i + 4) ((upd Q1 (8 * i + 7) 0) (8 * i + 4)))))]) rfl ?_
                  refine gx_aload (pc := 107) hB dL_month_107 8 rfl ?_
                  refine gx_iload (pc := 109) hB dL_month_109 2 rfl ?_
                  refine gx_iconst (pc := 111) hB dL_month_111 3 (by decide) ?_
                  refine gx_iadd (pc := 112) hB dL_month_112 ?_
                  refine gx_top (show (nI (8 * i)) + 3 = nI (8 * i + 3) from nI_add (8 * i) 3) ?_
                  refine gx_dup2 (pc := 113) hB dL_month_113 rfl rfl ?_
                  refine gx_iald (pc := 114) hB dL_month_114 5 1 rfl rfl (8 * i + 3) rfl (by omega) (by decide) ?_
                  refine gx_iconst (pc := 115) hB dL_month_115 1 (by decide) ?_
                  refine gx_isub (pc := 116) hB dL_month_116 ?_
                  refine gx_iast (pc := 117) hB dL_month_117 5 1 rfl rfl (8 * i + 3) rfl (by omega) (by decide) ([(ug, .inl (K.2.1.2.1, 8, .inl G1)), (uf, .inl (K.2.1.2.1, 60, .inl F1)), (uh, .inl (K.2.1.2.1, 48, .inl H1)), (uv, .inl (K.2.1.2.1, 48, .inl V1)), (uj, .inl (K.2.1.2.1, 48, .inl J1)), (uq, .inl (K.2.1.2.1, 48, .inl (upd (upd (upd Q1 (8 * i + 7) 0) (8 * i + 4) ((upd Q1 (8 * i + 7) 0) (8 * i + 4))) (8 * i + 3) (((upd (upd Q1 (8 * i + 7) 0) (8 * i + 4) ((upd Q1 (8 * i + 7) 0) (8 * i + 4))) (8 * i + 3)) - 1))))]) rfl ?_
                  refine gx_iload (pc := 118) hB dL_month_118 1 rfl ?_
                  refine gx_if_ne (pc := 120) hB 193 dL_month_120 (by decide) (fun c_15 => ?_) (fun c_15 => ?_)
                  · exact absurd c_15 (by decide)
                  · refine gx_iload (pc := 123) hB dL_month_123 0 rfl ?_
                    refine gx_if_ne (pc := 125) hB 193 dL_month_125 (by decide) (fun c_16 => ?_) (fun c_16 => ?_)
                    · refine gx_aload (pc := 193) hB dL_month_193 8 rfl ?_
                      refine gx_iload (pc := 195) hB dL_month_195 2 rfl ?_
                      refine gx_iconst (pc := 197) hB dL_month_197 5 (by decide) ?_
                      refine gx_iadd (pc := 198) hB dL_month_198 ?_
                      refine gx_top (show (nI (8 * i)) + 5 = nI (8 * i + 5) from nI_add (8 * i) 5) ?_
                      refine gx_iload (pc := 199) hB dL_month_199 0 rfl ?_
                      refine gx_if_ne (pc := 201) hB 220 dL_month_201 (by decide) (fun c_17 => ?_) (fun c_17 => ?_)
                      · refine gx_iconst (pc := 220) hB dL_month_220 3 (by decide) ?_
                        refine gx_goto (pc := 221) hB 245 dL_month_221 (by decide) ?_
                        refine gx_iast (pc := 245) hB dL_month_245 5 1 rfl rfl (8 * i + 5) rfl (by omega) (by decide) ([(ug, .inl (K.2.1.2.1, 8, .inl G1)), (uf, .inl (K.2.1.2.1, 60, .inl F1)), (uh, .inl (K.2.1.2.1, 48, .inl H1)), (uv, .inl (K.2.1.2.1, 48, .inl V1)), (uj, .inl (K.2.1.2.1, 48, .inl J1)), (uq, .inl (K.2.1.2.1, 48, .inl (upd (upd (upd (upd Q1 (8 * i + 7) 0) (8 * i + 4) ((upd Q1 (8 * i + 7) 0) (8 * i + 4))) (8 * i + 3) (((upd (upd Q1 (8 * i + 7) 0) (8 * i + 4) ((upd Q1 (8 * i + 7) 0) (8 * i + 4))) (8 * i + 3)) - 1)) (8 * i + 5) 3)))]) rfl ?_
                        refine gx_iinc (pc := 246) hB dL_month_246 10 (by decide) rfl (nI (i + 1)) (nI_1 _) [(7, .int (nI (i + 1))), (10, .int 1), (9, .int 0), (8, .int (nI (8 * i))), (0, .ref ug), (1, .ref uf), (2, .ref uh), (3, .ref uv), (4, .ref uj), (5, .ref uq), (6, .int mn)] rfl ?_
                        refine gx_goto (pc := 249) hB 14 dL_month_249 (by decide) ?_
                        have hy := goK_yes (S := (upd S 6 (S 6 + 1))) (c := c) (k := i) (by rw [hU]; exact (hs.2.2.2.2 i hi 5 (by omega)).symm.trans c_3)
                        rw [hU, hc1] at hy
                        obtain ⟨em, hs2⟩ := mo_C hs hb3 hi c_4 c_6 rfl rfl rfl
                        refine gx_sub hB (lv' := [(0, .ref ug), (1, .ref uf), (2, .ref uh), (3, .ref uv), (4, .ref uj), (5, .ref uq), (6, .int mn), (7, .int (nI (i + 1)))]) [4, 5, 6, 7, 8, 9, 10, 0] rfl ?_
                        exact ih14 (i + 1) mn G1 F1 H1 V1 J1 (upd (upd (upd (upd Q1 (8 * i + 7) 0) (8 * i + 4) ((upd Q1 (8 * i + 7) 0) (8 * i + 4))) (8 * i + 3) (((upd (upd Q1 (8 * i + 7) 0) (8 * i + 4) ((upd Q1 (8 * i + 7) 0) (8 * i + 4))) (8 * i + 3)) - 1)) (8 * i + 5) 3) (by omega) (by rw [hy]; dsimp only; rw [em, if_neg (show ¬ (0 : Int32) = 1 by decide)]; exact hs2) (by rw [hy]; dsimp only; rw [em, Int32.add_zero]; exact hm)
                      · exact absurd c_17 (by decide)
                    · exact absurd c_16 (by decide)
                · exact absurd c_14 (by decide)
          · refine gx_iconst (pc := 51) hB dL_month_51 1 (by decide) ?_
            refine gx_goto (pc := 52) hB 56 dL_month_52 (by decide) ?_
            refine gx_istore (pc := 56) hB dL_month_56 (by decide) [(9, .int 1), (8, .int (nI (8 * i))), (0, .ref ug), (1, .ref uf), (2, .ref uh), (3, .ref uv), (4, .ref uj), (5, .ref uq), (6, .int mn), (7, .int (nI i))] rfl ?_
            refine gx_iload (pc := 58) hB dL_month_58 0 rfl ?_
            refine gx_if_ne (pc := 60) hB 75 dL_month_60 (by decide) (fun c_18 => ?_) (fun c_18 => ?_)
            · refine gx_iconst (pc := 75) hB dL_month_75 0 (by decide) ?_
              refine gx_istore (pc := 76) hB dL_month_76 (by decide) [(10, .int 0), (9, .int 1), (8, .int (nI (8 * i))), (0, .ref ug), (1, .ref uf), (2, .ref uh), (3, .ref uv), (4, .ref uj), (5, .ref uq), (6, .int mn), (7, .int (nI i))] rfl ?_
              refine gx_aload (pc := 78) hB dL_month_78 8 rfl ?_
              refine gx_iload (pc := 80) hB dL_month_80 2 rfl ?_
              refine gx_bipush (pc := 82) hB dL_month_82 7 (by decide) ?_
              refine gx_iadd (pc := 84) hB dL_month_84 ?_
              refine gx_top (show (nI (8 * i)) + 7 = nI (8 * i + 7) from nI_add (8 * i) 7) ?_
              refine gx_iconst (pc := 85) hB dL_month_85 0 (by decide) ?_
              refine gx_iast (pc := 86) hB dL_month_86 5 1 rfl rfl (8 * i + 7) rfl (by omega) (by decide) ([(ug, .inl (K.2.1.2.1, 8, .inl G1)), (uf, .inl (K.2.1.2.1, 60, .inl F1)), (uh, .inl (K.2.1.2.1, 48, .inl H1)), (uv, .inl (K.2.1.2.1, 48, .inl V1)), (uj, .inl (K.2.1.2.1, 48, .inl J1)), (uq, .inl (K.2.1.2.1, 48, .inl (upd Q1 (8 * i + 7) 0)))]) rfl ?_
              refine gx_aload (pc := 87) hB dL_month_87 8 rfl ?_
              refine gx_iload (pc := 89) hB dL_month_89 2 rfl ?_
              refine gx_iconst (pc := 91) hB dL_month_91 4 (by decide) ?_
              refine gx_iadd (pc := 92) hB dL_month_92 ?_
              refine gx_top (show (nI (8 * i)) + 4 = nI (8 * i + 4) from nI_add (8 * i) 4) ?_
              refine gx_dup2 (pc := 93) hB dL_month_93 rfl rfl ?_
              refine gx_iald (pc := 94) hB dL_month_94 5 1 rfl rfl (8 * i + 4) rfl (by omega) (by decide) ?_
              refine gx_iload (pc := 95) hB dL_month_95 1 rfl ?_
              refine gx_if_eq (pc := 97) hB 104 dL_month_97 (by decide) (fun c_19 => ?_) (fun c_19 => ?_)
              · exact absurd c_19 (by decide)
              · refine gx_iconst (pc := 100) hB dL_month_100 1 (by decide) ?_
                refine gx_goto (pc := 101) hB 105 dL_month_101 (by decide) ?_
                refine gx_iadd (pc := 105) hB dL_month_105 ?_
                refine gx_iast (pc := 106) hB dL_month_106 5 1 rfl rfl (8 * i + 4) rfl (by omega) (by decide) ([(ug, .inl (K.2.1.2.1, 8, .inl G1)), (uf, .inl (K.2.1.2.1, 60, .inl F1)), (uh, .inl (K.2.1.2.1, 48, .inl H1)), (uv, .inl (K.2.1.2.1, 48, .inl V1)), (uj, .inl (K.2.1.2.1, 48, .inl J1)), (uq, .inl (K.2.1.2.1, 48, .inl (upd (upd Q1 (8 * i + 7) 0) (8 * i + 4) (((upd Q1 (8 * i + 7) 0) (8 * i + 4)) + 1))))]) rfl ?_
                refine gx_aload (pc := 107) hB dL_month_107 8 rfl ?_
                refine gx_iload (pc := 109) hB dL_month_109 2 rfl ?_
                refine gx_iconst (pc := 111) hB dL_month_111 3 (by decide) ?_
                refine gx_iadd (pc := 112) hB dL_month_112 ?_
                refine gx_top (show (nI (8 * i)) + 3 = nI (8 * i + 3) from nI_add (8 * i) 3) ?_
                refine gx_dup2 (pc := 113) hB dL_month_113 rfl rfl ?_
                refine gx_iald (pc := 114) hB dL_month_114 5 1 rfl rfl (8 * i + 3) rfl (by omega) (by decide) ?_
                refine gx_iconst (pc := 115) hB dL_month_115 1 (by decide) ?_
                refine gx_isub (pc := 116) hB dL_month_116 ?_
                refine gx_iast (pc := 117) hB dL_month_117 5 1 rfl rfl (8 * i + 3) rfl (by omega) (by decide) ([(ug, .inl (K.2.1.2.1, 8, .inl G1)), (uf, .inl (K.2.1.2.1, 60, .inl F1)), (uh, .inl (K.2.1.2.1, 48, .inl H1)), (uv, .inl (K.2.1.2.1, 48, .inl V1)), (uj, .inl (K.2.1.2.1, 48, .inl J1)), (uq, .inl (K.2.1.2.1, 48, .inl (upd (upd (upd Q1 (8 * i + 7) 0) (8 * i + 4) (((upd Q1 (8 * i + 7) 0) (8 * i + 4)) + 1)) (8 * i + 3) (((upd (upd Q1 (8 * i + 7) 0) (8 * i + 4) (((upd Q1 (8 * i + 7) 0) (8 * i + 4)) + 1)) (8 * i + 3)) - 1))))]) rfl ?_
                refine gx_iload (pc := 118) hB dL_month_118 1 rfl ?_
                refine gx_if_ne (pc := 120) hB 193 dL_month_120 (by decide) (fun c_20 => ?_) (fun c_20 => ?_)
                · refine gx_aload (pc := 193) hB dL_month_193 8 rfl ?_
                  refine gx_iload (pc := 195) hB dL_month_195 2 rfl ?_
                  refine gx_iconst (pc := 197) hB dL_month_197 5 (by decide) ?_
                  refine gx_iadd (pc := 198) hB dL_month_198 ?_
                  refine gx_top (show (nI (8 * i)) + 5 = nI (8 * i + 5) from nI_add (8 * i) 5) ?_
                  refine gx_iload (pc := 199) hB dL_month_199 0 rfl ?_
                  refine gx_if_ne (pc := 201) hB 220 dL_month_201 (by decide) (fun c_21 => ?_) (fun c_21 => ?_)
                  · exact absurd c_21 (by decide)
                  · refine gx_iload (pc := 204) hB dL_month_204 1 rfl ?_
                    refine gx_if_eq (pc := 206) hB 224 dL_month_206 (by decide) (fun c_22 => ?_) (fun c_22 => ?_)
                    · exact absurd c_22 (by decide)
                    · refine gx_aload (pc := 209) hB dL_month_209 8 rfl ?_
                      refine gx_iload (pc := 211) hB dL_month_211 2 rfl ?_
                      refine gx_iconst (pc := 213) hB dL_month_213 4 (by decide) ?_
                      refine gx_iadd (pc := 214) hB dL_month_214 ?_
                      refine gx_top (show (nI (8 * i)) + 4 = nI (8 * i + 4) from nI_add (8 * i) 4) ?_
                      refine gx_iald (pc := 215) hB dL_month_215 5 1 rfl rfl (8 * i + 4) rfl (by omega) (by decide) ?_
                      refine gx_iconst (pc := 216) hB dL_month_216 3 (by decide) ?_
                      refine gx_icmp_ne (pc := 217) hB 224 dL_month_217 (by decide) (fun c_23 => ?_) (fun c_23 => ?_)
                      · refine gx_aload (pc := 224) hB dL_month_224 8 rfl ?_
                        refine gx_iload (pc := 226) hB dL_month_226 2 rfl ?_
                        refine gx_iconst (pc := 228) hB dL_month_228 3 (by decide) ?_
                        refine gx_iadd (pc := 229) hB dL_month_229 ?_
                        refine gx_top (show (nI (8 * i)) + 3 = nI (8 * i + 3) from nI_add (8 * i) 3) ?_
                        refine gx_iald (pc := 230) hB dL_month_230 5 1 rfl rfl (8 * i + 3) rfl (by omega) (by decide) ?_
                        refine gx_if_ne (pc := 231) hB 238 dL_month_231 (by decide) (fun c_24 => ?_) (fun c_24 => ?_)
                        · refine gx_aload (pc := 238) hB dL_month_238 8 rfl ?_
                          refine gx_iload (pc := 240) hB dL_month_240 2 rfl ?_
                          refine gx_iconst (pc := 242) hB dL_month_242 5 (by decide) ?_
                          refine gx_iadd (pc := 243) hB dL_month_243 ?_
                          refine gx_top (show (nI (8 * i)) + 5 = nI (8 * i + 5) from nI_add (8 * i) 5) ?_
                          refine gx_iald (pc := 244) hB dL_month_244 5 1 rfl rfl (8 * i + 5) rfl (by omega) (by decide) ?_
                          refine gx_iast (pc := 245) hB dL_month_245 5 1 rfl rfl (8 * i + 5) rfl (by omega) (by decide) ([(ug, .inl (K.2.1.2.1, 8, .inl G1)), (uf, .inl (K.2.1.2.1, 60, .inl F1)), (uh, .inl (K.2.1.2.1, 48, .inl H1)), (uv, .inl (K.2.1.2.1, 48, .inl V1)), (uj, .inl (K.2.1.2.1, 48, .inl J1)), (uq, .inl (K.2.1.2.1, 48, .inl (upd (upd (upd (upd Q1 (8 * i + 7) 0) (8 * i + 4) (((upd Q1 (8 * i + 7) 0) (8 * i + 4)) + 1)) (8 * i + 3) (((upd (upd Q1 (8 * i + 7) 0) (8 * i + 4) (((upd Q1 (8 * i + 7) 0) (8 * i + 4)) + 1)) (8 * i + 3)) - 1)) (8 * i + 5) ((upd (upd (upd Q1 (8 * i + 7) 0) (8 * i + 4) (((upd Q1 (8 * i + 7) 0) (8 * i + 4)) + 1)) (8 * i + 3) (((upd (upd Q1 (8 * i + 7) 0) (8 * i + 4) (((upd Q1 (8 * i + 7) 0) (8 * i + 4)) + 1)) (8 * i + 3)) - 1)) (8 * i + 5)))))]) rfl ?_
                          refine gx_iinc (pc := 246) hB dL_month_246 10 (by decide) rfl (nI (i + 1)) (nI_1 _) [(7, .int (nI (i + 1))), (10, .int 0), (9, .int 1), (8, .int (nI (8 * i))), (0, .ref ug), (1, .ref uf), (2, .ref uh), (3, .ref uv), (4, .ref uj), (5, .ref uq), (6, .int mn)] rfl ?_
                          refine gx_goto (pc := 249) hB 14 dL_month_249 (by decide) ?_
                          have hy := goK_yes (S := (upd S 6 (S 6 + 1))) (c := c) (k := i) (by rw [hU]; exact (hs.2.2.2.2 i hi 5 (by omega)).symm.trans c_3)
                          rw [hU, hc1] at hy
                          obtain ⟨em, hs2⟩ := mo_A hs hb3 hi c_4 rfl rfl rfl (by rw [if_neg c_23, if_neg c_24])
                          refine gx_sub hB (lv' := [(0, .ref ug), (1, .ref uf), (2, .ref uh), (3, .ref uv), (4, .ref uj), (5, .ref uq), (6, .int mn), (7, .int (nI (i + 1)))]) [4, 5, 6, 7, 8, 9, 10, 0] rfl ?_
                          exact ih14 (i + 1) mn G1 F1 H1 V1 J1 (upd (upd (upd (upd Q1 (8 * i + 7) 0) (8 * i + 4) (((upd Q1 (8 * i + 7) 0) (8 * i + 4)) + 1)) (8 * i + 3) (((upd (upd Q1 (8 * i + 7) 0) (8 * i + 4) (((upd Q1 (8 * i + 7) 0) (8 * i + 4)) + 1)) (8 * i + 3)) - 1)) (8 * i + 5) ((upd (upd (upd Q1 (8 * i + 7) 0) (8 * i + 4) (((upd Q1 (8 * i + 7) 0) (8 * i + 4)) + 1)) (8 * i + 3) (((upd (upd Q1 (8 * i + 7) 0) (8 * i + 4) (((upd Q1 (8 * i + 7) 0) (8 * i + 4)) + 1)) (8 * i + 3)) - 1)) (8 * i + 5))) (by omega) (by rw [hy]; dsimp only; rw [em, if_neg (show ¬ (0 : Int32) = 1 by decide)]; exact hs2) (by rw [hy]; dsimp only; rw [em, Int32.add_zero]; exact hm)
                        · refine gx_iconst (pc := 234) hB dL_month_234 1 (by decide) ?_
                          refine gx_goto (pc := 235) hB 245 dL_month_235 (by decide) ?_
                          refine gx_iast (pc := 245) hB dL_month_245 5 1 rfl rfl (8 * i + 5) rfl (by omega) (by decide) ([(ug, .inl (K.2.1.2.1, 8, .inl G1)), (uf, .inl (K.2.1.2.1, 60, .inl F1)), (uh, .inl (K.2.1.2.1, 48, .inl H1)), (uv, .inl (K.2.1.2.1, 48, .inl V1)), (uj, .inl (K.2.1.2.1, 48, .inl J1)), (uq, .inl (K.2.1.2.1, 48, .inl (upd (upd (upd (upd Q1 (8 * i + 7) 0) (8 * i + 4) (((upd Q1 (8 * i + 7) 0) (8 * i + 4)) + 1)) (8 * i + 3) (((upd (upd Q1 (8 * i + 7) 0) (8 * i + 4) (((upd Q1 (8 * i + 7) 0) (8 * i + 4)) + 1)) (8 * i + 3)) - 1)) (8 * i + 5) 1)))]) rfl ?_
                          refine gx_iinc (pc := 246) hB dL_month_246 10 (by decide) rfl (nI (i + 1)) (nI_1 _) [(7, .int (nI (i + 1))), (10, .int 0), (9, .int 1), (8, .int (nI (8 * i))), (0, .ref ug), (1, .ref uf), (2, .ref uh), (3, .ref uv), (4, .ref uj), (5, .ref uq), (6, .int mn)] rfl ?_
                          refine gx_goto (pc := 249) hB 14 dL_month_249 (by decide) ?_
                          have hy := goK_yes (S := (upd S 6 (S 6 + 1))) (c := c) (k := i) (by rw [hU]; exact (hs.2.2.2.2 i hi 5 (by omega)).symm.trans c_3)
                          rw [hU, hc1] at hy
                          obtain ⟨em, hs2⟩ := mo_A hs hb3 hi c_4 rfl rfl rfl (by rw [if_neg c_23, if_pos c_24])
                          refine gx_sub hB (lv' := [(0, .ref ug), (1, .ref uf), (2, .ref uh), (3, .ref uv), (4, .ref uj), (5, .ref uq), (6, .int mn), (7, .int (nI (i + 1)))]) [4, 5, 6, 7, 8, 9, 10, 0] rfl ?_
                          exact ih14 (i + 1) mn G1 F1 H1 V1 J1 (upd (upd (upd (upd Q1 (8 * i + 7) 0) (8 * i + 4) (((upd Q1 (8 * i + 7) 0) (8 * i + 4)) + 1)) (8 * i + 3) (((upd (upd Q1 (8 * i + 7) 0) (8 * i + 4) (((upd Q1 (8 * i + 7) 0) (8 * i + 4)) + 1)) (8 * i + 3)) - 1)) (8 * i + 5) 1) (by omega) (by rw [hy]; dsimp only; rw [em, if_neg (show ¬ (0 : Int32) = 1 by decide)]; exact hs2) (by rw [hy]; dsimp only; rw [em, Int32.add_zero]; exact hm)
                      · refine gx_iconst (pc := 220) hB dL_month_220 3 (by decide) ?_
                        refine gx_goto (pc := 221) hB 245 dL_month_221 (by decide) ?_
                        refine gx_iast (pc := 245) hB dL_month_245 5 1 rfl rfl (8 * i + 5) rfl (by omega) (by decide) ([(ug, .inl (K.2.1.2.1, 8, .inl G1)), (uf, .inl (K.2.1.2.1, 60, .inl F1)), (uh, .inl (K.2.1.2.1, 48, .inl H1)), (uv, .inl (K.2.1.2.1, 48, .inl V1)), (uj, .inl (K.2.1.2.1, 48, .inl J1)), (uq, .inl (K.2.1.2.1, 48, .inl (upd (upd (upd (upd Q1 (8 * i + 7) 0) (8 * i + 4) (((upd Q1 (8 * i + 7) 0) (8 * i + 4)) + 1)) (8 * i + 3) (((upd (upd Q1 (8 * i + 7) 0) (8 * i + 4) (((upd Q1 (8 * i + 7) 0) (8 * i + 4)) + 1)) (8 * i + 3)) - 1)) (8 * i + 5) 3)))]) rfl ?_
                        refine gx_iinc (pc := 246) hB dL_month_246 10 (by decide) rfl (nI (i + 1)) (nI_1 _) [(7, .int (nI (i + 1))), (10, .int 0), (9, .int 1), (8, .int (nI (8 * i))), (0, .ref ug), (1, .ref uf), (2, .ref uh), (3, .ref uv), (4, .ref uj), (5, .ref uq), (6, .int mn)] rfl ?_
                        refine gx_goto (pc := 249) hB 14 dL_month_249 (by decide) ?_
                        have hy := goK_yes (S := (upd S 6 (S 6 + 1))) (c := c) (k := i) (by rw [hU]; exact (hs.2.2.2.2 i hi 5 (by omega)).symm.trans c_3)
                        rw [hU, hc1] at hy
                        obtain ⟨em, hs2⟩ := mo_A hs hb3 hi c_4 rfl rfl rfl (by rw [if_pos c_23])
                        refine gx_sub hB (lv' := [(0, .ref ug), (1, .ref uf), (2, .ref uh), (3, .ref uv), (4, .ref uj), (5, .ref uq), (6, .int mn), (7, .int (nI (i + 1)))]) [4, 5, 6, 7, 8, 9, 10, 0] rfl ?_
                        exact ih14 (i + 1) mn G1 F1 H1 V1 J1 (upd (upd (upd (upd Q1 (8 * i + 7) 0) (8 * i + 4) (((upd Q1 (8 * i + 7) 0) (8 * i + 4)) + 1)) (8 * i + 3) (((upd (upd Q1 (8 * i + 7) 0) (8 * i + 4) (((upd Q1 (8 * i + 7) 0) (8 * i + 4)) + 1)) (8 * i + 3)) - 1)) (8 * i + 5) 3) (by omega) (by rw [hy]; dsimp only; rw [em, if_neg (show ¬ (0 : Int32) = 1 by decide)]; exact hs2) (by rw [hy]; dsimp only; rw [em, Int32.add_zero]; exact hm)
                · exact absurd c_20 (by decide)
            · exact absurd c_18 (by decide)
  refine gx_sub hB (lv' := [(0, .ref ug), (1, .ref uf), (2, .ref uh), (3, .ref uv), (4, .ref uj), (5, .ref uq), (6, .int 0), (7, .int 0)]) [2, 3, 4, 5, 6, 7, 1, 0] rfl ?_
  exact loop_14 (e) 0 0 (upd G 6 (G 6 + 1)) F H V J Q (by omega) (by rw [h1.1.2.2.2.2.2.2.1]; exact HS_set h1 (Or.inr (Or.inr rfl))) rfl
