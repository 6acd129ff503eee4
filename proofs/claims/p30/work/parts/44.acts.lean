/-! The law's acts. -/
theorem t_ag_same2 {C G F D H V J Q S : Nat → Int32} {a b c e od sn d p q : Nat} (h : LJ C G F D H V J Q S a b c e od sn) (hpq : p = q) : (bAgree C (nI d) (nI p) (nI q)).1 = -1 ∧ LI (bAgree C (nI d) (nI p) (nI q)).2 G F D H V J Q (kOd (bAgree C (nI d) (nI p) (nI q)).1 od sn) (kSn (bAgree C (nI d) (nI p) (nI q)).1 sn) := by
  subst hpq
  exact t_ag_same h
theorem Rx_w {C S : Nat → Int32} {a b c e : Nat} {T T' : Int} (h : Rx C S a b c e T) (hT : T ≤ T') : Rx C S a b c e T' := Rx_T h (by have := h.2.2.1.2.2.2; omega)
theorem pL_acts : (parseMethodDescriptor yL_acts.desc).map (fun d => d.parameters.length) = some 9 := by decide +kernel
theorem mL_acts : gx_MS yL_acts cL_acts 16 (some .boolean) := ⟨tb_217, tb_26, tb_218, by decide, by decide⟩
set_option maxHeartbeats 4000000 in
set_option maxRecDepth 100000 in
theorem c_L_acts (l : Launch) (K : gx_K) (ad : Nat → Nat) (ug uf ud uh uv uj uq : Nat) (C : Nat → Int32) (R : Nat → Nat → Int32) (od sn : Nat) (G F D H V J Q S : Nat → Int32) (a b c e : Nat) (z : Int32) (h0 : LJ C G F D H V J Q S a b c e od sn) : gx_Ctr l K yL_acts cL_acts 16 (some .boolean) (rmc 7 1 1 160) [.ref (ad 0), .ref ug, .ref uf, .ref ud, .ref uh, .ref uv, .ref uj, .ref uq, .int z] ((wZ K ad C R od sn ++ [(ug, .inl (K.2.1.2.1, 8, .inl G)), (uf, .inl (K.2.1.2.1, 60, .inl F)), (ud, .inl (K.2.1.2.1, 56, .inl D)), (uh, .inl (K.2.1.2.1, 48, .inl H)), (uv, .inl (K.2.1.2.1, 48, .inl V)), (uj, .inl (K.2.1.2.1, 48, .inl J)), (uq, .inl (K.2.1.2.1, 48, .inl Q))])) (pL K ad ug uf ud uh uv uj uq) := by
  refine gx_of (by decide) (Nat.le_of_ble_eq_true rfl) (fun GG hC => ?_)
  have hB := hC.b
  refine gx_lv (lv' := [(0, .ref (ad 0)), (1, .ref ug), (2, .ref uf), (3, .ref ud), (4, .ref uh), (5, .ref uv), (6, .ref uj), (7, .ref uq), (8, .int z)]) rfl ?_
  have hb := LJ_b h0
  have ho := h0.2.2.2.2.1
  have hsn := h0.2.2.2.2.2
  refine gx_iload (pc := 0) hB dL_acts_0 8 rfl ?_
  refine gx_iconst (pc := 2) hB dL_acts_2 5 (by decide) ?_
  refine gx_ishr (pc := 3) hB dL_acts_3 ?_
  refine gx_ldc (pc := 4) hB dL_acts_4 tb_219 ?_
  refine gx_dSi (pc := 6) (r := nI (loN (z >>> (5 &&& 31)) 10000000)) (wr := (wZ K ad C R od sn ++ [(ug, .inl (K.2.1.2.1, 8, .inl G)), (uf, .inl (K.2.1.2.1, 60, .inl F)), (ud, .inl (K.2.1.2.1, 56, .inl D)), (uh, .inl (K.2.1.2.1, 48, .inl H)), (uv, .inl (K.2.1.2.1, 48, .inl V)), (uj, .inl (K.2.1.2.1, 48, .inl J)), (uq, .inl (K.2.1.2.1, 48, .inl Q))])) hB (c_L_low l K (z >>> (5 &&& 31)) 10000000 (by first | assumption | omega | decide) (by first | assumption | omega | decide)) mL_low dL_acts_6 tb_212 pL_low ⟨Nat.le_of_ble_eq_true rfl, Nat.le_of_ble_eq_true rfl⟩ ⟨rfl, rfl⟩ ⟨Nat.le_of_ble_eq_true rfl, Nat.le_of_ble_eq_true rfl⟩ rfl (Nat.le_of_ble_eq_true rfl) [] [0, 1, 2, 3, 4, 5, 6, 7, 8, 9, 10, 11, 12, 13, 14, 15, 16, 17, 18, 19, 20, 21, 22, 23, 24, 25, 26, 27, 28, 29] rfl rfl (by decide) (by decide) (by decide) [0, 1, 2, 3, 4, 5, 6, 7, 8, 9, 10, 11, 12, 13, 14, 15, 16, 17, 18, 19, 20, 21, 22, 23, 24, 25, 26, 27, 28, 29] (by decide) ((wZ K ad C R od sn ++ [(ug, .inl (K.2.1.2.1, 8, .inl G)), (uf, .inl (K.2.1.2.1, 60, .inl F)), (ud, .inl (K.2.1.2.1, 56, .inl D)), (uh, .inl (K.2.1.2.1, 48, .inl H)), (uv, .inl (K.2.1.2.1, 48, .inl V)), (uj, .inl (K.2.1.2.1, 48, .inl J)), (uq, .inl (K.2.1.2.1, 48, .inl Q))])) rfl ?_
  obtain ⟨y, hy, ey⟩ : ∃ zz : Nat, zz < 10000000 ∧ nI (loN (z >>> (5 &&& 31)) 10000000) = nI zz := ⟨_, Nat.mod_lt _ (by decide), rfl⟩
  refine gx_top ey ?_
  refine gx_istore (pc := 9) hB dL_acts_9 (by decide) [(9, .int (nI y)), (0, .ref (ad 0)), (1, .ref ug), (2, .ref uf), (3, .ref ud), (4, .ref uh), (5, .ref uv), (6, .ref uj), (7, .ref uq), (8, .int z)] rfl ?_
  refine gx_iload (pc := 11) hB dL_acts_11 9 rfl ?_
  refine gx_bipush (pc := 13) hB dL_acts_13 30 (by decide) ?_
  refine gx_dSi (pc := 15) (r := nI (loN z 30)) (wr := (wZ K ad C R od sn ++ [(ug, .inl (K.2.1.2.1, 8, .inl G)), (uf, .inl (K.2.1.2.1, 60, .inl F)), (ud, .inl (K.2.1.2.1, 56, .inl D)), (uh, .inl (K.2.1.2.1, 48, .inl H)), (uv, .inl (K.2.1.2.1, 48, .inl V)), (uj, .inl (K.2.1.2.1, 48, .inl J)), (uq, .inl (K.2.1.2.1, 48, .inl Q))])) hB (c_L_low l K z 30 (by first | assumption | omega | decide) (by first | assumption | omega | decide)) mL_low dL_acts_15 tb_212 pL_low ⟨Nat.le_of_ble_eq_true rfl, Nat.le_of_ble_eq_true rfl⟩ ⟨rfl, rfl⟩ ⟨Nat.le_of_ble_eq_true rfl, Nat.le_of_ble_eq_true rfl⟩ rfl (Nat.le_of_ble_eq_true rfl) [] [0, 1, 2, 3, 4, 5, 6, 7, 8, 9, 10, 11, 12, 13, 14, 15, 16, 17, 18, 19, 20, 21, 22, 23, 24, 25, 26, 27, 28, 29] rfl rfl (by decide) (by decide) (by decide) [0, 1, 2, 3, 4, 5, 6, 7, 8, 9, 10, 11, 12, 13, 14, 15, 16, 17, 18, 19, 20, 21, 22, 23, 24, 25, 26, 27, 28, 29] (by decide) ((wZ K ad C R od sn ++ [(ug, .inl (K.2.1.2.1, 8, .inl G)), (uf, .inl (K.2.1.2.1, 60, .inl F)), (ud, .inl (K.2.1.2.1, 56, .inl D)), (uh, .inl (K.2.1.2.1, 48, .inl H)), (uv, .inl (K.2.1.2.1, 48, .inl V)), (uj, .inl (K.2.1.2.1, 48, .inl J)), (uq, .inl (K.2.1.2.1, 48, .inl Q))])) rfl ?_
  obtain ⟨w, hw, ew⟩ : ∃ zz : Nat, zz < 30 ∧ nI (loN z 30) = nI zz := ⟨_, Nat.mod_lt _ (by decide), rfl⟩
  refine gx_top ew ?_
  refine gx_istore (pc := 18) hB dL_acts_18 (by decide) [(10, .int (nI w)), (9, .int (nI y)), (0, .ref (ad 0)), (1, .ref ug), (2, .ref uf), (3, .ref ud), (4, .ref uh), (5, .ref uv), (6, .ref uj), (7, .ref uq), (8, .int z)] rfl ?_
  refine gx_iload (pc := 20) hB dL_acts_20 0 rfl ?_
  refine gx_bipush (pc := 22) hB dL_acts_22 9 (by decide) ?_
  refine gx_icmp_lt (pc := 24) hB 33 dL_acts_24 (by decide) (fun c_1 => ?_) (fun c_1 => ?_)
  · refine gx_aload_n (pc := 33) hB dL_acts_33 2 rfl ?_
    refine gx_aload_n (pc := 34) hB dL_acts_34 3 rfl ?_
    refine gx_aload_n (pc := 35) hB dL_acts_35 4 rfl ?_
    refine gx_aload_n (pc := 36) hB dL_acts_36 5 rfl ?_
    refine gx_aload (pc := 37) hB dL_acts_37 6 rfl ?_
    refine gx_aload (pc := 39) hB dL_acts_39 7 rfl ?_
    refine gx_aload (pc := 41) hB dL_acts_41 8 rfl ?_
    refine gx_aload (pc := 43) hB dL_acts_43 9 rfl ?_
    refine gx_iload (pc := 45) hB dL_acts_45 0 rfl ?_
    refine gx_iconst (pc := 47) hB dL_acts_47 3 (by decide) ?_
    refine gx_icmp_ge (pc := 48) hB 56 dL_acts_48 (by decide) (fun c_2 => ?_) (fun c_2 => ?_)
    · refine gx_iload (pc := 56) hB dL_acts_56 0 rfl ?_
      refine gx_bipush (pc := 58) hB dL_acts_58 7 (by decide) ?_
      refine gx_icmp_ge (pc := 60) hB 67 dL_acts_60 (by decide) (fun c_3 => ?_) (fun c_3 => ?_)
      · refine gx_iconst (pc := 67) hB dL_acts_67 4 (by decide) ?_
        refine gx_iload (pc := 68) hB dL_acts_68 1 rfl ?_
        refine gx_callS (pc := 70) (wr := []) hB (c_L_comes l K ad ug uf ud uh uv uj uq C R od sn G F D H V J Q S a b c e 4 y (by first | assumption | omega | decide) (by first | assumption | omega | decide)) mL_comes dL_acts_70 tb_220 pL_comes ⟨Nat.le_of_ble_eq_true rfl, Nat.le_of_ble_eq_true rfl, Nat.le_of_ble_eq_true rfl, Nat.le_of_ble_eq_true rfl⟩ (rest := []) rfl (Nat.le_of_ble_eq_true rfl) [0, 1, 2, 3, 4, 5, 6, 7, 8, 9, 10, 11, 12, 13, 14, 15, 16, 17, 18, 19, 20, 21, 22, 23, 24, 25, 26, 27, 28, 29] [] rfl rfl (by decide) (by decide) (by decide) (fun v70 w70 hp70 => ?_)
        obtain ⟨rfl, hw⟩ := hp70
        refine gx_kn (k' := 0) (n' := 0) rfl rfl ?_
        refine gx_st (st' := [.int 1]) rfl ?_
        exact gx_zret (pc := 73) hC dL_acts_73 (Nat.zero_le _) (Nat.zero_le _) (by decide) ⟨rfl, hw⟩
      · refine gx_iconst (pc := 63) hB dL_acts_63 3 (by decide) ?_
        refine gx_goto (pc := 64) hB 68 dL_acts_64 (by decide) ?_
        refine gx_iload (pc := 68) hB dL_acts_68 1 rfl ?_
        refine gx_callS (pc := 70) (wr := []) hB (c_L_comes l K ad ug uf ud uh uv uj uq C R od sn G F D H V J Q S a b c e 3 y (by first | assumption | omega | decide) (by first | assumption | omega | decide)) mL_comes dL_acts_70 tb_220 pL_comes ⟨Nat.le_of_ble_eq_true rfl, Nat.le_of_ble_eq_true rfl, Nat.le_of_ble_eq_true rfl, Nat.le_of_ble_eq_true rfl⟩ (rest := []) rfl (Nat.le_of_ble_eq_true rfl) [0, 1, 2, 3, 4, 5, 6, 7, 8, 9, 10, 11, 12, 13, 14, 15, 16, 17, 18, 19, 20, 21, 22, 23, 24, 25, 26, 27, 28, 29] [] rfl rfl (by decide) (by decide) (by decide) (fun v70 w70 hp70 => ?_)
        obtain ⟨rfl, hw⟩ := hp70
        refine gx_kn (k' := 0) (n' := 0) rfl rfl ?_
        refine gx_st (st' := [.int 1]) rfl ?_
        exact gx_zret (pc := 73) hC dL_acts_73 (Nat.zero_le _) (Nat.zero_le _) (by decide) ⟨rfl, hw⟩
    · refine gx_iload (pc := 51) hB dL_acts_51 0 rfl ?_
      refine gx_goto (pc := 53) hB 68 dL_acts_53 (by decide) ?_
      refine gx_iload (pc := 68) hB dL_acts_68 1 rfl ?_
      refine gx_callS (pc := 70) (wr := []) hB (c_L_comes l K ad ug uf ud uh uv uj uq C R od sn G F D H V J Q S a b c e (nI w) y (by first | assumption | omega | decide) (by first | assumption | omega | decide)) mL_comes dL_acts_70 tb_220 pL_comes ⟨Nat.le_of_ble_eq_true rfl, Nat.le_of_ble_eq_true rfl, Nat.le_of_ble_eq_true rfl, Nat.le_of_ble_eq_true rfl⟩ (rest := []) rfl (Nat.le_of_ble_eq_true rfl) [0, 1, 2, 3, 4, 5, 6, 7, 8, 9, 10, 11, 12, 13, 14, 15, 16, 17, 18, 19, 20, 21, 22, 23, 24, 25, 26, 27, 28, 29] [] rfl rfl (by decide) (by decide) (by decide) (fun v70 w70 hp70 => ?_)
      obtain ⟨rfl, hw⟩ := hp70
      refine gx_kn (k' := 0) (n' := 0) rfl rfl ?_
      refine gx_st (st' := [.int 1]) rfl ?_
      exact gx_zret (pc := 73) hC dL_acts_73 (Nat.zero_le _) (Nat.zero_le _) (by decide) ⟨rfl, hw⟩
  · refine gx_aload_n (pc := 27) hB dL_acts_27 3 rfl ?_
    refine gx_iconst (pc := 28) hB dL_acts_28 3 (by decide) ?_
    refine gx_iald (pc := 29) hB dL_acts_29 23 1 rfl rfl 3 rfl (by decide) (by decide) ?_
    refine gx_top (show G 3 = nI b from h0.2.1.1.2.2.2.1) ?_
    refine gx_if_ne (pc := 30) hB 74 dL_acts_30 (by decide) (fun c_4 => ?_) (fun c_4 => ?_)
    · refine gx_iload (pc := 74) hB dL_acts_74 0 rfl ?_
      refine gx_bipush (pc := 76) hB dL_acts_76 11 (by decide) ?_
      refine gx_icmp_ge (pc := 78) hB 308 dL_acts_78 (by decide) (fun c_5 => ?_) (fun c_5 => ?_)
      · refine gx_iload (pc := 308) hB dL_acts_308 0 rfl ?_
        refine gx_bipush (pc := 310) hB dL_acts_310 14 (by decide) ?_
        refine gx_icmp_ge (pc := 312) hB 364 dL_acts_312 (by decide) (fun c_6 => ?_) (fun c_6 => ?_)
        · refine gx_iload (pc := 364) hB dL_acts_364 1 rfl ?_
          refine gx_aload_n (pc := 366) hB dL_acts_366 3 rfl ?_
          refine gx_iconst (pc := 367) hB dL_acts_367 2 (by decide) ?_
          refine gx_iald (pc := 368) hB dL_acts_368 23 1 rfl rfl 2 rfl (by decide) (by decide) ?_
          refine gx_top (show G 2 = nI a from h0.2.1.1.2.2.1) ?_
          refine gx_irem (pc := 369) hB dL_acts_369 (nI_ne0 (n := a) (by omega) (by omega)) ?_
          refine gx_top (show nI y - nI y / nI a * nI a = nI (y % a) from pk_rem (a := y) (d := a) (by omega) (by omega) (by omega)) ?_
          obtain ⟨p, hp, ep⟩ : ∃ zz : Nat, zz < a ∧ nI (y % a) = nI zz := ⟨_, Nat.mod_lt _ (by omega), rfl⟩
          refine gx_top ep ?_
          refine gx_istore (pc := 370) hB dL_acts_370 (by decide) [(11, .int (nI p)), (10, .int (nI w)), (9, .int (nI y)), (0, .ref (ad 0)), (1, .ref ug), (2, .ref uf), (3, .ref ud), (4, .ref uh), (5, .ref uv), (6, .ref uj), (7, .ref uq), (8, .int z)] rfl ?_
          refine gx_iload (pc := 372) hB dL_acts_372 1 rfl ?_
          refine gx_bipush (pc := 374) hB dL_acts_374 17 (by decide) ?_
          refine gx_icmp_ge (pc := 376) hB 562 dL_acts_376 (by decide) (fun c_7 => ?_) (fun c_7 => ?_)
          · refine gx_iload (pc := 562) hB dL_acts_562 2 rfl ?_
            refine gx_bipush (pc := 564) hB dL_acts_564 6 (by decide) ?_
            refine gx_idiv (pc := 566) hB dL_acts_566 (by decide) ?_
            refine gx_top (show nI y / 6 = nI (y / 6) from pk_div (a := y) (d := 6) (by omega) (by omega) (by omega)) ?_
            refine gx_aload_n (pc := 567) hB dL_acts_567 4 rfl ?_
            refine gx_iconst (pc := 568) hB dL_acts_568 2 (by decide) ?_
            refine gx_iald (pc := 569) hB dL_acts_569 23 1 rfl rfl 2 rfl (by decide) (by decide) ?_
            refine gx_top (show G 2 = nI a from h0.2.1.1.2.2.1) ?_
            refine gx_irem (pc := 570) hB dL_acts_570 (nI_ne0 (n := a) (by omega) (by omega)) ?_
            refine gx_top (show (nI (y / 6)) - (nI (y / 6)) / nI a * nI a = nI ((y / 6) % a) from pk_rem (a := y / 6) (d := a) (by omega) (by omega) (by omega)) ?_
            obtain ⟨q, hq, eq⟩ : ∃ zz : Nat, zz < a ∧ nI ((y / 6) % a) = nI zz := ⟨_, Nat.mod_lt _ (by omega), rfl⟩
            refine gx_top eq ?_
            refine gx_istore (pc := 571) hB dL_acts_571 (by decide) [(12, .int (nI q)), (11, .int (nI p)), (10, .int (nI w)), (9, .int (nI y)), (0, .ref (ad 0)), (1, .ref ug), (2, .ref uf), (3, .ref ud), (4, .ref uh), (5, .ref uv), (6, .ref uj), (7, .ref uq), (8, .int z)] rfl ?_
            refine gx_iload (pc := 573) hB dL_acts_573 2 rfl ?_
            refine gx_bipush (pc := 575) hB dL_acts_575 21 (by decide) ?_
            refine gx_icmp_ge (pc := 577) hB 720 dL_acts_577 (by decide) (fun c_8 => ?_) (fun c_8 => ?_)
            · refine gx_iload (pc := 720) hB dL_acts_720 2 rfl ?_
              refine gx_bipush (pc := 722) hB dL_acts_722 23 (by decide) ?_
              refine gx_icmp_ge (pc := 724) hB 828 dL_acts_724 (by decide) (fun c_9 => ?_) (fun c_9 => ?_)
              · refine gx_iload (pc := 828) hB dL_acts_828 2 rfl ?_
                refine gx_bipush (pc := 830) hB dL_acts_830 25 (by decide) ?_
                refine gx_icmp_ge (pc := 832) hB 1035 dL_acts_832 (by decide) (fun c_10 => ?_) (fun c_10 => ?_)
                · refine gx_iload (pc := 1035) hB dL_acts_1035 2 rfl ?_
                  refine gx_bipush (pc := 1037) hB dL_acts_1037 25 (by decide) ?_
                  refine gx_icmp_ne (pc := 1039) hB 1117 dL_acts_1039 (by decide) (fun c_11 => ?_) (fun c_11 => ?_)
                  · refine gx_iconst (pc := 1117) hB dL_acts_1117 1 (by decide) ?_
                    refine gx_iload (pc := 1118) hB dL_acts_1118 3 rfl ?_
                    refine gx_iload (pc := 1120) hB dL_acts_1120 3 rfl ?_
                    refine gx_iconst (pc := 1122) hB dL_acts_1122 4 (by decide) ?_
                    refine gx_irem (pc := 1123) hB dL_acts_1123 (by decide) ?_
                    refine gx_top (show nI y - nI y / 4 * 4 = nI (y % 4) from pk_rem (a := y) (d := 4) (by omega) (by omega) (by omega)) ?_
                    refine gx_if_ne (pc := 1124) hB 1132 dL_acts_1124 (by decide) (fun c_12 => ?_) (fun c_12 => ?_)
                    · refine gx_iconst (pc := 1132) hB dL_acts_1132 3 (by decide) ?_
                      refine gx_irem (pc := 1133) hB dL_acts_1133 (by decide) ?_
                      refine gx_top (show nI y - nI y / 3 * 3 = nI (y % 3) from pk_rem (a := y) (d := 3) (by omega) (by omega) (by omega)) ?_
                      refine gx_iadd (pc := 1134) hB dL_acts_1134 ?_
                      refine gx_top (show 1 + (nI (y % 3)) = nI (1 + (y % 3)) from nI_add 1 (y % 3)) ?_
                      refine gx_istore (pc := 1135) hB dL_acts_1135 (by decide) [(13, .int (nI (1 + (y % 3)))), (12, .int (nI q)), (11, .int (nI p)), (10, .int (nI w)), (9, .int (nI y)), (0, .ref (ad 0)), (1, .ref ug), (2, .ref uf), (3, .ref ud), (4, .ref uh), (5, .ref uv), (6, .ref uj), (7, .ref uq), (8, .int z)] rfl ?_
                      refine gx_iconst (pc := 1137) hB dL_acts_1137 0 (by decide) ?_
                      refine gx_istore (pc := 1138) hB dL_acts_1138 (by decide) [(14, .int 0), (13, .int (nI (1 + (y % 3)))), (12, .int (nI q)), (11, .int (nI p)), (10, .int (nI w)), (9, .int (nI y)), (0, .ref (ad 0)), (1, .ref ug), (2, .ref uf), (3, .ref ud), (4, .ref uh), (5, .ref uv), (6, .ref uj), (7, .ref uq), (8, .int z)] rfl ?_
                      refine gx_aload_n (pc := 1140) hB dL_acts_1140 7 rfl ?_
                      refine gx_bipush (pc := 1141) hB dL_acts_1141 6 (by decide) ?_
                      refine gx_iald (pc := 1143) hB dL_acts_1143 23 1 rfl rfl 6 rfl (by decide) (by decide) ?_
                      refine gx_iload (pc := 1144) hB dL_acts_1144 1 rfl ?_
                      refine gx_iadd (pc := 1146) hB dL_acts_1146 ?_
                      refine gx_sipush (pc := 1147) hB dL_acts_1147 999 (by decide) ?_
                      refine gx_icmp_le (pc := 1150) hB 1170 dL_acts_1150 (by decide) (fun c_13 => ?_) (fun c_13 => ?_)
                      · refine gx_iconst (pc := 1170) hB dL_acts_1170 0 (by decide) ?_
                        refine gx_istore (pc := 1171) hB dL_acts_1171 (by decide) [(15, .int 0), (14, .int 0), (13, .int (nI (1 + (y % 3)))), (12, .int (nI q)), (11, .int (nI p)), (10, .int (nI w)), (9, .int (nI y)), (0, .ref (ad 0)), (1, .ref ug), (2, .ref uf), (3, .ref ud), (4, .ref uh), (5, .ref uv), (6, .ref uj), (7, .ref uq), (8, .int z)] rfl ?_
                        have loop_1173 : ∀ (dq i : Nat) (mn : Int32) (G1 : Nat → Int32) (F1 : Nat → Int32) (H1 : Nat → Int32) (V1 : Nat → Int32) (J1 : Nat → Int32) (Q1 : Nat → Int32), i + dq = 1 + (y % 3) → (HS G1 F1 D H1 V1 J1 Q1 (mGoM S c e i).2.2 a b (mGoM S c e i).2.1 e) → (mn = (mGoM S c e i).1) → GG 0 0 ((wZ K ad C R od sn ++ [(ug, .inl (K.2.1.2.1, 8, .inl G1)), (uf, .inl (K.2.1.2.1, 60, .inl F1)), (ud, .inl (K.2.1.2.1, 56, .inl D)), (uh, .inl (K.2.1.2.1, 48, .inl H1)), (uv, .inl (K.2.1.2.1, 48, .inl V1)), (uj, .inl (K.2.1.2.1, 48, .inl J1)), (uq, .inl (K.2.1.2.1, 48, .inl Q1))])) [(0, .ref (ad 0)), (1, .ref ug), (2, .ref uf), (3, .ref ud), (4, .ref uh), (5, .ref uv), (6, .ref uj), (7, .ref uq), (8, .int z), (9, .int (nI y)), (10, .int (nI w)), (11, .int (nI p)), (12, .int (nI q)), (13, .int (nI (1 + (y % 3)))), (14, .int mn), (15, .int (nI i))] 1173 [] := by
                          intro dq
                          induction dq with
                          | zero =>
                            intro i mn G1 F1 H1 V1 J1 Q1 hi1173 hs hm
                            have hz1173 : i = 1 + (y % 3) := by omega
                            refine gx_iload (pc := 1173) hB dL_acts_1173 15 rfl ?_
                            refine gx_iload (pc := 1175) hB dL_acts_1175 13 rfl ?_
                            refine gx_icmp_ge (pc := 1177) hB 1204 dL_acts_1177 (by decide) (fun c_14 => ?_) (fun c_14 => ?_)
                            · refine gx_aload_n (pc := 1204) hB dL_acts_1204 0 rfl ?_
                              refine gx_iload (pc := 1205) hB dL_acts_1205 13 rfl ?_
                              refine gx_dVA (pc := 1207) (r := (bPass C (nI (1 + (y % 3))) 999).1) (W1 := wZ K ad ((bPass C (nI (1 + (y % 3))) 999).2) (kR C R od sn) (kOd (bPass C (nI (1 + (y % 3))) 999).1 od sn) (kSn (bPass C (nI (1 + (y % 3))) 999).1 sn)) (wr := [(ug, .inl (K.2.1.2.1, 8, .inl G1)), (uf, .inl (K.2.1.2.1, 60, .inl F1)), (ud, .inl (K.2.1.2.1, 56, .inl D)), (uh, .inl (K.2.1.2.1, 48, .inl H1)), (uv, .inl (K.2.1.2.1, 48, .inl V1)), (uj, .inl (K.2.1.2.1, 48, .inl J1)), (uq, .inl (K.2.1.2.1, 48, .inl Q1))]) hB (k_pass l K ad C R od sn (nI (1 + (y % 3))) ho hsn) mX4_pass dL_acts_1207 tb_475 pX4_pass ⟨Nat.le_of_ble_eq_true rfl, Nat.le_of_ble_eq_true rfl⟩ ⟨rfl, rfl⟩ ⟨Nat.le_of_ble_eq_true rfl, Nat.le_of_ble_eq_true rfl⟩ rfl (Nat.le_of_ble_eq_true rfl) (List.range 23) (List.range' 23 7) rfl rfl (by decide) (by decide) (by decide) rfl rfl (List.range' 7 23 ++ List.range 7) (by decide) rfl ?_
                              have hs3 : HS G1 F1 D H1 V1 J1 Q1 (mGoM S c e (1 + (y % 3))).2.2 a b (mGoM S c e (1 + (y % 3))).2.1 e := by rw [← hz1173]; exact hs
                              obtain ⟨e_0, hI⟩ := t_ps_ok (m := 1 + (y % 3)) h0 ⟨by omega, by omega⟩ c_13 hs3
                              have e_1 := e_0.trans (show (mGoM S c e (1 + (y % 3))).1 = mn by rw [hm, hz1173])
                              refine gx_top (x := (bPass C (nI (1 + (y % 3))) 999).1) (y := mn) e_1 ?_
                              refine gx_iload (pc := 1210) hB dL_acts_1210 14 rfl ?_
                              refine gx_icmp_ne (pc := 1212) hB 1219 dL_acts_1212 (by decide) (fun c_15 => ?_) (fun c_15 => ?_)
                              · exact absurd rfl c_15
                              · refine gx_iconst (pc := 1215) hB dL_acts_1215 1 (by decide) ?_
                                refine gx_goto (pc := 1216) hB 1220 dL_acts_1216 (by decide) ?_
                                exact gx_zret (pc := 1220) hC dL_acts_1220 (Nat.zero_le _) (Nat.zero_le _) (by decide) ⟨rfl, _, _, _, _, _, _, _, _, _, _, _, rfl, hI⟩
                            · exact absurd (lpTn (c := 1 + (y % 3)) (by omega) hi1173) c_14
                          | succ dq ih1173 =>
                            intro i mn G1 F1 H1 V1 J1 Q1 hi1173 hs hm
                            have hi : i < 1 + (y % 3) := by omega
                            refine gx_iload (pc := 1173) hB dL_acts_1173 15 rfl ?_
                            refine gx_iload (pc := 1175) hB dL_acts_1175 13 rfl ?_
                            refine gx_icmp_ge (pc := 1177) hB 1204 dL_acts_1177 (by decide) (fun c_16 => ?_) (fun c_16 => ?_)
                            · exact absurd c_16 (lpFn (c := 1 + (y % 3)) (by omega) hi1173)
                            · refine gx_iload (pc := 1180) hB dL_acts_1180 14 rfl ?_
                              refine gx_aload_n (pc := 1182) hB dL_acts_1182 1 rfl ?_
                              refine gx_aload_n (pc := 1183) hB dL_acts_1183 2 rfl ?_
                              refine gx_aload (pc := 1184) hB dL_acts_1184 4 rfl ?_
                              refine gx_aload (pc := 1186) hB dL_acts_1186 5 rfl ?_
                              refine gx_aload (pc := 1188) hB dL_acts_1188 6 rfl ?_
                              refine gx_aload (pc := 1190) hB dL_acts_1190 7 rfl ?_
                              refine gx_callS (pc := 1192) (wr := (wZ K ad C R od sn ++ [(ud, .inl (K.2.1.2.1, 56, .inl D))])) hB (c_L_month l K ug uf uh uv uj uq (bMonths C i) G1 F1 D H1 V1 J1 Q1 ((mGoM S c e i).2.2) a b ((mGoM S c e i).2.1) e (Rx_w (Rx_months h0.1 i (by omega)).1 (by omega)) hs) mL_month dL_acts_1192 tb_487 pL_month ⟨Nat.le_of_ble_eq_true rfl, Nat.le_of_ble_eq_true rfl, Nat.le_of_ble_eq_true rfl, Nat.le_of_ble_eq_true rfl⟩ (rest := [.int mn]) rfl (Nat.le_of_ble_eq_true rfl) [23, 24, 26, 27, 28, 29] [0, 1, 2, 3, 4, 5, 6, 7, 8, 9, 10, 11, 12, 13, 14, 15, 16, 17, 18, 19, 20, 21, 22, 25] rfl rfl (by decide) (by decide) (by decide) (fun v1192 w1192 hp1192 => ?_)
                              obtain ⟨G2, F2, H2, V2, J2, Q2, rfl, rfl, hs2⟩ := hp1192
                              refine gx_kn (k' := 0) (n' := 0) rfl rfl ?_
                              refine gx_st (st' := [.int ((mGoK (upd (mGoM S c e i).2.2 6 ((mGoM S c e i).2.2 6 + 1)) (mGoM S c e i).2.1 e).1), .int mn]) rfl ?_
                              refine gx_perm hB (ws' := (wZ K ad C R od sn ++ [(ug, .inl (K.2.1.2.1, 8, .inl G2)), (uf, .inl (K.2.1.2.1, 60, .inl F2)), (ud, .inl (K.2.1.2.1, 56, .inl D)), (uh, .inl (K.2.1.2.1, 48, .inl H2)), (uv, .inl (K.2.1.2.1, 48, .inl V2)), (uj, .inl (K.2.1.2.1, 48, .inl J2)), (uq, .inl (K.2.1.2.1, 48, .inl Q2))])) [0, 1, 2, 3, 4, 5, 6, 7, 8, 9, 10, 11, 12, 13, 14, 15, 16, 17, 18, 19, 20, 21, 22, 24, 25, 23, 26, 27, 28, 29] (by decide) rfl ?_
                              refine gx_iadd (pc := 1195) hB dL_acts_1195 ?_
                              refine gx_istore (pc := 1196) hB dL_acts_1196 (by decide) [(14, .int (mn + ((mGoK (upd (mGoM S c e i).2.2 6 ((mGoM S c e i).2.2 6 + 1)) (mGoM S c e i).2.1 e).1))), (0, .ref (ad 0)), (1, .ref ug), (2, .ref uf), (3, .ref ud), (4, .ref uh), (5, .ref uv), (6, .ref uj), (7, .ref uq), (8, .int z), (9, .int (nI y)), (10, .int (nI w)), (11, .int (nI p)), (12, .int (nI q)), (13, .int (nI (1 + (y % 3)))), (15, .int (nI i))] rfl ?_
                              refine gx_iinc (pc := 1198) hB dL_acts_1198 15 (by decide) rfl (nI (i + 1)) (nI_1 _) [(15, .int (nI (i + 1))), (14, .int (mn + ((mGoK (upd (mGoM S c e i).2.2 6 ((mGoM S c e i).2.2 6 + 1)) (mGoM S c e i).2.1 e).1))), (0, .ref (ad 0)), (1, .ref ug), (2, .ref uf), (3, .ref ud), (4, .ref uh), (5, .ref uv), (6, .ref uj), (7, .ref uq), (8, .int z), (9, .int (nI y)), (10, .int (nI w)), (11, .int (nI p)), (12, .int (nI q)), (13, .int (nI (1 + (y % 3))))] rfl ?_
                              refine gx_goto (pc := 1201) hB 1173 dL_acts_1201 (by decide) ?_
                              refine gx_sub hB (lv' := [(0, .ref (ad 0)), (1, .ref ug), (2, .ref uf), (3, .ref ud), (4, .ref uh), (5, .ref uv), (6, .ref uj), (7, .ref uq), (8, .int z), (9, .int (nI y)), (10, .int (nI w)), (11, .int (nI p)), (12, .int (nI q)), (13, .int (nI (1 + (y % 3)))), (14, .int (mn + ((mGoK (upd (mGoM S c e i).2.2 6 ((mGoM S c e i).2.2 6 + 1)) (mGoM S c e i).2.1 e).1))), (15, .int (nI (i + 1)))]) [2, 3, 4, 5, 6, 7, 8, 9, 10, 11, 12, 13, 14, 15, 1, 0] rfl ?_
                              exact ih1173 (i + 1) (mn + ((mGoK (upd (mGoM S c e i).2.2 6 ((mGoM S c e i).2.2 6 + 1)) (mGoM S c e i).2.1 e).1)) G2 F2 H2 V2 J2 Q2 (by omega) hs2 (by rw [hm]; rfl)
                        refine gx_sub hB (lv' := [(0, .ref (ad 0)), (1, .ref ug), (2, .ref uf), (3, .ref ud), (4, .ref uh), (5, .ref uv), (6, .ref uj), (7, .ref uq), (8, .int z), (9, .int (nI y)), (10, .int (nI w)), (11, .int (nI p)), (12, .int (nI q)), (13, .int (nI (1 + (y % 3)))), (14, .int 0), (15, .int 0)]) [7, 8, 9, 10, 11, 12, 13, 14, 15, 6, 5, 4, 3, 2, 1, 0] rfl ?_
                        exact loop_1173 (1 + (y % 3)) 0 0 G F H V J Q (by omega) h0.2.1 rfl
                      · refine gx_aload_n (pc := 1153) hB dL_acts_1153 6 rfl ?_
                        refine gx_iload (pc := 1154) hB dL_acts_1154 1 rfl ?_
                        refine gx_dVA (pc := 1156) (r := (bPass C (nI (1 + (y % 3))) 999).1) (W1 := wZ K ad ((bPass C (nI (1 + (y % 3))) 999).2) (kR C R od sn) (kOd (bPass C (nI (1 + (y % 3))) 999).1 od sn) (kSn (bPass C (nI (1 + (y % 3))) 999).1 sn)) (wr := [(ug, .inl (K.2.1.2.1, 8, .inl G)), (uf, .inl (K.2.1.2.1, 60, .inl F)), (ud, .inl (K.2.1.2.1, 56, .inl D)), (uh, .inl (K.2.1.2.1, 48, .inl H)), (uv, .inl (K.2.1.2.1, 48, .inl V)), (uj, .inl (K.2.1.2.1, 48, .inl J)), (uq, .inl (K.2.1.2.1, 48, .inl Q))]) hB (k_pass l K ad C R od sn (nI (1 + (y % 3))) ho hsn) mX4_pass dL_acts_1156 tb_475 pX4_pass ⟨Nat.le_of_ble_eq_true rfl, Nat.le_of_ble_eq_true rfl⟩ ⟨rfl, rfl⟩ ⟨Nat.le_of_ble_eq_true rfl, Nat.le_of_ble_eq_true rfl⟩ rfl (Nat.le_of_ble_eq_true rfl) (List.range 23) (List.range' 23 7) rfl rfl (by decide) (by decide) (by decide) rfl rfl (List.range' 7 23 ++ List.range 7) (by decide) rfl ?_
                        obtain ⟨e_1, hI⟩ := t_ps_no (m := 1 + (y % 3)) h0 ⟨by omega, by omega⟩ c_13
                        refine gx_top (x := (bPass C (nI (1 + (y % 3))) 999).1) (y := (-3)) e_1 ?_
                        refine gx_bipush (pc := 1159) hB dL_acts_1159 (-3) (by decide) ?_
                        refine gx_icmp_ne (pc := 1161) hB 1168 dL_acts_1161 (by decide) (fun c_17 => ?_) (fun c_17 => ?_)
                        · exact absurd c_17 (by decide)
                        · refine gx_iconst (pc := 1164) hB dL_acts_1164 1 (by decide) ?_
                          refine gx_goto (pc := 1165) hB 1169 dL_acts_1165 (by decide) ?_
                          exact gx_zret (pc := 1169) hC dL_acts_1169 (Nat.zero_le _) (Nat.zero_le _) (by decide) ⟨rfl, _, _, _, _, _, _, _, _, _, _, _, rfl, hI⟩
                    · refine gx_bipush (pc := 1127) hB dL_acts_1127 30 (by decide) ?_
                      refine gx_goto (pc := 1129) hB 1133 dL_acts_1129 (by decide) ?_
                      refine gx_irem (pc := 1133) hB dL_acts_1133 (by decide) ?_
                      refine gx_top (show nI y - nI y / 30 * 30 = nI (y % 30) from pk_rem (a := y) (d := 30) (by omega) (by omega) (by omega)) ?_
                      refine gx_iadd (pc := 1134) hB dL_acts_1134 ?_
                      refine gx_top (show 1 + (nI (y % 30)) = nI (1 + (y % 30)) from nI_add 1 (y % 30)) ?_
                      refine gx_istore (pc := 1135) hB dL_acts_1135 (by decide) [(13, .int (nI (1 + (y % 30)))), (12, .int (nI q)), (11, .int (nI p)), (10, .int (nI w)), (9, .int (nI y)), (0, .ref (ad 0)), (1, .ref ug), (2, .ref uf), (3, .ref ud), (4, .ref uh), (5, .ref uv), (6, .ref uj), (7, .ref uq), (8, .int z)] rfl ?_
                      refine gx_iconst (pc := 1137) hB dL_acts_1137 0 (by decide) ?_
                      refine gx_istore (pc := 1138) hB dL_acts_1138 (by decide) [(14, .int 0), (13, .int (nI (1 + (y % 30)))), (12, .int (nI q)), (11, .int (nI p)), (10, .int (nI w)), (9, .int (nI y)), (0, .ref (ad 0)), (1, .ref ug), (2, .ref uf), (3, .ref ud), (4, .ref uh), (5, .ref uv), (6, .ref uj), (7, .ref uq), (8, .int z)] rfl ?_
                      refine gx_aload_n (pc := 1140) hB dL_acts_1140 7 rfl ?_
                      refine gx_bipush (pc := 1141) hB dL_acts_1141 6 (by decide) ?_
                      refine gx_iald (pc := 1143) hB dL_acts_1143 23 1 rfl rfl 6 rfl (by decide) (by decide) ?_
                      refine gx_iload (pc := 1144) hB dL_acts_1144 1 rfl ?_
                      refine gx_iadd (pc := 1146) hB dL_acts_1146 ?_
                      refine gx_sipush (pc := 1147) hB dL_acts_1147 999 (by decide) ?_
                      refine gx_icmp_le (pc := 1150) hB 1170 dL_acts_1150 (by decide) (fun c_18 => ?_) (fun c_18 => ?_)
                      · refine gx_iconst (pc := 1170) hB dL_acts_1170 0 (by decide) ?_
                        refine gx_istore (pc := 1171) hB dL_acts_1171 (by decide) [(15, .int 0), (14, .int 0), (13, .int (nI (1 + (y % 30)))), (12, .int (nI q)), (11, .int (nI p)), (10, .int (nI w)), (9, .int (nI y)), (0, .ref (ad 0)), (1, .ref ug), (2, .ref uf), (3, .ref ud), (4, .ref uh), (5, .ref uv), (6, .ref uj), (7, .ref uq), (8, .int z)] rfl ?_
                        have loop_1173 : ∀ (dq i : Nat) (mn : Int32) (G1 : Nat → Int32) (F1 : Nat → Int32) (H1 : Nat → Int32) (V1 : Nat → Int32) (J1 : Nat → Int32) (Q1 : Nat → Int32), i + dq = 1 + (y % 30) → (HS G1 F1 D H1 V1 J1 Q1 (mGoM S c e i).2.2 a b (mGoM S c e i).2.1 e) → (mn = (mGoM S c e i).1) → GG 0 0 ((wZ K ad C R od sn ++ [(ug, .inl (K.2.1.2.1, 8, .inl G1)), (uf, .inl (K.2.1.2.1, 60, .inl F1)), (ud, .inl (K.2.1.2.1, 56, .inl D)), (uh, .inl (K.2.1.2.1, 48, .inl H1)), (uv, .inl (K.2.1.2.1, 48, .inl V1)), (uj, .inl (K.2.1.2.1, 48, .inl J1)), (uq, .inl (K.2.1.2.1, 48, .inl Q1))])) [(0, .ref (ad 0)), (1, .ref ug), (2, .ref uf), (3, .ref ud), (4, .ref uh), (5, .ref uv), (6, .ref uj), (7, .ref uq), (8, .int z), (9, .int (nI y)), (10, .int (nI w)), (11, .int (nI p)), (12, .int (nI q)), (13, .int (nI (1 + (y % 30)))), (14, .int mn), (15, .int (nI i))] 1173 [] := by
                          intro dq
                          induction dq with
                          | zero =>
                            intro i mn G1 F1 H1 V1 J1 Q1 hi1173 hs hm
                            have hz1173 : i = 1 + (y % 30) := by omega
                            refine gx_iload (pc := 1173) hB dL_acts_1173 15 rfl ?_
                            refine gx_iload (pc := 1175) hB dL_acts_1175 13 rfl ?_
                            refine gx_icmp_ge (pc := 1177) hB 1204 dL_acts_1177 (by decide) (fun c_19 => ?_) (fun c_19 => ?_)
                            · refine gx_aload_n (pc := 1204) hB dL_acts_1204 0 rfl ?_
                              refine gx_iload (pc := 1205) hB dL_acts_1205 13 rfl ?_
                              refine gx_dVA (pc := 1207) (r := (bPass C (nI (1 + (y % 30))) 999).1) (W1 := wZ K ad ((bPass C (nI (1 + (y % 30))) 999).2) (kR C R od sn) (kOd (bPass C (nI (1 + (y % 30))) 999).1 od sn) (kSn (bPass C (nI (1 + (y % 30))) 999).1 sn)) (wr := [(ug, .inl (K.2.1.2.1, 8, .inl G1)), (uf, .inl (K.2.1.2.1, 60, .inl F1)), (ud, .inl (K.2.1.2.1, 56, .inl D)), (uh, .inl (K.2.1.2.1, 48, .inl H1)), (uv, .inl (K.2.1.2.1, 48, .inl V1)), (uj, .inl (K.2.1.2.1, 48, .inl J1)), (uq, .inl (K.2.1.2.1, 48, .inl Q1))]) hB (k_pass l K ad C R od sn (nI (1 + (y % 30))) ho hsn) mX4_pass dL_acts_1207 tb_475 pX4_pass ⟨Nat.le_of_ble_eq_true rfl, Nat.le_of_ble_eq_true rfl⟩ ⟨rfl, rfl⟩ ⟨Nat.le_of_ble_eq_true rfl, Nat.le_of_ble_eq_true rfl⟩ rfl (Nat.le_of_ble_eq_true rfl) (List.range 23) (List.range' 23 7) rfl rfl (by decide) (by decide) (by decide) rfl rfl (List.range' 7 23 ++ List.range 7) (by decide) rfl ?_
                              have hs3 : HS G1 F1 D H1 V1 J1 Q1 (mGoM S c e (1 + (y % 30))).2.2 a b (mGoM S c e (1 + (y % 30))).2.1 e := by rw [← hz1173]; exact hs
                              obtain ⟨e_0, hI⟩ := t_ps_ok (m := 1 + (y % 30)) h0 ⟨by omega, by omega⟩ c_18 hs3
                              have e_1 := e_0.trans (show (mGoM S c e (1 + (y % 30))).1 = mn by rw [hm, hz1173])
                              refine gx_top (x := (bPass C (nI (1 + (y % 30))) 999).1) (y := mn) e_1 ?_
                              refine gx_iload (pc := 1210) hB dL_acts_1210 14 rfl ?_
                              refine gx_icmp_ne (pc := 1212) hB 1219 dL_acts_1212 (by decide) (fun c_20 => ?_) (fun c_20 => ?_)
                              · exact absurd rfl c_20
                              · refine gx_iconst (pc := 1215) hB dL_acts_1215 1 (by decide) ?_
                                refine gx_goto (pc := 1216) hB 1220 dL_acts_1216 (by decide) ?_
                                exact gx_zret (pc := 1220) hC dL_acts_1220 (Nat.zero_le _) (Nat.zero_le _) (by decide) ⟨rfl, _, _, _, _, _, _, _, _, _, _, _, rfl, hI⟩
                            · exact absurd (lpTn (c := 1 + (y % 30)) (by omega) hi1173) c_19
                          | succ dq ih1173 =>
                            intro i mn G1 F1 H1 V1 J1 Q1 hi1173 hs hm
                            have hi : i < 1 + (y % 30) := by omega
                            refine gx_iload (pc := 1173) hB dL_acts_1173 15 rfl ?_
                            refine gx_iload (pc := 1175) hB dL_acts_1175 13 rfl ?_
                            refine gx_icmp_ge (pc := 1177) hB 1204 dL_acts_1177 (by decide) (fun c_21 => ?_) (fun c_21 => ?_)
                            · exact absurd c_21 (lpFn (c := 1 + (y % 30)) (by omega) hi1173)
                            · refine gx_iload (pc := 1180) hB dL_acts_1180 14 rfl ?_
                              refine gx_aload_n (pc := 1182) hB dL_acts_1182 1 rfl ?_
                              refine gx_aload_n (pc := 1183) hB dL_acts_1183 2 rfl ?_
                              refine gx_aload (pc := 1184) hB dL_acts_1184 4 rfl ?_
                              refine gx_aload (pc := 1186) hB dL_acts_1186 5 rfl ?_
                              refine gx_aload (pc := 1188) hB dL_acts_1188 6 rfl ?_
                              refine gx_aload (pc := 1190) hB dL_acts_1190 7 rfl ?_
                              refine gx_callS (pc := 1192) (wr := (wZ K ad C R od sn ++ [(ud, .inl (K.2.1.2.1, 56, .inl D))])) hB (c_L_month l K ug uf uh uv uj uq (bMonths C i) G1 F1 D H1 V1 J1 Q1 ((mGoM S c e i).2.2) a b ((mGoM S c e i).2.1) e (Rx_w (Rx_months h0.1 i (by omega)).1 (by omega)) hs) mL_month dL_acts_1192 tb_487 pL_month ⟨Nat.le_of_ble_eq_true rfl, Nat.le_of_ble_eq_true rfl, Nat.le_of_ble_eq_true rfl, Nat.le_of_ble_eq_true rfl⟩ (rest := [.int mn]) rfl (Nat.le_of_ble_eq_true rfl) [23, 24, 26, 27, 28, 29] [0, 1, 2, 3, 4, 5, 6, 7, 8, 9, 10, 11, 12, 13, 14, 15, 16, 17, 18, 19, 20, 21, 22, 25] rfl rfl (by decide) (by decide) (by decide) (fun v1192 w1192 hp1192 => ?_)
                              obtain ⟨G2, F2, H2, V2, J2, Q2, rfl, rfl, hs2⟩ := hp1192
                              refine gx_kn (k' := 0) (n' := 0) rfl rfl ?_
                              refine gx_st (st' := [.int ((mGoK (upd (mGoM S c e i).2.2 6 ((mGoM S c e i).2.2 6 + 1)) (mGoM S c e i).2.1 e).1), .int mn]) rfl ?_
                              refine gx_perm hB (ws' := (wZ K ad C R od sn ++ [(ug, .inl (K.2.1.2.1, 8, .inl G2)), (uf, .inl (K.2.1.2.1, 60, .inl F2)), (ud, .inl (K.2.1.2.1, 56, .inl D)), (uh, .inl (K.2.1.2.1, 48, .inl H2)), (uv, .inl (K.2.1.2.1, 48, .inl V2)), (uj, .inl (K.2.1.2.1, 48, .inl J2)), (uq, .inl (K.2.1.2.1, 48, .inl Q2))])) [0, 1, 2, 3, 4, 5, 6, 7, 8, 9, 10, 11, 12, 13, 14, 15, 16, 17, 18, 19, 20, 21, 22, 24, 25, 23, 26, 27, 28, 29] (by decide) rfl ?_
                              refine gx_iadd (pc := 1195) hB dL_acts_1195 ?_
                              refine gx_istore (pc := 1196) hB dL_acts_1196 (by decide) [(14, .int (mn + ((mGoK (upd (mGoM S c e i).2.2 6 ((mGoM S c e i).2.2 6 + 1)) (mGoM S c e i).2.1 e).1))), (0, .ref (ad 0)), (1, .ref ug), (2, .ref uf), (3, .ref ud), (4, .ref uh), (5, .ref uv), (6, .ref uj), (7, .ref uq), (8, .int z), (9, .int (nI y)), (10, .int (nI w)), (11, .int (nI p)), (12, .int (nI q)), (13, .int (nI (1 + (y % 30)))), (15, .int (nI i))] rfl ?_
                              refine gx_iinc (pc := 1198) hB dL_acts_1198 15 (by decide) rfl (nI (i + 1)) (nI_1 _) [(15, .int (nI (i + 1))), (14, .int (mn + ((mGoK (upd (mGoM S c e i).2.2 6 ((mGoM S c e i).2.2 6 + 1)) (mGoM S c e i).2.1 e).1))), (0, .ref (ad 0)), (1, .ref ug), (2, .ref uf), (3, .ref ud), (4, .ref uh), (5, .ref uv), (6, .ref uj), (7, .ref uq), (8, .int z), (9, .int (nI y)), (10, .int (nI w)), (11, .int (nI p)), (12, .int (nI q)), (13, .int (nI (1 + (y % 30))))] rfl ?_
                              refine gx_goto (pc := 1201) hB 1173 dL_acts_1201 (by decide) ?_
                              refine gx_sub hB (lv' := [(0, .ref (ad 0)), (1, .ref ug), (2, .ref uf), (3, .ref ud), (4, .ref uh), (5, .ref uv), (6, .ref uj), (7, .ref uq), (8, .int z), (9, .int (nI y)), (10, .int (nI w)), (11, .int (nI p)), (12, .int (nI q)), (13, .int (nI (1 + (y % 30)))), (14, .int (mn + ((mGoK (upd (mGoM S c e i).2.2 6 ((mGoM S c e i).2.2 6 + 1)) (mGoM S c e i).2.1 e).1))), (15, .int (nI (i + 1)))]) [2, 3, 4, 5, 6, 7, 8, 9, 10, 11, 12, 13, 14, 15, 1, 0] rfl ?_
                              exact ih1173 (i + 1) (mn + ((mGoK (upd (mGoM S c e i).2.2 6 ((mGoM S c e i).2.2 6 + 1)) (mGoM S c e i).2.1 e).1)) G2 F2 H2 V2 J2 Q2 (by omega) hs2 (by rw [hm]; rfl)
                        refine gx_sub hB (lv' := [(0, .ref (ad 0)), (1, .ref ug), (2, .ref uf), (3, .ref ud), (4, .ref uh), (5, .ref uv), (6, .ref uj), (7, .ref uq), (8, .int z), (9, .int (nI y)), (10, .int (nI w)), (11, .int (nI p)), (12, .int (nI q)), (13, .int (nI (1 + (y % 30)))), (14, .int 0), (15, .int 0)]) [7, 8, 9, 10, 11, 12, 13, 14, 15, 6, 5, 4, 3, 2, 1, 0] rfl ?_
                        exact loop_1173 (1 + (y % 30)) 0 0 G F H V J Q (by omega) h0.2.1 rfl
                      · refine gx_aload_n (pc := 1153) hB dL_acts_1153 6 rfl ?_
                        refine gx_iload (pc := 1154) hB dL_acts_1154 1 rfl ?_
                        refine gx_dVA (pc := 1156) (r := (bPass C (nI (1 + (y % 30))) 999).1) (W1 := wZ K ad ((bPass C (nI (1 + (y % 30))) 999).2) (kR C R od sn) (kOd (bPass C (nI (1 + (y % 30))) 999).1 od sn) (kSn (bPass C (nI (1 + (y % 30))) 999).1 sn)) (wr := [(ug, .inl (K.2.1.2.1, 8, .inl G)), (uf, .inl (K.2.1.2.1, 60, .inl F)), (ud, .inl (K.2.1.2.1, 56, .inl D)), (uh, .inl (K.2.1.2.1, 48, .inl H)), (uv, .inl (K.2.1.2.1, 48, .inl V)), (uj, .inl (K.2.1.2.1, 48, .inl J)), (uq, .inl (K.2.1.2.1, 48, .inl Q))]) hB (k_pass l K ad C R od sn (nI (1 + (y % 30))) ho hsn) mX4_pass dL_acts_1156 tb_475 pX4_pass ⟨Nat.le_of_ble_eq_true rfl, Nat.le_of_ble_eq_true rfl⟩ ⟨rfl, rfl⟩ ⟨Nat.le_of_ble_eq_true rfl, Nat.le_of_ble_eq_true rfl⟩ rfl (Nat.le_of_ble_eq_true rfl) (List.range 23) (List.range' 23 7) rfl rfl (by decide) (by decide) (by decide) rfl rfl (List.range' 7 23 ++ List.range 7) (by decide) rfl ?_
                        obtain ⟨e_1, hI⟩ := t_ps_no (m := 1 + (y % 30)) h0 ⟨by omega, by omega⟩ c_18
                        refine gx_top (x := (bPass C (nI (1 + (y % 30))) 999).1) (y := (-3)) e_1 ?_
                        refine gx_bipush (pc := 1159) hB dL_acts_1159 (-3) (by decide) ?_
                        refine gx_icmp_ne (pc := 1161) hB 1168 dL_acts_1161 (by decide) (fun c_22 => ?_) (fun c_22 => ?_)
                        · exact absurd c_22 (by decide)
                        · refine gx_iconst (pc := 1164) hB dL_acts_1164 1 (by decide) ?_
                          refine gx_goto (pc := 1165) hB 1169 dL_acts_1165 (by decide) ?_
                          exact gx_zret (pc := 1169) hC dL_acts_1169 (Nat.zero_le _) (Nat.zero_le _) (by decide) ⟨rfl, _, _, _, _, _, _, _, _, _, _, _, rfl, hI⟩
                  · refine gx_iload (pc := 1042) hB dL_acts_1042 3 rfl ?_
                    refine gx_iconst (pc := 1044) hB dL_acts_1044 2 (by decide) ?_
                    refine gx_irem (pc := 1045) hB dL_acts_1045 (by decide) ?_
                    refine gx_top (show nI y - nI y / 2 * 2 = nI (y % 2) from pk_rem (a := y) (d := 2) (by omega) (by omega) (by omega)) ?_
                    rcases (show y % 2 = 0 ∨ y % 2 = 1 by omega) with z2 | z2
                    · refine gx_top (show nI (y % 2) = 0 by rw [z2]; rfl) ?_
                      refine gx_istore (pc := 1046) hB dL_acts_1046 (by decide) [(13, .int 0), (12, .int (nI q)), (11, .int (nI p)), (10, .int (nI w)), (9, .int (nI y)), (0, .ref (ad 0)), (1, .ref ug), (2, .ref uf), (3, .ref ud), (4, .ref uh), (5, .ref uv), (6, .ref uj), (7, .ref uq), (8, .int z)] rfl ?_
                      refine gx_aload_n (pc := 1048) hB dL_acts_1048 6 rfl ?_
                      refine gx_iload (pc := 1049) hB dL_acts_1049 0 rfl ?_
                      refine gx_iald (pc := 1051) hB dL_acts_1051 23 1 rfl rfl 0 rfl (by decide) (by decide) ?_
                      refine gx_istore (pc := 1052) hB dL_acts_1052 (by decide) [(14, .int (G 0)), (13, .int 0), (12, .int (nI q)), (11, .int (nI p)), (10, .int (nI w)), (9, .int (nI y)), (0, .ref (ad 0)), (1, .ref ug), (2, .ref uf), (3, .ref ud), (4, .ref uh), (5, .ref uv), (6, .ref uj), (7, .ref uq), (8, .int z)] rfl ?_
                      refine gx_aload_n (pc := 1054) hB dL_acts_1054 7 rfl ?_
                      refine gx_iload (pc := 1055) hB dL_acts_1055 1 rfl ?_
                      refine gx_iload (pc := 1057) hB dL_acts_1057 1 rfl ?_
                      refine gx_if_ne (pc := 1059) hB 1074 dL_acts_1059 (by decide) (fun c_23 => ?_) (fun c_23 => ?_)
                      · exact absurd c_23 (by decide)
                      · refine gx_iconst (pc := 1062) hB dL_acts_1062 1 (by decide) ?_
                        refine gx_iload (pc := 1063) hB dL_acts_1063 5 rfl ?_
                        refine gx_iconst (pc := 1065) hB dL_acts_1065 2 (by decide) ?_
                        refine gx_idiv (pc := 1066) hB dL_acts_1066 (by decide) ?_
                        refine gx_top (show nI y / 2 = nI (y / 2) from pk_div (a := y) (d := 2) (by omega) (by omega) (by omega)) ?_
                        refine gx_bipush (pc := 1067) hB dL_acts_1067 100 (by decide) ?_
                        refine gx_irem (pc := 1069) hB dL_acts_1069 (by decide) ?_
                        refine gx_top (show (nI (y / 2)) - (nI (y / 2)) / 100 * 100 = nI ((y / 2) % 100) from pk_rem (a := y / 2) (d := 100) (by omega) (by omega) (by omega)) ?_
                        refine gx_iadd (pc := 1070) hB dL_acts_1070 ?_
                        refine gx_top (show 1 + (nI ((y / 2) % 100)) = nI (1 + ((y / 2) % 100)) from nI_add 1 ((y / 2) % 100)) ?_
                        refine gx_goto (pc := 1071) hB 1095 dL_acts_1071 (by decide) ?_
                        refine gx_iast (pc := 1095) hB dL_acts_1095 23 1 rfl rfl 0 rfl (by decide) (by decide) ((wZ K ad C R od sn ++ [(ug, .inl (K.2.1.2.1, 8, .inl (upd G 0 (nI (1 + ((y / 2) % 100)))))), (uf, .inl (K.2.1.2.1, 60, .inl F)), (ud, .inl (K.2.1.2.1, 56, .inl D)), (uh, .inl (K.2.1.2.1, 48, .inl H)), (uv, .inl (K.2.1.2.1, 48, .inl V)), (uj, .inl (K.2.1.2.1, 48, .inl J)), (uq, .inl (K.2.1.2.1, 48, .inl Q))])) rfl ?_
                        refine gx_aload_n (pc := 1096) hB dL_acts_1096 6 rfl ?_
                        refine gx_iload (pc := 1097) hB dL_acts_1097 1 rfl ?_
                        refine gx_aload_n (pc := 1099) hB dL_acts_1099 7 rfl ?_
                        refine gx_iload (pc := 1100) hB dL_acts_1100 1 rfl ?_
                        refine gx_iald (pc := 1102) hB dL_acts_1102 23 1 rfl rfl 0 rfl (by decide) (by decide) ?_
                        refine gx_top (show (upd G 0 (nI (1 + ((y / 2) % 100)))) 0 = nI (1 + ((y / 2) % 100)) from pk_us) ?_
                        refine gx_dVA (pc := 1103) (r := (bSet C 0 (nI (1 + ((y / 2) % 100)))).1) (W1 := wZ K ad ((bSet C 0 (nI (1 + ((y / 2) % 100)))).2) (kR C R od sn) (kOd (bSet C 0 (nI (1 + ((y / 2) % 100)))).1 od sn) (kSn (bSet C 0 (nI (1 + ((y / 2) % 100)))).1 sn)) (wr := [(ug, .inl (K.2.1.2.1, 8, .inl (upd G 0 (nI (1 + ((y / 2) % 100)))))), (uf, .inl (K.2.1.2.1, 60, .inl F)), (ud, .inl (K.2.1.2.1, 56, .inl D)), (uh, .inl (K.2.1.2.1, 48, .inl H)), (uv, .inl (K.2.1.2.1, 48, .inl V)), (uj, .inl (K.2.1.2.1, 48, .inl J)), (uq, .inl (K.2.1.2.1, 48, .inl Q))]) hB (k_set l K ad C R od sn 0 (nI (1 + ((y / 2) % 100))) ho hsn) mX4_set dL_acts_1103 tb_466 pX4_set ⟨Nat.le_of_ble_eq_true rfl, Nat.le_of_ble_eq_true rfl⟩ ⟨rfl, rfl⟩ ⟨Nat.le_of_ble_eq_true rfl, Nat.le_of_ble_eq_true rfl⟩ rfl (Nat.le_of_ble_eq_true rfl) (List.range 23) (List.range' 23 7) rfl rfl (by decide) (by decide) (by decide) rfl rfl (List.range' 7 23 ++ List.range 7) (by decide) rfl ?_
                        obtain ⟨e_1, hI⟩ := t_set0 (m := 1 + ((y / 2) % 100)) h0 ⟨by omega, by omega⟩
                        refine gx_top (x := (bSet C 0 (nI (1 + ((y / 2) % 100)))).1) (y := G 0) e_1 ?_
                        refine gx_iload (pc := 1106) hB dL_acts_1106 0 rfl ?_
                        refine gx_icmp_ne (pc := 1108) hB 1115 dL_acts_1108 (by decide) (fun c_24 => ?_) (fun c_24 => ?_)
                        · exact absurd rfl c_24
                        · refine gx_iconst (pc := 1111) hB dL_acts_1111 1 (by decide) ?_
                          refine gx_goto (pc := 1112) hB 1116 dL_acts_1112 (by decide) ?_
                          exact gx_zret (pc := 1116) hC dL_acts_1116 (Nat.zero_le _) (Nat.zero_le _) (by decide) ⟨rfl, _, _, _, _, _, _, _, _, _, _, _, rfl, hI⟩
                    · refine gx_top (show nI (y % 2) = 1 by rw [z2]; rfl) ?_
                      refine gx_istore (pc := 1046) hB dL_acts_1046 (by decide) [(13, .int 1), (12, .int (nI q)), (11, .int (nI p)), (10, .int (nI w)), (9, .int (nI y)), (0, .ref (ad 0)), (1, .ref ug), (2, .ref uf), (3, .ref ud), (4, .ref uh), (5, .ref uv), (6, .ref uj), (7, .ref uq), (8, .int z)] rfl ?_
                      refine gx_aload_n (pc := 1048) hB dL_acts_1048 6 rfl ?_
                      refine gx_iload (pc := 1049) hB dL_acts_1049 0 rfl ?_
                      refine gx_iald (pc := 1051) hB dL_acts_1051 23 1 rfl rfl 1 rfl (by decide) (by decide) ?_
                      refine gx_istore (pc := 1052) hB dL_acts_1052 (by decide) [(14, .int (G 1)), (13, .int 1), (12, .int (nI q)), (11, .int (nI p)), (10, .int (nI w)), (9, .int (nI y)), (0, .ref (ad 0)), (1, .ref ug), (2, .ref uf), (3, .ref ud), (4, .ref uh), (5, .ref uv), (6, .ref uj), (7, .ref uq), (8, .int z)] rfl ?_
                      refine gx_aload_n (pc := 1054) hB dL_acts_1054 7 rfl ?_
                      refine gx_iload (pc := 1055) hB dL_acts_1055 1 rfl ?_
                      refine gx_iload (pc := 1057) hB dL_acts_1057 1 rfl ?_
                      refine gx_if_ne (pc := 1059) hB 1074 dL_acts_1059 (by decide) (fun c_25 => ?_) (fun c_25 => ?_)
                      · refine gx_iload (pc := 1074) hB dL_acts_1074 5 rfl ?_
                        refine gx_iconst (pc := 1076) hB dL_acts_1076 2 (by decide) ?_
                        refine gx_idiv (pc := 1077) hB dL_acts_1077 (by decide) ?_
                        refine gx_top (show nI y / 2 = nI (y / 2) from pk_div (a := y) (d := 2) (by omega) (by omega) (by omega)) ?_
                        refine gx_iload (pc := 1078) hB dL_acts_1078 5 rfl ?_
                        refine gx_iconst (pc := 1080) hB dL_acts_1080 4 (by decide) ?_
                        refine gx_irem (pc := 1081) hB dL_acts_1081 (by decide) ?_
                        refine gx_top (show nI y - nI y / 4 * 4 = nI (y % 4) from pk_rem (a := y) (d := 4) (by omega) (by omega) (by omega)) ?_
                        refine gx_iconst (pc := 1082) hB dL_acts_1082 1 (by decide) ?_
                        refine gx_icmp_ne (pc := 1083) hB 1092 dL_acts_1083 (by decide) (fun c_26 => ?_) (fun c_26 => ?_)
                        · refine gx_ldc (pc := 1092) hB dL_acts_1092 tb_465 ?_
                          refine gx_irem (pc := 1094) hB dL_acts_1094 (by decide) ?_
                          refine gx_top (show (nI (y / 2)) - (nI (y / 2)) / 99999 * 99999 = nI ((y / 2) % 99999) from pk_rem (a := y / 2) (d := 99999) (by omega) (by omega) (by omega)) ?_
                          refine gx_iast (pc := 1095) hB dL_acts_1095 23 1 rfl rfl 1 rfl (by decide) (by decide) ((wZ K ad C R od sn ++ [(ug, .inl (K.2.1.2.1, 8, .inl (upd G 1 (nI ((y / 2) % 99999))))), (uf, .inl (K.2.1.2.1, 60, .inl F)), (ud, .inl (K.2.1.2.1, 56, .inl D)), (uh, .inl (K.2.1.2.1, 48, .inl H)), (uv, .inl (K.2.1.2.1, 48, .inl V)), (uj, .inl (K.2.1.2.1, 48, .inl J)), (uq, .inl (K.2.1.2.1, 48, .inl Q))])) rfl ?_
                          refine gx_aload_n (pc := 1096) hB dL_acts_1096 6 rfl ?_
                          refine gx_iload (pc := 1097) hB dL_acts_1097 1 rfl ?_
                          refine gx_aload_n (pc := 1099) hB dL_acts_1099 7 rfl ?_
                          refine gx_iload (pc := 1100) hB dL_acts_1100 1 rfl ?_
                          refine gx_iald (pc := 1102) hB dL_acts_1102 23 1 rfl rfl 1 rfl (by decide) (by decide) ?_
                          refine gx_top (show (upd G 1 (nI ((y / 2) % 99999))) 1 = nI ((y / 2) % 99999) from pk_us) ?_
                          refine gx_dVA (pc := 1103) (r := (bSet C 1 (nI ((y / 2) % 99999))).1) (W1 := wZ K ad ((bSet C 1 (nI ((y / 2) % 99999))).2) (kR C R od sn) (kOd (bSet C 1 (nI ((y / 2) % 99999))).1 od sn) (kSn (bSet C 1 (nI ((y / 2) % 99999))).1 sn)) (wr := [(ug, .inl (K.2.1.2.1, 8, .inl (upd G 1 (nI ((y / 2) % 99999))))), (uf, .inl (K.2.1.2.1, 60, .inl F)), (ud, .inl (K.2.1.2.1, 56, .inl D)), (uh, .inl (K.2.1.2.1, 48, .inl H)), (uv, .inl (K.2.1.2.1, 48, .inl V)), (uj, .inl (K.2.1.2.1, 48, .inl J)), (uq, .inl (K.2.1.2.1, 48, .inl Q))]) hB (k_set l K ad C R od sn 1 (nI ((y / 2) % 99999)) ho hsn) mX4_set dL_acts_1103 tb_466 pX4_set ⟨Nat.le_of_ble_eq_true rfl, Nat.le_of_ble_eq_true rfl⟩ ⟨rfl, rfl⟩ ⟨Nat.le_of_ble_eq_true rfl, Nat.le_of_ble_eq_true rfl⟩ rfl (Nat.le_of_ble_eq_true rfl) (List.range 23) (List.range' 23 7) rfl rfl (by decide) (by decide) (by decide) rfl rfl (List.range' 7 23 ++ List.range 7) (by decide) rfl ?_
                          obtain ⟨e_1, hI⟩ := t_set1 (m := (y / 2) % 99999) h0 (by omega)
                          refine gx_top (x := (bSet C 1 (nI ((y / 2) % 99999))).1) (y := G 1) e_1 ?_
                          refine gx_iload (pc := 1106) hB dL_acts_1106 0 rfl ?_
                          refine gx_icmp_ne (pc := 1108) hB 1115 dL_acts_1108 (by decide) (fun c_27 => ?_) (fun c_27 => ?_)
                          · exact absurd rfl c_27
                          · refine gx_iconst (pc := 1111) hB dL_acts_1111 1 (by decide) ?_
                            refine gx_goto (pc := 1112) hB 1116 dL_acts_1112 (by decide) ?_
                            exact gx_zret (pc := 1116) hC dL_acts_1116 (Nat.zero_le _) (Nat.zero_le _) (by decide) ⟨rfl, _, _, _, _, _, _, _, _, _, _, _, rfl, hI⟩
                        · refine gx_sipush (pc := 1086) hB dL_acts_1086 1500 (by decide) ?_
                          refine gx_goto (pc := 1089) hB 1094 dL_acts_1089 (by decide) ?_
                          refine gx_irem (pc := 1094) hB dL_acts_1094 (by decide) ?_
                          refine gx_top (show (nI (y / 2)) - (nI (y / 2)) / 1500 * 1500 = nI ((y / 2) % 1500) from pk_rem (a := y / 2) (d := 1500) (by omega) (by omega) (by omega)) ?_
                          refine gx_iast (pc := 1095) hB dL_acts_1095 23 1 rfl rfl 1 rfl (by decide) (by decide) ((wZ K ad C R od sn ++ [(ug, .inl (K.2.1.2.1, 8, .inl (upd G 1 (nI ((y / 2) % 1500))))), (uf, .inl (K.2.1.2.1, 60, .inl F)), (ud, .inl (K.2.1.2.1, 56, .inl D)), (uh, .inl (K.2.1.2.1, 48, .inl H)), (uv, .inl (K.2.1.2.1, 48, .inl V)), (uj, .inl (K.2.1.2.1, 48, .inl J)), (uq, .inl (K.2.1.2.1, 48, .inl Q))])) rfl ?_
                          refine gx_aload_n (pc := 1096) hB dL_acts_1096 6 rfl ?_
                          refine gx_iload (pc := 1097) hB dL_acts_1097 1 rfl ?_
                          refine gx_aload_n (pc := 1099) hB dL_acts_1099 7 rfl ?_
                          refine gx_iload (pc := 1100) hB dL_acts_1100 1 rfl ?_
                          refine gx_iald (pc := 1102) hB dL_acts_1102 23 1 rfl rfl 1 rfl (by decide) (by decide) ?_
                          refine gx_top (show (upd G 1 (nI ((y / 2) % 1500))) 1 = nI ((y / 2) % 1500) from pk_us) ?_
                          refine gx_dVA (pc := 1103) (r := (bSet C 1 (nI ((y / 2) % 1500))).1) (W1 := wZ K ad ((bSet C 1 (nI ((y / 2) % 1500))).2) (kR C R od sn) (kOd (bSet C 1 (nI ((y / 2) % 1500))).1 od sn) (kSn (bSet C 1 (nI ((y / 2) % 1500))).1 sn)) (wr := [(ug, .inl (K.2.1.2.1, 8, .inl (upd G 1 (nI ((y / 2) % 1500))))), (uf, .inl (K.2.1.2.1, 60, .inl F)), (ud, .inl (K.2.1.2.1, 56, .inl D)), (uh, .inl (K.2.1.2.1, 48, .inl H)), (uv, .inl (K.2.1.2.1, 48, .inl V)), (uj, .inl (K.2.1.2.1, 48, .inl J)), (uq, .inl (K.2.1.2.1, 48, .inl Q))]) hB (k_set l K ad C R od sn 1 (nI ((y / 2) % 1500)) ho hsn) mX4_set dL_acts_1103 tb_466 pX4_set ⟨Nat.le_of_ble_eq_true rfl, Nat.le_of_ble_eq_true rfl⟩ ⟨rfl, rfl⟩ ⟨Nat.le_of_ble_eq_true rfl, Nat.le_of_ble_eq_true rfl⟩ rfl (Nat.le_of_ble_eq_true rfl) (List.range 23) (List.range' 23 7) rfl rfl (by decide) (by decide) (by decide) rfl rfl (List.range' 7 23 ++ List.range 7) (by decide) rfl ?_
                          obtain ⟨e_1, hI⟩ := t_set1 (m := (y / 2) % 1500) h0 (by omega)
                          refine gx_top (x := (bSet C 1 (nI ((y / 2) % 1500))).1) (y := G 1) e_1 ?_
                          refine gx_iload (pc := 1106) hB dL_acts_1106 0 rfl ?_
                          refine gx_icmp_ne (pc := 1108) hB 1115 dL_acts_1108 (by decide) (fun c_28 => ?_) (fun c_28 => ?_)
                          · exact absurd rfl c_28
                          · refine gx_iconst (pc := 1111) hB dL_acts_1111 1 (by decide) ?_
                            refine gx_goto (pc := 1112) hB 1116 dL_acts_1112 (by decide) ?_
                            exact gx_zret (pc := 1116) hC dL_acts_1116 (Nat.zero_le _) (Nat.zero_le _) (by decide) ⟨rfl, _, _, _, _, _, _, _, _, _, _, _, rfl, hI⟩
                      · exact absurd c_25 (by decide)
                · refine gx_aload_n (pc := 835) hB dL_acts_835 5 rfl ?_
                  refine gx_iconst (pc := 836) hB dL_acts_836 4 (by decide) ?_
                  refine gx_iald (pc := 837) hB dL_acts_837 23 1 rfl rfl 4 rfl (by decide) (by decide) ?_
                  refine gx_top (show G 4 = nI c from h0.2.1.1.2.2.2.2.1) ?_
                  refine gx_if_ne (pc := 838) hB 856 dL_acts_838 (by decide) (fun c_29 => ?_) (fun c_29 => ?_)
                  · have hc0 : 0 < c := Nat.pos_of_ne_zero (fun z => c_29 (by rw [z]; rfl))
                    refine gx_iload (pc := 856) hB dL_acts_856 3 rfl ?_
                    refine gx_aload_n (pc := 858) hB dL_acts_858 5 rfl ?_
                    refine gx_iconst (pc := 859) hB dL_acts_859 4 (by decide) ?_
                    refine gx_iald (pc := 860) hB dL_acts_860 23 1 rfl rfl 4 rfl (by decide) (by decide) ?_
                    refine gx_top (show G 4 = nI c from h0.2.1.1.2.2.2.2.1) ?_
                    refine gx_irem (pc := 861) hB dL_acts_861 (nI_ne0 (n := c) (by omega) (by omega)) ?_
                    refine gx_top (show nI y - nI y / nI c * nI c = nI (y % c) from pk_rem (a := y) (d := c) (by omega) (by omega) (by omega)) ?_
                    obtain ⟨i, hi, ei⟩ : ∃ zz : Nat, zz < c ∧ nI (y % c) = nI zz := ⟨_, Nat.mod_lt _ (by omega), rfl⟩
                    refine gx_top ei ?_
                    refine gx_istore (pc := 862) hB dL_acts_862 (by decide) [(13, .int (nI i)), (12, .int (nI q)), (11, .int (nI p)), (10, .int (nI w)), (9, .int (nI y)), (0, .ref (ad 0)), (1, .ref ug), (2, .ref uf), (3, .ref ud), (4, .ref uh), (5, .ref uv), (6, .ref uj), (7, .ref uq), (8, .int z)] rfl ?_
                    obtain ⟨u, hu, eu⟩ := (h0.1.2.1.2.1 i hi).2
                    refine gx_aload_n (pc := 864) hB dL_acts_864 7 rfl ?_
                    refine gx_aload (pc := 865) hB dL_acts_865 9 rfl ?_
                    refine gx_iconst (pc := 867) hB dL_acts_867 2 (by decide) ?_
                    refine gx_iload (pc := 868) hB dL_acts_868 0 rfl ?_
                    refine gx_imul (pc := 870) hB dL_acts_870 ?_
                    refine gx_top (show 2 * nI i = nI (2 * i) from pk_mul 2 i) ?_
                    refine gx_iconst (pc := 871) hB dL_acts_871 1 (by decide) ?_
                    refine gx_iadd (pc := 872) hB dL_acts_872 ?_
                    refine gx_top (show (nI (2 * i)) + 1 = nI (2 * i + 1) from nI_add (2 * i) 1) ?_
                    refine gx_iald (pc := 873) hB dL_acts_873 26 1 rfl rfl (2 * i + 1) rfl (by omega) (by decide) ?_
                    refine gx_top (show H (2 * i + 1) = nI u from (h0.2.1.2.2.2.1 i hi).1.2.1.trans eu) ?_
                    refine gx_dSi (pc := 874) (r := nI (sHome S u)) (wr := (wZ K ad C R od sn ++ [(ug, .inl (K.2.1.2.1, 8, .inl G)), (ud, .inl (K.2.1.2.1, 56, .inl D)), (uh, .inl (K.2.1.2.1, 48, .inl H)), (uv, .inl (K.2.1.2.1, 48, .inl V)), (uj, .inl (K.2.1.2.1, 48, .inl J)), (uq, .inl (K.2.1.2.1, 48, .inl Q))])) hB (c_L_home l K uf F S a b c e u h0.1.2.1 (fun q hq => h0.2.1.2.1 q hq 9 (by omega)) (by first | assumption | omega | decide)) mL_home dL_acts_874 tb_326 pL_home ⟨Nat.le_of_ble_eq_true rfl, Nat.le_of_ble_eq_true rfl⟩ ⟨rfl, rfl⟩ ⟨Nat.le_of_ble_eq_true rfl, Nat.le_of_ble_eq_true rfl⟩ rfl (Nat.le_of_ble_eq_true rfl) [24] [0, 1, 2, 3, 4, 5, 6, 7, 8, 9, 10, 11, 12, 13, 14, 15, 16, 17, 18, 19, 20, 21, 22, 23, 25, 26, 27, 28, 29] rfl rfl (by decide) (by decide) (by decide) [0, 1, 2, 3, 4, 5, 6, 7, 8, 9, 10, 11, 12, 13, 14, 15, 16, 17, 18, 19, 20, 21, 22, 23, 29, 24, 25, 26, 27, 28] (by decide) ((wZ K ad C R od sn ++ [(ug, .inl (K.2.1.2.1, 8, .inl G)), (uf, .inl (K.2.1.2.1, 60, .inl F)), (ud, .inl (K.2.1.2.1, 56, .inl D)), (uh, .inl (K.2.1.2.1, 48, .inl H)), (uv, .inl (K.2.1.2.1, 48, .inl V)), (uj, .inl (K.2.1.2.1, 48, .inl J)), (uq, .inl (K.2.1.2.1, 48, .inl Q))])) rfl ?_
                    obtain ⟨r, hr, er⟩ : ∃ zz : Nat, zz < a ∧ sHome S u = zz := ⟨_, sOk_home h0.1.2.1 hu, rfl⟩
                    refine gx_top (show nI (sHome S u) = nI r by rw [er]) ?_
                    refine gx_istore (pc := 877) hB dL_acts_877 (by decide) [(14, .int (nI r)), (13, .int (nI i)), (12, .int (nI q)), (11, .int (nI p)), (10, .int (nI w)), (9, .int (nI y)), (0, .ref (ad 0)), (1, .ref ug), (2, .ref uf), (3, .ref ud), (4, .ref uh), (5, .ref uv), (6, .ref uj), (7, .ref uq), (8, .int z)] rfl ?_
                    refine gx_aload (pc := 879) hB dL_acts_879 12 rfl ?_
                    refine gx_iconst (pc := 881) hB dL_acts_881 2 (by decide) ?_
                    refine gx_iload (pc := 882) hB dL_acts_882 1 rfl ?_
                    refine gx_imul (pc := 884) hB dL_acts_884 ?_
                    refine gx_top (show 2 * nI i = nI (2 * i) from pk_mul 2 i) ?_
                    refine gx_iald (pc := 885) hB dL_acts_885 28 1 rfl rfl (2 * i) rfl (by omega) (by decide) ?_
                    refine gx_iconst (pc := 886) hB dL_acts_886 1 (by decide) ?_
                    refine gx_icmp_ne (pc := 887) hB 902 dL_acts_887 (by decide) (fun c_30 => ?_) (fun c_30 => ?_)
                    · refine gx_iconst (pc := 902) hB dL_acts_902 0 (by decide) ?_
                      refine gx_istore (pc := 903) hB dL_acts_903 (by decide) [(15, .int 0), (14, .int (nI r)), (13, .int (nI i)), (12, .int (nI q)), (11, .int (nI p)), (10, .int (nI w)), (9, .int (nI y)), (0, .ref (ad 0)), (1, .ref ug), (2, .ref uf), (3, .ref ud), (4, .ref uh), (5, .ref uv), (6, .ref uj), (7, .ref uq), (8, .int z)] rfl ?_
                      refine gx_aload (pc := 905) hB dL_acts_905 13 rfl ?_
                      refine gx_iconst (pc := 907) hB dL_acts_907 2 (by decide) ?_
                      refine gx_iload (pc := 908) hB dL_acts_908 2 rfl ?_
                      refine gx_imul (pc := 910) hB dL_acts_910 ?_
                      refine gx_top (show 2 * nI i = nI (2 * i) from pk_mul 2 i) ?_
                      refine gx_iald (pc := 911) hB dL_acts_911 28 1 rfl rfl (2 * i) rfl (by omega) (by decide) ?_
                      refine gx_iconst (pc := 912) hB dL_acts_912 1 (by decide) ?_
                      refine gx_icmp_gt (pc := 913) hB 936 dL_acts_913 (by decide) (fun c_31 => ?_) (fun c_31 => ?_)
                      · refine gx_aload_n (pc := 936) hB dL_acts_936 7 rfl ?_
                        refine gx_iload (pc := 937) hB dL_acts_937 2 rfl ?_
                        refine gx_dVA (pc := 939) (r := (bRefund C (nI i)).1) (W1 := wZ K ad ((bRefund C (nI i)).2) (kR C R od sn) (kOd (bRefund C (nI i)).1 od sn) (kSn (bRefund C (nI i)).1 sn)) (wr := [(ug, .inl (K.2.1.2.1, 8, .inl G)), (uf, .inl (K.2.1.2.1, 60, .inl F)), (ud, .inl (K.2.1.2.1, 56, .inl D)), (uh, .inl (K.2.1.2.1, 48, .inl H)), (uv, .inl (K.2.1.2.1, 48, .inl V)), (uj, .inl (K.2.1.2.1, 48, .inl J)), (uq, .inl (K.2.1.2.1, 48, .inl Q))]) hB (k_refund l K ad C R od sn (nI i) ho hsn) mX4_refund dL_acts_939 tb_457 pX4_refund ⟨Nat.le_of_ble_eq_true rfl, Nat.le_of_ble_eq_true rfl⟩ ⟨rfl, rfl⟩ ⟨Nat.le_of_ble_eq_true rfl, Nat.le_of_ble_eq_true rfl⟩ rfl (Nat.le_of_ble_eq_true rfl) (List.range 23) (List.range' 23 7) rfl rfl (by decide) (by decide) (by decide) rfl rfl (List.range' 7 23 ++ List.range 7) (by decide) rfl ?_
                        obtain ⟨e_1, hI⟩ := t_rf_no (t := 0) h0 hi eu hu er hr ((if_neg c_30).symm) (Or.inl (Int32.not_le.mpr c_31))
                        refine gx_top (x := (bRefund C (nI i)).1) (y := (-2)) e_1 ?_
                        refine gx_bipush (pc := 942) hB dL_acts_942 (-2) (by decide) ?_
                        refine gx_icmp_ne (pc := 944) hB 951 dL_acts_944 (by decide) (fun c_32 => ?_) (fun c_32 => ?_)
                        · exact absurd c_32 (by decide)
                        · refine gx_iconst (pc := 947) hB dL_acts_947 1 (by decide) ?_
                          refine gx_goto (pc := 948) hB 952 dL_acts_948 (by decide) ?_
                          exact gx_zret (pc := 952) hC dL_acts_952 (Nat.zero_le _) (Nat.zero_le _) (by decide) ⟨rfl, _, _, _, _, _, _, _, _, _, _, _, rfl, hI⟩
                      · refine gx_aload_n (pc := 916) hB dL_acts_916 9 rfl ?_
                        refine gx_bipush (pc := 917) hB dL_acts_917 10 (by decide) ?_
                        refine gx_iload (pc := 919) hB dL_acts_919 1 rfl ?_
                        refine gx_imul (pc := 921) hB dL_acts_921 ?_
                        refine gx_top (show 10 * nI r = nI (10 * r) from pk_mul 10 r) ?_
                        refine gx_iald (pc := 922) hB dL_acts_922 24 1 rfl rfl (10 * r) rfl (by omega) (by decide) ?_
                        refine gx_aload (pc := 923) hB dL_acts_923 12 rfl ?_
                        refine gx_iconst (pc := 925) hB dL_acts_925 2 (by decide) ?_
                        refine gx_iload (pc := 926) hB dL_acts_926 2 rfl ?_
                        refine gx_imul (pc := 928) hB dL_acts_928 ?_
                        refine gx_top (show 2 * nI i = nI (2 * i) from pk_mul 2 i) ?_
                        refine gx_iald (pc := 929) hB dL_acts_929 27 1 rfl rfl (2 * i) rfl (by omega) (by decide) ?_
                        refine gx_iload (pc := 930) hB dL_acts_930 0 rfl ?_
                        refine gx_iadd (pc := 932) hB dL_acts_932 ?_
                        refine gx_icmp_ge (pc := 933) hB 953 dL_acts_933 (by decide) (fun c_33 => ?_) (fun c_33 => ?_)
                        · refine gx_aload_n (pc := 953) hB dL_acts_953 9 rfl ?_
                          refine gx_bipush (pc := 954) hB dL_acts_954 10 (by decide) ?_
                          refine gx_iload (pc := 956) hB dL_acts_956 1 rfl ?_
                          refine gx_imul (pc := 958) hB dL_acts_958 ?_
                          refine gx_top (show 10 * nI r = nI (10 * r) from pk_mul 10 r) ?_
                          refine gx_dup2 (pc := 959) hB dL_acts_959 rfl rfl ?_
                          refine gx_iald (pc := 960) hB dL_acts_960 24 1 rfl rfl (10 * r) rfl (by omega) (by decide) ?_
                          refine gx_aload (pc := 961) hB dL_acts_961 12 rfl ?_
                          refine gx_iconst (pc := 963) hB dL_acts_963 2 (by decide) ?_
                          refine gx_iload (pc := 964) hB dL_acts_964 2 rfl ?_
                          refine gx_imul (pc := 966) hB dL_acts_966 ?_
                          refine gx_top (show 2 * nI i = nI (2 * i) from pk_mul 2 i) ?_
                          refine gx_iald (pc := 967) hB dL_acts_967 27 1 rfl rfl (2 * i) rfl (by omega) (by decide) ?_
                          refine gx_iload (pc := 968) hB dL_acts_968 0 rfl ?_
                          refine gx_iadd (pc := 970) hB dL_acts_970 ?_
                          refine gx_isub (pc := 971) hB dL_acts_971 ?_
                          refine gx_iast (pc := 972) hB dL_acts_972 24 1 rfl rfl (10 * r) rfl (by omega) (by decide) ((wZ K ad C R od sn ++ [(ug, .inl (K.2.1.2.1, 8, .inl G)), (uf, .inl (K.2.1.2.1, 60, .inl (upd F (10 * r) ((F (10 * r)) - ((V (2 * i)) + 0))))), (ud, .inl (K.2.1.2.1, 56, .inl D)), (uh, .inl (K.2.1.2.1, 48, .inl H)), (uv, .inl (K.2.1.2.1, 48, .inl V)), (uj, .inl (K.2.1.2.1, 48, .inl J)), (uq, .inl (K.2.1.2.1, 48, .inl Q))])) rfl ?_
                          refine gx_aload_n (pc := 973) hB dL_acts_973 9 rfl ?_
                          refine gx_bipush (pc := 974) hB dL_acts_974 10 (by decide) ?_
                          refine gx_iload (pc := 976) hB dL_acts_976 1 rfl ?_
                          refine gx_imul (pc := 978) hB dL_acts_978 ?_
                          refine gx_top (show 10 * nI r = nI (10 * r) from pk_mul 10 r) ?_
                          refine gx_iconst (pc := 979) hB dL_acts_979 5 (by decide) ?_
                          refine gx_iadd (pc := 980) hB dL_acts_980 ?_
                          refine gx_top (show (nI (10 * r)) + 5 = nI (10 * r + 5) from nI_add (10 * r) 5) ?_
                          refine gx_dup2 (pc := 981) hB dL_acts_981 rfl rfl ?_
                          refine gx_iald (pc := 982) hB dL_acts_982 24 1 rfl rfl (10 * r + 5) rfl (by omega) (by decide) ?_
                          refine gx_aload (pc := 983) hB dL_acts_983 12 rfl ?_
                          refine gx_iconst (pc := 985) hB dL_acts_985 2 (by decide) ?_
                          refine gx_iload (pc := 986) hB dL_acts_986 2 rfl ?_
                          refine gx_imul (pc := 988) hB dL_acts_988 ?_
                          refine gx_top (show 2 * nI i = nI (2 * i) from pk_mul 2 i) ?_
                          refine gx_iald (pc := 989) hB dL_acts_989 27 1 rfl rfl (2 * i) rfl (by omega) (by decide) ?_
                          refine gx_iadd (pc := 990) hB dL_acts_990 ?_
                          refine gx_iast (pc := 991) hB dL_acts_991 24 1 rfl rfl (10 * r + 5) rfl (by omega) (by decide) ((wZ K ad C R od sn ++ [(ug, .inl (K.2.1.2.1, 8, .inl G)), (uf, .inl (K.2.1.2.1, 60, .inl (upd (upd F (10 * r) ((F (10 * r)) - ((V (2 * i)) + 0))) (10 * r + 5) (((upd F (10 * r) ((F (10 * r)) - ((V (2 * i)) + 0))) (10 * r + 5)) + (V (2 * i)))))), (ud, .inl (K.2.1.2.1, 56, .inl D)), (uh, .inl (K.2.1.2.1, 48, .inl H)), (uv, .inl (K.2.1.2.1, 48, .inl V)), (uj, .inl (K.2.1.2.1, 48, .inl J)), (uq, .inl (K.2.1.2.1, 48, .inl Q))])) rfl ?_
                          refine gx_aload_n (pc := 992) hB dL_acts_992 9 rfl ?_
                          refine gx_bipush (pc := 993) hB dL_acts_993 10 (by decide) ?_
                          refine gx_iload (pc := 995) hB dL_acts_995 1 rfl ?_
                          refine gx_imul (pc := 997) hB dL_acts_997 ?_
                          refine gx_top (show 10 * nI r = nI (10 * r) from pk_mul 10 r) ?_
                          refine gx_bipush (pc := 998) hB dL_acts_998 6 (by decide) ?_
                          refine gx_iadd (pc := 1000) hB dL_acts_1000 ?_
                          refine gx_top (show (nI (10 * r)) + 6 = nI (10 * r + 6) from nI_add (10 * r) 6) ?_
                          refine gx_dup2 (pc := 1001) hB dL_acts_1001 rfl rfl ?_
                          refine gx_iald (pc := 1002) hB dL_acts_1002 24 1 rfl rfl (10 * r + 6) rfl (by omega) (by decide) ?_
                          refine gx_iload (pc := 1003) hB dL_acts_1003 0 rfl ?_
                          refine gx_iadd (pc := 1005) hB dL_acts_1005 ?_
                          refine gx_iast (pc := 1006) hB dL_acts_1006 24 1 rfl rfl (10 * r + 6) rfl (by omega) (by decide) ((wZ K ad C R od sn ++ [(ug, .inl (K.2.1.2.1, 8, .inl G)), (uf, .inl (K.2.1.2.1, 60, .inl (upd (upd (upd F (10 * r) ((F (10 * r)) - ((V (2 * i)) + 0))) (10 * r + 5) (((upd F (10 * r) ((F (10 * r)) - ((V (2 * i)) + 0))) (10 * r + 5)) + (V (2 * i)))) (10 * r + 6) (((upd (upd F (10 * r) ((F (10 * r)) - ((V (2 * i)) + 0))) (10 * r + 5) (((upd F (10 * r) ((F (10 * r)) - ((V (2 * i)) + 0))) (10 * r + 5)) + (V (2 * i)))) (10 * r + 6)) + 0)))), (ud, .inl (K.2.1.2.1, 56, .inl D)), (uh, .inl (K.2.1.2.1, 48, .inl H)), (uv, .inl (K.2.1.2.1, 48, .inl V)), (uj, .inl (K.2.1.2.1, 48, .inl J)), (uq, .inl (K.2.1.2.1, 48, .inl Q))])) rfl ?_
                          refine gx_aload (pc := 1007) hB dL_acts_1007 13 rfl ?_
                          refine gx_iconst (pc := 1009) hB dL_acts_1009 2 (by decide) ?_
                          refine gx_iload (pc := 1010) hB dL_acts_1010 2 rfl ?_
                          refine gx_imul (pc := 1012) hB dL_acts_1012 ?_
                          refine gx_top (show 2 * nI i = nI (2 * i) from pk_mul 2 i) ?_
                          refine gx_dup2 (pc := 1013) hB dL_acts_1013 rfl rfl ?_
                          refine gx_iald (pc := 1014) hB dL_acts_1014 28 1 rfl rfl (2 * i) rfl (by omega) (by decide) ?_
                          refine gx_iconst (pc := 1015) hB dL_acts_1015 2 (by decide) ?_
                          refine gx_iadd (pc := 1016) hB dL_acts_1016 ?_
                          refine gx_iast (pc := 1017) hB dL_acts_1017 28 1 rfl rfl (2 * i) rfl (by omega) (by decide) ((wZ K ad C R od sn ++ [(ug, .inl (K.2.1.2.1, 8, .inl G)), (uf, .inl (K.2.1.2.1, 60, .inl (upd (upd (upd F (10 * r) ((F (10 * r)) - ((V (2 * i)) + 0))) (10 * r + 5) (((upd F (10 * r) ((F (10 * r)) - ((V (2 * i)) + 0))) (10 * r + 5)) + (V (2 * i)))) (10 * r + 6) (((upd (upd F (10 * r) ((F (10 * r)) - ((V (2 * i)) + 0))) (10 * r + 5) (((upd F (10 * r) ((F (10 * r)) - ((V (2 * i)) + 0))) (10 * r + 5)) + (V (2 * i)))) (10 * r + 6)) + 0)))), (ud, .inl (K.2.1.2.1, 56, .inl D)), (uh, .inl (K.2.1.2.1, 48, .inl H)), (uv, .inl (K.2.1.2.1, 48, .inl V)), (uj, .inl (K.2.1.2.1, 48, .inl (upd J (2 * i) ((J (2 * i)) + 2)))), (uq, .inl (K.2.1.2.1, 48, .inl Q))])) rfl ?_
                          refine gx_aload_n (pc := 1018) hB dL_acts_1018 7 rfl ?_
                          refine gx_iload (pc := 1019) hB dL_acts_1019 2 rfl ?_
                          refine gx_dVA (pc := 1021) (r := (bRefund C (nI i)).1) (W1 := wZ K ad ((bRefund C (nI i)).2) (kR C R od sn) (kOd (bRefund C (nI i)).1 od sn) (kSn (bRefund C (nI i)).1 sn)) (wr := [(ug, .inl (K.2.1.2.1, 8, .inl G)), (uf, .inl (K.2.1.2.1, 60, .inl (upd (upd (upd F (10 * r) ((F (10 * r)) - ((V (2 * i)) + 0))) (10 * r + 5) (((upd F (10 * r) ((F (10 * r)) - ((V (2 * i)) + 0))) (10 * r + 5)) + (V (2 * i)))) (10 * r + 6) (((upd (upd F (10 * r) ((F (10 * r)) - ((V (2 * i)) + 0))) (10 * r + 5) (((upd F (10 * r) ((F (10 * r)) - ((V (2 * i)) + 0))) (10 * r + 5)) + (V (2 * i)))) (10 * r + 6)) + 0)))), (ud, .inl (K.2.1.2.1, 56, .inl D)), (uh, .inl (K.2.1.2.1, 48, .inl H)), (uv, .inl (K.2.1.2.1, 48, .inl V)), (uj, .inl (K.2.1.2.1, 48, .inl (upd J (2 * i) ((J (2 * i)) + 2)))), (uq, .inl (K.2.1.2.1, 48, .inl Q))]) hB (k_refund l K ad C R od sn (nI i) ho hsn) mX4_refund dL_acts_1021 tb_457 pX4_refund ⟨Nat.le_of_ble_eq_true rfl, Nat.le_of_ble_eq_true rfl⟩ ⟨rfl, rfl⟩ ⟨Nat.le_of_ble_eq_true rfl, Nat.le_of_ble_eq_true rfl⟩ rfl (Nat.le_of_ble_eq_true rfl) (List.range 23) (List.range' 23 7) rfl rfl (by decide) (by decide) (by decide) rfl rfl (List.range' 7 23 ++ List.range 7) (by decide) rfl ?_
                          obtain ⟨e_1, hI⟩ := t_rf_ok (t := 0) h0 hi eu hu er hr ((if_neg c_30).symm) (Int32.not_lt.mp c_31) (Int32.not_lt.mpr c_33) rfl rfl rfl
                          refine gx_top (x := (bRefund C (nI i)).1) (y := 0) e_1 ?_
                          refine gx_iload (pc := 1024) hB dL_acts_1024 0 rfl ?_
                          refine gx_icmp_ne (pc := 1026) hB 1033 dL_acts_1026 (by decide) (fun c_34 => ?_) (fun c_34 => ?_)
                          · exact absurd c_34 (by decide)
                          · refine gx_iconst (pc := 1029) hB dL_acts_1029 1 (by decide) ?_
                            refine gx_goto (pc := 1030) hB 1034 dL_acts_1030 (by decide) ?_
                            exact gx_zret (pc := 1034) hC dL_acts_1034 (Nat.zero_le _) (Nat.zero_le _) (by decide) ⟨rfl, _, _, _, _, _, _, _, _, _, _, _, rfl, hI⟩
                        · refine gx_aload_n (pc := 936) hB dL_acts_936 7 rfl ?_
                          refine gx_iload (pc := 937) hB dL_acts_937 2 rfl ?_
                          refine gx_dVA (pc := 939) (r := (bRefund C (nI i)).1) (W1 := wZ K ad ((bRefund C (nI i)).2) (kR C R od sn) (kOd (bRefund C (nI i)).1 od sn) (kSn (bRefund C (nI i)).1 sn)) (wr := [(ug, .inl (K.2.1.2.1, 8, .inl G)), (uf, .inl (K.2.1.2.1, 60, .inl F)), (ud, .inl (K.2.1.2.1, 56, .inl D)), (uh, .inl (K.2.1.2.1, 48, .inl H)), (uv, .inl (K.2.1.2.1, 48, .inl V)), (uj, .inl (K.2.1.2.1, 48, .inl J)), (uq, .inl (K.2.1.2.1, 48, .inl Q))]) hB (k_refund l K ad C R od sn (nI i) ho hsn) mX4_refund dL_acts_939 tb_457 pX4_refund ⟨Nat.le_of_ble_eq_true rfl, Nat.le_of_ble_eq_true rfl⟩ ⟨rfl, rfl⟩ ⟨Nat.le_of_ble_eq_true rfl, Nat.le_of_ble_eq_true rfl⟩ rfl (Nat.le_of_ble_eq_true rfl) (List.range 23) (List.range' 23 7) rfl rfl (by decide) (by decide) (by decide) rfl rfl (List.range' 7 23 ++ List.range 7) (by decide) rfl ?_
                          obtain ⟨e_1, hI⟩ := t_rf_no (t := 0) h0 hi eu hu er hr ((if_neg c_30).symm) (Or.inr (Int32.not_le.mp c_33))
                          refine gx_top (x := (bRefund C (nI i)).1) (y := (-2)) e_1 ?_
                          refine gx_bipush (pc := 942) hB dL_acts_942 (-2) (by decide) ?_
                          refine gx_icmp_ne (pc := 944) hB 951 dL_acts_944 (by decide) (fun c_35 => ?_) (fun c_35 => ?_)
                          · exact absurd c_35 (by decide)
                          · refine gx_iconst (pc := 947) hB dL_acts_947 1 (by decide) ?_
                            refine gx_goto (pc := 948) hB 952 dL_acts_948 (by decide) ?_
                            exact gx_zret (pc := 952) hC dL_acts_952 (Nat.zero_le _) (Nat.zero_le _) (by decide) ⟨rfl, _, _, _, _, _, _, _, _, _, _, _, rfl, hI⟩
                    · refine gx_aload (pc := 890) hB dL_acts_890 11 rfl ?_
                      refine gx_iconst (pc := 892) hB dL_acts_892 2 (by decide) ?_
                      refine gx_iload (pc := 893) hB dL_acts_893 1 rfl ?_
                      refine gx_imul (pc := 895) hB dL_acts_895 ?_
                      refine gx_top (show 2 * nI i = nI (2 * i) from pk_mul 2 i) ?_
                      refine gx_iald (pc := 896) hB dL_acts_896 27 1 rfl rfl (2 * i) rfl (by omega) (by decide) ?_
                      refine gx_iconst (pc := 897) hB dL_acts_897 4 (by decide) ?_
                      refine gx_idiv (pc := 898) hB dL_acts_898 (by decide) ?_
                      refine gx_goto (pc := 899) hB 903 dL_acts_899 (by decide) ?_
                      refine gx_istore (pc := 903) hB dL_acts_903 (by decide) [(15, .int ((V (2 * i)) / 4)), (14, .int (nI r)), (13, .int (nI i)), (12, .int (nI q)), (11, .int (nI p)), (10, .int (nI w)), (9, .int (nI y)), (0, .ref (ad 0)), (1, .ref ug), (2, .ref uf), (3, .ref ud), (4, .ref uh), (5, .ref uv), (6, .ref uj), (7, .ref uq), (8, .int z)] rfl ?_
                      refine gx_aload (pc := 905) hB dL_acts_905 13 rfl ?_
                      refine gx_iconst (pc := 907) hB dL_acts_907 2 (by decide) ?_
                      refine gx_iload (pc := 908) hB dL_acts_908 2 rfl ?_
                      refine gx_imul (pc := 910) hB dL_acts_910 ?_
                      refine gx_top (show 2 * nI i = nI (2 * i) from pk_mul 2 i) ?_
                      refine gx_iald (pc := 911) hB dL_acts_911 28 1 rfl rfl (2 * i) rfl (by omega) (by decide) ?_
                      refine gx_iconst (pc := 912) hB dL_acts_912 1 (by decide) ?_
                      refine gx_icmp_gt (pc := 913) hB 936 dL_acts_913 (by decide) (fun c_36 => ?_) (fun c_36 => ?_)
                      · refine gx_aload_n (pc := 936) hB dL_acts_936 7 rfl ?_
                        refine gx_iload (pc := 937) hB dL_acts_937 2 rfl ?_
                        refine gx_dVA (pc := 939) (r := (bRefund C (nI i)).1) (W1 := wZ K ad ((bRefund C (nI i)).2) (kR C R od sn) (kOd (bRefund C (nI i)).1 od sn) (kSn (bRefund C (nI i)).1 sn)) (wr := [(ug, .inl (K.2.1.2.1, 8, .inl G)), (uf, .inl (K.2.1.2.1, 60, .inl F)), (ud, .inl (K.2.1.2.1, 56, .inl D)), (uh, .inl (K.2.1.2.1, 48, .inl H)), (uv, .inl (K.2.1.2.1, 48, .inl V)), (uj, .inl (K.2.1.2.1, 48, .inl J)), (uq, .inl (K.2.1.2.1, 48, .inl Q))]) hB (k_refund l K ad C R od sn (nI i) ho hsn) mX4_refund dL_acts_939 tb_457 pX4_refund ⟨Nat.le_of_ble_eq_true rfl, Nat.le_of_ble_eq_true rfl⟩ ⟨rfl, rfl⟩ ⟨Nat.le_of_ble_eq_true rfl, Nat.le_of_ble_eq_true rfl⟩ rfl (Nat.le_of_ble_eq_true rfl) (List.range 23) (List.range' 23 7) rfl rfl (by decide) (by decide) (by decide) rfl rfl (List.range' 7 23 ++ List.range 7) (by decide) rfl ?_
                        obtain ⟨e_1, hI⟩ := t_rf_no (t := (V (2 * i)) / 4) h0 hi eu hu er hr ((if_pos c_30).symm) (Or.inl (Int32.not_le.mpr c_36))
                        refine gx_top (x := (bRefund C (nI i)).1) (y := (-2)) e_1 ?_
                        refine gx_bipush (pc := 942) hB dL_acts_942 (-2) (by decide) ?_
                        refine gx_icmp_ne (pc := 944) hB 951 dL_acts_944 (by decide) (fun c_37 => ?_) (fun c_37 => ?_)
                        · exact absurd c_37 (by decide)
                        · refine gx_iconst (pc := 947) hB dL_acts_947 1 (by decide) ?_
                          refine gx_goto (pc := 948) hB 952 dL_acts_948 (by decide) ?_
                          exact gx_zret (pc := 952) hC dL_acts_952 (Nat.zero_le _) (Nat.zero_le _) (by decide) ⟨rfl, _, _, _, _, _, _, _, _, _, _, _, rfl, hI⟩
                      · refine gx_aload_n (pc := 916) hB dL_acts_916 9 rfl ?_
                        refine gx_bipush (pc := 917) hB dL_acts_917 10 (by decide) ?_
                        refine gx_iload (pc := 919) hB dL_acts_919 1 rfl ?_
                        refine gx_imul (pc := 921) hB dL_acts_921 ?_
                        refine gx_top (show 10 * nI r = nI (10 * r) from pk_mul 10 r) ?_
                        refine gx_iald (pc := 922) hB dL_acts_922 24 1 rfl rfl (10 * r) rfl (by omega) (by decide) ?_
                        refine gx_aload (pc := 923) hB dL_acts_923 12 rfl ?_
                        refine gx_iconst (pc := 925) hB dL_acts_925 2 (by decide) ?_
                        refine gx_iload (pc := 926) hB dL_acts_926 2 rfl ?_
                        refine gx_imul (pc := 928) hB dL_acts_928 ?_
                        refine gx_top (show 2 * nI i = nI (2 * i) from pk_mul 2 i) ?_
                        refine gx_iald (pc := 929) hB dL_acts_929 27 1 rfl rfl (2 * i) rfl (by omega) (by decide) ?_
                        refine gx_iload (pc := 930) hB dL_acts_930 0 rfl ?_
                        refine gx_iadd (pc := 932) hB dL_acts_932 ?_
                        refine gx_icmp_ge (pc := 933) hB 953 dL_acts_933 (by decide) (fun c_38 => ?_) (fun c_38 => ?_)
                        · refine gx_aload_n (pc := 953) hB dL_acts_953 9 rfl ?_
                          refine gx_bipush (pc := 954) hB dL_acts_954 10 (by decide) ?_
                          refine gx_iload (pc := 956) hB dL_acts_956 1 rfl ?_
                          refine gx_imul (pc := 958) hB dL_acts_958 ?_
                          refine gx_top (show 10 * nI r = nI (10 * r) from pk_mul 10 r) ?_
                          refine gx_dup2 (pc := 959) hB dL_acts_959 rfl rfl ?_
                          refine gx_iald (pc := 960) hB dL_acts_960 24 1 rfl rfl (10 * r) rfl (by omega) (by decide) ?_
                          refine gx_aload (pc := 961) hB dL_acts_961 12 rfl ?_
                          refine gx_iconst (pc := 963) hB dL_acts_963 2 (by decide) ?_
                          refine gx_iload (pc := 964) hB dL_acts_964 2 rfl ?_
                          refine gx_imul (pc := 966) hB dL_acts_966 ?_
                          refine gx_top (show 2 * nI i = nI (2 * i) from pk_mul 2 i) ?_
                          refine gx_iald (pc := 967) hB dL_acts_967 27 1 rfl rfl (2 * i) rfl (by omega) (by decide) ?_
                          refine gx_iload (pc := 968) hB dL_acts_968 0 rfl ?_
                          refine gx_iadd (pc := 970) hB dL_acts_970 ?_
                          refine gx_isub (pc := 971) hB dL_acts_971 ?_
                          refine gx_iast (pc := 972) hB dL_acts_972 24 1 rfl rfl (10 * r) rfl (by omega) (by decide) ((wZ K ad C R od sn ++ [(ug, .inl (K.2.1.2.1, 8, .inl G)), (uf, .inl (K.2.1.2.1, 60, .inl (upd F (10 * r) ((F (10 * r)) - ((V (2 * i)) + ((V (2 * i)) / 4)))))), (ud, .inl (K.2.1.2.1, 56, .inl D)), (uh, .inl (K.2.1.2.1, 48, .inl H)), (uv, .inl (K.2.1.2.1, 48, .inl V)), (uj, .inl (K.2.1.2.1, 48, .inl J)), (uq, .inl (K.2.1.2.1, 48, .inl Q))])) rfl ?_
                          refine gx_aload_n (pc := 973) hB dL_acts_973 9 rfl ?_
                          refine gx_bipush (pc := 974) hB dL_acts_974 10 (by decide) ?_
                          refine gx_iload (pc := 976) hB dL_acts_976 1 rfl ?_
                          refine gx_imul (pc := 978) hB dL_acts_978 ?_
                          refine gx_top (show 10 * nI r = nI (10 * r) from pk_mul 10 r) ?_
                          refine gx_iconst (pc := 979) hB dL_acts_979 5 (by decide) ?_
                          refine gx_iadd (pc := 980) hB dL_acts_980 ?_
                          refine gx_top (show (nI (10 * r)) + 5 = nI (10 * r + 5) from nI_add (10 * r) 5) ?_
                          refine gx_dup2 (pc := 981) hB dL_acts_981 rfl rfl ?_
                          refine gx_iald (pc := 982) hB dL_acts_982 24 1 rfl rfl (10 * r + 5) rfl (by omega) (by decide) ?_
                          refine gx_aload (pc := 983) hB dL_acts_983 12 rfl ?_
                          refine gx_iconst (pc := 985) hB dL_acts_985 2 (by decide) ?_
                          refine gx_iload (pc := 986) hB dL_acts_986 2 rfl ?_
                          refine gx_imul (pc := 988) hB dL_acts_988 ?_
                          refine gx_top (show 2 * nI i = nI (2 * i) from pk_mul 2 i) ?_
                          refine gx_iald (pc := 989) hB dL_acts_989 27 1 rfl rfl (2 * i) rfl (by omega) (by decide) ?_
                          refine gx_iadd (pc := 990) hB dL_acts_990 ?_
                          refine gx_iast (pc := 991) hB dL_acts_991 24 1 rfl rfl (10 * r + 5) rfl (by omega) (by decide) ((wZ K ad C R od sn ++ [(ug, .inl (K.2.1.2.1, 8, .inl G)), (uf, .inl (K.2.1.2.1, 60, .inl (upd (upd F (10 * r) ((F (10 * r)) - ((V (2 * i)) + ((V (2 * i)) / 4)))) (10 * r + 5) (((upd F (10 * r) ((F (10 * r)) - ((V (2 * i)) + ((V (2 * i)) / 4)))) (10 * r + 5)) + (V (2 * i)))))), (ud, .inl (K.2.1.2.1, 56, .inl D)), (uh, .inl (K.2.1.2.1, 48, .inl H)), (uv, .inl (K.2.1.2.1, 48, .inl V)), (uj, .inl (K.2.1.2.1, 48, .inl J)), (uq, .inl (K.2.1.2.1, 48, .inl Q))])) rfl ?_
                          refine gx_aload_n (pc := 992) hB dL_acts_992 9 rfl ?_
                          refine gx_bipush (pc := 993) hB dL_acts_993 10 (by decide) ?_
                          refine gx_iload (pc := 995) hB dL_acts_995 1 rfl ?_
                          refine gx_imul (pc := 997) hB dL_acts_997 ?_
                          refine gx_top (show 10 * nI r = nI (10 * r) from pk_mul 10 r) ?_
                          refine gx_bipush (pc := 998) hB dL_acts_998 6 (by decide) ?_
                          refine gx_iadd (pc := 1000) hB dL_acts_1000 ?_
                          refine gx_top (show (nI (10 * r)) + 6 = nI (10 * r + 6) from nI_add (10 * r) 6) ?_
                          refine gx_dup2 (pc := 1001) hB dL_acts_1001 rfl rfl ?_
                          refine gx_iald (pc := 1002) hB dL_acts_1002 24 1 rfl rfl (10 * r + 6) rfl (by omega) (by decide) ?_
                          refine gx_iload (pc := 1003) hB dL_acts_1003 0 rfl ?_
                          refine gx_iadd (pc := 1005) hB dL_acts_1005 ?_
                          refine gx_iast (pc := 1006) hB dL_acts_1006 24 1 rfl rfl (10 * r + 6) rfl (by omega) (by decide) ((wZ K ad C R od sn ++ [(ug, .inl (K.2.1.2.1, 8, .inl G)), (uf, .inl (K.2.1.2.1, 60, .inl (upd (upd (upd F (10 * r) ((F (10 * r)) - ((V (2 * i)) + ((V (2 * i)) / 4)))) (10 * r + 5) (((upd F (10 * r) ((F (10 * r)) - ((V (2 * i)) + ((V (2 * i)) / 4)))) (10 * r + 5)) + (V (2 * i)))) (10 * r + 6) (((upd (upd F (10 * r) ((F (10 * r)) - ((V (2 * i)) + ((V (2 * i)) / 4)))) (10 * r + 5) (((upd F (10 * r) ((F (10 * r)) - ((V (2 * i)) + ((V (2 * i)) / 4)))) (10 * r + 5)) + (V (2 * i)))) (10 * r + 6)) + ((V (2 * i)) / 4))))), (ud, .inl (K.2.1.2.1, 56, .inl D)), (uh, .inl (K.2.1.2.1, 48, .inl H)), (uv, .inl (K.2.1.2.1, 48, .inl V)), (uj, .inl (K.2.1.2.1, 48, .inl J)), (uq, .inl (K.2.1.2.1, 48, .inl Q))])) rfl ?_
                          refine gx_aload (pc := 1007) hB dL_acts_1007 13 rfl ?_
                          refine gx_iconst (pc := 1009) hB dL_acts_1009 2 (by decide) ?_
                          refine gx_iload (pc := 1010) hB dL_acts_1010 2 rfl ?_
                          refine gx_imul (pc := 1012) hB dL_acts_1012 ?_
                          refine gx_top (show 2 * nI i = nI (2 * i) from pk_mul 2 i) ?_
                          refine gx_dup2 (pc := 1013) hB dL_acts_1013 rfl rfl ?_
                          refine gx_iald (pc := 1014) hB dL_acts_1014 28 1 rfl rfl (2 * i) rfl (by omega) (by decide) ?_
                          refine gx_iconst (pc := 1015) hB dL_acts_1015 2 (by decide) ?_
                          refine gx_iadd (pc := 1016) hB dL_acts_1016 ?_
                          refine gx_iast (pc := 1017) hB dL_acts_1017 28 1 rfl rfl (2 * i) rfl (by omega) (by decide) ((wZ K ad C R od sn ++ [(ug, .inl (K.2.1.2.1, 8, .inl G)), (uf, .inl (K.2.1.2.1, 60, .inl (upd (upd (upd F (10 * r) ((F (10 * r)) - ((V (2 * i)) + ((V (2 * i)) / 4)))) (10 * r + 5) (((upd F (10 * r) ((F (10 * r)) - ((V (2 * i)) + ((V (2 * i)) / 4)))) (10 * r + 5)) + (V (2 * i)))) (10 * r + 6) (((upd (upd F (10 * r) ((F (10 * r)) - ((V (2 * i)) + ((V (2 * i)) / 4)))) (10 * r + 5) (((upd F (10 * r) ((F (10 * r)) - ((V (2 * i)) + ((V (2 * i)) / 4)))) (10 * r + 5)) + (V (2 * i)))) (10 * r + 6)) + ((V (2 * i)) / 4))))), (ud, .inl (K.2.1.2.1, 56, .inl D)), (uh, .inl (K.2.1.2.1, 48, .inl H)), (uv, .inl (K.2.1.2.1, 48, .inl V)), (uj, .inl (K.2.1.2.1, 48, .inl (upd J (2 * i) ((J (2 * i)) + 2)))), (uq, .inl (K.2.1.2.1, 48, .inl Q))])) rfl ?_
                          refine gx_aload_n (pc := 1018) hB dL_acts_1018 7 rfl ?_
                          refine gx_iload (pc := 1019) hB dL_acts_1019 2 rfl ?_
                          refine gx_dVA (pc := 1021) (r := (bRefund C (nI i)).1) (W1 := wZ K ad ((bRefund C (nI i)).2) (kR C R od sn) (kOd (bRefund C (nI i)).1 od sn) (kSn (bRefund C (nI i)).1 sn)) (wr := [(ug, .inl (K.2.1.2.1, 8, .inl G)), (uf, .inl (K.2.1.2.1, 60, .inl (upd (upd (upd F (10 * r) ((F (10 * r)) - ((V (2 * i)) + ((V (2 * i)) / 4)))) (10 * r + 5) (((upd F (10 * r) ((F (10 * r)) - ((V (2 * i)) + ((V (2 * i)) / 4)))) (10 * r + 5)) + (V (2 * i)))) (10 * r + 6) (((upd (upd F (10 * r) ((F (10 * r)) - ((V (2 * i)) + ((V (2 * i)) / 4)))) (10 * r + 5) (((upd F (10 * r) ((F (10 * r)) - ((V (2 * i)) + ((V (2 * i)) / 4)))) (10 * r + 5)) + (V (2 * i)))) (10 * r + 6)) + ((V (2 * i)) / 4))))), (ud, .inl (K.2.1.2.1, 56, .inl D)), (uh, .inl (K.2.1.2.1, 48, .inl H)), (uv, .inl (K.2.1.2.1, 48, .inl V)), (uj, .inl (K.2.1.2.1, 48, .inl (upd J (2 * i) ((J (2 * i)) + 2)))), (uq, .inl (K.2.1.2.1, 48, .inl Q))]) hB (k_refund l K ad C R od sn (nI i) ho hsn) mX4_refund dL_acts_1021 tb_457 pX4_refund ⟨Nat.le_of_ble_eq_true rfl, Nat.le_of_ble_eq_true rfl⟩ ⟨rfl, rfl⟩ ⟨Nat.le_of_ble_eq_true rfl, Nat.le_of_ble_eq_true rfl⟩ rfl (Nat.le_of_ble_eq_true rfl) (List.range 23) (List.range' 23 7) rfl rfl (by decide) (by decide) (by decide) rfl rfl (List.range' 7 23 ++ List.range 7) (by decide) rfl ?_
                          obtain ⟨e_1, hI⟩ := t_rf_ok (t := (V (2 * i)) / 4) h0 hi eu hu er hr ((if_pos c_30).symm) (Int32.not_lt.mp c_36) (Int32.not_lt.mpr c_38) rfl rfl rfl
                          refine gx_top (x := (bRefund C (nI i)).1) (y := (V (2 * i)) / 4) e_1 ?_
                          refine gx_iload (pc := 1024) hB dL_acts_1024 0 rfl ?_
                          refine gx_icmp_ne (pc := 1026) hB 1033 dL_acts_1026 (by decide) (fun c_39 => ?_) (fun c_39 => ?_)
                          · exact absurd rfl c_39
                          · refine gx_iconst (pc := 1029) hB dL_acts_1029 1 (by decide) ?_
                            refine gx_goto (pc := 1030) hB 1034 dL_acts_1030 (by decide) ?_
                            exact gx_zret (pc := 1034) hC dL_acts_1034 (Nat.zero_le _) (Nat.zero_le _) (by decide) ⟨rfl, _, _, _, _, _, _, _, _, _, _, _, rfl, hI⟩
                        · refine gx_aload_n (pc := 936) hB dL_acts_936 7 rfl ?_
                          refine gx_iload (pc := 937) hB dL_acts_937 2 rfl ?_
                          refine gx_dVA (pc := 939) (r := (bRefund C (nI i)).1) (W1 := wZ K ad ((bRefund C (nI i)).2) (kR C R od sn) (kOd (bRefund C (nI i)).1 od sn) (kSn (bRefund C (nI i)).1 sn)) (wr := [(ug, .inl (K.2.1.2.1, 8, .inl G)), (uf, .inl (K.2.1.2.1, 60, .inl F)), (ud, .inl (K.2.1.2.1, 56, .inl D)), (uh, .inl (K.2.1.2.1, 48, .inl H)), (uv, .inl (K.2.1.2.1, 48, .inl V)), (uj, .inl (K.2.1.2.1, 48, .inl J)), (uq, .inl (K.2.1.2.1, 48, .inl Q))]) hB (k_refund l K ad C R od sn (nI i) ho hsn) mX4_refund dL_acts_939 tb_457 pX4_refund ⟨Nat.le_of_ble_eq_true rfl, Nat.le_of_ble_eq_true rfl⟩ ⟨rfl, rfl⟩ ⟨Nat.le_of_ble_eq_true rfl, Nat.le_of_ble_eq_true rfl⟩ rfl (Nat.le_of_ble_eq_true rfl) (List.range 23) (List.range' 23 7) rfl rfl (by decide) (by decide) (by decide) rfl rfl (List.range' 7 23 ++ List.range 7) (by decide) rfl ?_
                          obtain ⟨e_1, hI⟩ := t_rf_no (t := (V (2 * i)) / 4) h0 hi eu hu er hr ((if_pos c_30).symm) (Or.inr (Int32.not_le.mp c_38))
                          refine gx_top (x := (bRefund C (nI i)).1) (y := (-2)) e_1 ?_
                          refine gx_bipush (pc := 942) hB dL_acts_942 (-2) (by decide) ?_
                          refine gx_icmp_ne (pc := 944) hB 951 dL_acts_944 (by decide) (fun c_40 => ?_) (fun c_40 => ?_)
                          · exact absurd c_40 (by decide)
                          · refine gx_iconst (pc := 947) hB dL_acts_947 1 (by decide) ?_
                            refine gx_goto (pc := 948) hB 952 dL_acts_948 (by decide) ?_
                            exact gx_zret (pc := 952) hC dL_acts_952 (Nat.zero_le _) (Nat.zero_le _) (by decide) ⟨rfl, _, _, _, _, _, _, _, _, _, _, _, rfl, hI⟩
                  · refine gx_aload_n (pc := 841) hB dL_acts_841 4 rfl ?_
                    refine gx_iconst (pc := 842) hB dL_acts_842 0 (by decide) ?_
                    refine gx_dVA (pc := 843) (r := (bRefund C 0).1) (W1 := wZ K ad ((bRefund C 0).2) (kR C R od sn) (kOd (bRefund C 0).1 od sn) (kSn (bRefund C 0).1 sn)) (wr := [(ug, .inl (K.2.1.2.1, 8, .inl G)), (uf, .inl (K.2.1.2.1, 60, .inl F)), (ud, .inl (K.2.1.2.1, 56, .inl D)), (uh, .inl (K.2.1.2.1, 48, .inl H)), (uv, .inl (K.2.1.2.1, 48, .inl V)), (uj, .inl (K.2.1.2.1, 48, .inl J)), (uq, .inl (K.2.1.2.1, 48, .inl Q))]) hB (k_refund l K ad C R od sn 0 ho hsn) mX4_refund dL_acts_843 tb_457 pX4_refund ⟨Nat.le_of_ble_eq_true rfl, Nat.le_of_ble_eq_true rfl⟩ ⟨rfl, rfl⟩ ⟨Nat.le_of_ble_eq_true rfl, Nat.le_of_ble_eq_true rfl⟩ rfl (Nat.le_of_ble_eq_true rfl) (List.range 23) (List.range' 23 7) rfl rfl (by decide) (by decide) (by decide) rfl rfl (List.range' 7 23 ++ List.range 7) (by decide) rfl ?_
                    obtain ⟨e_1, hI⟩ := t_rf_none h0 c_29
                    refine gx_top (x := (bRefund C 0).1) (y := (-1)) e_1 ?_
                    refine gx_iconst (pc := 846) hB dL_acts_846 (-1) (by decide) ?_
                    refine gx_icmp_ne (pc := 847) hB 854 dL_acts_847 (by decide) (fun c_41 => ?_) (fun c_41 => ?_)
                    · exact absurd c_41 (by decide)
                    · refine gx_iconst (pc := 850) hB dL_acts_850 1 (by decide) ?_
                      refine gx_goto (pc := 851) hB 855 dL_acts_851 (by decide) ?_
                      exact gx_zret (pc := 855) hC dL_acts_855 (Nat.zero_le _) (Nat.zero_le _) (by decide) ⟨rfl, _, _, _, _, _, _, _, _, _, _, _, rfl, hI⟩
              · refine gx_iconst (pc := 727) hB dL_acts_727 0 (by decide) ?_
                refine gx_istore (pc := 728) hB dL_acts_728 (by decide) [(13, .int 0), (12, .int (nI q)), (11, .int (nI p)), (10, .int (nI w)), (9, .int (nI y)), (0, .ref (ad 0)), (1, .ref ug), (2, .ref uf), (3, .ref ud), (4, .ref uh), (5, .ref uv), (6, .ref uj), (7, .ref uq), (8, .int z)] rfl ?_
                have loop_730 : ∀ (dq i : Nat) (p1 : Nat) (q1 : Nat), i + dq = 36 → (p1 < a) → (q1 < a) → GG 0 0 ((wZ K ad C R od sn ++ [(ug, .inl (K.2.1.2.1, 8, .inl G)), (uf, .inl (K.2.1.2.1, 60, .inl F)), (ud, .inl (K.2.1.2.1, 56, .inl D)), (uh, .inl (K.2.1.2.1, 48, .inl H)), (uv, .inl (K.2.1.2.1, 48, .inl V)), (uj, .inl (K.2.1.2.1, 48, .inl J)), (uq, .inl (K.2.1.2.1, 48, .inl Q))])) [(0, .ref (ad 0)), (1, .ref ug), (2, .ref uf), (3, .ref ud), (4, .ref uh), (5, .ref uv), (6, .ref uj), (7, .ref uq), (8, .int z), (9, .int (nI y)), (10, .int (nI w)), (11, .int (nI p1)), (12, .int (nI q1)), (13, .int (nI i))] 730 [] := by
                  intro dq
                  induction dq with
                  | zero =>
                    intro i p1 q1 hi730 hp1 hq1
                    have hz730 : i = 36 := by omega
                    refine gx_iload (pc := 730) hB dL_acts_730 13 rfl ?_
                    refine gx_bipush (pc := 732) hB dL_acts_732 36 (by decide) ?_
                    refine gx_icmp_ge (pc := 734) hB 808 dL_acts_734 (by decide) (fun c_42 => ?_) (fun c_42 => ?_)
                    · refine gx_aload_n (pc := 808) hB dL_acts_808 0 rfl ?_
                      refine gx_aload_n (pc := 809) hB dL_acts_809 1 rfl ?_
                      refine gx_aload_n (pc := 810) hB dL_acts_810 2 rfl ?_
                      refine gx_aload_n (pc := 811) hB dL_acts_811 3 rfl ?_
                      refine gx_aload (pc := 812) hB dL_acts_812 4 rfl ?_
                      refine gx_aload (pc := 814) hB dL_acts_814 5 rfl ?_
                      refine gx_aload (pc := 816) hB dL_acts_816 6 rfl ?_
                      refine gx_aload (pc := 818) hB dL_acts_818 7 rfl ?_
                      refine gx_iload (pc := 820) hB dL_acts_820 11 rfl ?_
                      refine gx_iload (pc := 822) hB dL_acts_822 12 rfl ?_
                      refine gx_callS (pc := 824) (wr := []) hB (c_L_merges l K ad ug uf ud uh uv uj uq C R od sn G F D H V J Q S a b c e p1 q1 (by first | assumption | omega | decide) (by first | assumption | omega | decide) (by first | assumption | omega | decide)) mL_merges dL_acts_824 tb_410 pL_merges ⟨Nat.le_of_ble_eq_true rfl, Nat.le_of_ble_eq_true rfl, Nat.le_of_ble_eq_true rfl, Nat.le_of_ble_eq_true rfl⟩ (rest := []) rfl (Nat.le_of_ble_eq_true rfl) [0, 1, 2, 3, 4, 5, 6, 7, 8, 9, 10, 11, 12, 13, 14, 15, 16, 17, 18, 19, 20, 21, 22, 23, 24, 25, 26, 27, 28, 29] [] rfl rfl (by decide) (by decide) (by decide) (fun v824 w824 hp824 => ?_)
                      obtain ⟨rfl, hw⟩ := hp824
                      refine gx_kn (k' := 0) (n' := 0) rfl rfl ?_
                      refine gx_st (st' := [.int 1]) rfl ?_
                      exact gx_zret (pc := 827) hC dL_acts_827 (Nat.zero_le _) (Nat.zero_le _) (by decide) ⟨rfl, hw⟩
                    · exact absurd (lpTn (c := 36) (by omega) hi730) c_42
                  | succ dq ih730 =>
                    intro i p1 q1 hi730 hp1 hq1
                    refine gx_iload (pc := 730) hB dL_acts_730 13 rfl ?_
                    refine gx_bipush (pc := 732) hB dL_acts_732 36 (by decide) ?_
                    refine gx_icmp_ge (pc := 734) hB 808 dL_acts_734 (by decide) (fun c_43 => ?_) (fun c_43 => ?_)
                    · exact absurd c_43 (lpFn (c := 36) (by omega) hi730)
                    · refine gx_iload (pc := 737) hB dL_acts_737 9 rfl ?_
                      refine gx_iconst (pc := 739) hB dL_acts_739 5 (by decide) ?_
                      refine gx_irem (pc := 740) hB dL_acts_740 (by decide) ?_
                      refine gx_top (show nI y - nI y / 5 * 5 = nI (y % 5) from pk_rem (a := y) (d := 5) (by omega) (by omega) (by omega)) ?_
                      refine gx_if_le (pc := 741) hB 808 dL_acts_741 (by decide) (fun c_44 => ?_) (fun c_44 => ?_)
                      · refine gx_aload_n (pc := 808) hB dL_acts_808 0 rfl ?_
                        refine gx_aload_n (pc := 809) hB dL_acts_809 1 rfl ?_
                        refine gx_aload_n (pc := 810) hB dL_acts_810 2 rfl ?_
                        refine gx_aload_n (pc := 811) hB dL_acts_811 3 rfl ?_
                        refine gx_aload (pc := 812) hB dL_acts_812 4 rfl ?_
                        refine gx_aload (pc := 814) hB dL_acts_814 5 rfl ?_
                        refine gx_aload (pc := 816) hB dL_acts_816 6 rfl ?_
                        refine gx_aload (pc := 818) hB dL_acts_818 7 rfl ?_
                        refine gx_iload (pc := 820) hB dL_acts_820 11 rfl ?_
                        refine gx_iload (pc := 822) hB dL_acts_822 12 rfl ?_
                        refine gx_callS (pc := 824) (wr := []) hB (c_L_merges l K ad ug uf ud uh uv uj uq C R od sn G F D H V J Q S a b c e p1 q1 (by first | assumption | omega | decide) (by first | assumption | omega | decide) (by first | assumption | omega | decide)) mL_merges dL_acts_824 tb_410 pL_merges ⟨Nat.le_of_ble_eq_true rfl, Nat.le_of_ble_eq_true rfl, Nat.le_of_ble_eq_true rfl, Nat.le_of_ble_eq_true rfl⟩ (rest := []) rfl (Nat.le_of_ble_eq_true rfl) [0, 1, 2, 3, 4, 5, 6, 7, 8, 9, 10, 11, 12, 13, 14, 15, 16, 17, 18, 19, 20, 21, 22, 23, 24, 25, 26, 27, 28, 29] [] rfl rfl (by decide) (by decide) (by decide) (fun v824 w824 hp824 => ?_)
                        obtain ⟨rfl, hw⟩ := hp824
                        refine gx_kn (k' := 0) (n' := 0) rfl rfl ?_
                        refine gx_st (st' := [.int 1]) rfl ?_
                        exact gx_zret (pc := 827) hC dL_acts_827 (Nat.zero_le _) (Nat.zero_le _) (by decide) ⟨rfl, hw⟩
                      · refine gx_iload (pc := 744) hB dL_acts_744 11 rfl ?_
                        refine gx_iload (pc := 746) hB dL_acts_746 12 rfl ?_
                        refine gx_icmp_eq (pc := 748) hB 769 dL_acts_748 (by decide) (fun c_45 => ?_) (fun c_45 => ?_)
                        · refine gx_iload (pc := 769) hB dL_acts_769 13 rfl ?_
                          refine gx_bipush (pc := 771) hB dL_acts_771 6 (by decide) ?_
                          refine gx_irem (pc := 773) hB dL_acts_773 (by decide) ?_
                          refine gx_top (show nI i - nI i / 6 * 6 = nI (i % 6) from pk_rem (a := i) (d := 6) (by omega) (by omega) (by omega)) ?_
                          refine gx_if_ne (pc := 774) hB 788 dL_acts_774 (by decide) (fun c_46 => ?_) (fun c_46 => ?_)
                          · refine gx_iload (pc := 788) hB dL_acts_788 11 rfl ?_
                            refine gx_istore (pc := 790) hB dL_acts_790 (by decide) [(11, .int (nI p1)), (0, .ref (ad 0)), (1, .ref ug), (2, .ref uf), (3, .ref ud), (4, .ref uh), (5, .ref uv), (6, .ref uj), (7, .ref uq), (8, .int z), (9, .int (nI y)), (10, .int (nI w)), (12, .int (nI q1)), (13, .int (nI i))] rfl ?_
                            refine gx_iload (pc := 792) hB dL_acts_792 12 rfl ?_
                            refine gx_iconst (pc := 794) hB dL_acts_794 1 (by decide) ?_
                            refine gx_iadd (pc := 795) hB dL_acts_795 ?_
                            refine gx_top (show nI q1 + 1 = nI (q1 + 1) from nI_add q1 1) ?_
                            refine gx_aload_n (pc := 796) hB dL_acts_796 2 rfl ?_
                            refine gx_iconst (pc := 797) hB dL_acts_797 2 (by decide) ?_
                            refine gx_iald (pc := 798) hB dL_acts_798 23 1 rfl rfl 2 rfl (by decide) (by decide) ?_
                            refine gx_top (show G 2 = nI a from h0.2.1.1.2.2.1) ?_
                            refine gx_irem (pc := 799) hB dL_acts_799 (nI_ne0 (n := a) (by omega) (by omega)) ?_
                            refine gx_top (show (nI (q1 + 1)) - (nI (q1 + 1)) / nI a * nI a = nI ((q1 + 1) % a) from pk_rem (a := q1 + 1) (d := a) (by omega) (by omega) (by omega)) ?_
                            obtain ⟨q2, hq2, eq2⟩ : ∃ zz : Nat, zz < a ∧ nI ((q1 + 1) % a) = nI zz := ⟨_, Nat.mod_lt _ (by omega), rfl⟩
                            refine gx_top eq2 ?_
                            refine gx_istore (pc := 800) hB dL_acts_800 (by decide) [(12, .int (nI q2)), (11, .int (nI p1)), (0, .ref (ad 0)), (1, .ref ug), (2, .ref uf), (3, .ref ud), (4, .ref uh), (5, .ref uv), (6, .ref uj), (7, .ref uq), (8, .int z), (9, .int (nI y)), (10, .int (nI w)), (13, .int (nI i))] rfl ?_
                            refine gx_iinc (pc := 802) hB dL_acts_802 13 (by decide) rfl (nI (i + 1)) (nI_1 _) [(13, .int (nI (i + 1))), (12, .int (nI q2)), (11, .int (nI p1)), (0, .ref (ad 0)), (1, .ref ug), (2, .ref uf), (3, .ref ud), (4, .ref uh), (5, .ref uv), (6, .ref uj), (7, .ref uq), (8, .int z), (9, .int (nI y)), (10, .int (nI w))] rfl ?_
                            refine gx_goto (pc := 805) hB 730 dL_acts_805 (by decide) ?_
                            refine gx_sub hB (lv' := [(0, .ref (ad 0)), (1, .ref ug), (2, .ref uf), (3, .ref ud), (4, .ref uh), (5, .ref uv), (6, .ref uj), (7, .ref uq), (8, .int z), (9, .int (nI y)), (10, .int (nI w)), (11, .int (nI p1)), (12, .int (nI q2)), (13, .int (nI (i + 1)))]) [3, 4, 5, 6, 7, 8, 9, 10, 11, 12, 13, 2, 1, 0] rfl ?_
                            exact ih730 (i + 1) p1 q2 (by omega) hp1 hq2
                          · refine gx_iload (pc := 777) hB dL_acts_777 11 rfl ?_
                            refine gx_iconst (pc := 779) hB dL_acts_779 1 (by decide) ?_
                            refine gx_iadd (pc := 780) hB dL_acts_780 ?_
                            refine gx_top (show nI p1 + 1 = nI (p1 + 1) from nI_add p1 1) ?_
                            refine gx_aload_n (pc := 781) hB dL_acts_781 1 rfl ?_
                            refine gx_iconst (pc := 782) hB dL_acts_782 2 (by decide) ?_
                            refine gx_iald (pc := 783) hB dL_acts_783 23 1 rfl rfl 2 rfl (by decide) (by decide) ?_
                            refine gx_top (show G 2 = nI a from h0.2.1.1.2.2.1) ?_
                            refine gx_irem (pc := 784) hB dL_acts_784 (nI_ne0 (n := a) (by omega) (by omega)) ?_
                            refine gx_top (show (nI (p1 + 1)) - (nI (p1 + 1)) / nI a * nI a = nI ((p1 + 1) % a) from pk_rem (a := p1 + 1) (d := a) (by omega) (by omega) (by omega)) ?_
                            obtain ⟨p2, hp2, ep2⟩ : ∃ zz : Nat, zz < a ∧ nI ((p1 + 1) % a) = nI zz := ⟨_, Nat.mod_lt _ (by omega), rfl⟩
                            refine gx_top ep2 ?_
                            refine gx_goto (pc := 785) hB 790 dL_acts_785 (by decide) ?_
                            refine gx_istore (pc := 790) hB dL_acts_790 (by decide) [(11, .int (nI p2)), (0, .ref (ad 0)), (1, .ref ug), (2, .ref uf), (3, .ref ud), (4, .ref uh), (5, .ref uv), (6, .ref uj), (7, .ref uq), (8, .int z), (9, .int (nI y)), (10, .int (nI w)), (12, .int (nI q1)), (13, .int (nI i))] rfl ?_
                            refine gx_iload (pc := 792) hB dL_acts_792 12 rfl ?_
                            refine gx_iconst (pc := 794) hB dL_acts_794 1 (by decide) ?_
                            refine gx_iadd (pc := 795) hB dL_acts_795 ?_
                            refine gx_top (show nI q1 + 1 = nI (q1 + 1) from nI_add q1 1) ?_
                            refine gx_aload_n (pc := 796) hB dL_acts_796 2 rfl ?_
                            refine gx_iconst (pc := 797) hB dL_acts_797 2 (by decide) ?_
                            refine gx_iald (pc := 798) hB dL_acts_798 23 1 rfl rfl 2 rfl (by decide) (by decide) ?_
                            refine gx_top (show G 2 = nI a from h0.2.1.1.2.2.1) ?_
                            refine gx_irem (pc := 799) hB dL_acts_799 (nI_ne0 (n := a) (by omega) (by omega)) ?_
                            refine gx_top (show (nI (q1 + 1)) - (nI (q1 + 1)) / nI a * nI a = nI ((q1 + 1) % a) from pk_rem (a := q1 + 1) (d := a) (by omega) (by omega) (by omega)) ?_
                            obtain ⟨q2, hq2, eq2⟩ : ∃ zz : Nat, zz < a ∧ nI ((q1 + 1) % a) = nI zz := ⟨_, Nat.mod_lt _ (by omega), rfl⟩
                            refine gx_top eq2 ?_
                            refine gx_istore (pc := 800) hB dL_acts_800 (by decide) [(12, .int (nI q2)), (11, .int (nI p2)), (0, .ref (ad 0)), (1, .ref ug), (2, .ref uf), (3, .ref ud), (4, .ref uh), (5, .ref uv), (6, .ref uj), (7, .ref uq), (8, .int z), (9, .int (nI y)), (10, .int (nI w)), (13, .int (nI i))] rfl ?_
                            refine gx_iinc (pc := 802) hB dL_acts_802 13 (by decide) rfl (nI (i + 1)) (nI_1 _) [(13, .int (nI (i + 1))), (12, .int (nI q2)), (11, .int (nI p2)), (0, .ref (ad 0)), (1, .ref ug), (2, .ref uf), (3, .ref ud), (4, .ref uh), (5, .ref uv), (6, .ref uj), (7, .ref uq), (8, .int z), (9, .int (nI y)), (10, .int (nI w))] rfl ?_
                            refine gx_goto (pc := 805) hB 730 dL_acts_805 (by decide) ?_
                            refine gx_sub hB (lv' := [(0, .ref (ad 0)), (1, .ref ug), (2, .ref uf), (3, .ref ud), (4, .ref uh), (5, .ref uv), (6, .ref uj), (7, .ref uq), (8, .int z), (9, .int (nI y)), (10, .int (nI w)), (11, .int (nI p2)), (12, .int (nI q2)), (13, .int (nI (i + 1)))]) [3, 4, 5, 6, 7, 8, 9, 10, 11, 12, 13, 2, 1, 0] rfl ?_
                            exact ih730 (i + 1) p2 q2 (by omega) hp2 hq2
                        · refine gx_aload_n (pc := 751) hB dL_acts_751 1 rfl ?_
                          refine gx_aload_n (pc := 752) hB dL_acts_752 3 rfl ?_
                          refine gx_aload (pc := 753) hB dL_acts_753 4 rfl ?_
                          refine gx_aload (pc := 755) hB dL_acts_755 5 rfl ?_
                          refine gx_aload (pc := 757) hB dL_acts_757 6 rfl ?_
                          refine gx_iload (pc := 759) hB dL_acts_759 11 rfl ?_
                          refine gx_iload (pc := 761) hB dL_acts_761 12 rfl ?_
                          refine gx_dSi (pc := 763) (r := wsN S c p1 (nI q1) b) (wr := (wZ K ad C R od sn ++ [(uf, .inl (K.2.1.2.1, 60, .inl F)), (uq, .inl (K.2.1.2.1, 48, .inl Q))])) hB (c_L_weights l K ug ud uh uv uj G D H V J S b c p1 (nI q1) h0.2.1.1.2.2.2.2.1 (by first | assumption | omega | decide) h0.2.1.2.2.2.1 h0.2.1.1.2.2.2.1 (by first | assumption | omega | decide) (by first | assumption | omega | decide) (fun d hd => HS_D1 h0.2.1 hd (by omega))) mL_weights dL_acts_763 tb_407 pL_weights ⟨Nat.le_of_ble_eq_true rfl, Nat.le_of_ble_eq_true rfl⟩ ⟨rfl, rfl⟩ ⟨Nat.le_of_ble_eq_true rfl, Nat.le_of_ble_eq_true rfl⟩ rfl (Nat.le_of_ble_eq_true rfl) [23, 25, 26, 27, 28] [0, 1, 2, 3, 4, 5, 6, 7, 8, 9, 10, 11, 12, 13, 14, 15, 16, 17, 18, 19, 20, 21, 22, 24, 29] rfl rfl (by decide) (by decide) (by decide) [0, 1, 2, 3, 4, 5, 6, 7, 8, 9, 10, 11, 12, 13, 14, 15, 16, 17, 18, 19, 20, 21, 22, 25, 23, 26, 27, 28, 29, 24] (by decide) ((wZ K ad C R od sn ++ [(ug, .inl (K.2.1.2.1, 8, .inl G)), (uf, .inl (K.2.1.2.1, 60, .inl F)), (ud, .inl (K.2.1.2.1, 56, .inl D)), (uh, .inl (K.2.1.2.1, 48, .inl H)), (uv, .inl (K.2.1.2.1, 48, .inl V)), (uj, .inl (K.2.1.2.1, 48, .inl J)), (uq, .inl (K.2.1.2.1, 48, .inl Q))])) rfl ?_
                          refine gx_if_ne (pc := 766) hB 808 dL_acts_766 (by decide) (fun c_47 => ?_) (fun c_47 => ?_)
                          · refine gx_aload_n (pc := 808) hB dL_acts_808 0 rfl ?_
                            refine gx_aload_n (pc := 809) hB dL_acts_809 1 rfl ?_
                            refine gx_aload_n (pc := 810) hB dL_acts_810 2 rfl ?_
                            refine gx_aload_n (pc := 811) hB dL_acts_811 3 rfl ?_
                            refine gx_aload (pc := 812) hB dL_acts_812 4 rfl ?_
                            refine gx_aload (pc := 814) hB dL_acts_814 5 rfl ?_
                            refine gx_aload (pc := 816) hB dL_acts_816 6 rfl ?_
                            refine gx_aload (pc := 818) hB dL_acts_818 7 rfl ?_
                            refine gx_iload (pc := 820) hB dL_acts_820 11 rfl ?_
                            refine gx_iload (pc := 822) hB dL_acts_822 12 rfl ?_
                            refine gx_callS (pc := 824) (wr := []) hB (c_L_merges l K ad ug uf ud uh uv uj uq C R od sn G F D H V J Q S a b c e p1 q1 (by first | assumption | omega | decide) (by first | assumption | omega | decide) (by first | assumption | omega | decide)) mL_merges dL_acts_824 tb_410 pL_merges ⟨Nat.le_of_ble_eq_true rfl, Nat.le_of_ble_eq_true rfl, Nat.le_of_ble_eq_true rfl, Nat.le_of_ble_eq_true rfl⟩ (rest := []) rfl (Nat.le_of_ble_eq_true rfl) [0, 1, 2, 3, 4, 5, 6, 7, 8, 9, 10, 11, 12, 13, 14, 15, 16, 17, 18, 19, 20, 21, 22, 23, 24, 25, 26, 27, 28, 29] [] rfl rfl (by decide) (by decide) (by decide) (fun v824 w824 hp824 => ?_)
                            obtain ⟨rfl, hw⟩ := hp824
                            refine gx_kn (k' := 0) (n' := 0) rfl rfl ?_
                            refine gx_st (st' := [.int 1]) rfl ?_
                            exact gx_zret (pc := 827) hC dL_acts_827 (Nat.zero_le _) (Nat.zero_le _) (by decide) ⟨rfl, hw⟩
                          · refine gx_iload (pc := 769) hB dL_acts_769 13 rfl ?_
                            refine gx_bipush (pc := 771) hB dL_acts_771 6 (by decide) ?_
                            refine gx_irem (pc := 773) hB dL_acts_773 (by decide) ?_
                            refine gx_top (show nI i - nI i / 6 * 6 = nI (i % 6) from pk_rem (a := i) (d := 6) (by omega) (by omega) (by omega)) ?_
                            refine gx_if_ne (pc := 774) hB 788 dL_acts_774 (by decide) (fun c_48 => ?_) (fun c_48 => ?_)
                            · refine gx_iload (pc := 788) hB dL_acts_788 11 rfl ?_
                              refine gx_istore (pc := 790) hB dL_acts_790 (by decide) [(11, .int (nI p1)), (0, .ref (ad 0)), (1, .ref ug), (2, .ref uf), (3, .ref ud), (4, .ref uh), (5, .ref uv), (6, .ref uj), (7, .ref uq), (8, .int z), (9, .int (nI y)), (10, .int (nI w)), (12, .int (nI q1)), (13, .int (nI i))] rfl ?_
                              refine gx_iload (pc := 792) hB dL_acts_792 12 rfl ?_
                              refine gx_iconst (pc := 794) hB dL_acts_794 1 (by decide) ?_
                              refine gx_iadd (pc := 795) hB dL_acts_795 ?_
                              refine gx_top (show nI q1 + 1 = nI (q1 + 1) from nI_add q1 1) ?_
                              refine gx_aload_n (pc := 796) hB dL_acts_796 2 rfl ?_
                              refine gx_iconst (pc := 797) hB dL_acts_797 2 (by decide) ?_
                              refine gx_iald (pc := 798) hB dL_acts_798 23 1 rfl rfl 2 rfl (by decide) (by decide) ?_
                              refine gx_top (show G 2 = nI a from h0.2.1.1.2.2.1) ?_
                              refine gx_irem (pc := 799) hB dL_acts_799 (nI_ne0 (n := a) (by omega) (by omega)) ?_
                              refine gx_top (show (nI (q1 + 1)) - (nI (q1 + 1)) / nI a * nI a = nI ((q1 + 1) % a) from pk_rem (a := q1 + 1) (d := a) (by omega) (by omega) (by omega)) ?_
                              obtain ⟨q2, hq2, eq2⟩ : ∃ zz : Nat, zz < a ∧ nI ((q1 + 1) % a) = nI zz := ⟨_, Nat.mod_lt _ (by omega), rfl⟩
                              refine gx_top eq2 ?_
                              refine gx_istore (pc := 800) hB dL_acts_800 (by decide) [(12, .int (nI q2)), (11, .int (nI p1)), (0, .ref (ad 0)), (1, .ref ug), (2, .ref uf), (3, .ref ud), (4, .ref uh), (5, .ref uv), (6, .ref uj), (7, .ref uq), (8, .int z), (9, .int (nI y)), (10, .int (nI w)), (13, .int (nI i))] rfl ?_
                              refine gx_iinc (pc := 802) hB dL_acts_802 13 (by decide) rfl (nI (i + 1)) (nI_1 _) [(13, .int (nI (i + 1))), (12, .int (nI q2)), (11, .int (nI p1)), (0, .ref (ad 0)), (1, .ref ug), (2, .ref uf), (3, .ref ud), (4, .ref uh), (5, .ref uv), (6, .ref uj), (7, .ref uq), (8, .int z), (9, .int (nI y)), (10, .int (nI w))] rfl ?_
                              refine gx_goto (pc := 805) hB 730 dL_acts_805 (by decide) ?_
                              refine gx_sub hB (lv' := [(0, .ref (ad 0)), (1, .ref ug), (2, .ref uf), (3, .ref ud), (4, .ref uh), (5, .ref uv), (6, .ref uj), (7, .ref uq), (8, .int z), (9, .int (nI y)), (10, .int (nI w)), (11, .int (nI p1)), (12, .int (nI q2)), (13, .int (nI (i + 1)))]) [3, 4, 5, 6, 7, 8, 9, 10, 11, 12, 13, 2, 1, 0] rfl ?_
                              exact ih730 (i + 1) p1 q2 (by omega) hp1 hq2
                            · refine gx_iload (pc := 777) hB dL_acts_777 11 rfl ?_
                              refine gx_iconst (pc := 779) hB dL_acts_779 1 (by decide) ?_
                              refine gx_iadd (pc := 780) hB dL_acts_780 ?_
                              refine gx_top (show nI p1 + 1 = nI (p1 + 1) from nI_add p1 1) ?_
                              refine gx_aload_n (pc := 781) hB dL_acts_781 1 rfl ?_
                              refine gx_iconst (pc := 782) hB dL_acts_782 2 (by decide) ?_
                              refine gx_iald (pc := 783) hB dL_acts_783 23 1 rfl rfl 2 rfl (by decide) (by decide) ?_
                              refine gx_top (show G 2 = nI a from h0.2.1.1.2.2.1) ?_
                              refine gx_irem (pc := 784) hB dL_acts_784 (nI_ne0 (n := a) (by omega) (by omega)) ?_
                              refine gx_top (show (nI (p1 + 1)) - (nI (p1 + 1)) / nI a * nI a = nI ((p1 + 1) % a) from pk_rem (a := p1 + 1) (d := a) (by omega) (by omega) (by omega)) ?_
                              obtain ⟨p2, hp2, ep2⟩ : ∃ zz : Nat, zz < a ∧ nI ((p1 + 1) % a) = nI zz := ⟨_, Nat.mod_lt _ (by omega), rfl⟩
                              refine gx_top ep2 ?_
                              refine gx_goto (pc := 785) hB 790 dL_acts_785 (by decide) ?_
                              refine gx_istore (pc := 790) hB dL_acts_790 (by decide) [(11, .int (nI p2)), (0, .ref (ad 0)), (1, .ref ug), (2, .ref uf), (3, .ref ud), (4, .ref uh), (5, .ref uv), (6, .ref uj), (7, .ref uq), (8, .int z), (9, .int (nI y)), (10, .int (nI w)), (12, .int (nI q1)), (13, .int (nI i))] rfl ?_
                              refine gx_iload (pc := 792) hB dL_acts_792 12 rfl ?_
                              refine gx_iconst (pc := 794) hB dL_acts_794 1 (by decide) ?_
                              refine gx_iadd (pc := 795) hB dL_acts_795 ?_
                              refine gx_top (show nI q1 + 1 = nI (q1 + 1) from nI_add q1 1) ?_
                              refine gx_aload_n (pc := 796) hB dL_acts_796 2 rfl ?_
                              refine gx_iconst (pc := 797) hB dL_acts_797 2 (by decide) ?_
                              refine gx_iald (pc := 798) hB dL_acts_798 23 1 rfl rfl 2 rfl (by decide) (by decide) ?_
                              refine gx_top (show G 2 = nI a from h0.2.1.1.2.2.1) ?_
                              refine gx_irem (pc := 799) hB dL_acts_799 (nI_ne0 (n := a) (by omega) (by omega)) ?_
                              refine gx_top (show (nI (q1 + 1)) - (nI (q1 + 1)) / nI a * nI a = nI ((q1 + 1) % a) from pk_rem (a := q1 + 1) (d := a) (by omega) (by omega) (by omega)) ?_
                              obtain ⟨q2, hq2, eq2⟩ : ∃ zz : Nat, zz < a ∧ nI ((q1 + 1) % a) = nI zz := ⟨_, Nat.mod_lt _ (by omega), rfl⟩
                              refine gx_top eq2 ?_
                              refine gx_istore (pc := 800) hB dL_acts_800 (by decide) [(12, .int (nI q2)), (11, .int (nI p2)), (0, .ref (ad 0)), (1, .ref ug), (2, .ref uf), (3, .ref ud), (4, .ref uh), (5, .ref uv), (6, .ref uj), (7, .ref uq), (8, .int z), (9, .int (nI y)), (10, .int (nI w)), (13, .int (nI i))] rfl ?_
                              refine gx_iinc (pc := 802) hB dL_acts_802 13 (by decide) rfl (nI (i + 1)) (nI_1 _) [(13, .int (nI (i + 1))), (12, .int (nI q2)), (11, .int (nI p2)), (0, .ref (ad 0)), (1, .ref ug), (2, .ref uf), (3, .ref ud), (4, .ref uh), (5, .ref uv), (6, .ref uj), (7, .ref uq), (8, .int z), (9, .int (nI y)), (10, .int (nI w))] rfl ?_
                              refine gx_goto (pc := 805) hB 730 dL_acts_805 (by decide) ?_
                              refine gx_sub hB (lv' := [(0, .ref (ad 0)), (1, .ref ug), (2, .ref uf), (3, .ref ud), (4, .ref uh), (5, .ref uv), (6, .ref uj), (7, .ref uq), (8, .int z), (9, .int (nI y)), (10, .int (nI w)), (11, .int (nI p2)), (12, .int (nI q2)), (13, .int (nI (i + 1)))]) [3, 4, 5, 6, 7, 8, 9, 10, 11, 12, 13, 2, 1, 0] rfl ?_
                              exact ih730 (i + 1) p2 q2 (by omega) hp2 hq2
                refine gx_sub hB (lv' := [(0, .ref (ad 0)), (1, .ref ug), (2, .ref uf), (3, .ref ud), (4, .ref uh), (5, .ref uv), (6, .ref uj), (7, .ref uq), (8, .int z), (9, .int (nI y)), (10, .int (nI w)), (11, .int (nI p)), (12, .int (nI q)), (13, .int 0)]) [5, 6, 7, 8, 9, 10, 11, 12, 13, 4, 3, 2, 1, 0] rfl ?_
                exact loop_730 (36) 0 p q (by omega) hp hq
            · have hb0 : 0 < b := Nat.pos_of_ne_zero (fun z => c_4 (by rw [z]; rfl))
              refine gx_iload (pc := 580) hB dL_acts_580 3 rfl ?_
              refine gx_bipush (pc := 582) hB dL_acts_582 36 (by decide) ?_
              refine gx_idiv (pc := 584) hB dL_acts_584 (by decide) ?_
              refine gx_top (show nI y / 36 = nI (y / 36) from pk_div (a := y) (d := 36) (by omega) (by omega) (by omega)) ?_
              refine gx_aload_n (pc := 585) hB dL_acts_585 5 rfl ?_
              refine gx_iconst (pc := 586) hB dL_acts_586 3 (by decide) ?_
              refine gx_iald (pc := 587) hB dL_acts_587 23 1 rfl rfl 3 rfl (by decide) (by decide) ?_
              refine gx_top (show G 3 = nI b from h0.2.1.1.2.2.2.1) ?_
              refine gx_irem (pc := 588) hB dL_acts_588 (nI_ne0 (n := b) (by omega) (by omega)) ?_
              refine gx_top (show (nI (y / 36)) - (nI (y / 36)) / nI b * nI b = nI ((y / 36) % b) from pk_rem (a := y / 36) (d := b) (by omega) (by omega) (by omega)) ?_
              obtain ⟨d, hd, ed⟩ : ∃ zz : Nat, zz < b ∧ nI ((y / 36) % b) = nI zz := ⟨_, Nat.mod_lt _ (by omega), rfl⟩
              refine gx_top ed ?_
              refine gx_istore (pc := 589) hB dL_acts_589 (by decide) [(13, .int (nI d)), (12, .int (nI q)), (11, .int (nI p)), (10, .int (nI w)), (9, .int (nI y)), (0, .ref (ad 0)), (1, .ref ug), (2, .ref uf), (3, .ref ud), (4, .ref uh), (5, .ref uv), (6, .ref uj), (7, .ref uq), (8, .int z)] rfl ?_
              refine gx_iload (pc := 591) hB dL_acts_591 2 rfl ?_
              refine gx_if_eq (pc := 593) hB 622 dL_acts_593 (by decide) (fun c_49 => ?_) (fun c_49 => ?_)
              · refine gx_iconst (pc := 622) hB dL_acts_622 1 (by decide) ?_
                refine gx_goto (pc := 623) hB 627 dL_acts_623 (by decide) ?_
                refine gx_istore (pc := 627) hB dL_acts_627 (by decide) [(14, .int 1), (13, .int (nI d)), (12, .int (nI q)), (11, .int (nI p)), (10, .int (nI w)), (9, .int (nI y)), (0, .ref (ad 0)), (1, .ref ug), (2, .ref uf), (3, .ref ud), (4, .ref uh), (5, .ref uv), (6, .ref uj), (7, .ref uq), (8, .int z)] rfl ?_
                refine gx_iload (pc := 629) hB dL_acts_629 3 rfl ?_
                refine gx_iload (pc := 631) hB dL_acts_631 2 rfl ?_
                refine gx_icmp_eq (pc := 633) hB 641 dL_acts_633 (by decide) (fun c_50 => ?_) (fun c_50 => ?_)
                · refine gx_aload_n (pc := 641) hB dL_acts_641 6 rfl ?_
                  refine gx_iload (pc := 642) hB dL_acts_642 1 rfl ?_
                  refine gx_iload (pc := 644) hB dL_acts_644 3 rfl ?_
                  refine gx_iload (pc := 646) hB dL_acts_646 2 rfl ?_
                  refine gx_dVA (pc := 648) (r := (bAgree C (nI d) (nI p) (nI q)).1) (W1 := wZ K ad ((bAgree C (nI d) (nI p) (nI q)).2) (kR C R od sn) (kOd (bAgree C (nI d) (nI p) (nI q)).1 od sn) (kSn (bAgree C (nI d) (nI p) (nI q)).1 sn)) (wr := [(ug, .inl (K.2.1.2.1, 8, .inl G)), (uf, .inl (K.2.1.2.1, 60, .inl F)), (ud, .inl (K.2.1.2.1, 56, .inl D)), (uh, .inl (K.2.1.2.1, 48, .inl H)), (uv, .inl (K.2.1.2.1, 48, .inl V)), (uj, .inl (K.2.1.2.1, 48, .inl J)), (uq, .inl (K.2.1.2.1, 48, .inl Q))]) hB (k_agree l K ad C R od sn (nI d) (nI p) (nI q) ho hsn) mX4_agree dL_acts_648 tb_380 pX4_agree ⟨Nat.le_of_ble_eq_true rfl, Nat.le_of_ble_eq_true rfl⟩ ⟨rfl, rfl⟩ ⟨Nat.le_of_ble_eq_true rfl, Nat.le_of_ble_eq_true rfl⟩ rfl (Nat.le_of_ble_eq_true rfl) (List.range 23) (List.range' 23 7) rfl rfl (by decide) (by decide) (by decide) rfl rfl (List.range' 7 23 ++ List.range 7) (by decide) rfl ?_
                  obtain ⟨e_1, hI⟩ := t_ag_same2 h0 ((nI_eq (by omega) (by omega)).mp c_50)
                  refine gx_top (x := (bAgree C (nI d) (nI p) (nI q)).1) (y := (-1)) e_1 ?_
                  refine gx_iload (pc := 651) hB dL_acts_651 3 rfl ?_
                  refine gx_iload (pc := 653) hB dL_acts_653 2 rfl ?_
                  refine gx_icmp_ne (pc := 655) hB 662 dL_acts_655 (by decide) (fun c_51 => ?_) (fun c_51 => ?_)
                  · exact (by first | exact absurd c_50 c_51 | exact absurd c_51 c_50 | exact absurd c_50 (Int32.not_le.mpr c_51) | exact absurd c_50 (Int32.not_lt.mpr c_51) | exact absurd (Int32.not_le.mp c_50) c_51 | exact absurd (Int32.not_lt.mp c_50) c_51)
                  · refine gx_iconst (pc := 658) hB dL_acts_658 (-1) (by decide) ?_
                    refine gx_goto (pc := 659) hB 664 dL_acts_659 (by decide) ?_
                    refine gx_icmp_ne (pc := 664) hB 671 dL_acts_664 (by decide) (fun c_52 => ?_) (fun c_52 => ?_)
                    · exact absurd c_52 (by decide)
                    · refine gx_iconst (pc := 667) hB dL_acts_667 1 (by decide) ?_
                      refine gx_goto (pc := 668) hB 672 dL_acts_668 (by decide) ?_
                      exact gx_zret (pc := 672) hC dL_acts_672 (Nat.zero_le _) (Nat.zero_le _) (by decide) ⟨rfl, _, _, _, _, _, _, _, _, _, _, _, rfl, hI⟩
                · refine gx_iload (pc := 636) hB dL_acts_636 0 rfl ?_
                  refine gx_if_eq (pc := 638) hB 673 dL_acts_638 (by decide) (fun c_53 => ?_) (fun c_53 => ?_)
                  · exact absurd c_53 (by decide)
                  · refine gx_aload_n (pc := 641) hB dL_acts_641 6 rfl ?_
                    refine gx_iload (pc := 642) hB dL_acts_642 1 rfl ?_
                    refine gx_iload (pc := 644) hB dL_acts_644 3 rfl ?_
                    refine gx_iload (pc := 646) hB dL_acts_646 2 rfl ?_
                    refine gx_dVA (pc := 648) (r := (bAgree C (nI d) (nI p) (nI q)).1) (W1 := wZ K ad ((bAgree C (nI d) (nI p) (nI q)).2) (kR C R od sn) (kOd (bAgree C (nI d) (nI p) (nI q)).1 od sn) (kSn (bAgree C (nI d) (nI p) (nI q)).1 sn)) (wr := [(ug, .inl (K.2.1.2.1, 8, .inl G)), (uf, .inl (K.2.1.2.1, 60, .inl F)), (ud, .inl (K.2.1.2.1, 56, .inl D)), (uh, .inl (K.2.1.2.1, 48, .inl H)), (uv, .inl (K.2.1.2.1, 48, .inl V)), (uj, .inl (K.2.1.2.1, 48, .inl J)), (uq, .inl (K.2.1.2.1, 48, .inl Q))]) hB (k_agree l K ad C R od sn (nI d) (nI p) (nI q) ho hsn) mX4_agree dL_acts_648 tb_380 pX4_agree ⟨Nat.le_of_ble_eq_true rfl, Nat.le_of_ble_eq_true rfl⟩ ⟨rfl, rfl⟩ ⟨Nat.le_of_ble_eq_true rfl, Nat.le_of_ble_eq_true rfl⟩ rfl (Nat.le_of_ble_eq_true rfl) (List.range 23) (List.range' 23 7) rfl rfl (by decide) (by decide) (by decide) rfl rfl (List.range' 7 23 ++ List.range 7) (by decide) rfl ?_
                    obtain ⟨e_1, hI⟩ := t_ag_no h0 hd hp hq (fun z => c_50 (by rw [z])) (Or.inl c_49)
                    refine gx_top (x := (bAgree C (nI d) (nI p) (nI q)).1) (y := (-2)) e_1 ?_
                    refine gx_iload (pc := 651) hB dL_acts_651 3 rfl ?_
                    refine gx_iload (pc := 653) hB dL_acts_653 2 rfl ?_
                    refine gx_icmp_ne (pc := 655) hB 662 dL_acts_655 (by decide) (fun c_54 => ?_) (fun c_54 => ?_)
                    · refine gx_bipush (pc := 662) hB dL_acts_662 (-2) (by decide) ?_
                      refine gx_icmp_ne (pc := 664) hB 671 dL_acts_664 (by decide) (fun c_55 => ?_) (fun c_55 => ?_)
                      · exact absurd c_55 (by decide)
                      · refine gx_iconst (pc := 667) hB dL_acts_667 1 (by decide) ?_
                        refine gx_goto (pc := 668) hB 672 dL_acts_668 (by decide) ?_
                        exact gx_zret (pc := 672) hC dL_acts_672 (Nat.zero_le _) (Nat.zero_le _) (by decide) ⟨rfl, _, _, _, _, _, _, _, _, _, _, _, rfl, hI⟩
                    · exact (by first | exact absurd c_50 c_54 | exact absurd c_54 c_50 | exact absurd c_50 (Int32.not_le.mpr c_54) | exact absurd c_50 (Int32.not_lt.mpr c_54) | exact absurd (Int32.not_le.mp c_50) c_54 | exact absurd (Int32.not_lt.mp c_50) c_54)
              · refine gx_aload_n (pc := 596) hB dL_acts_596 7 rfl ?_
                refine gx_bipush (pc := 597) hB dL_acts_597 10 (by decide) ?_
                refine gx_iload (pc := 599) hB dL_acts_599 2 rfl ?_
                refine gx_imul (pc := 601) hB dL_acts_601 ?_
                refine gx_top (show 10 * nI p = nI (10 * p) from pk_mul 10 p) ?_
                refine gx_bipush (pc := 602) hB dL_acts_602 9 (by decide) ?_
                refine gx_iadd (pc := 604) hB dL_acts_604 ?_
                refine gx_top (show (nI (10 * p)) + 9 = nI (10 * p + 9) from nI_add (10 * p) 9) ?_
                refine gx_iald (pc := 605) hB dL_acts_605 24 1 rfl rfl (10 * p + 9) rfl (by omega) (by decide) ?_
                refine gx_if_ge (pc := 606) hB 622 dL_acts_606 (by decide) (fun c_56 => ?_) (fun c_56 => ?_)
                · refine gx_iconst (pc := 622) hB dL_acts_622 1 (by decide) ?_
                  refine gx_goto (pc := 623) hB 627 dL_acts_623 (by decide) ?_
                  refine gx_istore (pc := 627) hB dL_acts_627 (by decide) [(14, .int 1), (13, .int (nI d)), (12, .int (nI q)), (11, .int (nI p)), (10, .int (nI w)), (9, .int (nI y)), (0, .ref (ad 0)), (1, .ref ug), (2, .ref uf), (3, .ref ud), (4, .ref uh), (5, .ref uv), (6, .ref uj), (7, .ref uq), (8, .int z)] rfl ?_
                  refine gx_iload (pc := 629) hB dL_acts_629 3 rfl ?_
                  refine gx_iload (pc := 631) hB dL_acts_631 2 rfl ?_
                  refine gx_icmp_eq (pc := 633) hB 641 dL_acts_633 (by decide) (fun c_57 => ?_) (fun c_57 => ?_)
                  · refine gx_aload_n (pc := 641) hB dL_acts_641 6 rfl ?_
                    refine gx_iload (pc := 642) hB dL_acts_642 1 rfl ?_
                    refine gx_iload (pc := 644) hB dL_acts_644 3 rfl ?_
                    refine gx_iload (pc := 646) hB dL_acts_646 2 rfl ?_
                    refine gx_dVA (pc := 648) (r := (bAgree C (nI d) (nI p) (nI q)).1) (W1 := wZ K ad ((bAgree C (nI d) (nI p) (nI q)).2) (kR C R od sn) (kOd (bAgree C (nI d) (nI p) (nI q)).1 od sn) (kSn (bAgree C (nI d) (nI p) (nI q)).1 sn)) (wr := [(ug, .inl (K.2.1.2.1, 8, .inl G)), (uf, .inl (K.2.1.2.1, 60, .inl F)), (ud, .inl (K.2.1.2.1, 56, .inl D)), (uh, .inl (K.2.1.2.1, 48, .inl H)), (uv, .inl (K.2.1.2.1, 48, .inl V)), (uj, .inl (K.2.1.2.1, 48, .inl J)), (uq, .inl (K.2.1.2.1, 48, .inl Q))]) hB (k_agree l K ad C R od sn (nI d) (nI p) (nI q) ho hsn) mX4_agree dL_acts_648 tb_380 pX4_agree ⟨Nat.le_of_ble_eq_true rfl, Nat.le_of_ble_eq_true rfl⟩ ⟨rfl, rfl⟩ ⟨Nat.le_of_ble_eq_true rfl, Nat.le_of_ble_eq_true rfl⟩ rfl (Nat.le_of_ble_eq_true rfl) (List.range 23) (List.range' 23 7) rfl rfl (by decide) (by decide) (by decide) rfl rfl (List.range' 7 23 ++ List.range 7) (by decide) rfl ?_
                    obtain ⟨e_1, hI⟩ := t_ag_same2 h0 ((nI_eq (by omega) (by omega)).mp c_57)
                    refine gx_top (x := (bAgree C (nI d) (nI p) (nI q)).1) (y := (-1)) e_1 ?_
                    refine gx_iload (pc := 651) hB dL_acts_651 3 rfl ?_
                    refine gx_iload (pc := 653) hB dL_acts_653 2 rfl ?_
                    refine gx_icmp_ne (pc := 655) hB 662 dL_acts_655 (by decide) (fun c_58 => ?_) (fun c_58 => ?_)
                    · exact (by first | exact absurd c_57 c_58 | exact absurd c_58 c_57 | exact absurd c_57 (Int32.not_le.mpr c_58) | exact absurd c_57 (Int32.not_lt.mpr c_58) | exact absurd (Int32.not_le.mp c_57) c_58 | exact absurd (Int32.not_lt.mp c_57) c_58)
                    · refine gx_iconst (pc := 658) hB dL_acts_658 (-1) (by decide) ?_
                      refine gx_goto (pc := 659) hB 664 dL_acts_659 (by decide) ?_
                      refine gx_icmp_ne (pc := 664) hB 671 dL_acts_664 (by decide) (fun c_59 => ?_) (fun c_59 => ?_)
                      · exact absurd c_59 (by decide)
                      · refine gx_iconst (pc := 667) hB dL_acts_667 1 (by decide) ?_
                        refine gx_goto (pc := 668) hB 672 dL_acts_668 (by decide) ?_
                        exact gx_zret (pc := 672) hC dL_acts_672 (Nat.zero_le _) (Nat.zero_le _) (by decide) ⟨rfl, _, _, _, _, _, _, _, _, _, _, _, rfl, hI⟩
                  · refine gx_iload (pc := 636) hB dL_acts_636 0 rfl ?_
                    refine gx_if_eq (pc := 638) hB 673 dL_acts_638 (by decide) (fun c_60 => ?_) (fun c_60 => ?_)
                    · exact absurd c_60 (by decide)
                    · refine gx_aload_n (pc := 641) hB dL_acts_641 6 rfl ?_
                      refine gx_iload (pc := 642) hB dL_acts_642 1 rfl ?_
                      refine gx_iload (pc := 644) hB dL_acts_644 3 rfl ?_
                      refine gx_iload (pc := 646) hB dL_acts_646 2 rfl ?_
                      refine gx_dVA (pc := 648) (r := (bAgree C (nI d) (nI p) (nI q)).1) (W1 := wZ K ad ((bAgree C (nI d) (nI p) (nI q)).2) (kR C R od sn) (kOd (bAgree C (nI d) (nI p) (nI q)).1 od sn) (kSn (bAgree C (nI d) (nI p) (nI q)).1 sn)) (wr := [(ug, .inl (K.2.1.2.1, 8, .inl G)), (uf, .inl (K.2.1.2.1, 60, .inl F)), (ud, .inl (K.2.1.2.1, 56, .inl D)), (uh, .inl (K.2.1.2.1, 48, .inl H)), (uv, .inl (K.2.1.2.1, 48, .inl V)), (uj, .inl (K.2.1.2.1, 48, .inl J)), (uq, .inl (K.2.1.2.1, 48, .inl Q))]) hB (k_agree l K ad C R od sn (nI d) (nI p) (nI q) ho hsn) mX4_agree dL_acts_648 tb_380 pX4_agree ⟨Nat.le_of_ble_eq_true rfl, Nat.le_of_ble_eq_true rfl⟩ ⟨rfl, rfl⟩ ⟨Nat.le_of_ble_eq_true rfl, Nat.le_of_ble_eq_true rfl⟩ rfl (Nat.le_of_ble_eq_true rfl) (List.range 23) (List.range' 23 7) rfl rfl (by decide) (by decide) (by decide) rfl rfl (List.range' 7 23 ++ List.range 7) (by decide) rfl ?_
                      obtain ⟨e_1, hI⟩ := t_ag_no h0 hd hp hq (fun z => c_57 (by rw [z])) (Or.inr (Or.inl c_56))
                      refine gx_top (x := (bAgree C (nI d) (nI p) (nI q)).1) (y := (-2)) e_1 ?_
                      refine gx_iload (pc := 651) hB dL_acts_651 3 rfl ?_
                      refine gx_iload (pc := 653) hB dL_acts_653 2 rfl ?_
                      refine gx_icmp_ne (pc := 655) hB 662 dL_acts_655 (by decide) (fun c_61 => ?_) (fun c_61 => ?_)
                      · refine gx_bipush (pc := 662) hB dL_acts_662 (-2) (by decide) ?_
                        refine gx_icmp_ne (pc := 664) hB 671 dL_acts_664 (by decide) (fun c_62 => ?_) (fun c_62 => ?_)
                        · exact absurd c_62 (by decide)
                        · refine gx_iconst (pc := 667) hB dL_acts_667 1 (by decide) ?_
                          refine gx_goto (pc := 668) hB 672 dL_acts_668 (by decide) ?_
                          exact gx_zret (pc := 672) hC dL_acts_672 (Nat.zero_le _) (Nat.zero_le _) (by decide) ⟨rfl, _, _, _, _, _, _, _, _, _, _, _, rfl, hI⟩
                      · exact (by first | exact absurd c_57 c_61 | exact absurd c_61 c_57 | exact absurd c_57 (Int32.not_le.mpr c_61) | exact absurd c_57 (Int32.not_lt.mpr c_61) | exact absurd (Int32.not_le.mp c_57) c_61 | exact absurd (Int32.not_lt.mp c_57) c_61)
                · refine gx_aload_n (pc := 609) hB dL_acts_609 7 rfl ?_
                  refine gx_bipush (pc := 610) hB dL_acts_610 10 (by decide) ?_
                  refine gx_iload (pc := 612) hB dL_acts_612 1 rfl ?_
                  refine gx_imul (pc := 614) hB dL_acts_614 ?_
                  refine gx_top (show 10 * nI q = nI (10 * q) from pk_mul 10 q) ?_
                  refine gx_bipush (pc := 615) hB dL_acts_615 9 (by decide) ?_
                  refine gx_iadd (pc := 617) hB dL_acts_617 ?_
                  refine gx_top (show (nI (10 * q)) + 9 = nI (10 * q + 9) from nI_add (10 * q) 9) ?_
                  refine gx_iald (pc := 618) hB dL_acts_618 24 1 rfl rfl (10 * q + 9) rfl (by omega) (by decide) ?_
                  refine gx_if_lt (pc := 619) hB 626 dL_acts_619 (by decide) (fun c_63 => ?_) (fun c_63 => ?_)
                  · refine gx_iconst (pc := 626) hB dL_acts_626 0 (by decide) ?_
                    refine gx_istore (pc := 627) hB dL_acts_627 (by decide) [(14, .int 0), (13, .int (nI d)), (12, .int (nI q)), (11, .int (nI p)), (10, .int (nI w)), (9, .int (nI y)), (0, .ref (ad 0)), (1, .ref ug), (2, .ref uf), (3, .ref ud), (4, .ref uh), (5, .ref uv), (6, .ref uj), (7, .ref uq), (8, .int z)] rfl ?_
                    refine gx_iload (pc := 629) hB dL_acts_629 3 rfl ?_
                    refine gx_iload (pc := 631) hB dL_acts_631 2 rfl ?_
                    refine gx_icmp_eq (pc := 633) hB 641 dL_acts_633 (by decide) (fun c_64 => ?_) (fun c_64 => ?_)
                    · refine gx_aload_n (pc := 641) hB dL_acts_641 6 rfl ?_
                      refine gx_iload (pc := 642) hB dL_acts_642 1 rfl ?_
                      refine gx_iload (pc := 644) hB dL_acts_644 3 rfl ?_
                      refine gx_iload (pc := 646) hB dL_acts_646 2 rfl ?_
                      refine gx_dVA (pc := 648) (r := (bAgree C (nI d) (nI p) (nI q)).1) (W1 := wZ K ad ((bAgree C (nI d) (nI p) (nI q)).2) (kR C R od sn) (kOd (bAgree C (nI d) (nI p) (nI q)).1 od sn) (kSn (bAgree C (nI d) (nI p) (nI q)).1 sn)) (wr := [(ug, .inl (K.2.1.2.1, 8, .inl G)), (uf, .inl (K.2.1.2.1, 60, .inl F)), (ud, .inl (K.2.1.2.1, 56, .inl D)), (uh, .inl (K.2.1.2.1, 48, .inl H)), (uv, .inl (K.2.1.2.1, 48, .inl V)), (uj, .inl (K.2.1.2.1, 48, .inl J)), (uq, .inl (K.2.1.2.1, 48, .inl Q))]) hB (k_agree l K ad C R od sn (nI d) (nI p) (nI q) ho hsn) mX4_agree dL_acts_648 tb_380 pX4_agree ⟨Nat.le_of_ble_eq_true rfl, Nat.le_of_ble_eq_true rfl⟩ ⟨rfl, rfl⟩ ⟨Nat.le_of_ble_eq_true rfl, Nat.le_of_ble_eq_true rfl⟩ rfl (Nat.le_of_ble_eq_true rfl) (List.range 23) (List.range' 23 7) rfl rfl (by decide) (by decide) (by decide) rfl rfl (List.range' 7 23 ++ List.range 7) (by decide) rfl ?_
                      obtain ⟨e_1, hI⟩ := t_ag_same2 h0 ((nI_eq (by omega) (by omega)).mp c_64)
                      refine gx_top (x := (bAgree C (nI d) (nI p) (nI q)).1) (y := (-1)) e_1 ?_
                      refine gx_iload (pc := 651) hB dL_acts_651 3 rfl ?_
                      refine gx_iload (pc := 653) hB dL_acts_653 2 rfl ?_
                      refine gx_icmp_ne (pc := 655) hB 662 dL_acts_655 (by decide) (fun c_65 => ?_) (fun c_65 => ?_)
                      · exact (by first | exact absurd c_64 c_65 | exact absurd c_65 c_64 | exact absurd c_64 (Int32.not_le.mpr c_65) | exact absurd c_64 (Int32.not_lt.mpr c_65) | exact absurd (Int32.not_le.mp c_64) c_65 | exact absurd (Int32.not_lt.mp c_64) c_65)
                      · refine gx_iconst (pc := 658) hB dL_acts_658 (-1) (by decide) ?_
                        refine gx_goto (pc := 659) hB 664 dL_acts_659 (by decide) ?_
                        refine gx_icmp_ne (pc := 664) hB 671 dL_acts_664 (by decide) (fun c_66 => ?_) (fun c_66 => ?_)
                        · exact absurd c_66 (by decide)
                        · refine gx_iconst (pc := 667) hB dL_acts_667 1 (by decide) ?_
                          refine gx_goto (pc := 668) hB 672 dL_acts_668 (by decide) ?_
                          exact gx_zret (pc := 672) hC dL_acts_672 (Nat.zero_le _) (Nat.zero_le _) (by decide) ⟨rfl, _, _, _, _, _, _, _, _, _, _, _, rfl, hI⟩
                    · refine gx_iload (pc := 636) hB dL_acts_636 0 rfl ?_
                      refine gx_if_eq (pc := 638) hB 673 dL_acts_638 (by decide) (fun c_67 => ?_) (fun c_67 => ?_)
                      · refine gx_aload_n (pc := 673) hB dL_acts_673 9 rfl ?_
                        refine gx_bipush (pc := 674) hB dL_acts_674 7 (by decide) ?_
                        refine gx_iload (pc := 676) hB dL_acts_676 1 rfl ?_
                        refine gx_imul (pc := 678) hB dL_acts_678 ?_
                        refine gx_top (show 7 * nI d = nI (7 * d) from pk_mul 7 d) ?_
                        refine gx_iconst (pc := 679) hB dL_acts_679 1 (by decide) ?_
                        refine gx_iadd (pc := 680) hB dL_acts_680 ?_
                        refine gx_top (show (nI (7 * d)) + 1 = nI (7 * d + 1) from nI_add (7 * d) 1) ?_
                        refine gx_iload (pc := 681) hB dL_acts_681 3 rfl ?_
                        refine gx_iadd (pc := 683) hB dL_acts_683 ?_
                        refine gx_top (show (nI (7 * d + 1)) + nI p = nI (7 * d + 1 + p) from nI_add (7 * d + 1) p) ?_
                        refine gx_iload (pc := 684) hB dL_acts_684 2 rfl ?_
                        refine gx_iast (pc := 686) hB dL_acts_686 25 1 rfl rfl (7 * d + 1 + p) rfl (by omega) (by decide) ((wZ K ad C R od sn ++ [(ug, .inl (K.2.1.2.1, 8, .inl G)), (uf, .inl (K.2.1.2.1, 60, .inl F)), (ud, .inl (K.2.1.2.1, 56, .inl (upd D (7 * d + 1 + p) (nI q)))), (uh, .inl (K.2.1.2.1, 48, .inl H)), (uv, .inl (K.2.1.2.1, 48, .inl V)), (uj, .inl (K.2.1.2.1, 48, .inl J)), (uq, .inl (K.2.1.2.1, 48, .inl Q))])) rfl ?_
                        refine gx_aload_n (pc := 687) hB dL_acts_687 6 rfl ?_
                        refine gx_iload (pc := 688) hB dL_acts_688 1 rfl ?_
                        refine gx_iload (pc := 690) hB dL_acts_690 3 rfl ?_
                        refine gx_iload (pc := 692) hB dL_acts_692 2 rfl ?_
                        refine gx_dVA (pc := 694) (r := (bAgree C (nI d) (nI p) (nI q)).1) (W1 := wZ K ad ((bAgree C (nI d) (nI p) (nI q)).2) (kR C R od sn) (kOd (bAgree C (nI d) (nI p) (nI q)).1 od sn) (kSn (bAgree C (nI d) (nI p) (nI q)).1 sn)) (wr := [(ug, .inl (K.2.1.2.1, 8, .inl G)), (uf, .inl (K.2.1.2.1, 60, .inl F)), (ud, .inl (K.2.1.2.1, 56, .inl (upd D (7 * d + 1 + p) (nI q)))), (uh, .inl (K.2.1.2.1, 48, .inl H)), (uv, .inl (K.2.1.2.1, 48, .inl V)), (uj, .inl (K.2.1.2.1, 48, .inl J)), (uq, .inl (K.2.1.2.1, 48, .inl Q))]) hB (k_agree l K ad C R od sn (nI d) (nI p) (nI q) ho hsn) mX4_agree dL_acts_694 tb_380 pX4_agree ⟨Nat.le_of_ble_eq_true rfl, Nat.le_of_ble_eq_true rfl⟩ ⟨rfl, rfl⟩ ⟨Nat.le_of_ble_eq_true rfl, Nat.le_of_ble_eq_true rfl⟩ rfl (Nat.le_of_ble_eq_true rfl) (List.range 23) (List.range' 23 7) rfl rfl (by decide) (by decide) (by decide) rfl rfl (List.range' 7 23 ++ List.range 7) (by decide) rfl ?_
                        obtain ⟨e_1, hI⟩ := t_ag_ok h0 hd hp hq (fun z => c_64 (by rw [z])) c_49 c_56 (Int32.not_le.mpr c_63)
                        refine gx_top (x := (bAgree C (nI d) (nI p) (nI q)).1) (y := wtN S (nI d) (nI p) c) e_1 ?_
                        refine gx_aload_n (pc := 697) hB dL_acts_697 7 rfl ?_
                        refine gx_aload (pc := 698) hB dL_acts_698 10 rfl ?_
                        refine gx_aload (pc := 700) hB dL_acts_700 11 rfl ?_
                        refine gx_aload (pc := 702) hB dL_acts_702 12 rfl ?_
                        refine gx_iload (pc := 704) hB dL_acts_704 1 rfl ?_
                        refine gx_iload (pc := 706) hB dL_acts_706 3 rfl ?_
                        refine gx_dSi (pc := 708) (r := wtN S (nI d) (nI p) c) (wr := (wZ K ad ((bAgree C (nI d) (nI p) (nI q)).2) (kR C R od sn) (kOd (bAgree C (nI d) (nI p) (nI q)).1 od sn) (kSn (bAgree C (nI d) (nI p) (nI q)).1 sn) ++ [(uf, .inl (K.2.1.2.1, 60, .inl F)), (ud, .inl (K.2.1.2.1, 56, .inl (upd D (7 * d + 1 + p) (nI q)))), (uq, .inl (K.2.1.2.1, 48, .inl Q))])) hB (c_L_weight l K ug uh uv uj G H V J S c (nI d) (nI p) h0.2.1.1.2.2.2.2.1 (by first | assumption | omega | decide) h0.2.1.2.2.2.1) mL_weight dL_acts_708 tb_404 pL_weight ⟨Nat.le_of_ble_eq_true rfl, Nat.le_of_ble_eq_true rfl⟩ ⟨rfl, rfl⟩ ⟨Nat.le_of_ble_eq_true rfl, Nat.le_of_ble_eq_true rfl⟩ rfl (Nat.le_of_ble_eq_true rfl) [23, 26, 27, 28] [0, 1, 2, 3, 4, 5, 6, 7, 8, 9, 10, 11, 12, 13, 14, 15, 16, 17, 18, 19, 20, 21, 22, 24, 25, 29] rfl rfl (by decide) (by decide) (by decide) [0, 1, 2, 3, 4, 5, 6, 7, 8, 9, 10, 11, 12, 13, 14, 15, 16, 17, 18, 19, 20, 21, 22, 26, 23, 24, 27, 28, 29, 25] (by decide) ((wZ K ad ((bAgree C (nI d) (nI p) (nI q)).2) (kR C R od sn) (kOd (bAgree C (nI d) (nI p) (nI q)).1 od sn) (kSn (bAgree C (nI d) (nI p) (nI q)).1 sn) ++ [(ug, .inl (K.2.1.2.1, 8, .inl G)), (uf, .inl (K.2.1.2.1, 60, .inl F)), (ud, .inl (K.2.1.2.1, 56, .inl (upd D (7 * d + 1 + p) (nI q)))), (uh, .inl (K.2.1.2.1, 48, .inl H)), (uv, .inl (K.2.1.2.1, 48, .inl V)), (uj, .inl (K.2.1.2.1, 48, .inl J)), (uq, .inl (K.2.1.2.1, 48, .inl Q))])) rfl ?_
                        refine gx_icmp_ne (pc := 711) hB 718 dL_acts_711 (by decide) (fun c_68 => ?_) (fun c_68 => ?_)
                        · exact absurd rfl c_68
                        · refine gx_iconst (pc := 714) hB dL_acts_714 1 (by decide) ?_
                          refine gx_goto (pc := 715) hB 719 dL_acts_715 (by decide) ?_
                          exact gx_zret (pc := 719) hC dL_acts_719 (Nat.zero_le _) (Nat.zero_le _) (by decide) ⟨rfl, _, _, _, _, _, _, _, _, _, _, _, rfl, hI⟩
                      · exact absurd c_67 (by decide)
                  · refine gx_iconst (pc := 622) hB dL_acts_622 1 (by decide) ?_
                    refine gx_goto (pc := 623) hB 627 dL_acts_623 (by decide) ?_
                    refine gx_istore (pc := 627) hB dL_acts_627 (by decide) [(14, .int 1), (13, .int (nI d)), (12, .int (nI q)), (11, .int (nI p)), (10, .int (nI w)), (9, .int (nI y)), (0, .ref (ad 0)), (1, .ref ug), (2, .ref uf), (3, .ref ud), (4, .ref uh), (5, .ref uv), (6, .ref uj), (7, .ref uq), (8, .int z)] rfl ?_
                    refine gx_iload (pc := 629) hB dL_acts_629 3 rfl ?_
                    refine gx_iload (pc := 631) hB dL_acts_631 2 rfl ?_
                    refine gx_icmp_eq (pc := 633) hB 641 dL_acts_633 (by decide) (fun c_69 => ?_) (fun c_69 => ?_)
                    · refine gx_aload_n (pc := 641) hB dL_acts_641 6 rfl ?_
                      refine gx_iload (pc := 642) hB dL_acts_642 1 rfl ?_
                      refine gx_iload (pc := 644) hB dL_acts_644 3 rfl ?_
                      refine gx_iload (pc := 646) hB dL_acts_646 2 rfl ?_
                      refine gx_dVA (pc := 648) (r := (bAgree C (nI d) (nI p) (nI q)).1) (W1 := wZ K ad ((bAgree C (nI d) (nI p) (nI q)).2) (kR C R od sn) (kOd (bAgree C (nI d) (nI p) (nI q)).1 od sn) (kSn (bAgree C (nI d) (nI p) (nI q)).1 sn)) (wr := [(ug, .inl (K.2.1.2.1, 8, .inl G)), (uf, .inl (K.2.1.2.1, 60, .inl F)), (ud, .inl (K.2.1.2.1, 56, .inl D)), (uh, .inl (K.2.1.2.1, 48, .inl H)), (uv, .inl (K.2.1.2.1, 48, .inl V)), (uj, .inl (K.2.1.2.1, 48, .inl J)), (uq, .inl (K.2.1.2.1, 48, .inl Q))]) hB (k_agree l K ad C R od sn (nI d) (nI p) (nI q) ho hsn) mX4_agree dL_acts_648 tb_380 pX4_agree ⟨Nat.le_of_ble_eq_true rfl, Nat.le_of_ble_eq_true rfl⟩ ⟨rfl, rfl⟩ ⟨Nat.le_of_ble_eq_true rfl, Nat.le_of_ble_eq_true rfl⟩ rfl (Nat.le_of_ble_eq_true rfl) (List.range 23) (List.range' 23 7) rfl rfl (by decide) (by decide) (by decide) rfl rfl (List.range' 7 23 ++ List.range 7) (by decide) rfl ?_
                      obtain ⟨e_1, hI⟩ := t_ag_same2 h0 ((nI_eq (by omega) (by omega)).mp c_69)
                      refine gx_top (x := (bAgree C (nI d) (nI p) (nI q)).1) (y := (-1)) e_1 ?_
                      refine gx_iload (pc := 651) hB dL_acts_651 3 rfl ?_
                      refine gx_iload (pc := 653) hB dL_acts_653 2 rfl ?_
                      refine gx_icmp_ne (pc := 655) hB 662 dL_acts_655 (by decide) (fun c_70 => ?_) (fun c_70 => ?_)
                      · exact (by first | exact absurd c_69 c_70 | exact absurd c_70 c_69 | exact absurd c_69 (Int32.not_le.mpr c_70) | exact absurd c_69 (Int32.not_lt.mpr c_70) | exact absurd (Int32.not_le.mp c_69) c_70 | exact absurd (Int32.not_lt.mp c_69) c_70)
                      · refine gx_iconst (pc := 658) hB dL_acts_658 (-1) (by decide) ?_
                        refine gx_goto (pc := 659) hB 664 dL_acts_659 (by decide) ?_
                        refine gx_icmp_ne (pc := 664) hB 671 dL_acts_664 (by decide) (fun c_71 => ?_) (fun c_71 => ?_)
                        · exact absurd c_71 (by decide)
                        · refine gx_iconst (pc := 667) hB dL_acts_667 1 (by decide) ?_
                          refine gx_goto (pc := 668) hB 672 dL_acts_668 (by decide) ?_
                          exact gx_zret (pc := 672) hC dL_acts_672 (Nat.zero_le _) (Nat.zero_le _) (by decide) ⟨rfl, _, _, _, _, _, _, _, _, _, _, _, rfl, hI⟩
                    · refine gx_iload (pc := 636) hB dL_acts_636 0 rfl ?_
                      refine gx_if_eq (pc := 638) hB 673 dL_acts_638 (by decide) (fun c_72 => ?_) (fun c_72 => ?_)
                      · exact absurd c_72 (by decide)
                      · refine gx_aload_n (pc := 641) hB dL_acts_641 6 rfl ?_
                        refine gx_iload (pc := 642) hB dL_acts_642 1 rfl ?_
                        refine gx_iload (pc := 644) hB dL_acts_644 3 rfl ?_
                        refine gx_iload (pc := 646) hB dL_acts_646 2 rfl ?_
                        refine gx_dVA (pc := 648) (r := (bAgree C (nI d) (nI p) (nI q)).1) (W1 := wZ K ad ((bAgree C (nI d) (nI p) (nI q)).2) (kR C R od sn) (kOd (bAgree C (nI d) (nI p) (nI q)).1 od sn) (kSn (bAgree C (nI d) (nI p) (nI q)).1 sn)) (wr := [(ug, .inl (K.2.1.2.1, 8, .inl G)), (uf, .inl (K.2.1.2.1, 60, .inl F)), (ud, .inl (K.2.1.2.1, 56, .inl D)), (uh, .inl (K.2.1.2.1, 48, .inl H)), (uv, .inl (K.2.1.2.1, 48, .inl V)), (uj, .inl (K.2.1.2.1, 48, .inl J)), (uq, .inl (K.2.1.2.1, 48, .inl Q))]) hB (k_agree l K ad C R od sn (nI d) (nI p) (nI q) ho hsn) mX4_agree dL_acts_648 tb_380 pX4_agree ⟨Nat.le_of_ble_eq_true rfl, Nat.le_of_ble_eq_true rfl⟩ ⟨rfl, rfl⟩ ⟨Nat.le_of_ble_eq_true rfl, Nat.le_of_ble_eq_true rfl⟩ rfl (Nat.le_of_ble_eq_true rfl) (List.range 23) (List.range' 23 7) rfl rfl (by decide) (by decide) (by decide) rfl rfl (List.range' 7 23 ++ List.range 7) (by decide) rfl ?_
                        obtain ⟨e_1, hI⟩ := t_ag_no h0 hd hp hq (fun z => c_69 (by rw [z])) (Or.inr (Or.inr (Int32.not_lt.mp c_63)))
                        refine gx_top (x := (bAgree C (nI d) (nI p) (nI q)).1) (y := (-2)) e_1 ?_
                        refine gx_iload (pc := 651) hB dL_acts_651 3 rfl ?_
                        refine gx_iload (pc := 653) hB dL_acts_653 2 rfl ?_
                        refine gx_icmp_ne (pc := 655) hB 662 dL_acts_655 (by decide) (fun c_73 => ?_) (fun c_73 => ?_)
                        · refine gx_bipush (pc := 662) hB dL_acts_662 (-2) (by decide) ?_
                          refine gx_icmp_ne (pc := 664) hB 671 dL_acts_664 (by decide) (fun c_74 => ?_) (fun c_74 => ?_)
                          · exact absurd c_74 (by decide)
                          · refine gx_iconst (pc := 667) hB dL_acts_667 1 (by decide) ?_
                            refine gx_goto (pc := 668) hB 672 dL_acts_668 (by decide) ?_
                            exact gx_zret (pc := 672) hC dL_acts_672 (Nat.zero_le _) (Nat.zero_le _) (by decide) ⟨rfl, _, _, _, _, _, _, _, _, _, _, _, rfl, hI⟩
                        · exact (by first | exact absurd c_69 c_73 | exact absurd c_73 c_69 | exact absurd c_69 (Int32.not_le.mpr c_73) | exact absurd c_69 (Int32.not_lt.mpr c_73) | exact absurd (Int32.not_le.mp c_69) c_73 | exact absurd (Int32.not_lt.mp c_69) c_73)
          · refine gx_iconst (pc := 379) hB dL_acts_379 1 (by decide) ?_
            refine gx_iload (pc := 380) hB dL_acts_380 2 rfl ?_
            refine gx_bipush (pc := 382) hB dL_acts_382 6 (by decide) ?_
            refine gx_idiv (pc := 384) hB dL_acts_384 (by decide) ?_
            refine gx_top (show nI y / 6 = nI (y / 6) from pk_div (a := y) (d := 6) (by omega) (by omega) (by omega)) ?_
            refine gx_iload (pc := 385) hB dL_acts_385 2 rfl ?_
            refine gx_iconst (pc := 387) hB dL_acts_387 3 (by decide) ?_
            refine gx_irem (pc := 388) hB dL_acts_388 (by decide) ?_
            refine gx_top (show nI y - nI y / 3 * 3 = nI (y % 3) from pk_rem (a := y) (d := 3) (by omega) (by omega) (by omega)) ?_
            refine gx_if_ne (pc := 389) hB 398 dL_acts_389 (by decide) (fun c_75 => ?_) (fun c_75 => ?_)
            · refine gx_sipush (pc := 398) hB dL_acts_398 150 (by decide) ?_
              refine gx_irem (pc := 401) hB dL_acts_401 (by decide) ?_
              refine gx_top (show (nI (y / 6)) - (nI (y / 6)) / 150 * 150 = nI ((y / 6) % 150) from pk_rem (a := y / 6) (d := 150) (by omega) (by omega) (by omega)) ?_
              refine gx_iadd (pc := 402) hB dL_acts_402 ?_
              refine gx_top (show 1 + (nI ((y / 6) % 150)) = nI (1 + ((y / 6) % 150)) from nI_add 1 ((y / 6) % 150)) ?_
              refine gx_istore (pc := 403) hB dL_acts_403 (by decide) [(12, .int (nI (1 + ((y / 6) % 150)))), (11, .int (nI p)), (10, .int (nI w)), (9, .int (nI y)), (0, .ref (ad 0)), (1, .ref ug), (2, .ref uf), (3, .ref ud), (4, .ref uh), (5, .ref uv), (6, .ref uj), (7, .ref uq), (8, .int z)] rfl ?_
              refine gx_aload_n (pc := 405) hB dL_acts_405 6 rfl ?_
              refine gx_bipush (pc := 406) hB dL_acts_406 10 (by decide) ?_
              refine gx_iload (pc := 408) hB dL_acts_408 1 rfl ?_
              refine gx_imul (pc := 410) hB dL_acts_410 ?_
              refine gx_top (show 10 * nI p = nI (10 * p) from pk_mul 10 p) ?_
              refine gx_iald (pc := 411) hB dL_acts_411 24 1 rfl rfl (10 * p) rfl (by omega) (by decide) ?_
              refine gx_iload (pc := 412) hB dL_acts_412 0 rfl ?_
              refine gx_icmp_ge (pc := 414) hB 430 dL_acts_414 (by decide) (fun c_76 => ?_) (fun c_76 => ?_)
              · refine gx_iconst (pc := 430) hB dL_acts_430 0 (by decide) ?_
                refine gx_istore (pc := 431) hB dL_acts_431 (by decide) [(13, .int 0), (12, .int (nI (1 + ((y / 6) % 150)))), (11, .int (nI p)), (10, .int (nI w)), (9, .int (nI y)), (0, .ref (ad 0)), (1, .ref ug), (2, .ref uf), (3, .ref ud), (4, .ref uh), (5, .ref uv), (6, .ref uj), (7, .ref uq), (8, .int z)] rfl ?_
                refine gx_aload_n (pc := 433) hB dL_acts_433 7 rfl ?_
                refine gx_bipush (pc := 434) hB dL_acts_434 10 (by decide) ?_
                refine gx_iload (pc := 436) hB dL_acts_436 2 rfl ?_
                refine gx_imul (pc := 438) hB dL_acts_438 ?_
                refine gx_top (show 10 * nI p = nI (10 * p) from pk_mul 10 p) ?_
                refine gx_bipush (pc := 439) hB dL_acts_439 9 (by decide) ?_
                refine gx_iadd (pc := 441) hB dL_acts_441 ?_
                refine gx_top (show (nI (10 * p)) + 9 = nI (10 * p + 9) from nI_add (10 * p) 9) ?_
                refine gx_iald (pc := 442) hB dL_acts_442 24 1 rfl rfl (10 * p + 9) rfl (by omega) (by decide) ?_
                refine gx_if_ge (pc := 443) hB 464 dL_acts_443 (by decide) (fun c_77 => ?_) (fun c_77 => ?_)
                · refine gx_aload_n (pc := 464) hB dL_acts_464 5 rfl ?_
                  refine gx_iload (pc := 465) hB dL_acts_465 2 rfl ?_
                  refine gx_iload (pc := 467) hB dL_acts_467 1 rfl ?_
                  refine gx_dVA (pc := 469) (r := (bSpend C (nI p) (nI (1 + ((y / 6) % 150)))).1) (W1 := wZ K ad ((bSpend C (nI p) (nI (1 + ((y / 6) % 150)))).2) (kR C R od sn) (kOd (bSpend C (nI p) (nI (1 + ((y / 6) % 150)))).1 od sn) (kSn (bSpend C (nI p) (nI (1 + ((y / 6) % 150)))).1 sn)) (wr := [(ug, .inl (K.2.1.2.1, 8, .inl G)), (uf, .inl (K.2.1.2.1, 60, .inl F)), (ud, .inl (K.2.1.2.1, 56, .inl D)), (uh, .inl (K.2.1.2.1, 48, .inl H)), (uv, .inl (K.2.1.2.1, 48, .inl V)), (uj, .inl (K.2.1.2.1, 48, .inl J)), (uq, .inl (K.2.1.2.1, 48, .inl Q))]) hB (k_spend l K ad C R od sn (nI p) (nI (1 + ((y / 6) % 150))) ho hsn) mX4_spend dL_acts_469 tb_365 pX4_spend ⟨Nat.le_of_ble_eq_true rfl, Nat.le_of_ble_eq_true rfl⟩ ⟨rfl, rfl⟩ ⟨Nat.le_of_ble_eq_true rfl, Nat.le_of_ble_eq_true rfl⟩ rfl (Nat.le_of_ble_eq_true rfl) (List.range 23) (List.range' 23 7) rfl rfl (by decide) (by decide) (by decide) rfl rfl (List.range' 7 23 ++ List.range 7) (by decide) rfl ?_
                  obtain ⟨e_1, hI⟩ := t_sp_no (m := 1 + ((y / 6) % 150)) (v := 0) h0 hp ⟨by omega, by omega⟩ ((if_neg (Int32.not_lt.mpr c_76)).symm) (Or.inl c_77)
                  refine gx_top (x := (bSpend C (nI p) (nI (1 + ((y / 6) % 150)))).1) (y := (-2)) e_1 ?_
                  refine gx_bipush (pc := 472) hB dL_acts_472 (-2) (by decide) ?_
                  refine gx_icmp_ne (pc := 474) hB 481 dL_acts_474 (by decide) (fun c_78 => ?_) (fun c_78 => ?_)
                  · exact absurd c_78 (by decide)
                  · refine gx_iconst (pc := 477) hB dL_acts_477 1 (by decide) ?_
                    refine gx_goto (pc := 478) hB 482 dL_acts_478 (by decide) ?_
                    exact gx_zret (pc := 482) hC dL_acts_482 (Nat.zero_le _) (Nat.zero_le _) (by decide) ⟨rfl, _, _, _, _, _, _, _, _, _, _, _, rfl, hI⟩
                · refine gx_iload (pc := 446) hB dL_acts_446 0 rfl ?_
                  refine gx_if_le (pc := 448) hB 483 dL_acts_448 (by decide) (fun c_79 => ?_) (fun c_79 => ?_)
                  · refine gx_aload_n (pc := 483) hB dL_acts_483 7 rfl ?_
                    refine gx_bipush (pc := 484) hB dL_acts_484 10 (by decide) ?_
                    refine gx_iload (pc := 486) hB dL_acts_486 2 rfl ?_
                    refine gx_imul (pc := 488) hB dL_acts_488 ?_
                    refine gx_top (show 10 * nI p = nI (10 * p) from pk_mul 10 p) ?_
                    refine gx_dup2 (pc := 489) hB dL_acts_489 rfl rfl ?_
                    refine gx_iald (pc := 490) hB dL_acts_490 24 1 rfl rfl (10 * p) rfl (by omega) (by decide) ?_
                    refine gx_iload (pc := 491) hB dL_acts_491 1 rfl ?_
                    refine gx_iload (pc := 493) hB dL_acts_493 0 rfl ?_
                    refine gx_isub (pc := 495) hB dL_acts_495 ?_
                    refine gx_isub (pc := 496) hB dL_acts_496 ?_
                    refine gx_iast (pc := 497) hB dL_acts_497 24 1 rfl rfl (10 * p) rfl (by omega) (by decide) ((wZ K ad C R od sn ++ [(ug, .inl (K.2.1.2.1, 8, .inl G)), (uf, .inl (K.2.1.2.1, 60, .inl (upd F (10 * p) ((F (10 * p)) - ((nI (1 + ((y / 6) % 150))) - 0))))), (ud, .inl (K.2.1.2.1, 56, .inl D)), (uh, .inl (K.2.1.2.1, 48, .inl H)), (uv, .inl (K.2.1.2.1, 48, .inl V)), (uj, .inl (K.2.1.2.1, 48, .inl J)), (uq, .inl (K.2.1.2.1, 48, .inl Q))])) rfl ?_
                    refine gx_aload_n (pc := 498) hB dL_acts_498 7 rfl ?_
                    refine gx_bipush (pc := 499) hB dL_acts_499 10 (by decide) ?_
                    refine gx_iload (pc := 501) hB dL_acts_501 2 rfl ?_
                    refine gx_imul (pc := 503) hB dL_acts_503 ?_
                    refine gx_top (show 10 * nI p = nI (10 * p) from pk_mul 10 p) ?_
                    refine gx_iconst (pc := 504) hB dL_acts_504 3 (by decide) ?_
                    refine gx_iadd (pc := 505) hB dL_acts_505 ?_
                    refine gx_top (show (nI (10 * p)) + 3 = nI (10 * p + 3) from nI_add (10 * p) 3) ?_
                    refine gx_dup2 (pc := 506) hB dL_acts_506 rfl rfl ?_
                    refine gx_iald (pc := 507) hB dL_acts_507 24 1 rfl rfl (10 * p + 3) rfl (by omega) (by decide) ?_
                    refine gx_iload (pc := 508) hB dL_acts_508 1 rfl ?_
                    refine gx_iadd (pc := 510) hB dL_acts_510 ?_
                    refine gx_iast (pc := 511) hB dL_acts_511 24 1 rfl rfl (10 * p + 3) rfl (by omega) (by decide) ((wZ K ad C R od sn ++ [(ug, .inl (K.2.1.2.1, 8, .inl G)), (uf, .inl (K.2.1.2.1, 60, .inl (upd (upd F (10 * p) ((F (10 * p)) - ((nI (1 + ((y / 6) % 150))) - 0))) (10 * p + 3) (((upd F (10 * p) ((F (10 * p)) - ((nI (1 + ((y / 6) % 150))) - 0))) (10 * p + 3)) + (nI (1 + ((y / 6) % 150))))))), (ud, .inl (K.2.1.2.1, 56, .inl D)), (uh, .inl (K.2.1.2.1, 48, .inl H)), (uv, .inl (K.2.1.2.1, 48, .inl V)), (uj, .inl (K.2.1.2.1, 48, .inl J)), (uq, .inl (K.2.1.2.1, 48, .inl Q))])) rfl ?_
                    refine gx_aload_n (pc := 512) hB dL_acts_512 7 rfl ?_
                    refine gx_bipush (pc := 513) hB dL_acts_513 10 (by decide) ?_
                    refine gx_iload (pc := 515) hB dL_acts_515 2 rfl ?_
                    refine gx_imul (pc := 517) hB dL_acts_517 ?_
                    refine gx_top (show 10 * nI p = nI (10 * p) from pk_mul 10 p) ?_
                    refine gx_iconst (pc := 518) hB dL_acts_518 4 (by decide) ?_
                    refine gx_iadd (pc := 519) hB dL_acts_519 ?_
                    refine gx_top (show (nI (10 * p)) + 4 = nI (10 * p + 4) from nI_add (10 * p) 4) ?_
                    refine gx_dup2 (pc := 520) hB dL_acts_520 rfl rfl ?_
                    refine gx_iald (pc := 521) hB dL_acts_521 24 1 rfl rfl (10 * p + 4) rfl (by omega) (by decide) ?_
                    refine gx_iload (pc := 522) hB dL_acts_522 0 rfl ?_
                    refine gx_iadd (pc := 524) hB dL_acts_524 ?_
                    refine gx_iast (pc := 525) hB dL_acts_525 24 1 rfl rfl (10 * p + 4) rfl (by omega) (by decide) ((wZ K ad C R od sn ++ [(ug, .inl (K.2.1.2.1, 8, .inl G)), (uf, .inl (K.2.1.2.1, 60, .inl (upd (upd (upd F (10 * p) ((F (10 * p)) - ((nI (1 + ((y / 6) % 150))) - 0))) (10 * p + 3) (((upd F (10 * p) ((F (10 * p)) - ((nI (1 + ((y / 6) % 150))) - 0))) (10 * p + 3)) + (nI (1 + ((y / 6) % 150))))) (10 * p + 4) (((upd (upd F (10 * p) ((F (10 * p)) - ((nI (1 + ((y / 6) % 150))) - 0))) (10 * p + 3) (((upd F (10 * p) ((F (10 * p)) - ((nI (1 + ((y / 6) % 150))) - 0))) (10 * p + 3)) + (nI (1 + ((y / 6) % 150))))) (10 * p + 4)) + 0)))), (ud, .inl (K.2.1.2.1, 56, .inl D)), (uh, .inl (K.2.1.2.1, 48, .inl H)), (uv, .inl (K.2.1.2.1, 48, .inl V)), (uj, .inl (K.2.1.2.1, 48, .inl J)), (uq, .inl (K.2.1.2.1, 48, .inl Q))])) rfl ?_
                    refine gx_aload_n (pc := 526) hB dL_acts_526 7 rfl ?_
                    refine gx_iconst (pc := 527) hB dL_acts_527 0 (by decide) ?_
                    refine gx_dup2 (pc := 528) hB dL_acts_528 rfl rfl ?_
                    refine gx_iald (pc := 529) hB dL_acts_529 24 1 rfl rfl 0 rfl (by decide) (by decide) ?_
                    refine gx_iload (pc := 530) hB dL_acts_530 0 rfl ?_
                    refine gx_isub (pc := 532) hB dL_acts_532 ?_
                    refine gx_iast (pc := 533) hB dL_acts_533 24 1 rfl rfl 0 rfl (by decide) (by decide) ((wZ K ad C R od sn ++ [(ug, .inl (K.2.1.2.1, 8, .inl G)), (uf, .inl (K.2.1.2.1, 60, .inl (upd (upd (upd (upd F (10 * p) ((F (10 * p)) - ((nI (1 + ((y / 6) % 150))) - 0))) (10 * p + 3) (((upd F (10 * p) ((F (10 * p)) - ((nI (1 + ((y / 6) % 150))) - 0))) (10 * p + 3)) + (nI (1 + ((y / 6) % 150))))) (10 * p + 4) (((upd (upd F (10 * p) ((F (10 * p)) - ((nI (1 + ((y / 6) % 150))) - 0))) (10 * p + 3) (((upd F (10 * p) ((F (10 * p)) - ((nI (1 + ((y / 6) % 150))) - 0))) (10 * p + 3)) + (nI (1 + ((y / 6) % 150))))) (10 * p + 4)) + 0)) 0 (((upd (upd (upd F (10 * p) ((F (10 * p)) - ((nI (1 + ((y / 6) % 150))) - 0))) (10 * p + 3) (((upd F (10 * p) ((F (10 * p)) - ((nI (1 + ((y / 6) % 150))) - 0))) (10 * p + 3)) + (nI (1 + ((y / 6) % 150))))) (10 * p + 4) (((upd (upd F (10 * p) ((F (10 * p)) - ((nI (1 + ((y / 6) % 150))) - 0))) (10 * p + 3) (((upd F (10 * p) ((F (10 * p)) - ((nI (1 + ((y / 6) % 150))) - 0))) (10 * p + 3)) + (nI (1 + ((y / 6) % 150))))) (10 * p + 4)) + 0)) 0) - 0)))), (ud, .inl (K.2.1.2.1, 56, .inl D)), (uh, .inl (K.2.1.2.1, 48, .inl H)), (uv, .inl (K.2.1.2.1, 48, .inl V)), (uj, .inl (K.2.1.2.1, 48, .inl J)), (uq, .inl (K.2.1.2.1, 48, .inl Q))])) rfl ?_
                    refine gx_aload_n (pc := 534) hB dL_acts_534 6 rfl ?_
                    refine gx_bipush (pc := 535) hB dL_acts_535 7 (by decide) ?_
                    refine gx_dup2 (pc := 537) hB dL_acts_537 rfl rfl ?_
                    refine gx_iald (pc := 538) hB dL_acts_538 23 1 rfl rfl 7 rfl (by decide) (by decide) ?_
                    refine gx_iload (pc := 539) hB dL_acts_539 0 rfl ?_
                    refine gx_iadd (pc := 541) hB dL_acts_541 ?_
                    refine gx_iast (pc := 542) hB dL_acts_542 23 1 rfl rfl 7 rfl (by decide) (by decide) ((wZ K ad C R od sn ++ [(ug, .inl (K.2.1.2.1, 8, .inl (upd G 7 (G 7 + 0)))), (uf, .inl (K.2.1.2.1, 60, .inl (upd (upd (upd (upd F (10 * p) ((F (10 * p)) - ((nI (1 + ((y / 6) % 150))) - 0))) (10 * p + 3) (((upd F (10 * p) ((F (10 * p)) - ((nI (1 + ((y / 6) % 150))) - 0))) (10 * p + 3)) + (nI (1 + ((y / 6) % 150))))) (10 * p + 4) (((upd (upd F (10 * p) ((F (10 * p)) - ((nI (1 + ((y / 6) % 150))) - 0))) (10 * p + 3) (((upd F (10 * p) ((F (10 * p)) - ((nI (1 + ((y / 6) % 150))) - 0))) (10 * p + 3)) + (nI (1 + ((y / 6) % 150))))) (10 * p + 4)) + 0)) 0 (((upd (upd (upd F (10 * p) ((F (10 * p)) - ((nI (1 + ((y / 6) % 150))) - 0))) (10 * p + 3) (((upd F (10 * p) ((F (10 * p)) - ((nI (1 + ((y / 6) % 150))) - 0))) (10 * p + 3)) + (nI (1 + ((y / 6) % 150))))) (10 * p + 4) (((upd (upd F (10 * p) ((F (10 * p)) - ((nI (1 + ((y / 6) % 150))) - 0))) (10 * p + 3) (((upd F (10 * p) ((F (10 * p)) - ((nI (1 + ((y / 6) % 150))) - 0))) (10 * p + 3)) + (nI (1 + ((y / 6) % 150))))) (10 * p + 4)) + 0)) 0) - 0)))), (ud, .inl (K.2.1.2.1, 56, .inl D)), (uh, .inl (K.2.1.2.1, 48, .inl H)), (uv, .inl (K.2.1.2.1, 48, .inl V)), (uj, .inl (K.2.1.2.1, 48, .inl J)), (uq, .inl (K.2.1.2.1, 48, .inl Q))])) rfl ?_
                    refine gx_aload_n (pc := 543) hB dL_acts_543 5 rfl ?_
                    refine gx_iload (pc := 544) hB dL_acts_544 2 rfl ?_
                    refine gx_iload (pc := 546) hB dL_acts_546 1 rfl ?_
                    refine gx_dVA (pc := 548) (r := (bSpend C (nI p) (nI (1 + ((y / 6) % 150)))).1) (W1 := wZ K ad ((bSpend C (nI p) (nI (1 + ((y / 6) % 150)))).2) (kR C R od sn) (kOd (bSpend C (nI p) (nI (1 + ((y / 6) % 150)))).1 od sn) (kSn (bSpend C (nI p) (nI (1 + ((y / 6) % 150)))).1 sn)) (wr := [(ug, .inl (K.2.1.2.1, 8, .inl (upd G 7 (G 7 + 0)))), (uf, .inl (K.2.1.2.1, 60, .inl (upd (upd (upd (upd F (10 * p) ((F (10 * p)) - ((nI (1 + ((y / 6) % 150))) - 0))) (10 * p + 3) (((upd F (10 * p) ((F (10 * p)) - ((nI (1 + ((y / 6) % 150))) - 0))) (10 * p + 3)) + (nI (1 + ((y / 6) % 150))))) (10 * p + 4) (((upd (upd F (10 * p) ((F (10 * p)) - ((nI (1 + ((y / 6) % 150))) - 0))) (10 * p + 3) (((upd F (10 * p) ((F (10 * p)) - ((nI (1 + ((y / 6) % 150))) - 0))) (10 * p + 3)) + (nI (1 + ((y / 6) % 150))))) (10 * p + 4)) + 0)) 0 (((upd (upd (upd F (10 * p) ((F (10 * p)) - ((nI (1 + ((y / 6) % 150))) - 0))) (10 * p + 3) (((upd F (10 * p) ((F (10 * p)) - ((nI (1 + ((y / 6) % 150))) - 0))) (10 * p + 3)) + (nI (1 + ((y / 6) % 150))))) (10 * p + 4) (((upd (upd F (10 * p) ((F (10 * p)) - ((nI (1 + ((y / 6) % 150))) - 0))) (10 * p + 3) (((upd F (10 * p) ((F (10 * p)) - ((nI (1 + ((y / 6) % 150))) - 0))) (10 * p + 3)) + (nI (1 + ((y / 6) % 150))))) (10 * p + 4)) + 0)) 0) - 0)))), (ud, .inl (K.2.1.2.1, 56, .inl D)), (uh, .inl (K.2.1.2.1, 48, .inl H)), (uv, .inl (K.2.1.2.1, 48, .inl V)), (uj, .inl (K.2.1.2.1, 48, .inl J)), (uq, .inl (K.2.1.2.1, 48, .inl Q))]) hB (k_spend l K ad C R od sn (nI p) (nI (1 + ((y / 6) % 150))) ho hsn) mX4_spend dL_acts_548 tb_365 pX4_spend ⟨Nat.le_of_ble_eq_true rfl, Nat.le_of_ble_eq_true rfl⟩ ⟨rfl, rfl⟩ ⟨Nat.le_of_ble_eq_true rfl, Nat.le_of_ble_eq_true rfl⟩ rfl (Nat.le_of_ble_eq_true rfl) (List.range 23) (List.range' 23 7) rfl rfl (by decide) (by decide) (by decide) rfl rfl (List.range' 7 23 ++ List.range 7) (by decide) rfl ?_
                    obtain ⟨e_1, hI⟩ := t_sp_ok (m := 1 + ((y / 6) % 150)) (v := 0) h0 hp ⟨by omega, by omega⟩ ((if_neg (Int32.not_lt.mpr c_76)).symm) c_77 (fun z => absurd z.1 (by decide)) rfl rfl rfl rfl
                    refine gx_top (x := (bSpend C (nI p) (nI (1 + ((y / 6) % 150)))).1) (y := 0) e_1 ?_
                    refine gx_iload (pc := 551) hB dL_acts_551 0 rfl ?_
                    refine gx_icmp_ne (pc := 553) hB 560 dL_acts_553 (by decide) (fun c_80 => ?_) (fun c_80 => ?_)
                    · exact absurd c_80 (by decide)
                    · refine gx_iconst (pc := 556) hB dL_acts_556 1 (by decide) ?_
                      refine gx_goto (pc := 557) hB 561 dL_acts_557 (by decide) ?_
                      exact gx_zret (pc := 561) hC dL_acts_561 (Nat.zero_le _) (Nat.zero_le _) (by decide) ⟨rfl, _, _, _, _, _, _, _, _, _, _, _, rfl, hI⟩
                  · exact absurd c_79 (by decide)
              · refine gx_iload (pc := 417) hB dL_acts_417 0 rfl ?_
                refine gx_aload_n (pc := 419) hB dL_acts_419 6 rfl ?_
                refine gx_bipush (pc := 420) hB dL_acts_420 10 (by decide) ?_
                refine gx_iload (pc := 422) hB dL_acts_422 1 rfl ?_
                refine gx_imul (pc := 424) hB dL_acts_424 ?_
                refine gx_top (show 10 * nI p = nI (10 * p) from pk_mul 10 p) ?_
                refine gx_iald (pc := 425) hB dL_acts_425 24 1 rfl rfl (10 * p) rfl (by omega) (by decide) ?_
                refine gx_isub (pc := 426) hB dL_acts_426 ?_
                refine gx_goto (pc := 427) hB 431 dL_acts_427 (by decide) ?_
                refine gx_istore (pc := 431) hB dL_acts_431 (by decide) [(13, .int ((nI (1 + ((y / 6) % 150))) - (F (10 * p)))), (12, .int (nI (1 + ((y / 6) % 150)))), (11, .int (nI p)), (10, .int (nI w)), (9, .int (nI y)), (0, .ref (ad 0)), (1, .ref ug), (2, .ref uf), (3, .ref ud), (4, .ref uh), (5, .ref uv), (6, .ref uj), (7, .ref uq), (8, .int z)] rfl ?_
                refine gx_aload_n (pc := 433) hB dL_acts_433 7 rfl ?_
                refine gx_bipush (pc := 434) hB dL_acts_434 10 (by decide) ?_
                refine gx_iload (pc := 436) hB dL_acts_436 2 rfl ?_
                refine gx_imul (pc := 438) hB dL_acts_438 ?_
                refine gx_top (show 10 * nI p = nI (10 * p) from pk_mul 10 p) ?_
                refine gx_bipush (pc := 439) hB dL_acts_439 9 (by decide) ?_
                refine gx_iadd (pc := 441) hB dL_acts_441 ?_
                refine gx_top (show (nI (10 * p)) + 9 = nI (10 * p + 9) from nI_add (10 * p) 9) ?_
                refine gx_iald (pc := 442) hB dL_acts_442 24 1 rfl rfl (10 * p + 9) rfl (by omega) (by decide) ?_
                refine gx_if_ge (pc := 443) hB 464 dL_acts_443 (by decide) (fun c_81 => ?_) (fun c_81 => ?_)
                · refine gx_aload_n (pc := 464) hB dL_acts_464 5 rfl ?_
                  refine gx_iload (pc := 465) hB dL_acts_465 2 rfl ?_
                  refine gx_iload (pc := 467) hB dL_acts_467 1 rfl ?_
                  refine gx_dVA (pc := 469) (r := (bSpend C (nI p) (nI (1 + ((y / 6) % 150)))).1) (W1 := wZ K ad ((bSpend C (nI p) (nI (1 + ((y / 6) % 150)))).2) (kR C R od sn) (kOd (bSpend C (nI p) (nI (1 + ((y / 6) % 150)))).1 od sn) (kSn (bSpend C (nI p) (nI (1 + ((y / 6) % 150)))).1 sn)) (wr := [(ug, .inl (K.2.1.2.1, 8, .inl G)), (uf, .inl (K.2.1.2.1, 60, .inl F)), (ud, .inl (K.2.1.2.1, 56, .inl D)), (uh, .inl (K.2.1.2.1, 48, .inl H)), (uv, .inl (K.2.1.2.1, 48, .inl V)), (uj, .inl (K.2.1.2.1, 48, .inl J)), (uq, .inl (K.2.1.2.1, 48, .inl Q))]) hB (k_spend l K ad C R od sn (nI p) (nI (1 + ((y / 6) % 150))) ho hsn) mX4_spend dL_acts_469 tb_365 pX4_spend ⟨Nat.le_of_ble_eq_true rfl, Nat.le_of_ble_eq_true rfl⟩ ⟨rfl, rfl⟩ ⟨Nat.le_of_ble_eq_true rfl, Nat.le_of_ble_eq_true rfl⟩ rfl (Nat.le_of_ble_eq_true rfl) (List.range 23) (List.range' 23 7) rfl rfl (by decide) (by decide) (by decide) rfl rfl (List.range' 7 23 ++ List.range 7) (by decide) rfl ?_
                  obtain ⟨e_1, hI⟩ := t_sp_no (m := 1 + ((y / 6) % 150)) (v := (nI (1 + ((y / 6) % 150))) - (F (10 * p))) h0 hp ⟨by omega, by omega⟩ ((if_pos (Int32.not_le.mp c_76)).symm) (Or.inl c_81)
                  refine gx_top (x := (bSpend C (nI p) (nI (1 + ((y / 6) % 150)))).1) (y := (-2)) e_1 ?_
                  refine gx_bipush (pc := 472) hB dL_acts_472 (-2) (by decide) ?_
                  refine gx_icmp_ne (pc := 474) hB 481 dL_acts_474 (by decide) (fun c_82 => ?_) (fun c_82 => ?_)
                  · exact absurd c_82 (by decide)
                  · refine gx_iconst (pc := 477) hB dL_acts_477 1 (by decide) ?_
                    refine gx_goto (pc := 478) hB 482 dL_acts_478 (by decide) ?_
                    exact gx_zret (pc := 482) hC dL_acts_482 (Nat.zero_le _) (Nat.zero_le _) (by decide) ⟨rfl, _, _, _, _, _, _, _, _, _, _, _, rfl, hI⟩
                · refine gx_iload (pc := 446) hB dL_acts_446 0 rfl ?_
                  refine gx_if_le (pc := 448) hB 483 dL_acts_448 (by decide) (fun c_83 => ?_) (fun c_83 => ?_)
                  · refine gx_aload_n (pc := 483) hB dL_acts_483 7 rfl ?_
                    refine gx_bipush (pc := 484) hB dL_acts_484 10 (by decide) ?_
                    refine gx_iload (pc := 486) hB dL_acts_486 2 rfl ?_
                    refine gx_imul (pc := 488) hB dL_acts_488 ?_
                    refine gx_top (show 10 * nI p = nI (10 * p) from pk_mul 10 p) ?_
                    refine gx_dup2 (pc := 489) hB dL_acts_489 rfl rfl ?_
                    refine gx_iald (pc := 490) hB dL_acts_490 24 1 rfl rfl (10 * p) rfl (by omega) (by decide) ?_
                    refine gx_iload (pc := 491) hB dL_acts_491 1 rfl ?_
                    refine gx_iload (pc := 493) hB dL_acts_493 0 rfl ?_
                    refine gx_isub (pc := 495) hB dL_acts_495 ?_
                    refine gx_isub (pc := 496) hB dL_acts_496 ?_
                    refine gx_iast (pc := 497) hB dL_acts_497 24 1 rfl rfl (10 * p) rfl (by omega) (by decide) ((wZ K ad C R od sn ++ [(ug, .inl (K.2.1.2.1, 8, .inl G)), (uf, .inl (K.2.1.2.1, 60, .inl (upd F (10 * p) ((F (10 * p)) - ((nI (1 + ((y / 6) % 150))) - ((nI (1 + ((y / 6) % 150))) - (F (10 * p)))))))), (ud, .inl (K.2.1.2.1, 56, .inl D)), (uh, .inl (K.2.1.2.1, 48, .inl H)), (uv, .inl (K.2.1.2.1, 48, .inl V)), (uj, .inl (K.2.1.2.1, 48, .inl J)), (uq, .inl (K.2.1.2.1, 48, .inl Q))])) rfl ?_
                    refine gx_aload_n (pc := 498) hB dL_acts_498 7 rfl ?_
                    refine gx_bipush (pc := 499) hB dL_acts_499 10 (by decide) ?_
                    refine gx_iload (pc := 501) hB dL_acts_501 2 rfl ?_
                    refine gx_imul (pc := 503) hB dL_acts_503 ?_
                    refine gx_top (show 10 * nI p = nI (10 * p) from pk_mul 10 p) ?_
                    refine gx_iconst (pc := 504) hB dL_acts_504 3 (by decide) ?_
                    refine gx_iadd (pc := 505) hB dL_acts_505 ?_
                    refine gx_top (show (nI (10 * p)) + 3 = nI (10 * p + 3) from nI_add (10 * p) 3) ?_
                    refine gx_dup2 (pc := 506) hB dL_acts_506 rfl rfl ?_
                    refine gx_iald (pc := 507) hB dL_acts_507 24 1 rfl rfl (10 * p + 3) rfl (by omega) (by decide) ?_
                    refine gx_iload (pc := 508) hB dL_acts_508 1 rfl ?_
                    refine gx_iadd (pc := 510) hB dL_acts_510 ?_
                    refine gx_iast (pc := 511) hB dL_acts_511 24 1 rfl rfl (10 * p + 3) rfl (by omega) (by decide) ((wZ K ad C R od sn ++ [(ug, .inl (K.2.1.2.1, 8, .inl G)), (uf, .inl (K.2.1.2.1, 60, .inl (upd (upd F (10 * p) ((F (10 * p)) - ((nI (1 + ((y / 6) % 150))) - ((nI (1 + ((y / 6) % 150))) - (F (10 * p)))))) (10 * p + 3) (((upd F (10 * p) ((F (10 * p)) - ((nI (1 + ((y / 6) % 150))) - ((nI (1 + ((y / 6) % 150))) - (F (10 * p)))))) (10 * p + 3)) + (nI (1 + ((y / 6) % 150))))))), (ud, .inl (K.2.1.2.1, 56, .inl D)), (uh, .inl (K.2.1.2.1, 48, .inl H)), (uv, .inl (K.2.1.2.1, 48, .inl V)), (uj, .inl (K.2.1.2.1, 48, .inl J)), (uq, .inl (K.2.1.2.1, 48, .inl Q))])) rfl ?_
                    refine gx_aload_n (pc := 512) hB dL_acts_512 7 rfl ?_
                    refine gx_bipush (pc := 513) hB dL_acts_513 10 (by decide) ?_
                    refine gx_iload (pc := 515) hB dL_acts_515 2 rfl ?_
                    refine gx_imul (pc := 517) hB dL_acts_517 ?_
                    refine gx_top (show 10 * nI p = nI (10 * p) from pk_mul 10 p) ?_
                    refine gx_iconst (pc := 518) hB dL_acts_518 4 (by decide) ?_
                    refine gx_iadd (pc := 519) hB dL_acts_519 ?_
                    refine gx_top (show (nI (10 * p)) + 4 = nI (10 * p + 4) from nI_add (10 * p) 4) ?_
                    refine gx_dup2 (pc := 520) hB dL_acts_520 rfl rfl ?_
                    refine gx_iald (pc := 521) hB dL_acts_521 24 1 rfl rfl (10 * p + 4) rfl (by omega) (by decide) ?_
                    refine gx_iload (pc := 522) hB dL_acts_522 0 rfl ?_
                    refine gx_iadd (pc := 524) hB dL_acts_524 ?_
                    refine gx_iast (pc := 525) hB dL_acts_525 24 1 rfl rfl (10 * p + 4) rfl (by omega) (by decide) ((wZ K ad C R od sn ++ [(ug, .inl (K.2.1.2.1, 8, .inl G)), (uf, .inl (K.2.1.2.1, 60, .inl (upd (upd (upd F (10 * p) ((F (10 * p)) - ((nI (1 + ((y / 6) % 150))) - ((nI (1 + ((y / 6) % 150))) - (F (10 * p)))))) (10 * p + 3) (((upd F (10 * p) ((F (10 * p)) - ((nI (1 + ((y / 6) % 150))) - ((nI (1 + ((y / 6) % 150))) - (F (10 * p)))))) (10 * p + 3)) + (nI (1 + ((y / 6) % 150))))) (10 * p + 4) (((upd (upd F (10 * p) ((F (10 * p)) - ((nI (1 + ((y / 6) % 150))) - ((nI (1 + ((y / 6) % 150))) - (F (10 * p)))))) (10 * p + 3) (((upd F (10 * p) ((F (10 * p)) - ((nI (1 + ((y / 6) % 150))) - ((nI (1 + ((y / 6) % 150))) - (F (10 * p)))))) (10 * p + 3)) + (nI (1 + ((y / 6) % 150))))) (10 * p + 4)) + ((nI (1 + ((y / 6) % 150))) - (F (10 * p))))))), (ud, .inl (K.2.1.2.1, 56, .inl D)), (uh, .inl (K.2.1.2.1, 48, .inl H)), (uv, .inl (K.2.1.2.1, 48, .inl V)), (uj, .inl (K.2.1.2.1, 48, .inl J)), (uq, .inl (K.2.1.2.1, 48, .inl Q))])) rfl ?_
                    refine gx_aload_n (pc := 526) hB dL_acts_526 7 rfl ?_
                    refine gx_iconst (pc := 527) hB dL_acts_527 0 (by decide) ?_
                    refine gx_dup2 (pc := 528) hB dL_acts_528 rfl rfl ?_
                    refine gx_iald (pc := 529) hB dL_acts_529 24 1 rfl rfl 0 rfl (by decide) (by decide) ?_
                    refine gx_iload (pc := 530) hB dL_acts_530 0 rfl ?_
                    refine gx_isub (pc := 532) hB dL_acts_532 ?_
                    refine gx_iast (pc := 533) hB dL_acts_533 24 1 rfl rfl 0 rfl (by decide) (by decide) ((wZ K ad C R od sn ++ [(ug, .inl (K.2.1.2.1, 8, .inl G)), (uf, .inl (K.2.1.2.1, 60, .inl (upd (upd (upd (upd F (10 * p) ((F (10 * p)) - ((nI (1 + ((y / 6) % 150))) - ((nI (1 + ((y / 6) % 150))) - (F (10 * p)))))) (10 * p + 3) (((upd F (10 * p) ((F (10 * p)) - ((nI (1 + ((y / 6) % 150))) - ((nI (1 + ((y / 6) % 150))) - (F (10 * p)))))) (10 * p + 3)) + (nI (1 + ((y / 6) % 150))))) (10 * p + 4) (((upd (upd F (10 * p) ((F (10 * p)) - ((nI (1 + ((y / 6) % 150))) - ((nI (1 + ((y / 6) % 150))) - (F (10 * p)))))) (10 * p + 3) (((upd F (10 * p) ((F (10 * p)) - ((nI (1 + ((y / 6) % 150))) - ((nI (1 + ((y / 6) % 150))) - (F (10 * p)))))) (10 * p + 3)) + (nI (1 + ((y / 6) % 150))))) (10 * p + 4)) + ((nI (1 + ((y / 6) % 150))) - (F (10 * p))))) 0 (((upd (upd (upd F (10 * p) ((F (10 * p)) - ((nI (1 + ((y / 6) % 150))) - ((nI (1 + ((y / 6) % 150))) - (F (10 * p)))))) (10 * p + 3) (((upd F (10 * p) ((F (10 * p)) - ((nI (1 + ((y / 6) % 150))) - ((nI (1 + ((y / 6) % 150))) - (F (10 * p)))))) (10 * p + 3)) + (nI (1 + ((y / 6) % 150))))) (10 * p + 4) (((upd (upd F (10 * p) ((F (10 * p)) - ((nI (1 + ((y / 6) % 150))) - ((nI (1 + ((y / 6) % 150))) - (F (10 * p)))))) (10 * p + 3) (((upd F (10 * p) ((F (10 * p)) - ((nI (1 + ((y / 6) % 150))) - ((nI (1 + ((y / 6) % 150))) - (F (10 * p)))))) (10 * p + 3)) + (nI (1 + ((y / 6) % 150))))) (10 * p + 4)) + ((nI (1 + ((y / 6) % 150))) - (F (10 * p))))) 0) - ((nI (1 + ((y / 6) % 150))) - (F (10 * p))))))), (ud, .inl (K.2.1.2.1, 56, .inl D)), (uh, .inl (K.2.1.2.1, 48, .inl H)), (uv, .inl (K.2.1.2.1, 48, .inl V)), (uj, .inl (K.2.1.2.1, 48, .inl J)), (uq, .inl (K.2.1.2.1, 48, .inl Q))])) rfl ?_
                    refine gx_aload_n (pc := 534) hB dL_acts_534 6 rfl ?_
                    refine gx_bipush (pc := 535) hB dL_acts_535 7 (by decide) ?_
                    refine gx_dup2 (pc := 537) hB dL_acts_537 rfl rfl ?_
                    refine gx_iald (pc := 538) hB dL_acts_538 23 1 rfl rfl 7 rfl (by decide) (by decide) ?_
                    refine gx_iload (pc := 539) hB dL_acts_539 0 rfl ?_
                    refine gx_iadd (pc := 541) hB dL_acts_541 ?_
                    refine gx_iast (pc := 542) hB dL_acts_542 23 1 rfl rfl 7 rfl (by decide) (by decide) ((wZ K ad C R od sn ++ [(ug, .inl (K.2.1.2.1, 8, .inl (upd G 7 (G 7 + ((nI (1 + ((y / 6) % 150))) - (F (10 * p))))))), (uf, .inl (K.2.1.2.1, 60, .inl (upd (upd (upd (upd F (10 * p) ((F (10 * p)) - ((nI (1 + ((y / 6) % 150))) - ((nI (1 + ((y / 6) % 150))) - (F (10 * p)))))) (10 * p + 3) (((upd F (10 * p) ((F (10 * p)) - ((nI (1 + ((y / 6) % 150))) - ((nI (1 + ((y / 6) % 150))) - (F (10 * p)))))) (10 * p + 3)) + (nI (1 + ((y / 6) % 150))))) (10 * p + 4) (((upd (upd F (10 * p) ((F (10 * p)) - ((nI (1 + ((y / 6) % 150))) - ((nI (1 + ((y / 6) % 150))) - (F (10 * p)))))) (10 * p + 3) (((upd F (10 * p) ((F (10 * p)) - ((nI (1 + ((y / 6) % 150))) - ((nI (1 + ((y / 6) % 150))) - (F (10 * p)))))) (10 * p + 3)) + (nI (1 + ((y / 6) % 150))))) (10 * p + 4)) + ((nI (1 + ((y / 6) % 150))) - (F (10 * p))))) 0 (((upd (upd (upd F (10 * p) ((F (10 * p)) - ((nI (1 + ((y / 6) % 150))) - ((nI (1 + ((y / 6) % 150))) - (F (10 * p)))))) (10 * p + 3) (((upd F (10 * p) ((F (10 * p)) - ((nI (1 + ((y / 6) % 150))) - ((nI (1 + ((y / 6) % 150))) - (F (10 * p)))))) (10 * p + 3)) + (nI (1 + ((y / 6) % 150))))) (10 * p + 4) (((upd (upd F (10 * p) ((F (10 * p)) - ((nI (1 + ((y / 6) % 150))) - ((nI (1 + ((y / 6) % 150))) - (F (10 * p)))))) (10 * p + 3) (((upd F (10 * p) ((F (10 * p)) - ((nI (1 + ((y / 6) % 150))) - ((nI (1 + ((y / 6) % 150))) - (F (10 * p)))))) (10 * p + 3)) + (nI (1 + ((y / 6) % 150))))) (10 * p + 4)) + ((nI (1 + ((y / 6) % 150))) - (F (10 * p))))) 0) - ((nI (1 + ((y / 6) % 150))) - (F (10 * p))))))), (ud, .inl (K.2.1.2.1, 56, .inl D)), (uh, .inl (K.2.1.2.1, 48, .inl H)), (uv, .inl (K.2.1.2.1, 48, .inl V)), (uj, .inl (K.2.1.2.1, 48, .inl J)), (uq, .inl (K.2.1.2.1, 48, .inl Q))])) rfl ?_
                    refine gx_aload_n (pc := 543) hB dL_acts_543 5 rfl ?_
                    refine gx_iload (pc := 544) hB dL_acts_544 2 rfl ?_
                    refine gx_iload (pc := 546) hB dL_acts_546 1 rfl ?_
                    refine gx_dVA (pc := 548) (r := (bSpend C (nI p) (nI (1 + ((y / 6) % 150)))).1) (W1 := wZ K ad ((bSpend C (nI p) (nI (1 + ((y / 6) % 150)))).2) (kR C R od sn) (kOd (bSpend C (nI p) (nI (1 + ((y / 6) % 150)))).1 od sn) (kSn (bSpend C (nI p) (nI (1 + ((y / 6) % 150)))).1 sn)) (wr := [(ug, .inl (K.2.1.2.1, 8, .inl (upd G 7 (G 7 + ((nI (1 + ((y / 6) % 150))) - (F (10 * p))))))), (uf, .inl (K.2.1.2.1, 60, .inl (upd (upd (upd (upd F (10 * p) ((F (10 * p)) - ((nI (1 + ((y / 6) % 150))) - ((nI (1 + ((y / 6) % 150))) - (F (10 * p)))))) (10 * p + 3) (((upd F (10 * p) ((F (10 * p)) - ((nI (1 + ((y / 6) % 150))) - ((nI (1 + ((y / 6) % 150))) - (F (10 * p)))))) (10 * p + 3)) + (nI (1 + ((y / 6) % 150))))) (10 * p + 4) (((upd (upd F (10 * p) ((F (10 * p)) - ((nI (1 + ((y / 6) % 150))) - ((nI (1 + ((y / 6) % 150))) - (F (10 * p)))))) (10 * p + 3) (((upd F (10 * p) ((F (10 * p)) - ((nI (1 + ((y / 6) % 150))) - ((nI (1 + ((y / 6) % 150))) - (F (10 * p)))))) (10 * p + 3)) + (nI (1 + ((y / 6) % 150))))) (10 * p + 4)) + ((nI (1 + ((y / 6) % 150))) - (F (10 * p))))) 0 (((upd (upd (upd F (10 * p) ((F (10 * p)) - ((nI (1 + ((y / 6) % 150))) - ((nI (1 + ((y / 6) % 150))) - (F (10 * p)))))) (10 * p + 3) (((upd F (10 * p) ((F (10 * p)) - ((nI (1 + ((y / 6) % 150))) - ((nI (1 + ((y / 6) % 150))) - (F (10 * p)))))) (10 * p + 3)) + (nI (1 + ((y / 6) % 150))))) (10 * p + 4) (((upd (upd F (10 * p) ((F (10 * p)) - ((nI (1 + ((y / 6) % 150))) - ((nI (1 + ((y / 6) % 150))) - (F (10 * p)))))) (10 * p + 3) (((upd F (10 * p) ((F (10 * p)) - ((nI (1 + ((y / 6) % 150))) - ((nI (1 + ((y / 6) % 150))) - (F (10 * p)))))) (10 * p + 3)) + (nI (1 + ((y / 6) % 150))))) (10 * p + 4)) + ((nI (1 + ((y / 6) % 150))) - (F (10 * p))))) 0) - ((nI (1 + ((y / 6) % 150))) - (F (10 * p))))))), (ud, .inl (K.2.1.2.1, 56, .inl D)), (uh, .inl (K.2.1.2.1, 48, .inl H)), (uv, .inl (K.2.1.2.1, 48, .inl V)), (uj, .inl (K.2.1.2.1, 48, .inl J)), (uq, .inl (K.2.1.2.1, 48, .inl Q))]) hB (k_spend l K ad C R od sn (nI p) (nI (1 + ((y / 6) % 150))) ho hsn) mX4_spend dL_acts_548 tb_365 pX4_spend ⟨Nat.le_of_ble_eq_true rfl, Nat.le_of_ble_eq_true rfl⟩ ⟨rfl, rfl⟩ ⟨Nat.le_of_ble_eq_true rfl, Nat.le_of_ble_eq_true rfl⟩ rfl (Nat.le_of_ble_eq_true rfl) (List.range 23) (List.range' 23 7) rfl rfl (by decide) (by decide) (by decide) rfl rfl (List.range' 7 23 ++ List.range 7) (by decide) rfl ?_
                    obtain ⟨e_1, hI⟩ := t_sp_ok (m := 1 + ((y / 6) % 150)) (v := (nI (1 + ((y / 6) % 150))) - (F (10 * p))) h0 hp ⟨by omega, by omega⟩ ((if_pos (Int32.not_le.mp c_76)).symm) c_81 (fun z => absurd z.1 (Int32.not_lt.mpr c_83)) rfl rfl rfl rfl
                    refine gx_top (x := (bSpend C (nI p) (nI (1 + ((y / 6) % 150)))).1) (y := (nI (1 + ((y / 6) % 150))) - (F (10 * p))) e_1 ?_
                    refine gx_iload (pc := 551) hB dL_acts_551 0 rfl ?_
                    refine gx_icmp_ne (pc := 553) hB 560 dL_acts_553 (by decide) (fun c_84 => ?_) (fun c_84 => ?_)
                    · exact absurd rfl c_84
                    · refine gx_iconst (pc := 556) hB dL_acts_556 1 (by decide) ?_
                      refine gx_goto (pc := 557) hB 561 dL_acts_557 (by decide) ?_
                      exact gx_zret (pc := 561) hC dL_acts_561 (Nat.zero_le _) (Nat.zero_le _) (by decide) ⟨rfl, _, _, _, _, _, _, _, _, _, _, _, rfl, hI⟩
                  · refine gx_iload (pc := 451) hB dL_acts_451 2 rfl ?_
                    refine gx_if_eq (pc := 453) hB 464 dL_acts_453 (by decide) (fun c_85 => ?_) (fun c_85 => ?_)
                    · refine gx_aload_n (pc := 464) hB dL_acts_464 5 rfl ?_
                      refine gx_iload (pc := 465) hB dL_acts_465 2 rfl ?_
                      refine gx_iload (pc := 467) hB dL_acts_467 1 rfl ?_
                      refine gx_dVA (pc := 469) (r := (bSpend C (nI p) (nI (1 + ((y / 6) % 150)))).1) (W1 := wZ K ad ((bSpend C (nI p) (nI (1 + ((y / 6) % 150)))).2) (kR C R od sn) (kOd (bSpend C (nI p) (nI (1 + ((y / 6) % 150)))).1 od sn) (kSn (bSpend C (nI p) (nI (1 + ((y / 6) % 150)))).1 sn)) (wr := [(ug, .inl (K.2.1.2.1, 8, .inl G)), (uf, .inl (K.2.1.2.1, 60, .inl F)), (ud, .inl (K.2.1.2.1, 56, .inl D)), (uh, .inl (K.2.1.2.1, 48, .inl H)), (uv, .inl (K.2.1.2.1, 48, .inl V)), (uj, .inl (K.2.1.2.1, 48, .inl J)), (uq, .inl (K.2.1.2.1, 48, .inl Q))]) hB (k_spend l K ad C R od sn (nI p) (nI (1 + ((y / 6) % 150))) ho hsn) mX4_spend dL_acts_469 tb_365 pX4_spend ⟨Nat.le_of_ble_eq_true rfl, Nat.le_of_ble_eq_true rfl⟩ ⟨rfl, rfl⟩ ⟨Nat.le_of_ble_eq_true rfl, Nat.le_of_ble_eq_true rfl⟩ rfl (Nat.le_of_ble_eq_true rfl) (List.range 23) (List.range' 23 7) rfl rfl (by decide) (by decide) (by decide) rfl rfl (List.range' 7 23 ++ List.range 7) (by decide) rfl ?_
                      obtain ⟨e_1, hI⟩ := t_sp_no (m := 1 + ((y / 6) % 150)) (v := (nI (1 + ((y / 6) % 150))) - (F (10 * p))) h0 hp ⟨by omega, by omega⟩ ((if_pos (Int32.not_le.mp c_76)).symm) (Or.inr ⟨Int32.not_le.mp c_83, Or.inl c_85⟩)
                      refine gx_top (x := (bSpend C (nI p) (nI (1 + ((y / 6) % 150)))).1) (y := (-2)) e_1 ?_
                      refine gx_bipush (pc := 472) hB dL_acts_472 (-2) (by decide) ?_
                      refine gx_icmp_ne (pc := 474) hB 481 dL_acts_474 (by decide) (fun c_86 => ?_) (fun c_86 => ?_)
                      · exact absurd c_86 (by decide)
                      · refine gx_iconst (pc := 477) hB dL_acts_477 1 (by decide) ?_
                        refine gx_goto (pc := 478) hB 482 dL_acts_478 (by decide) ?_
                        exact gx_zret (pc := 482) hC dL_acts_482 (Nat.zero_le _) (Nat.zero_le _) (by decide) ⟨rfl, _, _, _, _, _, _, _, _, _, _, _, rfl, hI⟩
                    · refine gx_aload_n (pc := 456) hB dL_acts_456 7 rfl ?_
                      refine gx_iconst (pc := 457) hB dL_acts_457 0 (by decide) ?_
                      refine gx_iald (pc := 458) hB dL_acts_458 24 1 rfl rfl 0 rfl (by decide) (by decide) ?_
                      refine gx_iload (pc := 459) hB dL_acts_459 0 rfl ?_
                      refine gx_icmp_ge (pc := 461) hB 483 dL_acts_461 (by decide) (fun c_87 => ?_) (fun c_87 => ?_)
                      · refine gx_aload_n (pc := 483) hB dL_acts_483 7 rfl ?_
                        refine gx_bipush (pc := 484) hB dL_acts_484 10 (by decide) ?_
                        refine gx_iload (pc := 486) hB dL_acts_486 2 rfl ?_
                        refine gx_imul (pc := 488) hB dL_acts_488 ?_
                        refine gx_top (show 10 * nI p = nI (10 * p) from pk_mul 10 p) ?_
                        refine gx_dup2 (pc := 489) hB dL_acts_489 rfl rfl ?_
                        refine gx_iald (pc := 490) hB dL_acts_490 24 1 rfl rfl (10 * p) rfl (by omega) (by decide) ?_
                        refine gx_iload (pc := 491) hB dL_acts_491 1 rfl ?_
                        refine gx_iload (pc := 493) hB dL_acts_493 0 rfl ?_
                        refine gx_isub (pc := 495) hB dL_acts_495 ?_
                        refine gx_isub (pc := 496) hB dL_acts_496 ?_
                        refine gx_iast (pc := 497) hB dL_acts_497 24 1 rfl rfl (10 * p) rfl (by omega) (by decide) ((wZ K ad C R od sn ++ [(ug, .inl (K.2.1.2.1, 8, .inl G)), (uf, .inl (K.2.1.2.1, 60, .inl (upd F (10 * p) ((F (10 * p)) - ((nI (1 + ((y / 6) % 150))) - ((nI (1 + ((y / 6) % 150))) - (F (10 * p)))))))), (ud, .inl (K.2.1.2.1, 56, .inl D)), (uh, .inl (K.2.1.2.1, 48, .inl H)), (uv, .inl (K.2.1.2.1, 48, .inl V)), (uj, .inl (K.2.1.2.1, 48, .inl J)), (uq, .inl (K.2.1.2.1, 48, .inl Q))])) rfl ?_
                        refine gx_aload_n (pc := 498) hB dL_acts_498 7 rfl ?_
                        refine gx_bipush (pc := 499) hB dL_acts_499 10 (by decide) ?_
                        refine gx_iload (pc := 501) hB dL_acts_501 2 rfl ?_
                        refine gx_imul (pc := 503) hB dL_acts_503 ?_
                        refine gx_top (show 10 * nI p = nI (10 * p) from pk_mul 10 p) ?_
                        refine gx_iconst (pc := 504) hB dL_acts_504 3 (by decide) ?_
                        refine gx_iadd (pc := 505) hB dL_acts_505 ?_
                        refine gx_top (show (nI (10 * p)) + 3 = nI (10 * p + 3) from nI_add (10 * p) 3) ?_
                        refine gx_dup2 (pc := 506) hB dL_acts_506 rfl rfl ?_
                        refine gx_iald (pc := 507) hB dL_acts_507 24 1 rfl rfl (10 * p + 3) rfl (by omega) (by decide) ?_
                        refine gx_iload (pc := 508) hB dL_acts_508 1 rfl ?_
                        refine gx_iadd (pc := 510) hB dL_acts_510 ?_
                        refine gx_iast (pc := 511) hB dL_acts_511 24 1 rfl rfl (10 * p + 3) rfl (by omega) (by decide) ((wZ K ad C R od sn ++ [(ug, .inl (K.2.1.2.1, 8, .inl G)), (uf, .inl (K.2.1.2.1, 60, .inl (upd (upd F (10 * p) ((F (10 * p)) - ((nI (1 + ((y / 6) % 150))) - ((nI (1 + ((y / 6) % 150))) - (F (10 * p)))))) (10 * p + 3) (((upd F (10 * p) ((F (10 * p)) - ((nI (1 + ((y / 6) % 150))) - ((nI (1 + ((y / 6) % 150))) - (F (10 * p)))))) (10 * p + 3)) + (nI (1 + ((y / 6) % 150))))))), (ud, .inl (K.2.1.2.1, 56, .inl D)), (uh, .inl (K.2.1.2.1, 48, .inl H)), (uv, .inl (K.2.1.2.1, 48, .inl V)), (uj, .inl (K.2.1.2.1, 48, .inl J)), (uq, .inl (K.2.1.2.1, 48, .inl Q))])) rfl ?_
                        refine gx_aload_n (pc := 512) hB dL_acts_512 7 rfl ?_
                        refine gx_bipush (pc := 513) hB dL_acts_513 10 (by decide) ?_
                        refine gx_iload (pc := 515) hB dL_acts_515 2 rfl ?_
                        refine gx_imul (pc := 517) hB dL_acts_517 ?_
                        refine gx_top (show 10 * nI p = nI (10 * p) from pk_mul 10 p) ?_
                        refine gx_iconst (pc := 518) hB dL_acts_518 4 (by decide) ?_
                        refine gx_iadd (pc := 519) hB dL_acts_519 ?_
                        refine gx_top (show (nI (10 * p)) + 4 = nI (10 * p + 4) from nI_add (10 * p) 4) ?_
                        refine gx_dup2 (pc := 520) hB dL_acts_520 rfl rfl ?_
                        refine gx_iald (pc := 521) hB dL_acts_521 24 1 rfl rfl (10 * p + 4) rfl (by omega) (by decide) ?_
                        refine gx_iload (pc := 522) hB dL_acts_522 0 rfl ?_
                        refine gx_iadd (pc := 524) hB dL_acts_524 ?_
                        refine gx_iast (pc := 525) hB dL_acts_525 24 1 rfl rfl (10 * p + 4) rfl (by omega) (by decide) ((wZ K ad C R od sn ++ [(ug, .inl (K.2.1.2.1, 8, .inl G)), (uf, .inl (K.2.1.2.1, 60, .inl (upd (upd (upd F (10 * p) ((F (10 * p)) - ((nI (1 + ((y / 6) % 150))) - ((nI (1 + ((y / 6) % 150))) - (F (10 * p)))))) (10 * p + 3) (((upd F (10 * p) ((F (10 * p)) - ((nI (1 + ((y / 6) % 150))) - ((nI (1 + ((y / 6) % 150))) - (F (10 * p)))))) (10 * p + 3)) + (nI (1 + ((y / 6) % 150))))) (10 * p + 4) (((upd (upd F (10 * p) ((F (10 * p)) - ((nI (1 + ((y / 6) % 150))) - ((nI (1 + ((y / 6) % 150))) - (F (10 * p)))))) (10 * p + 3) (((upd F (10 * p) ((F (10 * p)) - ((nI (1 + ((y / 6) % 150))) - ((nI (1 + ((y / 6) % 150))) - (F (10 * p)))))) (10 * p + 3)) + (nI (1 + ((y / 6) % 150))))) (10 * p + 4)) + ((nI (1 + ((y / 6) % 150))) - (F (10 * p))))))), (ud, .inl (K.2.1.2.1, 56, .inl D)), (uh, .inl (K.2.1.2.1, 48, .inl H)), (uv, .inl (K.2.1.2.1, 48, .inl V)), (uj, .inl (K.2.1.2.1, 48, .inl J)), (uq, .inl (K.2.1.2.1, 48, .inl Q))])) rfl ?_
                        refine gx_aload_n (pc := 526) hB dL_acts_526 7 rfl ?_
                        refine gx_iconst (pc := 527) hB dL_acts_527 0 (by decide) ?_
                        refine gx_dup2 (pc := 528) hB dL_acts_528 rfl rfl ?_
                        refine gx_iald (pc := 529) hB dL_acts_529 24 1 rfl rfl 0 rfl (by decide) (by decide) ?_
                        refine gx_iload (pc := 530) hB dL_acts_530 0 rfl ?_
                        refine gx_isub (pc := 532) hB dL_acts_532 ?_
                        refine gx_iast (pc := 533) hB dL_acts_533 24 1 rfl rfl 0 rfl (by decide) (by decide) ((wZ K ad C R od sn ++ [(ug, .inl (K.2.1.2.1, 8, .inl G)), (uf, .inl (K.2.1.2.1, 60, .inl (upd (upd (upd (upd F (10 * p) ((F (10 * p)) - ((nI (1 + ((y / 6) % 150))) - ((nI (1 + ((y / 6) % 150))) - (F (10 * p)))))) (10 * p + 3) (((upd F (10 * p) ((F (10 * p)) - ((nI (1 + ((y / 6) % 150))) - ((nI (1 + ((y / 6) % 150))) - (F (10 * p)))))) (10 * p + 3)) + (nI (1 + ((y / 6) % 150))))) (10 * p + 4) (((upd (upd F (10 * p) ((F (10 * p)) - ((nI (1 + ((y / 6) % 150))) - ((nI (1 + ((y / 6) % 150))) - (F (10 * p)))))) (10 * p + 3) (((upd F (10 * p) ((F (10 * p)) - ((nI (1 + ((y / 6) % 150))) - ((nI (1 + ((y / 6) % 150))) - (F (10 * p)))))) (10 * p + 3)) + (nI (1 + ((y / 6) % 150))))) (10 * p + 4)) + ((nI (1 + ((y / 6) % 150))) - (F (10 * p))))) 0 (((upd (upd (upd F (10 * p) ((F (10 * p)) - ((nI (1 + ((y / 6) % 150))) - ((nI (1 + ((y / 6) % 150))) - (F (10 * p)))))) (10 * p + 3) (((upd F (10 * p) ((F (10 * p)) - ((nI (1 + ((y / 6) % 150))) - ((nI (1 + ((y / 6) % 150))) - (F (10 * p)))))) (10 * p + 3)) + (nI (1 + ((y / 6) % 150))))) (10 * p + 4) (((upd (upd F (10 * p) ((F (10 * p)) - ((nI (1 + ((y / 6) % 150))) - ((nI (1 + ((y / 6) % 150))) - (F (10 * p)))))) (10 * p + 3) (((upd F (10 * p) ((F (10 * p)) - ((nI (1 + ((y / 6) % 150))) - ((nI (1 + ((y / 6) % 150))) - (F (10 * p)))))) (10 * p + 3)) + (nI (1 + ((y / 6) % 150))))) (10 * p + 4)) + ((nI (1 + ((y / 6) % 150))) - (F (10 * p))))) 0) - ((nI (1 + ((y / 6) % 150))) - (F (10 * p))))))), (ud, .inl (K.2.1.2.1, 56, .inl D)), (uh, .inl (K.2.1.2.1, 48, .inl H)), (uv, .inl (K.2.1.2.1, 48, .inl V)), (uj, .inl (K.2.1.2.1, 48, .inl J)), (uq, .inl (K.2.1.2.1, 48, .inl Q))])) rfl ?_
                        refine gx_aload_n (pc := 534) hB dL_acts_534 6 rfl ?_
                        refine gx_bipush (pc := 535) hB dL_acts_535 7 (by decide) ?_
                        refine gx_dup2 (pc := 537) hB dL_acts_537 rfl rfl ?_
                        refine gx_iald (pc := 538) hB dL_acts_538 23 1 rfl rfl 7 rfl (by decide) (by decide) ?_
                        refine gx_iload (pc := 539) hB dL_acts_539 0 rfl ?_
                        refine gx_iadd (pc := 541) hB dL_acts_541 ?_
                        refine gx_iast (pc := 542) hB dL_acts_542 23 1 rfl rfl 7 rfl (by decide) (by decide) ((wZ K ad C R od sn ++ [(ug, .inl (K.2.1.2.1, 8, .inl (upd G 7 (G 7 + ((nI (1 + ((y / 6) % 150))) - (F (10 * p))))))), (uf, .inl (K.2.1.2.1, 60, .inl (upd (upd (upd (upd F (10 * p) ((F (10 * p)) - ((nI (1 + ((y / 6) % 150))) - ((nI (1 + ((y / 6) % 150))) - (F (10 * p)))))) (10 * p + 3) (((upd F (10 * p) ((F (10 * p)) - ((nI (1 + ((y / 6) % 150))) - ((nI (1 + ((y / 6) % 150))) - (F (10 * p)))))) (10 * p + 3)) + (nI (1 + ((y / 6) % 150))))) (10 * p + 4) (((upd (upd F (10 * p) ((F (10 * p)) - ((nI (1 + ((y / 6) % 150))) - ((nI (1 + ((y / 6) % 150))) - (F (10 * p)))))) (10 * p + 3) (((upd F (10 * p) ((F (10 * p)) - ((nI (1 + ((y / 6) % 150))) - ((nI (1 + ((y / 6) % 150))) - (F (10 * p)))))) (10 * p + 3)) + (nI (1 + ((y / 6) % 150))))) (10 * p + 4)) + ((nI (1 + ((y / 6) % 150))) - (F (10 * p))))) 0 (((upd (upd (upd F (10 * p) ((F (10 * p)) - ((nI (1 + ((y / 6) % 150))) - ((nI (1 + ((y / 6) % 150))) - (F (10 * p)))))) (10 * p + 3) (((upd F (10 * p) ((F (10 * p)) - ((nI (1 + ((y / 6) % 150))) - ((nI (1 + ((y / 6) % 150))) - (F (10 * p)))))) (10 * p + 3)) + (nI (1 + ((y / 6) % 150))))) (10 * p + 4) (((upd (upd F (10 * p) ((F (10 * p)) - ((nI (1 + ((y / 6) % 150))) - ((nI (1 + ((y / 6) % 150))) - (F (10 * p)))))) (10 * p + 3) (((upd F (10 * p) ((F (10 * p)) - ((nI (1 + ((y / 6) % 150))) - ((nI (1 + ((y / 6) % 150))) - (F (10 * p)))))) (10 * p + 3)) + (nI (1 + ((y / 6) % 150))))) (10 * p + 4)) + ((nI (1 + ((y / 6) % 150))) - (F (10 * p))))) 0) - ((nI (1 + ((y / 6) % 150))) - (F (10 * p))))))), (ud, .inl (K.2.1.2.1, 56, .inl D)), (uh, .inl (K.2.1.2.1, 48, .inl H)), (uv, .inl (K.2.1.2.1, 48, .inl V)), (uj, .inl (K.2.1.2.1, 48, .inl J)), (uq, .inl (K.2.1.2.1, 48, .inl Q))])) rfl ?_
                        refine gx_aload_n (pc := 543) hB dL_acts_543 5 rfl ?_
                        refine gx_iload (pc := 544) hB dL_acts_544 2 rfl ?_
                        refine gx_iload (pc := 546) hB dL_acts_546 1 rfl ?_
                        refine gx_dVA (pc := 548) (r := (bSpend C (nI p) (nI (1 + ((y / 6) % 150)))).1) (W1 := wZ K ad ((bSpend C (nI p) (nI (1 + ((y / 6) % 150)))).2) (kR C R od sn) (kOd (bSpend C (nI p) (nI (1 + ((y / 6) % 150)))).1 od sn) (kSn (bSpend C (nI p) (nI (1 + ((y / 6) % 150)))).1 sn)) (wr := [(ug, .inl (K.2.1.2.1, 8, .inl (upd G 7 (G 7 + ((nI (1 + ((y / 6) % 150))) - (F (10 * p))))))), (uf, .inl (K.2.1.2.1, 60, .inl (upd (upd (upd (upd F (10 * p) ((F (10 * p)) - ((nI (1 + ((y / 6) % 150))) - ((nI (1 + ((y / 6) % 150))) - (F (10 * p)))))) (10 * p + 3) (((upd F (10 * p) ((F (10 * p)) - ((nI (1 + ((y / 6) % 150))) - ((nI (1 + ((y / 6) % 150))) - (F (10 * p)))))) (10 * p + 3)) + (nI (1 + ((y / 6) % 150))))) (10 * p + 4) (((upd (upd F (10 * p) ((F (10 * p)) - ((nI (1 + ((y / 6) % 150))) - ((nI (1 + ((y / 6) % 150))) - (F (10 * p)))))) (10 * p + 3) (((upd F (10 * p) ((F (10 * p)) - ((nI (1 + ((y / 6) % 150))) - ((nI (1 + ((y / 6) % 150))) - (F (10 * p)))))) (10 * p + 3)) + (nI (1 + ((y / 6) % 150))))) (10 * p + 4)) + ((nI (1 + ((y / 6) % 150))) - (F (10 * p))))) 0 (((upd (upd (upd F (10 * p) ((F (10 * p)) - ((nI (1 + ((y / 6) % 150))) - ((nI (1 + ((y / 6) % 150))) - (F (10 * p)))))) (10 * p + 3) (((upd F (10 * p) ((F (10 * p)) - ((nI (1 + ((y / 6) % 150))) - ((nI (1 + ((y / 6) % 150))) - (F (10 * p)))))) (10 * p + 3)) + (nI (1 + ((y / 6) % 150))))) (10 * p + 4) (((upd (upd F (10 * p) ((F (10 * p)) - ((nI (1 + ((y / 6) % 150))) - ((nI (1 + ((y / 6) % 150))) - (F (10 * p)))))) (10 * p + 3) (((upd F (10 * p) ((F (10 * p)) - ((nI (1 + ((y / 6) % 150))) - ((nI (1 + ((y / 6) % 150))) - (F (10 * p)))))) (10 * p + 3)) + (nI (1 + ((y / 6) % 150))))) (10 * p + 4)) + ((nI (1 + ((y / 6) % 150))) - (F (10 * p))))) 0) - ((nI (1 + ((y / 6) % 150))) - (F (10 * p))))))), (ud, .inl (K.2.1.2.1, 56, .inl D)), (uh, .inl (K.2.1.2.1, 48, .inl H)), (uv, .inl (K.2.1.2.1, 48, .inl V)), (uj, .inl (K.2.1.2.1, 48, .inl J)), (uq, .inl (K.2.1.2.1, 48, .inl Q))]) hB (k_spend l K ad C R od sn (nI p) (nI (1 + ((y / 6) % 150))) ho hsn) mX4_spend dL_acts_548 tb_365 pX4_spend ⟨Nat.le_of_ble_eq_true rfl, Nat.le_of_ble_eq_true rfl⟩ ⟨rfl, rfl⟩ ⟨Nat.le_of_ble_eq_true rfl, Nat.le_of_ble_eq_true rfl⟩ rfl (Nat.le_of_ble_eq_true rfl) (List.range 23) (List.range' 23 7) rfl rfl (by decide) (by decide) (by decide) rfl rfl (List.range' 7 23 ++ List.range 7) (by decide) rfl ?_
                        obtain ⟨e_1, hI⟩ := t_sp_ok (m := 1 + ((y / 6) % 150)) (v := (nI (1 + ((y / 6) % 150))) - (F (10 * p))) h0 hp ⟨by omega, by omega⟩ ((if_pos (Int32.not_le.mp c_76)).symm) c_81 (fun z => z.2.elim c_85 (fun w => Int32.not_lt.mpr c_87 w)) rfl rfl rfl rfl
                        refine gx_top (x := (bSpend C (nI p) (nI (1 + ((y / 6) % 150)))).1) (y := (nI (1 + ((y / 6) % 150))) - (F (10 * p))) e_1 ?_
                        refine gx_iload (pc := 551) hB dL_acts_551 0 rfl ?_
                        refine gx_icmp_ne (pc := 553) hB 560 dL_acts_553 (by decide) (fun c_88 => ?_) (fun c_88 => ?_)
                        · exact absurd rfl c_88
                        · refine gx_iconst (pc := 556) hB dL_acts_556 1 (by decide) ?_
                          refine gx_goto (pc := 557) hB 561 dL_acts_557 (by decide) ?_
                          exact gx_zret (pc := 561) hC dL_acts_561 (Nat.zero_le _) (Nat.zero_le _) (by decide) ⟨rfl, _, _, _, _, _, _, _, _, _, _, _, rfl, hI⟩
                      · refine gx_aload_n (pc := 464) hB dL_acts_464 5 rfl ?_
                        refine gx_iload (pc := 465) hB dL_acts_465 2 rfl ?_
                        refine gx_iload (pc := 467) hB dL_acts_467 1 rfl ?_
                        refine gx_dVA (pc := 469) (r := (bSpend C (nI p) (nI (1 + ((y / 6) % 150)))).1) (W1 := wZ K ad ((bSpend C (nI p) (nI (1 + ((y / 6) % 150)))).2) (kR C R od sn) (kOd (bSpend C (nI p) (nI (1 + ((y / 6) % 150)))).1 od sn) (kSn (bSpend C (nI p) (nI (1 + ((y / 6) % 150)))).1 sn)) (wr := [(ug, .inl (K.2.1.2.1, 8, .inl G)), (uf, .inl (K.2.1.2.1, 60, .inl F)), (ud, .inl (K.2.1.2.1, 56, .inl D)), (uh, .inl (K.2.1.2.1, 48, .inl H)), (uv, .inl (K.2.1.2.1, 48, .inl V)), (uj, .inl (K.2.1.2.1, 48, .inl J)), (uq, .inl (K.2.1.2.1, 48, .inl Q))]) hB (k_spend l K ad C R od sn (nI p) (nI (1 + ((y / 6) % 150))) ho hsn) mX4_spend dL_acts_469 tb_365 pX4_spend ⟨Nat.le_of_ble_eq_true rfl, Nat.le_of_ble_eq_true rfl⟩ ⟨rfl, rfl⟩ ⟨Nat.le_of_ble_eq_true rfl, Nat.le_of_ble_eq_true rfl⟩ rfl (Nat.le_of_ble_eq_true rfl) (List.range 23) (List.range' 23 7) rfl rfl (by decide) (by decide) (by decide) rfl rfl (List.range' 7 23 ++ List.range 7) (by decide) rfl ?_
                        obtain ⟨e_1, hI⟩ := t_sp_no (m := 1 + ((y / 6) % 150)) (v := (nI (1 + ((y / 6) % 150))) - (F (10 * p))) h0 hp ⟨by omega, by omega⟩ ((if_pos (Int32.not_le.mp c_76)).symm) (Or.inr ⟨Int32.not_le.mp c_83, Or.inr (Int32.not_le.mp c_87)⟩)
                        refine gx_top (x := (bSpend C (nI p) (nI (1 + ((y / 6) % 150)))).1) (y := (-2)) e_1 ?_
                        refine gx_bipush (pc := 472) hB dL_acts_472 (-2) (by decide) ?_
                        refine gx_icmp_ne (pc := 474) hB 481 dL_acts_474 (by decide) (fun c_89 => ?_) (fun c_89 => ?_)
                        · exact absurd c_89 (by decide)
                        · refine gx_iconst (pc := 477) hB dL_acts_477 1 (by decide) ?_
                          refine gx_goto (pc := 478) hB 482 dL_acts_478 (by decide) ?_
                          exact gx_zret (pc := 482) hC dL_acts_482 (Nat.zero_le _) (Nat.zero_le _) (by decide) ⟨rfl, _, _, _, _, _, _, _, _, _, _, _, rfl, hI⟩
            · refine gx_sipush (pc := 392) hB dL_acts_392 9999 (by decide) ?_
              refine gx_goto (pc := 395) hB 401 dL_acts_395 (by decide) ?_
              refine gx_irem (pc := 401) hB dL_acts_401 (by decide) ?_
              refine gx_top (show (nI (y / 6)) - (nI (y / 6)) / 9999 * 9999 = nI ((y / 6) % 9999) from pk_rem (a := y / 6) (d := 9999) (by omega) (by omega) (by omega)) ?_
              refine gx_iadd (pc := 402) hB dL_acts_402 ?_
              refine gx_top (show 1 + (nI ((y / 6) % 9999)) = nI (1 + ((y / 6) % 9999)) from nI_add 1 ((y / 6) % 9999)) ?_
              refine gx_istore (pc := 403) hB dL_acts_403 (by decide) [(12, .int (nI (1 + ((y / 6) % 9999)))), (11, .int (nI p)), (10, .int (nI w)), (9, .int (nI y)), (0, .ref (ad 0)), (1, .ref ug), (2, .ref uf), (3, .ref ud), (4, .ref uh), (5, .ref uv), (6, .ref uj), (7, .ref uq), (8, .int z)] rfl ?_
              refine gx_aload_n (pc := 405) hB dL_acts_405 6 rfl ?_
              refine gx_bipush (pc := 406) hB dL_acts_406 10 (by decide) ?_
              refine gx_iload (pc := 408) hB dL_acts_408 1 rfl ?_
              refine gx_imul (pc := 410) hB dL_acts_410 ?_
              refine gx_top (show 10 * nI p = nI (10 * p) from pk_mul 10 p) ?_
              refine gx_iald (pc := 411) hB dL_acts_411 24 1 rfl rfl (10 * p) rfl (by omega) (by decide) ?_
              refine gx_iload (pc := 412) hB dL_acts_412 0 rfl ?_
              refine gx_icmp_ge (pc := 414) hB 430 dL_acts_414 (by decide) (fun c_90 => ?_) (fun c_90 => ?_)
              · refine gx_iconst (pc := 430) hB dL_acts_430 0 (by decide) ?_
                refine gx_istore (pc := 431) hB dL_acts_431 (by decide) [(13, .int 0), (12, .int (nI (1 + ((y / 6) % 9999)))), (11, .int (nI p)), (10, .int (nI w)), (9, .int (nI y)), (0, .ref (ad 0)), (1, .ref ug), (2, .ref uf), (3, .ref ud), (4, .ref uh), (5, .ref uv), (6, .ref uj), (7, .ref uq), (8, .int z)] rfl ?_
                refine gx_aload_n (pc := 433) hB dL_acts_433 7 rfl ?_
                refine gx_bipush (pc := 434) hB dL_acts_434 10 (by decide) ?_
                refine gx_iload (pc := 436) hB dL_acts_436 2 rfl ?_
                refine gx_imul (pc := 438) hB dL_acts_438 ?_
                refine gx_top (show 10 * nI p = nI (10 * p) from pk_mul 10 p) ?_
                refine gx_bipush (pc := 439) hB dL_acts_439 9 (by decide) ?_
                refine gx_iadd (pc := 441) hB dL_acts_441 ?_
                refine gx_top (show (nI (10 * p)) + 9 = nI (10 * p + 9) from nI_add (10 * p) 9) ?_
                refine gx_iald (pc := 442) hB dL_acts_442 24 1 rfl rfl (10 * p + 9) rfl (by omega) (by decide) ?_
                refine gx_if_ge (pc := 443) hB 464 dL_acts_443 (by decide) (fun c_91 => ?_) (fun c_91 => ?_)
                · refine gx_aload_n (pc := 464) hB dL_acts_464 5 rfl ?_
                  refine gx_iload (pc := 465) hB dL_acts_465 2 rfl ?_
                  refine gx_iload (pc := 467) hB dL_acts_467 1 rfl ?_
                  refine gx_dVA (pc := 469) (r := (bSpend C (nI p) (nI (1 + ((y / 6) % 9999)))).1) (W1 := wZ K ad ((bSpend C (nI p) (nI (1 + ((y / 6) % 9999)))).2) (kR C R od sn) (kOd (bSpend C (nI p) (nI (1 + ((y / 6) % 9999)))).1 od sn) (kSn (bSpend C (nI p) (nI (1 + ((y / 6) % 9999)))).1 sn)) (wr := [(ug, .inl (K.2.1.2.1, 8, .inl G)), (uf, .inl (K.2.1.2.1, 60, .inl F)), (ud, .inl (K.2.1.2.1, 56, .inl D)), (uh, .inl (K.2.1.2.1, 48, .inl H)), (uv, .inl (K.2.1.2.1, 48, .inl V)), (uj, .inl (K.2.1.2.1, 48, .inl J)), (uq, .inl (K.2.1.2.1, 48, .inl Q))]) hB (k_spend l K ad C R od sn (nI p) (nI (1 + ((y / 6) % 9999))) ho hsn) mX4_spend dL_acts_469 tb_365 pX4_spend ⟨Nat.le_of_ble_eq_true rfl, Nat.le_of_ble_eq_true rfl⟩ ⟨rfl, rfl⟩ ⟨Nat.le_of_ble_eq_true rfl, Nat.le_of_ble_eq_true rfl⟩ rfl (Nat.le_of_ble_eq_true rfl) (List.range 23) (List.range' 23 7) rfl rfl (by decide) (by decide) (by decide) rfl rfl (List.range' 7 23 ++ List.range 7) (by decide) rfl ?_
                  obtain ⟨e_1, hI⟩ := t_sp_no (m := 1 + ((y / 6) % 9999)) (v := 0) h0 hp ⟨by omega, by omega⟩ ((if_neg (Int32.not_lt.mpr c_90)).symm) (Or.inl c_91)
                  refine gx_top (x := (bSpend C (nI p) (nI (1 + ((y / 6) % 9999)))).1) (y := (-2)) e_1 ?_
                  refine gx_bipush (pc := 472) hB dL_acts_472 (-2) (by decide) ?_
                  refine gx_icmp_ne (pc := 474) hB 481 dL_acts_474 (by decide) (fun c_92 => ?_) (fun c_92 => ?_)
                  · exact absurd c_92 (by decide)
                  · refine gx_iconst (pc := 477) hB dL_acts_477 1 (by decide) ?_
                    refine gx_goto (pc := 478) hB 482 dL_acts_478 (by decide) ?_
                    exact gx_zret (pc := 482) hC dL_acts_482 (Nat.zero_le _) (Nat.zero_le _) (by decide) ⟨rfl, _, _, _, _, _, _, _, _, _, _, _, rfl, hI⟩
                · refine gx_iload (pc := 446) hB dL_acts_446 0 rfl ?_
                  refine gx_if_le (pc := 448) hB 483 dL_acts_448 (by decide) (fun c_93 => ?_) (fun c_93 => ?_)
                  · refine gx_aload_n (pc := 483) hB dL_acts_483 7 rfl ?_
                    refine gx_bipush (pc := 484) hB dL_acts_484 10 (by decide) ?_
                    refine gx_iload (pc := 486) hB dL_acts_486 2 rfl ?_
                    refine gx_imul (pc := 488) hB dL_acts_488 ?_
                    refine gx_top (show 10 * nI p = nI (10 * p) from pk_mul 10 p) ?_
                    refine gx_dup2 (pc := 489) hB dL_acts_489 rfl rfl ?_
                    refine gx_iald (pc := 490) hB dL_acts_490 24 1 rfl rfl (10 * p) rfl (by omega) (by decide) ?_
                    refine gx_iload (pc := 491) hB dL_acts_491 1 rfl ?_
                    refine gx_iload (pc := 493) hB dL_acts_493 0 rfl ?_
                    refine gx_isub (pc := 495) hB dL_acts_495 ?_
                    refine gx_isub (pc := 496) hB dL_acts_496 ?_
                    refine gx_iast (pc := 497) hB dL_acts_497 24 1 rfl rfl (10 * p) rfl (by omega) (by decide) ((wZ K ad C R od sn ++ [(ug, .inl (K.2.1.2.1, 8, .inl G)), (uf, .inl (K.2.1.2.1, 60, .inl (upd F (10 * p) ((F (10 * p)) - ((nI (1 + ((y / 6) % 9999))) - 0))))), (ud, .inl (K.2.1.2.1, 56, .inl D)), (uh, .inl (K.2.1.2.1, 48, .inl H)), (uv, .inl (K.2.1.2.1, 48, .inl V)), (uj, .inl (K.2.1.2.1, 48, .inl J)), (uq, .inl (K.2.1.2.1, 48, .inl Q))])) rfl ?_
                    refine gx_aload_n (pc := 498) hB dL_acts_498 7 rfl ?_
                    refine gx_bipush (pc := 499) hB dL_acts_499 10 (by decide) ?_
                    refine gx_iload (pc := 501) hB dL_acts_501 2 rfl ?_
                    refine gx_imul (pc := 503) hB dL_acts_503 ?_
                    refine gx_top (show 10 * nI p = nI (10 * p) from pk_mul 10 p) ?_
                    refine gx_iconst (pc := 504) hB dL_acts_504 3 (by decide) ?_
                    refine gx_iadd (pc := 505) hB dL_acts_505 ?_
                    refine gx_top (show (nI (10 * p)) + 3 = nI (10 * p + 3) from nI_add (10 * p) 3) ?_
                    refine gx_dup2 (pc := 506) hB dL_acts_506 rfl rfl ?_
                    refine gx_iald (pc := 507) hB dL_acts_507 24 1 rfl rfl (10 * p + 3) rfl (by omega) (by decide) ?_
                    refine gx_iload (pc := 508) hB dL_acts_508 1 rfl ?_
                    refine gx_iadd (pc := 510) hB dL_acts_510 ?_
                    refine gx_iast (pc := 511) hB dL_acts_511 24 1 rfl rfl (10 * p + 3) rfl (by omega) (by decide) ((wZ K ad C R od sn ++ [(ug, .inl (K.2.1.2.1, 8, .inl G)), (uf, .inl (K.2.1.2.1, 60, .inl (upd (upd F (10 * p) ((F (10 * p)) - ((nI (1 + ((y / 6) % 9999))) - 0))) (10 * p + 3) (((upd F (10 * p) ((F (10 * p)) - ((nI (1 + ((y / 6) % 9999))) - 0))) (10 * p + 3)) + (nI (1 + ((y / 6) % 9999))))))), (ud, .inl (K.2.1.2.1, 56, .inl D)), (uh, .inl (K.2.1.2.1, 48, .inl H)), (uv, .inl (K.2.1.2.1, 48, .inl V)), (uj, .inl (K.2.1.2.1, 48, .inl J)), (uq, .inl (K.2.1.2.1, 48, .inl Q))])) rfl ?_
                    refine gx_aload_n (pc := 512) hB dL_acts_512 7 rfl ?_
                    refine gx_bipush (pc := 513) hB dL_acts_513 10 (by decide) ?_
                    refine gx_iload (pc := 515) hB dL_acts_515 2 rfl ?_
                    refine gx_imul (pc := 517) hB dL_acts_517 ?_
                    refine gx_top (show 10 * nI p = nI (10 * p) from pk_mul 10 p) ?_
                    refine gx_iconst (pc := 518) hB dL_acts_518 4 (by decide) ?_
                    refine gx_iadd (pc := 519) hB dL_acts_519 ?_
                    refine gx_top (show (nI (10 * p)) + 4 = nI (10 * p + 4) from nI_add (10 * p) 4) ?_
                    refine gx_dup2 (pc := 520) hB dL_acts_520 rfl rfl ?_
                    refine gx_iald (pc := 521) hB dL_acts_521 24 1 rfl rfl (10 * p + 4) rfl (by omega) (by decide) ?_
                    refine gx_iload (pc := 522) hB dL_acts_522 0 rfl ?_
                    refine gx_iadd (pc := 524) hB dL_acts_524 ?_
                    refine gx_iast (pc := 525) hB dL_acts_525 24 1 rfl rfl (10 * p + 4) rfl (by omega) (by decide) ((wZ K ad C R od sn ++ [(ug, .inl (K.2.1.2.1, 8, .inl G)), (uf, .inl (K.2.1.2.1, 60, .inl (upd (upd (upd F (10 * p) ((F (10 * p)) - ((nI (1 + ((y / 6) % 9999))) - 0))) (10 * p + 3) (((upd F (10 * p) ((F (10 * p)) - ((nI (1 + ((y / 6) % 9999))) - 0))) (10 * p + 3)) + (nI (1 + ((y / 6) % 9999))))) (10 * p + 4) (((upd (upd F (10 * p) ((F (10 * p)) - ((nI (1 + ((y / 6) % 9999))) - 0))) (10 * p + 3) (((upd F (10 * p) ((F (10 * p)) - ((nI (1 + ((y / 6) % 9999))) - 0))) (10 * p + 3)) + (nI (1 + ((y / 6) % 9999))))) (10 * p + 4)) + 0)))), (ud, .inl (K.2.1.2.1, 56, .inl D)), (uh, .inl (K.2.1.2.1, 48, .inl H)), (uv, .inl (K.2.1.2.1, 48, .inl V)), (uj, .inl (K.2.1.2.1, 48, .inl J)), (uq, .inl (K.2.1.2.1, 48, .inl Q))])) rfl ?_
                    refine gx_aload_n (pc := 526) hB dL_acts_526 7 rfl ?_
                    refine gx_iconst (pc := 527) hB dL_acts_527 0 (by decide) ?_
                    refine gx_dup2 (pc := 528) hB dL_acts_528 rfl rfl ?_
                    refine gx_iald (pc := 529) hB dL_acts_529 24 1 rfl rfl 0 rfl (by decide) (by decide) ?_
                    refine gx_iload (pc := 530) hB dL_acts_530 0 rfl ?_
                    refine gx_isub (pc := 532) hB dL_acts_532 ?_
                    refine gx_iast (pc := 533) hB dL_acts_533 24 1 rfl rfl 0 rfl (by decide) (by decide) ((wZ K ad C R od sn ++ [(ug, .inl (K.2.1.2.1, 8, .inl G)), (uf, .inl (K.2.1.2.1, 60, .inl (upd (upd (upd (upd F (10 * p) ((F (10 * p)) - ((nI (1 + ((y / 6) % 9999))) - 0))) (10 * p + 3) (((upd F (10 * p) ((F (10 * p)) - ((nI (1 + ((y / 6) % 9999))) - 0))) (10 * p + 3)) + (nI (1 + ((y / 6) % 9999))))) (10 * p + 4) (((upd (upd F (10 * p) ((F (10 * p)) - ((nI (1 + ((y / 6) % 9999))) - 0))) (10 * p + 3) (((upd F (10 * p) ((F (10 * p)) - ((nI (1 + ((y / 6) % 9999))) - 0))) (10 * p + 3)) + (nI (1 + ((y / 6) % 9999))))) (10 * p + 4)) + 0)) 0 (((upd (upd (upd F (10 * p) ((F (10 * p)) - ((nI (1 + ((y / 6) % 9999))) - 0))) (10 * p + 3) (((upd F (10 * p) ((F (10 * p)) - ((nI (1 + ((y / 6) % 9999))) - 0))) (10 * p + 3)) + (nI (1 + ((y / 6) % 9999))))) (10 * p + 4) (((upd (upd F (10 * p) ((F (10 * p)) - ((nI (1 + ((y / 6) % 9999))) - 0))) (10 * p + 3) (((upd F (10 * p) ((F (10 * p)) - ((nI (1 + ((y / 6) % 9999))) - 0))) (10 * p + 3)) + (nI (1 + ((y / 6) % 9999))))) (10 * p + 4)) + 0)) 0) - 0)))), (ud, .inl (K.2.1.2.1, 56, .inl D)), (uh, .inl (K.2.1.2.1, 48, .inl H)), (uv, .inl (K.2.1.2.1, 48, .inl V)), (uj, .inl (K.2.1.2.1, 48, .inl J)), (uq, .inl (K.2.1.2.1, 48, .inl Q))])) rfl ?_
                    refine gx_aload_n (pc := 534) hB dL_acts_534 6 rfl ?_
                    refine gx_bipush (pc := 535) hB dL_acts_535 7 (by decide) ?_
                    refine gx_dup2 (pc := 537) hB dL_acts_537 rfl rfl ?_
                    refine gx_iald (pc := 538) hB dL_acts_538 23 1 rfl rfl 7 rfl (by decide) (by decide) ?_
                    refine gx_iload (pc := 539) hB dL_acts_539 0 rfl ?_
                    refine gx_iadd (pc := 541) hB dL_acts_541 ?_
                    refine gx_iast (pc := 542) hB dL_acts_542 23 1 rfl rfl 7 rfl (by decide) (by decide) ((wZ K ad C R od sn ++ [(ug, .inl (K.2.1.2.1, 8, .inl (upd G 7 (G 7 + 0)))), (uf, .inl (K.2.1.2.1, 60, .inl (upd (upd (upd (upd F (10 * p) ((F (10 * p)) - ((nI (1 + ((y / 6) % 9999))) - 0))) (10 * p + 3) (((upd F (10 * p) ((F (10 * p)) - ((nI (1 + ((y / 6) % 9999))) - 0))) (10 * p + 3)) + (nI (1 + ((y / 6) % 9999))))) (10 * p + 4) (((upd (upd F (10 * p) ((F (10 * p)) - ((nI (1 + ((y / 6) % 9999))) - 0))) (10 * p + 3) (((upd F (10 * p) ((F (10 * p)) - ((nI (1 + ((y / 6) % 9999))) - 0))) (10 * p + 3)) + (nI (1 + ((y / 6) % 9999))))) (10 * p + 4)) + 0)) 0 (((upd (upd (upd F (10 * p) ((F (10 * p)) - ((nI (1 + ((y / 6) % 9999))) - 0))) (10 * p + 3) (((upd F (10 * p) ((F (10 * p)) - ((nI (1 + ((y / 6) % 9999))) - 0))) (10 * p + 3)) + (nI (1 + ((y / 6) % 9999))))) (10 * p + 4) (((upd (upd F (10 * p) ((F (10 * p)) - ((nI (1 + ((y / 6) % 9999))) - 0))) (10 * p + 3) (((upd F (10 * p) ((F (10 * p)) - ((nI (1 + ((y / 6) % 9999))) - 0))) (10 * p + 3)) + (nI (1 + ((y / 6) % 9999))))) (10 * p + 4)) + 0)) 0) - 0)))), (ud, .inl (K.2.1.2.1, 56, .inl D)), (uh, .inl (K.2.1.2.1, 48, .inl H)), (uv, .inl (K.2.1.2.1, 48, .inl V)), (uj, .inl (K.2.1.2.1, 48, .inl J)), (uq, .inl (K.2.1.2.1, 48, .inl Q))])) rfl ?_
                    refine gx_aload_n (pc := 543) hB dL_acts_543 5 rfl ?_
                    refine gx_iload (pc := 544) hB dL_acts_544 2 rfl ?_
                    refine gx_iload (pc := 546) hB dL_acts_546 1 rfl ?_
                    refine gx_dVA (pc := 548) (r := (bSpend C (nI p) (nI (1 + ((y / 6) % 9999)))).1) (W1 := wZ K ad ((bSpend C (nI p) (nI (1 + ((y / 6) % 9999)))).2) (kR C R od sn) (kOd (bSpend C (nI p) (nI (1 + ((y / 6) % 9999)))).1 od sn) (kSn (bSpend C (nI p) (nI (1 + ((y / 6) % 9999)))).1 sn)) (wr := [(ug, .inl (K.2.1.2.1, 8, .inl (upd G 7 (G 7 + 0)))), (uf, .inl (K.2.1.2.1, 60, .inl (upd (upd (upd (upd F (10 * p) ((F (10 * p)) - ((nI (1 + ((y / 6) % 9999))) - 0))) (10 * p + 3) (((upd F (10 * p) ((F (10 * p)) - ((nI (1 + ((y / 6) % 9999))) - 0))) (10 * p + 3)) + (nI (1 + ((y / 6) % 9999))))) (10 * p + 4) (((upd (upd F (10 * p) ((F (10 * p)) - ((nI (1 + ((y / 6) % 9999))) - 0))) (10 * p + 3) (((upd F (10 * p) ((F (10 * p)) - ((nI (1 + ((y / 6) % 9999))) - 0))) (10 * p + 3)) + (nI (1 + ((y / 6) % 9999))))) (10 * p + 4)) + 0)) 0 (((upd (upd (upd F (10 * p) ((F (10 * p)) - ((nI (1 + ((y / 6) % 9999))) - 0))) (10 * p + 3) (((upd F (10 * p) ((F (10 * p)) - ((nI (1 + ((y / 6) % 9999))) - 0))) (10 * p + 3)) + (nI (1 + ((y / 6) % 9999))))) (10 * p + 4) (((upd (upd F (10 * p) ((F (10 * p)) - ((nI (1 + ((y / 6) % 9999))) - 0))) (10 * p + 3) (((upd F (10 * p) ((F (10 * p)) - ((nI (1 + ((y / 6) % 9999))) - 0))) (10 * p + 3)) + (nI (1 + ((y / 6) % 9999))))) (10 * p + 4)) + 0)) 0) - 0)))), (ud, .inl (K.2.1.2.1, 56, .inl D)), (uh, .inl (K.2.1.2.1, 48, .inl H)), (uv, .inl (K.2.1.2.1, 48, .inl V)), (uj, .inl (K.2.1.2.1, 48, .inl J)), (uq, .inl (K.2.1.2.1, 48, .inl Q))]) hB (k_spend l K ad C R od sn (nI p) (nI (1 + ((y / 6) % 9999))) ho hsn) mX4_spend dL_acts_548 tb_365 pX4_spend ⟨Nat.le_of_ble_eq_true rfl, Nat.le_of_ble_eq_true rfl⟩ ⟨rfl, rfl⟩ ⟨Nat.le_of_ble_eq_true rfl, Nat.le_of_ble_eq_true rfl⟩ rfl (Nat.le_of_ble_eq_true rfl) (List.range 23) (List.range' 23 7) rfl rfl (by decide) (by decide) (by decide) rfl rfl (List.range' 7 23 ++ List.range 7) (by decide) rfl ?_
                    obtain ⟨e_1, hI⟩ := t_sp_ok (m := 1 + ((y / 6) % 9999)) (v := 0) h0 hp ⟨by omega, by omega⟩ ((if_neg (Int32.not_lt.mpr c_90)).symm) c_91 (fun z => absurd z.1 (by decide)) rfl rfl rfl rfl
                    refine gx_top (x := (bSpend C (nI p) (nI (1 + ((y / 6) % 9999)))).1) (y := 0) e_1 ?_
                    refine gx_iload (pc := 551) hB dL_acts_551 0 rfl ?_
                    refine gx_icmp_ne (pc := 553) hB 560 dL_acts_553 (by decide) (fun c_94 => ?_) (fun c_94 => ?_)
                    · exact absurd c_94 (by decide)
                    · refine gx_iconst (pc := 556) hB dL_acts_556 1 (by decide) ?_
                      refine gx_goto (pc := 557) hB 561 dL_acts_557 (by decide) ?_
                      exact gx_zret (pc := 561) hC dL_acts_561 (Nat.zero_le _) (Nat.zero_le _) (by decide) ⟨rfl, _, _, _, _, _, _, _, _, _, _, _, rfl, hI⟩
                  · exact absurd c_93 (by decide)
              · refine gx_iload (pc := 417) hB dL_acts_417 0 rfl ?_
                refine gx_aload_n (pc := 419) hB dL_acts_419 6 rfl ?_
                refine gx_bipush (pc := 420) hB dL_acts_420 10 (by decide) ?_
                refine gx_iload (pc := 422) hB dL_acts_422 1 rfl ?_
                refine gx_imul (pc := 424) hB dL_acts_424 ?_
                refine gx_top (show 10 * nI p = nI (10 * p) from pk_mul 10 p) ?_
                refine gx_iald (pc := 425) hB dL_acts_425 24 1 rfl rfl (10 * p) rfl (by omega) (by decide) ?_
                refine gx_isub (pc := 426) hB dL_acts_426 ?_
                refine gx_goto (pc := 427) hB 431 dL_acts_427 (by decide) ?_
                refine gx_istore (pc := 431) hB dL_acts_431 (by decide) [(13, .int ((nI (1 + ((y / 6) % 9999))) - (F (10 * p)))), (12, .int (nI (1 + ((y / 6) % 9999)))), (11, .int (nI p)), (10, .int (nI w)), (9, .int (nI y)), (0, .ref (ad 0)), (1, .ref ug), (2, .ref uf), (3, .ref ud), (4, .ref uh), (5, .ref uv), (6, .ref uj), (7, .ref uq), (8, .int z)] rfl ?_
                refine gx_aload_n (pc := 433) hB dL_acts_433 7 rfl ?_
                refine gx_bipush (pc := 434) hB dL_acts_434 10 (by decide) ?_
                refine gx_iload (pc := 436) hB dL_acts_436 2 rfl ?_
                refine gx_imul (pc := 438) hB dL_acts_438 ?_
                refine gx_top (show 10 * nI p = nI (10 * p) from pk_mul 10 p) ?_
                refine gx_bipush (pc := 439) hB dL_acts_439 9 (by decide) ?_
                refine gx_iadd (pc := 441) hB dL_acts_441 ?_
                refine gx_top (show (nI (10 * p)) + 9 = nI (10 * p + 9) from nI_add (10 * p) 9) ?_
                refine gx_iald (pc := 442) hB dL_acts_442 24 1 rfl rfl (10 * p + 9) rfl (by omega) (by decide) ?_
                refine gx_if_ge (pc := 443) hB 464 dL_acts_443 (by decide) (fun c_95 => ?_) (fun c_95 => ?_)
                · refine gx_aload_n (pc := 464) hB dL_acts_464 5 rfl ?_
                  refine gx_iload (pc := 465) hB dL_acts_465 2 rfl ?_
                  refine gx_iload (pc := 467) hB dL_acts_467 1 rfl ?_
                  refine gx_dVA (pc := 469) (r := (bSpend C (nI p) (nI (1 + ((y / 6) % 9999)))).1) (W1 := wZ K ad ((bSpend C (nI p) (nI (1 + ((y / 6) % 9999)))).2) (kR C R od sn) (kOd (bSpend C (nI p) (nI (1 + ((y / 6) % 9999)))).1 od sn) (kSn (bSpend C (nI p) (nI (1 + ((y / 6) % 9999)))).1 sn)) (wr := [(ug, .inl (K.2.1.2.1, 8, .inl G)), (uf, .inl (K.2.1.2.1, 60, .inl F)), (ud, .inl (K.2.1.2.1, 56, .inl D)), (uh, .inl (K.2.1.2.1, 48, .inl H)), (uv, .inl (K.2.1.2.1, 48, .inl V)), (uj, .inl (K.2.1.2.1, 48, .inl J)), (uq, .inl (K.2.1.2.1, 48, .inl Q))]) hB (k_spend l K ad C R od sn (nI p) (nI (1 + ((y / 6) % 9999))) ho hsn) mX4_spend dL_acts_469 tb_365 pX4_spend ⟨Nat.le_of_ble_eq_true rfl, Nat.le_of_ble_eq_true rfl⟩ ⟨rfl, rfl⟩ ⟨Nat.le_of_ble_eq_true rfl, Nat.le_of_ble_eq_true rfl⟩ rfl (Nat.le_of_ble_eq_true rfl) (List.range 23) (List.range' 23 7) rfl rfl (by decide) (by decide) (by decide) rfl rfl (List.range' 7 23 ++ List.range 7) (by decide) rfl ?_
                  obtain ⟨e_1, hI⟩ := t_sp_no (m := 1 + ((y / 6) % 9999)) (v := (nI (1 + ((y / 6) % 9999))) - (F (10 * p))) h0 hp ⟨by omega, by omega⟩ ((if_pos (Int32.not_le.mp c_90)).symm) (Or.inl c_95)
                  refine gx_top (x := (bSpend C (nI p) (nI (1 + ((y / 6) % 9999)))).1) (y := (-2)) e_1 ?_
                  refine gx_bipush (pc := 472) hB dL_acts_472 (-2) (by decide) ?_
                  refine gx_icmp_ne (pc := 474) hB 481 dL_acts_474 (by decide) (fun c_96 => ?_) (fun c_96 => ?_)
                  · exact absurd c_96 (by decide)
                  · refine gx_iconst (pc := 477) hB dL_acts_477 1 (by decide) ?_
                    refine gx_goto (pc := 478) hB 482 dL_acts_478 (by decide) ?_
                    exact gx_zret (pc := 482) hC dL_acts_482 (Nat.zero_le _) (Nat.zero_le _) (by decide) ⟨rfl, _, _, _, _, _, _, _, _, _, _, _, rfl, hI⟩
                · refine gx_iload (pc := 446) hB dL_acts_446 0 rfl ?_
                  refine gx_if_le (pc := 448) hB 483 dL_acts_448 (by decide) (fun c_97 => ?_) (fun c_97 => ?_)
                  · refine gx_aload_n (pc := 483) hB dL_acts_483 7 rfl ?_
                    refine gx_bipush (pc := 484) hB dL_acts_484 10 (by decide) ?_
                    refine gx_iload (pc := 486) hB dL_acts_486 2 rfl ?_
                    refine gx_imul (pc := 488) hB dL_acts_488 ?_
                    refine gx_top (show 10 * nI p = nI (10 * p) from pk_mul 10 p) ?_
                    refine gx_dup2 (pc := 489) hB dL_acts_489 rfl rfl ?_
                    refine gx_iald (pc := 490) hB dL_acts_490 24 1 rfl rfl (10 * p) rfl (by omega) (by decide) ?_
                    refine gx_iload (pc := 491) hB dL_acts_491 1 rfl ?_
                    refine gx_iload (pc := 493) hB dL_acts_493 0 rfl ?_
                    refine gx_isub (pc := 495) hB dL_acts_495 ?_
                    refine gx_isub (pc := 496) hB dL_acts_496 ?_
                    refine gx_iast (pc := 497) hB dL_acts_497 24 1 rfl rfl (10 * p) rfl (by omega) (by decide) ((wZ K ad C R od sn ++ [(ug, .inl (K.2.1.2.1, 8, .inl G)), (uf, .inl (K.2.1.2.1, 60, .inl (upd F (10 * p) ((F (10 * p)) - ((nI (1 + ((y / 6) % 9999))) - ((nI (1 + ((y / 6) % 9999))) - (F (10 * p)))))))), (ud, .inl (K.2.1.2.1, 56, .inl D)), (uh, .inl (K.2.1.2.1, 48, .inl H)), (uv, .inl (K.2.1.2.1, 48, .inl V)), (uj, .inl (K.2.1.2.1, 48, .inl J)), (uq, .inl (K.2.1.2.1, 48, .inl Q))])) rfl ?_
                    refine gx_aload_n (pc := 498) hB dL_acts_498 7 rfl ?_
                    refine gx_bipush (pc := 499) hB dL_acts_499 10 (by decide) ?_
                    refine gx_iload (pc := 501) hB dL_acts_501 2 rfl ?_
                    refine gx_imul (pc := 503) hB dL_acts_503 ?_
                    refine gx_top (show 10 * nI p = nI (10 * p) from pk_mul 10 p) ?_
                    refine gx_iconst (pc := 504) hB dL_acts_504 3 (by decide) ?_
                    refine gx_iadd (pc := 505) hB dL_acts_505 ?_
                    refine gx_top (show (nI (10 * p)) + 3 = nI (10 * p + 3) from nI_add (10 * p) 3) ?_
                    refine gx_dup2 (pc := 506) hB dL_acts_506 rfl rfl ?_
                    refine gx_iald (pc := 507) hB dL_acts_507 24 1 rfl rfl (10 * p + 3) rfl (by omega) (by decide) ?_
                    refine gx_iload (pc := 508) hB dL_acts_508 1 rfl ?_
                    refine gx_iadd (pc := 510) hB dL_acts_510 ?_
                    refine gx_iast (pc := 511) hB dL_acts_511 24 1 rfl rfl (10 * p + 3) rfl (by omega) (by decide) ((wZ K ad C R od sn ++ [(ug, .inl (K.2.1.2.1, 8, .inl G)), (uf, .inl (K.2.1.2.1, 60, .inl (upd (upd F (10 * p) ((F (10 * p)) - ((nI (1 + ((y / 6) % 9999))) - ((nI (1 + ((y / 6) % 9999))) - (F (10 * p)))))) (10 * p + 3) (((upd F (10 * p) ((F (10 * p)) - ((nI (1 + ((y / 6) % 9999))) - ((nI (1 + ((y / 6) % 9999))) - (F (10 * p)))))) (10 * p + 3)) + (nI (1 + ((y / 6) % 9999))))))), (ud, .inl (K.2.1.2.1, 56, .inl D)), (uh, .inl (K.2.1.2.1, 48, .inl H)), (uv, .inl (K.2.1.2.1, 48, .inl V)), (uj, .inl (K.2.1.2.1, 48, .inl J)), (uq, .inl (K.2.1.2.1, 48, .inl Q))])) rfl ?_
                    refine gx_aload_n (pc := 512) hB dL_acts_512 7 rfl ?_
                    refine gx_bipush (pc := 513) hB dL_acts_513 10 (by decide) ?_
                    refine gx_iload (pc := 515) hB dL_acts_515 2 rfl ?_
                    refine gx_imul (pc := 517) hB dL_acts_517 ?_
                    refine gx_top (show 10 * nI p = nI (10 * p) from pk_mul 10 p) ?_
                    refine gx_iconst (pc := 518) hB dL_acts_518 4 (by decide) ?_
                    refine gx_iadd (pc := 519) hB dL_acts_519 ?_
                    refine gx_top (show (nI (10 * p)) + 4 = nI (10 * p + 4) from nI_add (10 * p) 4) ?_
                    refine gx_dup2 (pc := 520) hB dL_acts_520 rfl rfl ?_
                    refine gx_iald (pc := 521) hB dL_acts_521 24 1 rfl rfl (10 * p + 4) rfl (by omega) (by decide) ?_
                    refine gx_iload (pc := 522) hB dL_acts_522 0 rfl ?_
                    refine gx_iadd (pc := 524) hB dL_acts_524 ?_
                    refine gx_iast (pc := 525) hB dL_acts_525 24 1 rfl rfl (10 * p + 4) rfl (by omega) (by decide) ((wZ K ad C R od sn ++ [(ug, .inl (K.2.1.2.1, 8, .inl G)), (uf, .inl (K.2.1.2.1, 60, .inl (upd (upd (upd F (10 * p) ((F (10 * p)) - ((nI (1 + ((y / 6) % 9999))) - ((nI (1 + ((y / 6) % 9999))) - (F (10 * p)))))) (10 * p + 3) (((upd F (10 * p) ((F (10 * p)) - ((nI (1 + ((y / 6) % 9999))) - ((nI (1 + ((y / 6) % 9999))) - (F (10 * p)))))) (10 * p + 3)) + (nI (1 + ((y / 6) % 9999))))) (10 * p + 4) (((upd (upd F (10 * p) ((F (10 * p)) - ((nI (1 + ((y / 6) % 9999))) - ((nI (1 + ((y / 6) % 9999))) - (F (10 * p)))))) (10 * p + 3) (((upd F (10 * p) ((F (10 * p)) - ((nI (1 + ((y / 6) % 9999))) - ((nI (1 + ((y / 6) % 9999))) - (F (10 * p)))))) (10 * p + 3)) + (nI (1 + ((y / 6) % 9999))))) (10 * p + 4)) + ((nI (1 + ((y / 6) % 9999))) - (F (10 * p))))))), (ud, .inl (K.2.1.2.1, 56, .inl D)), (uh, .inl (K.2.1.2.1, 48, .inl H)), (uv, .inl (K.2.1.2.1, 48, .inl V)), (uj, .inl (K.2.1.2.1, 48, .inl J)), (uq, .inl (K.2.1.2.1, 48, .inl Q))])) rfl ?_
                    refine gx_aload_n (pc := 526) hB dL_acts_526 7 rfl ?_
                    refine gx_iconst (pc := 527) hB dL_acts_527 0 (by decide) ?_
                    refine gx_dup2 (pc := 528) hB dL_acts_528 rfl rfl ?_
                    refine gx_iald (pc := 529) hB dL_acts_529 24 1 rfl rfl 0 rfl (by decide) (by decide) ?_
                    refine gx_iload (pc := 530) hB dL_acts_530 0 rfl ?_
                    refine gx_isub (pc := 532) hB dL_acts_532 ?_
                    refine gx_iast (pc := 533) hB dL_acts_533 24 1 rfl rfl 0 rfl (by decide) (by decide) ((wZ K ad C R od sn ++ [(ug, .inl (K.2.1.2.1, 8, .inl G)), (uf, .inl (K.2.1.2.1, 60, .inl (upd (upd (upd (upd F (10 * p) ((F (10 * p)) - ((nI (1 + ((y / 6) % 9999))) - ((nI (1 + ((y / 6) % 9999))) - (F (10 * p)))))) (10 * p + 3) (((upd F (10 * p) ((F (10 * p)) - ((nI (1 + ((y / 6) % 9999))) - ((nI (1 + ((y / 6) % 9999))) - (F (10 * p)))))) (10 * p + 3)) + (nI (1 + ((y / 6) % 9999))))) (10 * p + 4) (((upd (upd F (10 * p) ((F (10 * p)) - ((nI (1 + ((y / 6) % 9999))) - ((nI (1 + ((y / 6) % 9999))) - (F (10 * p)))))) (10 * p + 3) (((upd F (10 * p) ((F (10 * p)) - ((nI (1 + ((y / 6) % 9999))) - ((nI (1 + ((y / 6) % 9999))) - (F (10 * p)))))) (10 * p + 3)) + (nI (1 + ((y / 6) % 9999))))) (10 * p + 4)) + ((nI (1 + ((y / 6) % 9999))) - (F (10 * p))))) 0 (((upd (upd (upd F (10 * p) ((F (10 * p)) - ((nI (1 + ((y / 6) % 9999))) - ((nI (1 + ((y / 6) % 9999))) - (F (10 * p)))))) (10 * p + 3) (((upd F (10 * p) ((F (10 * p)) - ((nI (1 + ((y / 6) % 9999))) - ((nI (1 + ((y / 6) % 9999))) - (F (10 * p)))))) (10 * p + 3)) + (nI (1 + ((y / 6) % 9999))))) (10 * p + 4) (((upd (upd F (10 * p) ((F (10 * p)) - ((nI (1 + ((y / 6) % 9999))) - ((nI (1 + ((y / 6) % 9999))) - (F (10 * p)))))) (10 * p + 3) (((upd F (10 * p) ((F (10 * p)) - ((nI (1 + ((y / 6) % 9999))) - ((nI (1 + ((y / 6) % 9999))) - (F (10 * p)))))) (10 * p + 3)) + (nI (1 + ((y / 6) % 9999))))) (10 * p + 4)) + ((nI (1 + ((y / 6) % 9999))) - (F (10 * p))))) 0) - ((nI (1 + ((y / 6) % 9999))) - (F (10 * p))))))), (ud, .inl (K.2.1.2.1, 56, .inl D)), (uh, .inl (K.2.1.2.1, 48, .inl H)), (uv, .inl (K.2.1.2.1, 48, .inl V)), (uj, .inl (K.2.1.2.1, 48, .inl J)), (uq, .inl (K.2.1.2.1, 48, .inl Q))])) rfl ?_
                    refine gx_aload_n (pc := 534) hB dL_acts_534 6 rfl ?_
                    refine gx_bipush (pc := 535) hB dL_acts_535 7 (by decide) ?_
                    refine gx_dup2 (pc := 537) hB dL_acts_537 rfl rfl ?_
                    refine gx_iald (pc := 538) hB dL_acts_538 23 1 rfl rfl 7 rfl (by decide) (by decide) ?_
                    refine gx_iload (pc := 539) hB dL_acts_539 0 rfl ?_
                    refine gx_iadd (pc := 541) hB dL_acts_541 ?_
                    refine gx_iast (pc := 542) hB dL_acts_542 23 1 rfl rfl 7 rfl (by decide) (by decide) ((wZ K ad C R od sn ++ [(ug, .inl (K.2.1.2.1, 8, .inl (upd G 7 (G 7 + ((nI (1 + ((y / 6) % 9999))) - (F (10 * p))))))), (uf, .inl (K.2.1.2.1, 60, .inl (upd (upd (upd (upd F (10 * p) ((F (10 * p)) - ((nI (1 + ((y / 6) % 9999))) - ((nI (1 + ((y / 6) % 9999))) - (F (10 * p)))))) (10 * p + 3) (((upd F (10 * p) ((F (10 * p)) - ((nI (1 + ((y / 6) % 9999))) - ((nI (1 + ((y / 6) % 9999))) - (F (10 * p)))))) (10 * p + 3)) + (nI (1 + ((y / 6) % 9999))))) (10 * p + 4) (((upd (upd F (10 * p) ((F (10 * p)) - ((nI (1 + ((y / 6) % 9999))) - ((nI (1 + ((y / 6) % 9999))) - (F (10 * p)))))) (10 * p + 3) (((upd F (10 * p) ((F (10 * p)) - ((nI (1 + ((y / 6) % 9999))) - ((nI (1 + ((y / 6) % 9999))) - (F (10 * p)))))) (10 * p + 3)) + (nI (1 + ((y / 6) % 9999))))) (10 * p + 4)) + ((nI (1 + ((y / 6) % 9999))) - (F (10 * p))))) 0 (((upd (upd (upd F (10 * p) ((F (10 * p)) - ((nI (1 + ((y / 6) % 9999))) - ((nI (1 + ((y / 6) % 9999))) - (F (10 * p)))))) (10 * p + 3) (((upd F (10 * p) ((F (10 * p)) - ((nI (1 + ((y / 6) % 9999))) - ((nI (1 + ((y / 6) % 9999))) - (F (10 * p)))))) (10 * p + 3)) + (nI (1 + ((y / 6) % 9999))))) (10 * p + 4) (((upd (upd F (10 * p) ((F (10 * p)) - ((nI (1 + ((y / 6) % 9999))) - ((nI (1 + ((y / 6) % 9999))) - (F (10 * p)))))) (10 * p + 3) (((upd F (10 * p) ((F (10 * p)) - ((nI (1 + ((y / 6) % 9999))) - ((nI (1 + ((y / 6) % 9999))) - (F (10 * p)))))) (10 * p + 3)) + (nI (1 + ((y / 6) % 9999))))) (10 * p + 4)) + ((nI (1 + ((y / 6) % 9999))) - (F (10 * p))))) 0) - ((nI (1 + ((y / 6) % 9999))) - (F (10 * p))))))), (ud, .inl (K.2.1.2.1, 56, .inl D)), (uh, .inl (K.2.1.2.1, 48, .inl H)), (uv, .inl (K.2.1.2.1, 48, .inl V)), (uj, .inl (K.2.1.2.1, 48, .inl J)), (uq, .inl (K.2.1.2.1, 48, .inl Q))])) rfl ?_
                    refine gx_aload_n (pc := 543) hB dL_acts_543 5 rfl ?_
                    refine gx_iload (pc := 544) hB dL_acts_544 2 rfl ?_
                    refine gx_iload (pc := 546) hB dL_acts_546 1 rfl ?_
                    refine gx_dVA (pc := 548) (r := (bSpend C (nI p) (nI (1 + ((y / 6) % 9999)))).1) (W1 := wZ K ad ((bSpend C (nI p) (nI (1 + ((y / 6) % 9999)))).2) (kR C R od sn) (kOd (bSpend C (nI p) (nI (1 + ((y / 6) % 9999)))).1 od sn) (kSn (bSpend C (nI p) (nI (1 + ((y / 6) % 9999)))).1 sn)) (wr := [(ug, .inl (K.2.1.2.1, 8, .inl (upd G 7 (G 7 + ((nI (1 + ((y / 6) % 9999))) - (F (10 * p))))))), (uf, .inl (K.2.1.2.1, 60, .inl (upd (upd (upd (upd F (10 * p) ((F (10 * p)) - ((nI (1 + ((y / 6) % 9999))) - ((nI (1 + ((y / 6) % 9999))) - (F (10 * p)))))) (10 * p + 3) (((upd F (10 * p) ((F (10 * p)) - ((nI (1 + ((y / 6) % 9999))) - ((nI (1 + ((y / 6) % 9999))) - (F (10 * p)))))) (10 * p + 3)) + (nI (1 + ((y / 6) % 9999))))) (10 * p + 4) (((upd (upd F (10 * p) ((F (10 * p)) - ((nI (1 + ((y / 6) % 9999))) - ((nI (1 + ((y / 6) % 9999))) - (F (10 * p)))))) (10 * p + 3) (((upd F (10 * p) ((F (10 * p)) - ((nI (1 + ((y / 6) % 9999))) - ((nI (1 + ((y / 6) % 9999))) - (F (10 * p)))))) (10 * p + 3)) + (nI (1 + ((y / 6) % 9999))))) (10 * p + 4)) + ((nI (1 + ((y / 6) % 9999))) - (F (10 * p))))) 0 (((upd (upd (upd F (10 * p) ((F (10 * p)) - ((nI (1 + ((y / 6) % 9999))) - ((nI (1 + ((y / 6) % 9999))) - (F (10 * p)))))) (10 * p + 3) (((upd F (10 * p) ((F (10 * p)) - ((nI (1 + ((y / 6) % 9999))) - ((nI (1 + ((y / 6) % 9999))) - (F (10 * p)))))) (10 * p + 3)) + (nI (1 + ((y / 6) % 9999))))) (10 * p + 4) (((upd (upd F (10 * p) ((F (10 * p)) - ((nI (1 + ((y / 6) % 9999))) - ((nI (1 + ((y / 6) % 9999))) - (F (10 * p)))))) (10 * p + 3) (((upd F (10 * p) ((F (10 * p)) - ((nI (1 + ((y / 6) % 9999))) - ((nI (1 + ((y / 6) % 9999))) - (F (10 * p)))))) (10 * p + 3)) + (nI (1 + ((y / 6) % 9999))))) (10 * p + 4)) + ((nI (1 + ((y / 6) % 9999))) - (F (10 * p))))) 0) - ((nI (1 + ((y / 6) % 9999))) - (F (10 * p))))))), (ud, .inl (K.2.1.2.1, 56, .inl D)), (uh, .inl (K.2.1.2.1, 48, .inl H)), (uv, .inl (K.2.1.2.1, 48, .inl V)), (uj, .inl (K.2.1.2.1, 48, .inl J)), (uq, .inl (K.2.1.2.1, 48, .inl Q))]) hB (k_spend l K ad C R od sn (nI p) (nI (1 + ((y / 6) % 9999))) ho hsn) mX4_spend dL_acts_548 tb_365 pX4_spend ⟨Nat.le_of_ble_eq_true rfl, Nat.le_of_ble_eq_true rfl⟩ ⟨rfl, rfl⟩ ⟨Nat.le_of_ble_eq_true rfl, Nat.le_of_ble_eq_true rfl⟩ rfl (Nat.le_of_ble_eq_true rfl) (List.range 23) (List.range' 23 7) rfl rfl (by decide) (by decide) (by decide) rfl rfl (List.range' 7 23 ++ List.range 7) (by decide) rfl ?_
                    obtain ⟨e_1, hI⟩ := t_sp_ok (m := 1 + ((y / 6) % 9999)) (v := (nI (1 + ((y / 6) % 9999))) - (F (10 * p))) h0 hp ⟨by omega, by omega⟩ ((if_pos (Int32.not_le.mp c_90)).symm) c_95 (fun z => absurd z.1 (Int32.not_lt.mpr c_97)) rfl rfl rfl rfl
                    refine gx_top (x := (bSpend C (nI p) (nI (1 + ((y / 6) % 9999)))).1) (y := (nI (1 + ((y / 6) % 9999))) - (F (10 * p))) e_1 ?_
                    refine gx_iload (pc := 551) hB dL_acts_551 0 rfl ?_
                    refine gx_icmp_ne (pc := 553) hB 560 dL_acts_553 (by decide) (fun c_98 => ?_) (fun c_98 => ?_)
                    · exact absurd rfl c_98
                    · refine gx_iconst (pc := 556) hB dL_acts_556 1 (by decide) ?_
                      refine gx_goto (pc := 557) hB 561 dL_acts_557 (by decide) ?_
                      exact gx_zret (pc := 561) hC dL_acts_561 (Nat.zero_le _) (Nat.zero_le _) (by decide) ⟨rfl, _, _, _, _, _, _, _, _, _, _, _, rfl, hI⟩
                  · refine gx_iload (pc := 451) hB dL_acts_451 2 rfl ?_
                    refine gx_if_eq (pc := 453) hB 464 dL_acts_453 (by decide) (fun c_99 => ?_) (fun c_99 => ?_)
                    · refine gx_aload_n (pc := 464) hB dL_acts_464 5 rfl ?_
                      refine gx_iload (pc := 465) hB dL_acts_465 2 rfl ?_
                      refine gx_iload (pc := 467) hB dL_acts_467 1 rfl ?_
                      refine gx_dVA (pc := 469) (r := (bSpend C (nI p) (nI (1 + ((y / 6) % 9999)))).1) (W1 := wZ K ad ((bSpend C (nI p) (nI (1 + ((y / 6) % 9999)))).2) (kR C R od sn) (kOd (bSpend C (nI p) (nI (1 + ((y / 6) % 9999)))).1 od sn) (kSn (bSpend C (nI p) (nI (1 + ((y / 6) % 9999)))).1 sn)) (wr := [(ug, .inl (K.2.1.2.1, 8, .inl G)), (uf, .inl (K.2.1.2.1, 60, .inl F)), (ud, .inl (K.2.1.2.1, 56, .inl D)), (uh, .inl (K.2.1.2.1, 48, .inl H)), (uv, .inl (K.2.1.2.1, 48, .inl V)), (uj, .inl (K.2.1.2.1, 48, .inl J)), (uq, .inl (K.2.1.2.1, 48, .inl Q))]) hB (k_spend l K ad C R od sn (nI p) (nI (1 + ((y / 6) % 9999))) ho hsn) mX4_spend dL_acts_469 tb_365 pX4_spend ⟨Nat.le_of_ble_eq_true rfl, Nat.le_of_ble_eq_true rfl⟩ ⟨rfl, rfl⟩ ⟨Nat.le_of_ble_eq_true rfl, Nat.le_of_ble_eq_true rfl⟩ rfl (Nat.le_of_ble_eq_true rfl) (List.range 23) (List.range' 23 7) rfl rfl (by decide) (by decide) (by decide) rfl rfl (List.range' 7 23 ++ List.range 7) (by decide) rfl ?_
                      obtain ⟨e_1, hI⟩ := t_sp_no (m := 1 + ((y / 6) % 9999)) (v := (nI (1 + ((y / 6) % 9999))) - (F (10 * p))) h0 hp ⟨by omega, by omega⟩ ((if_pos (Int32.not_le.mp c_90)).symm) (Or.inr ⟨Int32.not_le.mp c_97, Or.inl c_99⟩)
                      refine gx_top (x := (bSpend C (nI p) (nI (1 + ((y / 6) % 9999)))).1) (y := (-2)) e_1 ?_
                      refine gx_bipush (pc := 472) hB dL_acts_472 (-2) (by decide) ?_
                      refine gx_icmp_ne (pc := 474) hB 481 dL_acts_474 (by decide) (fun c_100 => ?_) (fun c_100 => ?_)
                      · exact absurd c_100 (by decide)
                      · refine gx_iconst (pc := 477) hB dL_acts_477 1 (by decide) ?_
                        refine gx_goto (pc := 478) hB 482 dL_acts_478 (by decide) ?_
                        exact gx_zret (pc := 482) hC dL_acts_482 (Nat.zero_le _) (Nat.zero_le _) (by decide) ⟨rfl, _, _, _, _, _, _, _, _, _, _, _, rfl, hI⟩
                    · refine gx_aload_n (pc := 456) hB dL_acts_456 7 rfl ?_
                      refine gx_iconst (pc := 457) hB dL_acts_457 0 (by decide) ?_
                      refine gx_iald (pc := 458) hB dL_acts_458 24 1 rfl rfl 0 rfl (by decide) (by decide) ?_
                      refine gx_iload (pc := 459) hB dL_acts_459 0 rfl ?_
                      refine gx_icmp_ge (pc := 461) hB 483 dL_acts_461 (by decide) (fun c_101 => ?_) (fun c_101 => ?_)
                      · refine gx_aload_n (pc := 483) hB dL_acts_483 7 rfl ?_
                        refine gx_bipush (pc := 484) hB dL_acts_484 10 (by decide) ?_
                        refine gx_iload (pc := 486) hB dL_acts_486 2 rfl ?_
                        refine gx_imul (pc := 488) hB dL_acts_488 ?_
                        refine gx_top (show 10 * nI p = nI (10 * p) from pk_mul 10 p) ?_
                        refine gx_dup2 (pc := 489) hB dL_acts_489 rfl rfl ?_
                        refine gx_iald (pc := 490) hB dL_acts_490 24 1 rfl rfl (10 * p) rfl (by omega) (by decide) ?_
                        refine gx_iload (pc := 491) hB dL_acts_491 1 rfl ?_
                        refine gx_iload (pc := 493) hB dL_acts_493 0 rfl ?_
                        refine gx_isub (pc := 495) hB dL_acts_495 ?_
                        refine gx_isub (pc := 496) hB dL_acts_496 ?_
                        refine gx_iast (pc := 497) hB dL_acts_497 24 1 rfl rfl (10 * p) rfl (by omega) (by decide) ((wZ K ad C R od sn ++ [(ug, .inl (K.2.1.2.1, 8, .inl G)), (uf, .inl (K.2.1.2.1, 60, .inl (upd F (10 * p) ((F (10 * p)) - ((nI (1 + ((y / 6) % 9999))) - ((nI (1 + ((y / 6) % 9999))) - (F (10 * p)))))))), (ud, .inl (K.2.1.2.1, 56, .inl D)), (uh, .inl (K.2.1.2.1, 48, .inl H)), (uv, .inl (K.2.1.2.1, 48, .inl V)), (uj, .inl (K.2.1.2.1, 48, .inl J)), (uq, .inl (K.2.1.2.1, 48, .inl Q))])) rfl ?_
                        refine gx_aload_n (pc := 498) hB dL_acts_498 7 rfl ?_
                        refine gx_bipush (pc := 499) hB dL_acts_499 10 (by decide) ?_
                        refine gx_iload (pc := 501) hB dL_acts_501 2 rfl ?_
                        refine gx_imul (pc := 503) hB dL_acts_503 ?_
                        refine gx_top (show 10 * nI p = nI (10 * p) from pk_mul 10 p) ?_
                        refine gx_iconst (pc := 504) hB dL_acts_504 3 (by decide) ?_
                        refine gx_iadd (pc := 505) hB dL_acts_505 ?_
                        refine gx_top (show (nI (10 * p)) + 3 = nI (10 * p + 3) from nI_add (10 * p) 3) ?_
                        refine gx_dup2 (pc := 506) hB dL_acts_506 rfl rfl ?_
                        refine gx_iald (pc := 507) hB dL_acts_507 24 1 rfl rfl (10 * p + 3) rfl (by omega) (by decide) ?_
                        refine gx_iload (pc := 508) hB dL_acts_508 1 rfl ?_
                        refine gx_iadd (pc := 510) hB dL_acts_510 ?_
                        refine gx_iast (pc := 511) hB dL_acts_511 24 1 rfl rfl (10 * p + 3) rfl (by omega) (by decide) ((wZ K ad C R od sn ++ [(ug, .inl (K.2.1.2.1, 8, .inl G)), (uf, .inl (K.2.1.2.1, 60, .inl (upd (upd F (10 * p) ((F (10 * p)) - ((nI (1 + ((y / 6) % 9999))) - ((nI (1 + ((y / 6) % 9999))) - (F (10 * p)))))) (10 * p + 3) (((upd F (10 * p) ((F (10 * p)) - ((nI (1 + ((y / 6) % 9999))) - ((nI (1 + ((y / 6) % 9999))) - (F (10 * p)))))) (10 * p + 3)) + (nI (1 + ((y / 6) % 9999))))))), (ud, .inl (K.2.1.2.1, 56, .inl D)), (uh, .inl (K.2.1.2.1, 48, .inl H)), (uv, .inl (K.2.1.2.1, 48, .inl V)), (uj, .inl (K.2.1.2.1, 48, .inl J)), (uq, .inl (K.2.1.2.1, 48, .inl Q))])) rfl ?_
                        refine gx_aload_n (pc := 512) hB dL_acts_512 7 rfl ?_
                        refine gx_bipush (pc := 513) hB dL_acts_513 10 (by decide) ?_
                        refine gx_iload (pc := 515) hB dL_acts_515 2 rfl ?_
                        refine gx_imul (pc := 517) hB dL_acts_517 ?_
                        refine gx_top (show 10 * nI p = nI (10 * p) from pk_mul 10 p) ?_
                        refine gx_iconst (pc := 518) hB dL_acts_518 4 (by decide) ?_
                        refine gx_iadd (pc := 519) hB dL_acts_519 ?_
                        refine gx_top (show (nI (10 * p)) + 4 = nI (10 * p + 4) from nI_add (10 * p) 4) ?_
                        refine gx_dup2 (pc := 520) hB dL_acts_520 rfl rfl ?_
                        refine gx_iald (pc := 521) hB dL_acts_521 24 1 rfl rfl (10 * p + 4) rfl (by omega) (by decide) ?_
                        refine gx_iload (pc := 522) hB dL_acts_522 0 rfl ?_
                        refine gx_iadd (pc := 524) hB dL_acts_524 ?_
                        refine gx_iast (pc := 525) hB dL_acts_525 24 1 rfl rfl (10 * p + 4) rfl (by omega) (by decide) ((wZ K ad C R od sn ++ [(ug, .inl (K.2.1.2.1, 8, .inl G)), (uf, .inl (K.2.1.2.1, 60, .inl (upd (upd (upd F (10 * p) ((F (10 * p)) - ((nI (1 + ((y / 6) % 9999))) - ((nI (1 + ((y / 6) % 9999))) - (F (10 * p)))))) (10 * p + 3) (((upd F (10 * p) ((F (10 * p)) - ((nI (1 + ((y / 6) % 9999))) - ((nI (1 + ((y / 6) % 9999))) - (F (10 * p)))))) (10 * p + 3)) + (nI (1 + ((y / 6) % 9999))))) (10 * p + 4) (((upd (upd F (10 * p) ((F (10 * p)) - ((nI (1 + ((y / 6) % 9999))) - ((nI (1 + ((y / 6) % 9999))) - (F (10 * p)))))) (10 * p + 3) (((upd F (10 * p) ((F (10 * p)) - ((nI (1 + ((y / 6) % 9999))) - ((nI (1 + ((y / 6) % 9999))) - (F (10 * p)))))) (10 * p + 3)) + (nI (1 + ((y / 6) % 9999))))) (10 * p + 4)) + ((nI (1 + ((y / 6) % 9999))) - (F (10 * p))))))), (ud, .inl (K.2.1.2.1, 56, .inl D)), (uh, .inl (K.2.1.2.1, 48, .inl H)), (uv, .inl (K.2.1.2.1, 48, .inl V)), (uj, .inl (K.2.1.2.1, 48, .inl J)), (uq, .inl (K.2.1.2.1, 48, .inl Q))])) rfl ?_
                        refine gx_aload_n (pc := 526) hB dL_acts_526 7 rfl ?_
                        refine gx_iconst (pc := 527) hB dL_acts_527 0 (by decide) ?_
                        refine gx_dup2 (pc := 528) hB dL_acts_528 rfl rfl ?_
                        refine gx_iald (pc := 529) hB dL_acts_529 24 1 rfl rfl 0 rfl (by decide) (by decide) ?_
                        refine gx_iload (pc := 530) hB dL_acts_530 0 rfl ?_
                        refine gx_isub (pc := 532) hB dL_acts_532 ?_
                        refine gx_iast (pc := 533) hB dL_acts_533 24 1 rfl rfl 0 rfl (by decide) (by decide) ((wZ K ad C R od sn ++ [(ug, .inl (K.2.1.2.1, 8, .inl G)), (uf, .inl (K.2.1.2.1, 60, .inl (upd (upd (upd (upd F (10 * p) ((F (10 * p)) - ((nI (1 + ((y / 6) % 9999))) - ((nI (1 + ((y / 6) % 9999))) - (F (10 * p)))))) (10 * p + 3) (((upd F (10 * p) ((F (10 * p)) - ((nI (1 + ((y / 6) % 9999))) - ((nI (1 + ((y / 6) % 9999))) - (F (10 * p)))))) (10 * p + 3)) + (nI (1 + ((y / 6) % 9999))))) (10 * p + 4) (((upd (upd F (10 * p) ((F (10 * p)) - ((nI (1 + ((y / 6) % 9999))) - ((nI (1 + ((y / 6) % 9999))) - (F (10 * p)))))) (10 * p + 3) (((upd F (10 * p) ((F (10 * p)) - ((nI (1 + ((y / 6) % 9999))) - ((nI (1 + ((y / 6) % 9999))) - (F (10 * p)))))) (10 * p + 3)) + (nI (1 + ((y / 6) % 9999))))) (10 * p + 4)) + ((nI (1 + ((y / 6) % 9999))) - (F (10 * p))))) 0 (((upd (upd (upd F (10 * p) ((F (10 * p)) - ((nI (1 + ((y / 6) % 9999))) - ((nI (1 + ((y / 6) % 9999))) - (F (10 * p)))))) (10 * p + 3) (((upd F (10 * p) ((F (10 * p)) - ((nI (1 + ((y / 6) % 9999))) - ((nI (1 + ((y / 6) % 9999))) - (F (10 * p)))))) (10 * p + 3)) + (nI (1 + ((y / 6) % 9999))))) (10 * p + 4) (((upd (upd F (10 * p) ((F (10 * p)) - ((nI (1 + ((y / 6) % 9999))) - ((nI (1 + ((y / 6) % 9999))) - (F (10 * p)))))) (10 * p + 3) (((upd F (10 * p) ((F (10 * p)) - ((nI (1 + ((y / 6) % 9999))) - ((nI (1 + ((y / 6) % 9999))) - (F (10 * p)))))) (10 * p + 3)) + (nI (1 + ((y / 6) % 9999))))) (10 * p + 4)) + ((nI (1 + ((y / 6) % 9999))) - (F (10 * p))))) 0) - ((nI (1 + ((y / 6) % 9999))) - (F (10 * p))))))), (ud, .inl (K.2.1.2.1, 56, .inl D)), (uh, .inl (K.2.1.2.1, 48, .inl H)), (uv, .inl (K.2.1.2.1, 48, .inl V)), (uj, .inl (K.2.1.2.1, 48, .inl J)), (uq, .inl (K.2.1.2.1, 48, .inl Q))])) rfl ?_
                        refine gx_aload_n (pc := 534) hB dL_acts_534 6 rfl ?_
                        refine gx_bipush (pc := 535) hB dL_acts_535 7 (by decide) ?_
                        refine gx_dup2 (pc := 537) hB dL_acts_537 rfl rfl ?_
                        refine gx_iald (pc := 538) hB dL_acts_538 23 1 rfl rfl 7 rfl (by decide) (by decide) ?_
                        refine gx_iload (pc := 539) hB dL_acts_539 0 rfl ?_
                        refine gx_iadd (pc := 541) hB dL_acts_541 ?_
                        refine gx_iast (pc := 542) hB dL_acts_542 23 1 rfl rfl 7 rfl (by decide) (by decide) ((wZ K ad C R od sn ++ [(ug, .inl (K.2.1.2.1, 8, .inl (upd G 7 (G 7 + ((nI (1 + ((y / 6) % 9999))) - (F (10 * p))))))), (uf, .inl (K.2.1.2.1, 60, .inl (upd (upd (upd (upd F (10 * p) ((F (10 * p)) - ((nI (1 + ((y / 6) % 9999))) - ((nI (1 + ((y / 6) % 9999))) - (F (10 * p)))))) (10 * p + 3) (((upd F (10 * p) ((F (10 * p)) - ((nI (1 + ((y / 6) % 9999))) - ((nI (1 + ((y / 6) % 9999))) - (F (10 * p)))))) (10 * p + 3)) + (nI (1 + ((y / 6) % 9999))))) (10 * p + 4) (((upd (upd F (10 * p) ((F (10 * p)) - ((nI (1 + ((y / 6) % 9999))) - ((nI (1 + ((y / 6) % 9999))) - (F (10 * p)))))) (10 * p + 3) (((upd F (10 * p) ((F (10 * p)) - ((nI (1 + ((y / 6) % 9999))) - ((nI (1 + ((y / 6) % 9999))) - (F (10 * p)))))) (10 * p + 3)) + (nI (1 + ((y / 6) % 9999))))) (10 * p + 4)) + ((nI (1 + ((y / 6) % 9999))) - (F (10 * p))))) 0 (((upd (upd (upd F (10 * p) ((F (10 * p)) - ((nI (1 + ((y / 6) % 9999))) - ((nI (1 + ((y / 6) % 9999))) - (F (10 * p)))))) (10 * p + 3) (((upd F (10 * p) ((F (10 * p)) - ((nI (1 + ((y / 6) % 9999))) - ((nI (1 + ((y / 6) % 9999))) - (F (10 * p)))))) (10 * p + 3)) + (nI (1 + ((y / 6) % 9999))))) (10 * p + 4) (((upd (upd F (10 * p) ((F (10 * p)) - ((nI (1 + ((y / 6) % 9999))) - ((nI (1 + ((y / 6) % 9999))) - (F (10 * p)))))) (10 * p + 3) (((upd F (10 * p) ((F (10 * p)) - ((nI (1 + ((y / 6) % 9999))) - ((nI (1 + ((y / 6) % 9999))) - (F (10 * p)))))) (10 * p + 3)) + (nI (1 + ((y / 6) % 9999))))) (10 * p + 4)) + ((nI (1 + ((y / 6) % 9999))) - (F (10 * p))))) 0) - ((nI (1 + ((y / 6) % 9999))) - (F (10 * p))))))), (ud, .inl (K.2.1.2.1, 56, .inl D)), (uh, .inl (K.2.1.2.1, 48, .inl H)), (uv, .inl (K.2.1.2.1, 48, .inl V)), (uj, .inl (K.2.1.2.1, 48, .inl J)), (uq, .inl (K.2.1.2.1, 48, .inl Q))])) rfl ?_
                        refine gx_aload_n (pc := 543) hB dL_acts_543 5 rfl ?_
                        refine gx_iload (pc := 544) hB dL_acts_544 2 rfl ?_
                        refine gx_iload (pc := 546) hB dL_acts_546 1 rfl ?_
                        refine gx_dVA (pc := 548) (r := (bSpend C (nI p) (nI (1 + ((y / 6) % 9999)))).1) (W1 := wZ K ad ((bSpend C (nI p) (nI (1 + ((y / 6) % 9999)))).2) (kR C R od sn) (kOd (bSpend C (nI p) (nI (1 + ((y / 6) % 9999)))).1 od sn) (kSn (bSpend C (nI p) (nI (1 + ((y / 6) % 9999)))).1 sn)) (wr := [(ug, .inl (K.2.1.2.1, 8, .inl (upd G 7 (G 7 + ((nI (1 + ((y / 6) % 9999))) - (F (10 * p))))))), (uf, .inl (K.2.1.2.1, 60, .inl (upd (upd (upd (upd F (10 * p) ((F (10 * p)) - ((nI (1 + ((y / 6) % 9999))) - ((nI (1 + ((y / 6) % 9999))) - (F (10 * p)))))) (10 * p + 3) (((upd F (10 * p) ((F (10 * p)) - ((nI (1 + ((y / 6) % 9999))) - ((nI (1 + ((y / 6) % 9999))) - (F (10 * p)))))) (10 * p + 3)) + (nI (1 + ((y / 6) % 9999))))) (10 * p + 4) (((upd (upd F (10 * p) ((F (10 * p)) - ((nI (1 + ((y / 6) % 9999))) - ((nI (1 + ((y / 6) % 9999))) - (F (10 * p)))))) (10 * p + 3) (((upd F (10 * p) ((F (10 * p)) - ((nI (1 + ((y / 6) % 9999))) - ((nI (1 + ((y / 6) % 9999))) - (F (10 * p)))))) (10 * p + 3)) + (nI (1 + ((y / 6) % 9999))))) (10 * p + 4)) + ((nI (1 + ((y / 6) % 9999))) - (F (10 * p))))) 0 (((upd (upd (upd F (10 * p) ((F (10 * p)) - ((nI (1 + ((y / 6) % 9999))) - ((nI (1 + ((y / 6) % 9999))) - (F (10 * p)))))) (10 * p + 3) (((upd F (10 * p) ((F (10 * p)) - ((nI (1 + ((y / 6) % 9999))) - ((nI (1 + ((y / 6) % 9999))) - (F (10 * p)))))) (10 * p + 3)) + (nI (1 + ((y / 6) % 9999))))) (10 * p + 4) (((upd (upd F (10 * p) ((F (10 * p)) - ((nI (1 + ((y / 6) % 9999))) - ((nI (1 + ((y / 6) % 9999))) - (F (10 * p)))))) (10 * p + 3) (((upd F (10 * p) ((F (10 * p)) - ((nI (1 + ((y / 6) % 9999))) - ((nI (1 + ((y / 6) % 9999))) - (F (10 * p)))))) (10 * p + 3)) + (nI (1 + ((y / 6) % 9999))))) (10 * p + 4)) + ((nI (1 + ((y / 6) % 9999))) - (F (10 * p))))) 0) - ((nI (1 + ((y / 6) % 9999))) - (F (10 * p))))))), (ud, .inl (K.2.1.2.1, 56, .inl D)), (uh, .inl (K.2.1.2.1, 48, .inl H)), (uv, .inl (K.2.1.2.1, 48, .inl V)), (uj, .inl (K.2.1.2.1, 48, .inl J)), (uq, .inl (K.2.1.2.1, 48, .inl Q))]) hB (k_spend l K ad C R od sn (nI p) (nI (1 + ((y / 6) % 9999))) ho hsn) mX4_spend dL_acts_548 tb_365 pX4_spend ⟨Nat.le_of_ble_eq_true rfl, Nat.le_of_ble_eq_true rfl⟩ ⟨rfl, rfl⟩ ⟨Nat.le_of_ble_eq_true rfl, Nat.le_of_ble_eq_true rfl⟩ rfl (Nat.le_of_ble_eq_true rfl) (List.range 23) (List.range' 23 7) rfl rfl (by decide) (by decide) (by decide) rfl rfl (List.range' 7 23 ++ List.range 7) (by decide) rfl ?_
                        obtain ⟨e_1, hI⟩ := t_sp_ok (m := 1 + ((y / 6) % 9999)) (v := (nI (1 + ((y / 6) % 9999))) - (F (10 * p))) h0 hp ⟨by omega, by omega⟩ ((if_pos (Int32.not_le.mp c_90)).symm) c_95 (fun z => z.2.elim c_99 (fun w => Int32.not_lt.mpr c_101 w)) rfl rfl rfl rfl
                        refine gx_top (x := (bSpend C (nI p) (nI (1 + ((y / 6) % 9999)))).1) (y := (nI (1 + ((y / 6) % 9999))) - (F (10 * p))) e_1 ?_
                        refine gx_iload (pc := 551) hB dL_acts_551 0 rfl ?_
                        refine gx_icmp_ne (pc := 553) hB 560 dL_acts_553 (by decide) (fun c_102 => ?_) (fun c_102 => ?_)
                        · exact absurd rfl c_102
                        · refine gx_iconst (pc := 556) hB dL_acts_556 1 (by decide) ?_
                          refine gx_goto (pc := 557) hB 561 dL_acts_557 (by decide) ?_
                          exact gx_zret (pc := 561) hC dL_acts_561 (Nat.zero_le _) (Nat.zero_le _) (by decide) ⟨rfl, _, _, _, _, _, _, _, _, _, _, _, rfl, hI⟩
                      · refine gx_aload_n (pc := 464) hB dL_acts_464 5 rfl ?_
                        refine gx_iload (pc := 465) hB dL_acts_465 2 rfl ?_
                        refine gx_iload (pc := 467) hB dL_acts_467 1 rfl ?_
                        refine gx_dVA (pc := 469) (r := (bSpend C (nI p) (nI (1 + ((y / 6) % 9999)))).1) (W1 := wZ K ad ((bSpend C (nI p) (nI (1 + ((y / 6) % 9999)))).2) (kR C R od sn) (kOd (bSpend C (nI p) (nI (1 + ((y / 6) % 9999)))).1 od sn) (kSn (bSpend C (nI p) (nI (1 + ((y / 6) % 9999)))).1 sn)) (wr := [(ug, .inl (K.2.1.2.1, 8, .inl G)), (uf, .inl (K.2.1.2.1, 60, .inl F)), (ud, .inl (K.2.1.2.1, 56, .inl D)), (uh, .inl (K.2.1.2.1, 48, .inl H)), (uv, .inl (K.2.1.2.1, 48, .inl V)), (uj, .inl (K.2.1.2.1, 48, .inl J)), (uq, .inl (K.2.1.2.1, 48, .inl Q))]) hB (k_spend l K ad C R od sn (nI p) (nI (1 + ((y / 6) % 9999))) ho hsn) mX4_spend dL_acts_469 tb_365 pX4_spend ⟨Nat.le_of_ble_eq_true rfl, Nat.le_of_ble_eq_true rfl⟩ ⟨rfl, rfl⟩ ⟨Nat.le_of_ble_eq_true rfl, Nat.le_of_ble_eq_true rfl⟩ rfl (Nat.le_of_ble_eq_true rfl) (List.range 23) (List.range' 23 7) rfl rfl (by decide) (by decide) (by decide) rfl rfl (List.range' 7 23 ++ List.range 7) (by decide) rfl ?_
                        obtain ⟨e_1, hI⟩ := t_sp_no (m := 1 + ((y / 6) % 9999)) (v := (nI (1 + ((y / 6) % 9999))) - (F (10 * p))) h0 hp ⟨by omega, by omega⟩ ((if_pos (Int32.not_le.mp c_90)).symm) (Or.inr ⟨Int32.not_le.mp c_97, Or.inr (Int32.not_le.mp c_101)⟩)
                        refine gx_top (x := (bSpend C (nI p) (nI (1 + ((y / 6) % 9999)))).1) (y := (-2)) e_1 ?_
                        refine gx_bipush (pc := 472) hB dL_acts_472 (-2) (by decide) ?_
                        refine gx_icmp_ne (pc := 474) hB 481 dL_acts_474 (by decide) (fun c_103 => ?_) (fun c_103 => ?_)
                        · exact absurd c_103 (by decide)
                        · refine gx_iconst (pc := 477) hB dL_acts_477 1 (by decide) ?_
                          refine gx_goto (pc := 478) hB 482 dL_acts_478 (by decide) ?_
                          exact gx_zret (pc := 482) hC dL_acts_482 (Nat.zero_le _) (Nat.zero_le _) (by decide) ⟨rfl, _, _, _, _, _, _, _, _, _, _, _, rfl, hI⟩
        · refine gx_iconst (pc := 315) hB dL_acts_315 1 (by decide) ?_
          refine gx_newa (pc := 316) hB dL_acts_316 (ty := .int) rfl 1 rfl (fun _ _ h => h) tb_67 (N' := 1) (1, .inl (fun _ => 0)) (fun _ => rfl) (by decide) rfl (by decide) (Nat.le_of_ble_eq_true rfl) (Nat.le_of_ble_eq_true rfl) (fun y104 => ?_)
          refine gx_kn (k' := 1) (n' := 1) rfl rfl ?_
          refine gx_ws (ws' := (wZ K ad C R od sn ++ [(ug, .inl (K.2.1.2.1, 8, .inl G)), (uf, .inl (K.2.1.2.1, 60, .inl F)), (ud, .inl (K.2.1.2.1, 56, .inl D)), (uh, .inl (K.2.1.2.1, 48, .inl H)), (uv, .inl (K.2.1.2.1, 48, .inl V)), (uj, .inl (K.2.1.2.1, 48, .inl J)), (uq, .inl (K.2.1.2.1, 48, .inl Q)), (y104, .inl (K.2.1.2.1, 1, .inl (fun _ => 0)))])) rfl ?_
          refine gx_astore (pc := 318) hB dL_acts_318 (by decide) [(11, .ref y104), (10, .int (nI w)), (9, .int (nI y)), (0, .ref (ad 0)), (1, .ref ug), (2, .ref uf), (3, .ref ud), (4, .ref uh), (5, .ref uv), (6, .ref uj), (7, .ref uq), (8, .int z)] rfl ?_
          refine gx_aload_n (pc := 320) hB dL_acts_320 4 rfl ?_
          refine gx_aload_n (pc := 321) hB dL_acts_321 5 rfl ?_
          refine gx_aload_n (pc := 322) hB dL_acts_322 6 rfl ?_
          refine gx_aload (pc := 323) hB dL_acts_323 7 rfl ?_
          refine gx_aload (pc := 325) hB dL_acts_325 8 rfl ?_
          refine gx_aload (pc := 327) hB dL_acts_327 9 rfl ?_
          refine gx_iconst (pc := 329) hB dL_acts_329 (-1) (by decide) ?_
          refine gx_aload (pc := 330) hB dL_acts_330 0 rfl ?_
          refine gx_callS (pc := 332) (wr := (wZ K ad C R od sn ++ [(uq, .inl (K.2.1.2.1, 48, .inl Q))])) hB (c_L_claim l K ug uf ud uh uv uj y104 C G F D H V J Q (fun _ => 0) S a b c e (Rx_up h0.1 (by omega)) h0.2.1 h0.2.2.1 h0.2.2.2.1 rfl) mL_claim dL_acts_332 tb_320 pL_claim ⟨Nat.le_of_ble_eq_true rfl, Nat.le_of_ble_eq_true rfl, Nat.le_of_ble_eq_true rfl, Nat.le_of_ble_eq_true rfl⟩ (rest := []) rfl (Nat.le_of_ble_eq_true rfl) [23, 24, 25, 26, 27, 28, 30] [0, 1, 2, 3, 4, 5, 6, 7, 8, 9, 10, 11, 12, 13, 14, 15, 16, 17, 18, 19, 20, 21, 22, 29] rfl rfl (by decide) (by decide) (by decide) (fun v332 w332 hp332 => ?_)
          obtain ⟨F1, J1, M1, rfl, rfl, hs, hn⟩ := hp332
          refine gx_kn (k' := 1) (n' := 1) rfl rfl ?_
          refine gx_st (st' := [.int ((mClN S c (-1) c).1)]) rfl ?_
          refine gx_perm hB (ws' := (wZ K ad C R od sn ++ [(ug, .inl (K.2.1.2.1, 8, .inl G)), (uf, .inl (K.2.1.2.1, 60, .inl F1)), (ud, .inl (K.2.1.2.1, 56, .inl D)), (uh, .inl (K.2.1.2.1, 48, .inl H)), (uv, .inl (K.2.1.2.1, 48, .inl V)), (uj, .inl (K.2.1.2.1, 48, .inl J1)), (uq, .inl (K.2.1.2.1, 48, .inl Q)), (y104, .inl (K.2.1.2.1, 1, .inl M1))])) [0, 1, 2, 3, 4, 5, 6, 7, 8, 9, 10, 11, 12, 13, 14, 15, 16, 17, 18, 19, 20, 21, 22, 24, 25, 26, 27, 28, 29, 23, 30] (by decide) rfl ?_
          refine gx_istore (pc := 335) hB dL_acts_335 (by decide) [(12, .int ((mClN S c (-1) c).1)), (11, .ref y104), (10, .int (nI w)), (9, .int (nI y)), (0, .ref (ad 0)), (1, .ref ug), (2, .ref uf), (3, .ref ud), (4, .ref uh), (5, .ref uv), (6, .ref uj), (7, .ref uq), (8, .int z)] rfl ?_
          refine gx_aload_n (pc := 337) hB dL_acts_337 4 rfl ?_
          refine gx_dVA (pc := 338) (r := (bClaim C (-1)).1) (W1 := wZ K ad ((bClaim C (-1)).2) (kR C R od sn) (kOd (bClaim C (-1)).1 od sn) (kSn (bClaim C (-1)).1 sn)) (wr := [(ug, .inl (K.2.1.2.1, 8, .inl G)), (uf, .inl (K.2.1.2.1, 60, .inl F1)), (ud, .inl (K.2.1.2.1, 56, .inl D)), (uh, .inl (K.2.1.2.1, 48, .inl H)), (uv, .inl (K.2.1.2.1, 48, .inl V)), (uj, .inl (K.2.1.2.1, 48, .inl J1)), (uq, .inl (K.2.1.2.1, 48, .inl Q)), (y104, .inl (K.2.1.2.1, 1, .inl M1))]) hB (k_claim l K ad C R od sn ho hsn) mX4_claim dL_acts_338 tb_329 pX4_claim ⟨Nat.le_of_ble_eq_true rfl, Nat.le_of_ble_eq_true rfl⟩ ⟨rfl, rfl⟩ ⟨Nat.le_of_ble_eq_true rfl, Nat.le_of_ble_eq_true rfl⟩ rfl (Nat.le_of_ble_eq_true rfl) (List.range 23) (List.range' 23 8) rfl rfl (by decide) (by decide) (by decide) rfl rfl (List.range' 8 23 ++ List.range 8) (by decide) rfl ?_
          refine gx_aload (pc := 341) hB dL_acts_341 1 rfl ?_
          refine gx_iconst (pc := 343) hB dL_acts_343 0 (by decide) ?_
          refine gx_iald (pc := 344) hB dL_acts_344 30 1 rfl rfl 0 rfl (by decide) (by decide) ?_
          refine gx_if_ne (pc := 345) hB 353 dL_acts_345 (by decide) (fun c_105 => ?_) (fun c_105 => ?_)
          · refine gx_iload (pc := 353) hB dL_acts_353 0 rfl ?_
            obtain ⟨e_1, hI⟩ := t_cl_ok h0 hs (fun z => c_105 (hn.trans z))
            refine gx_st (st' := [.int ((mClN S c (-1) c).1), .int ((mClN S c (-1) c).1)]) (by rw [e_1]) ?_
            refine gx_icmp_ne (pc := 355) hB 362 dL_acts_355 (by decide) (fun c_106 => ?_) (fun c_106 => ?_)
            · exact absurd rfl c_106
            · refine gx_iconst (pc := 358) hB dL_acts_358 1 (by decide) ?_
              refine gx_goto (pc := 359) hB 363 dL_acts_359 (by decide) ?_
              exact gx_perm hB (ws' := (wZ K ad ((bClaim C (-1)).2) (kR C R od sn) (kOd (bClaim C (-1)).1 od sn) (kSn (bClaim C (-1)).1 sn) ++ [(ug, .inl (K.2.1.2.1, 8, .inl G)), (uf, .inl (K.2.1.2.1, 60, .inl F1)), (ud, .inl (K.2.1.2.1, 56, .inl D)), (uh, .inl (K.2.1.2.1, 48, .inl H)), (uv, .inl (K.2.1.2.1, 48, .inl V)), (uj, .inl (K.2.1.2.1, 48, .inl J1)), (uq, .inl (K.2.1.2.1, 48, .inl Q))])) (List.range 30) (by decide) rfl (gx_zret (pc := 363) hC dL_acts_363 (Nat.le_of_ble_eq_true rfl) (Nat.le_of_ble_eq_true rfl) (by decide) ⟨rfl, _, _, _, _, _, _, _, _, _, _, _, rfl, hI⟩)
          · refine gx_bipush (pc := 348) hB dL_acts_348 (-2) (by decide) ?_
            refine gx_goto (pc := 350) hB 355 dL_acts_350 (by decide) ?_
            obtain ⟨e_1, hI⟩ := t_cl_no h0 hs (hn.symm.trans c_105)
            refine gx_st (st' := [.int (-2), .int (-2)]) (by rw [e_1]) ?_
            refine gx_icmp_ne (pc := 355) hB 362 dL_acts_355 (by decide) (fun c_107 => ?_) (fun c_107 => ?_)
            · exact absurd c_107 (by decide)
            · refine gx_iconst (pc := 358) hB dL_acts_358 1 (by decide) ?_
              refine gx_goto (pc := 359) hB 363 dL_acts_359 (by decide) ?_
              exact gx_perm hB (ws' := (wZ K ad ((bClaim C (-1)).2) (kR C R od sn) (kOd (bClaim C (-1)).1 od sn) (kSn (bClaim C (-1)).1 sn) ++ [(ug, .inl (K.2.1.2.1, 8, .inl G)), (uf, .inl (K.2.1.2.1, 60, .inl F1)), (ud, .inl (K.2.1.2.1, 56, .inl D)), (uh, .inl (K.2.1.2.1, 48, .inl H)), (uv, .inl (K.2.1.2.1, 48, .inl V)), (uj, .inl (K.2.1.2.1, 48, .inl J1)), (uq, .inl (K.2.1.2.1, 48, .inl Q))])) (List.range 30) (by decide) rfl (gx_zret (pc := 363) hC dL_acts_363 (Nat.le_of_ble_eq_true rfl) (Nat.le_of_ble_eq_true rfl) (by decide) ⟨rfl, _, _, _, _, _, _, _, _, _, _, _, rfl, hI⟩)
      · refine gx_aload_n (pc := 81) hB dL_acts_81 3 rfl ?_
        refine gx_iconst (pc := 82) hB dL_acts_82 5 (by decide) ?_
        refine gx_iald (pc := 83) hB dL_acts_83 23 1 rfl rfl 5 rfl (by decide) (by decide) ?_
        refine gx_top (show G 5 = nI e from h0.2.1.1.2.2.2.2.2.1) ?_
        refine gx_if_ne (pc := 84) hB 111 dL_acts_84 (by decide) (fun c_108 => ?_) (fun c_108 => ?_)
        · have he0 : 0 < e := Nat.pos_of_ne_zero (fun z => c_108 (by rw [z]; rfl))
          refine gx_bipush (pc := 111) hB dL_acts_111 8 (by decide) ?_
          refine gx_iload (pc := 113) hB dL_acts_113 1 rfl ?_
          refine gx_aload_n (pc := 115) hB dL_acts_115 3 rfl ?_
          refine gx_iconst (pc := 116) hB dL_acts_116 5 (by decide) ?_
          refine gx_iald (pc := 117) hB dL_acts_117 23 1 rfl rfl 5 rfl (by decide) (by decide) ?_
          refine gx_top (show G 5 = nI e from h0.2.1.1.2.2.2.2.2.1) ?_
          refine gx_irem (pc := 118) hB dL_acts_118 (nI_ne0 (n := e) (by omega) (by omega)) ?_
          refine gx_top (show nI y - nI y / nI e * nI e = nI (y % e) from pk_rem (a := y) (d := e) (by omega) (by omega) (by omega)) ?_
          obtain ⟨k, hk, ek⟩ : ∃ zz : Nat, zz < e ∧ nI (y % e) = nI zz := ⟨_, Nat.mod_lt _ (by omega), rfl⟩
          refine gx_top ek ?_
          refine gx_imul (pc := 119) hB dL_acts_119 ?_
          refine gx_top (show 8 * nI k = nI (8 * k) from pk_mul 8 k) ?_
          refine gx_istore (pc := 120) hB dL_acts_120 (by decide) [(11, .int (nI (8 * k))), (10, .int (nI w)), (9, .int (nI y)), (0, .ref (ad 0)), (1, .ref ug), (2, .ref uf), (3, .ref ud), (4, .ref uh), (5, .ref uv), (6, .ref uj), (7, .ref uq), (8, .int z)] rfl ?_
          refine gx_iload (pc := 122) hB dL_acts_122 1 rfl ?_
          refine gx_bipush (pc := 124) hB dL_acts_124 9 (by decide) ?_
          refine gx_icmp_eq (pc := 126) hB 136 dL_acts_126 (by decide) (fun c_109 => ?_) (fun c_109 => ?_)
          · refine gx_aload (pc := 136) hB dL_acts_136 10 rfl ?_
            refine gx_iload (pc := 138) hB dL_acts_138 0 rfl ?_
            refine gx_iconst (pc := 140) hB dL_acts_140 5 (by decide) ?_
            refine gx_iadd (pc := 141) hB dL_acts_141 ?_
            refine gx_top (show (nI (8 * k)) + 5 = nI (8 * k + 5) from nI_add (8 * k) 5) ?_
            refine gx_iald (pc := 142) hB dL_acts_142 29 1 rfl rfl (8 * k + 5) rfl (by omega) (by decide) ?_
            refine gx_if_ne (pc := 143) hB 161 dL_acts_143 (by decide) (fun c_110 => ?_) (fun c_110 => ?_)
            · refine gx_iconst (pc := 161) hB dL_acts_161 0 (by decide) ?_
              refine gx_istore (pc := 162) hB dL_acts_162 (by decide) [(12, .int 0), (11, .int (nI (8 * k))), (10, .int (nI w)), (9, .int (nI y)), (0, .ref (ad 0)), (1, .ref ug), (2, .ref uf), (3, .ref ud), (4, .ref uh), (5, .ref uv), (6, .ref uj), (7, .ref uq), (8, .int z)] rfl ?_
              refine gx_aload (pc := 164) hB dL_acts_164 11 rfl ?_
              refine gx_iload (pc := 166) hB dL_acts_166 1 rfl ?_
              refine gx_bipush (pc := 168) hB dL_acts_168 7 (by decide) ?_
              refine gx_iadd (pc := 170) hB dL_acts_170 ?_
              refine gx_top (show (nI (8 * k)) + 7 = nI (8 * k + 7) from nI_add (8 * k) 7) ?_
              refine gx_iload (pc := 171) hB dL_acts_171 0 rfl ?_
              refine gx_if_eq (pc := 173) hB 180 dL_acts_173 (by decide) (fun c_111 => ?_) (fun c_111 => ?_)
              · refine gx_aload (pc := 180) hB dL_acts_180 11 rfl ?_
                refine gx_iload (pc := 182) hB dL_acts_182 1 rfl ?_
                refine gx_bipush (pc := 184) hB dL_acts_184 7 (by decide) ?_
                refine gx_iadd (pc := 186) hB dL_acts_186 ?_
                refine gx_top (show (nI (8 * k)) + 7 = nI (8 * k + 7) from nI_add (8 * k) 7) ?_
                refine gx_iald (pc := 187) hB dL_acts_187 29 1 rfl rfl (8 * k + 7) rfl (by omega) (by decide) ?_
                refine gx_iast (pc := 188) hB dL_acts_188 29 1 rfl rfl (8 * k + 7) rfl (by omega) (by decide) ((wZ K ad C R od sn ++ [(ug, .inl (K.2.1.2.1, 8, .inl G)), (uf, .inl (K.2.1.2.1, 60, .inl F)), (ud, .inl (K.2.1.2.1, 56, .inl D)), (uh, .inl (K.2.1.2.1, 48, .inl H)), (uv, .inl (K.2.1.2.1, 48, .inl V)), (uj, .inl (K.2.1.2.1, 48, .inl J)), (uq, .inl (K.2.1.2.1, 48, .inl (upd Q (8 * k + 7) (Q (8 * k + 7)))))])) rfl ?_
                refine gx_aload_n (pc := 189) hB dL_acts_189 4 rfl ?_
                refine gx_iload (pc := 190) hB dL_acts_190 1 rfl ?_
                refine gx_bipush (pc := 192) hB dL_acts_192 8 (by decide) ?_
                refine gx_idiv (pc := 194) hB dL_acts_194 (by decide) ?_
                refine gx_top (show (nI (8 * k)) / 8 = nI ((8 * k) / 8) from pk_div (a := 8 * k) (d := 8) (by omega) (by omega) (by omega)) ?_
                refine gx_top (show nI ((8 * k) / 8) = nI k by rw [show (8 * k) / 8 = k by omega]) ?_
                refine gx_dVA (pc := 195) (r := (bMiss C (nI k)).1) (W1 := wZ K ad ((bMiss C (nI k)).2) (kR C R od sn) (kOd (bMiss C (nI k)).1 od sn) (kSn (bMiss C (nI k)).1 sn)) (wr := [(ug, .inl (K.2.1.2.1, 8, .inl G)), (uf, .inl (K.2.1.2.1, 60, .inl F)), (ud, .inl (K.2.1.2.1, 56, .inl D)), (uh, .inl (K.2.1.2.1, 48, .inl H)), (uv, .inl (K.2.1.2.1, 48, .inl V)), (uj, .inl (K.2.1.2.1, 48, .inl J)), (uq, .inl (K.2.1.2.1, 48, .inl (upd Q (8 * k + 7) (Q (8 * k + 7)))))]) hB (k_miss l K ad C R od sn (nI k) ho hsn) mX4_miss dL_acts_195 tb_296 pX4_miss ⟨Nat.le_of_ble_eq_true rfl, Nat.le_of_ble_eq_true rfl⟩ ⟨rfl, rfl⟩ ⟨Nat.le_of_ble_eq_true rfl, Nat.le_of_ble_eq_true rfl⟩ rfl (Nat.le_of_ble_eq_true rfl) (List.range 23) (List.range' 23 7) rfl rfl (by decide) (by decide) (by decide) rfl rfl (List.range' 7 23 ++ List.range 7) (by decide) rfl ?_
                obtain ⟨e_1, hI⟩ := t_miss_no h0 hk (Or.inl c_110)
                refine gx_top (x := (bMiss C (nI k)).1) (y := (-2)) e_1 ?_
                refine gx_iload (pc := 198) hB dL_acts_198 0 rfl ?_
                refine gx_if_eq (pc := 200) hB 213 dL_acts_200 (by decide) (fun c_112 => ?_) (fun c_112 => ?_)
                · refine gx_bipush (pc := 213) hB dL_acts_213 (-2) (by decide) ?_
                  refine gx_icmp_ne (pc := 215) hB 222 dL_acts_215 (by decide) (fun c_113 => ?_) (fun c_113 => ?_)
                  · exact absurd c_113 (by decide)
                  · refine gx_iconst (pc := 218) hB dL_acts_218 1 (by decide) ?_
                    refine gx_goto (pc := 219) hB 223 dL_acts_219 (by decide) ?_
                    exact gx_zret (pc := 223) hC dL_acts_223 (Nat.zero_le _) (Nat.zero_le _) (by decide) ⟨rfl, _, _, _, _, _, _, _, _, _, _, _, rfl, hI⟩
                · exact absurd c_112 (by decide)
              · exact absurd c_111 (by decide)
            · refine gx_aload (pc := 146) hB dL_acts_146 10 rfl ?_
              refine gx_iload (pc := 148) hB dL_acts_148 0 rfl ?_
              refine gx_bipush (pc := 150) hB dL_acts_150 7 (by decide) ?_
              refine gx_iadd (pc := 152) hB dL_acts_152 ?_
              refine gx_top (show (nI (8 * k)) + 7 = nI (8 * k + 7) from nI_add (8 * k) 7) ?_
              refine gx_iald (pc := 153) hB dL_acts_153 29 1 rfl rfl (8 * k + 7) rfl (by omega) (by decide) ?_
              refine gx_if_ne (pc := 154) hB 161 dL_acts_154 (by decide) (fun c_114 => ?_) (fun c_114 => ?_)
              · refine gx_iconst (pc := 161) hB dL_acts_161 0 (by decide) ?_
                refine gx_istore (pc := 162) hB dL_acts_162 (by decide) [(12, .int 0), (11, .int (nI (8 * k))), (10, .int (nI w)), (9, .int (nI y)), (0, .ref (ad 0)), (1, .ref ug), (2, .ref uf), (3, .ref ud), (4, .ref uh), (5, .ref uv), (6, .ref uj), (7, .ref uq), (8, .int z)] rfl ?_
                refine gx_aload (pc := 164) hB dL_acts_164 11 rfl ?_
                refine gx_iload (pc := 166) hB dL_acts_166 1 rfl ?_
                refine gx_bipush (pc := 168) hB dL_acts_168 7 (by decide) ?_
                refine gx_iadd (pc := 170) hB dL_acts_170 ?_
                refine gx_top (show (nI (8 * k)) + 7 = nI (8 * k + 7) from nI_add (8 * k) 7) ?_
                refine gx_iload (pc := 171) hB dL_acts_171 0 rfl ?_
                refine gx_if_eq (pc := 173) hB 180 dL_acts_173 (by decide) (fun c_115 => ?_) (fun c_115 => ?_)
                · refine gx_aload (pc := 180) hB dL_acts_180 11 rfl ?_
                  refine gx_iload (pc := 182) hB dL_acts_182 1 rfl ?_
                  refine gx_bipush (pc := 184) hB dL_acts_184 7 (by decide) ?_
                  refine gx_iadd (pc := 186) hB dL_acts_186 ?_
                  refine gx_top (show (nI (8 * k)) + 7 = nI (8 * k + 7) from nI_add (8 * k) 7) ?_
                  refine gx_iald (pc := 187) hB dL_acts_187 29 1 rfl rfl (8 * k + 7) rfl (by omega) (by decide) ?_
                  refine gx_iast (pc := 188) hB dL_acts_188 29 1 rfl rfl (8 * k + 7) rfl (by omega) (by decide) ((wZ K ad C R od sn ++ [(ug, .inl (K.2.1.2.1, 8, .inl G)), (uf, .inl (K.2.1.2.1, 60, .inl F)), (ud, .inl (K.2.1.2.1, 56, .inl D)), (uh, .inl (K.2.1.2.1, 48, .inl H)), (uv, .inl (K.2.1.2.1, 48, .inl V)), (uj, .inl (K.2.1.2.1, 48, .inl J)), (uq, .inl (K.2.1.2.1, 48, .inl (upd Q (8 * k + 7) (Q (8 * k + 7)))))])) rfl ?_
                  refine gx_aload_n (pc := 189) hB dL_acts_189 4 rfl ?_
                  refine gx_iload (pc := 190) hB dL_acts_190 1 rfl ?_
                  refine gx_bipush (pc := 192) hB dL_acts_192 8 (by decide) ?_
                  refine gx_idiv (pc := 194) hB dL_acts_194 (by decide) ?_
                  refine gx_top (show (nI (8 * k)) / 8 = nI ((8 * k) / 8) from pk_div (a := 8 * k) (d := 8) (by omega) (by omega) (by omega)) ?_
                  refine gx_top (show nI ((8 * k) / 8) = nI k by rw [show (8 * k) / 8 = k by omega]) ?_
                  refine gx_dVA (pc := 195) (r := (bMiss C (nI k)).1) (W1 := wZ K ad ((bMiss C (nI k)).2) (kR C R od sn) (kOd (bMiss C (nI k)).1 od sn) (kSn (bMiss C (nI k)).1 sn)) (wr := [(ug, .inl (K.2.1.2.1, 8, .inl G)), (uf, .inl (K.2.1.2.1, 60, .inl F)), (ud, .inl (K.2.1.2.1, 56, .inl D)), (uh, .inl (K.2.1.2.1, 48, .inl H)), (uv, .inl (K.2.1.2.1, 48, .inl V)), (uj, .inl (K.2.1.2.1, 48, .inl J)), (uq, .inl (K.2.1.2.1, 48, .inl (upd Q (8 * k + 7) (Q (8 * k + 7)))))]) hB (k_miss l K ad C R od sn (nI k) ho hsn) mX4_miss dL_acts_195 tb_296 pX4_miss ⟨Nat.le_of_ble_eq_true rfl, Nat.le_of_ble_eq_true rfl⟩ ⟨rfl, rfl⟩ ⟨Nat.le_of_ble_eq_true rfl, Nat.le_of_ble_eq_true rfl⟩ rfl (Nat.le_of_ble_eq_true rfl) (List.range 23) (List.range' 23 7) rfl rfl (by decide) (by decide) (by decide) rfl rfl (List.range' 7 23 ++ List.range 7) (by decide) rfl ?_
                  obtain ⟨e_1, hI⟩ := t_miss_no h0 hk (Or.inr c_114)
                  refine gx_top (x := (bMiss C (nI k)).1) (y := (-2)) e_1 ?_
                  refine gx_iload (pc := 198) hB dL_acts_198 0 rfl ?_
                  refine gx_if_eq (pc := 200) hB 213 dL_acts_200 (by decide) (fun c_116 => ?_) (fun c_116 => ?_)
                  · refine gx_bipush (pc := 213) hB dL_acts_213 (-2) (by decide) ?_
                    refine gx_icmp_ne (pc := 215) hB 222 dL_acts_215 (by decide) (fun c_117 => ?_) (fun c_117 => ?_)
                    · exact absurd c_117 (by decide)
                    · refine gx_iconst (pc := 218) hB dL_acts_218 1 (by decide) ?_
                      refine gx_goto (pc := 219) hB 223 dL_acts_219 (by decide) ?_
                      exact gx_zret (pc := 223) hC dL_acts_223 (Nat.zero_le _) (Nat.zero_le _) (by decide) ⟨rfl, _, _, _, _, _, _, _, _, _, _, _, rfl, hI⟩
                  · exact absurd c_116 (by decide)
                · exact absurd c_115 (by decide)
              · refine gx_iconst (pc := 157) hB dL_acts_157 1 (by decide) ?_
                refine gx_goto (pc := 158) hB 162 dL_acts_158 (by decide) ?_
                refine gx_istore (pc := 162) hB dL_acts_162 (by decide) [(12, .int 1), (11, .int (nI (8 * k))), (10, .int (nI w)), (9, .int (nI y)), (0, .ref (ad 0)), (1, .ref ug), (2, .ref uf), (3, .ref ud), (4, .ref uh), (5, .ref uv), (6, .ref uj), (7, .ref uq), (8, .int z)] rfl ?_
                refine gx_aload (pc := 164) hB dL_acts_164 11 rfl ?_
                refine gx_iload (pc := 166) hB dL_acts_166 1 rfl ?_
                refine gx_bipush (pc := 168) hB dL_acts_168 7 (by decide) ?_
                refine gx_iadd (pc := 170) hB dL_acts_170 ?_
                refine gx_top (show (nI (8 * k)) + 7 = nI (8 * k + 7) from nI_add (8 * k) 7) ?_
                refine gx_iload (pc := 171) hB dL_acts_171 0 rfl ?_
                refine gx_if_eq (pc := 173) hB 180 dL_acts_173 (by decide) (fun c_118 => ?_) (fun c_118 => ?_)
                · exact absurd c_118 (by decide)
                · refine gx_iconst (pc := 176) hB dL_acts_176 1 (by decide) ?_
                  refine gx_goto (pc := 177) hB 188 dL_acts_177 (by decide) ?_
                  refine gx_iast (pc := 188) hB dL_acts_188 29 1 rfl rfl (8 * k + 7) rfl (by omega) (by decide) ((wZ K ad C R od sn ++ [(ug, .inl (K.2.1.2.1, 8, .inl G)), (uf, .inl (K.2.1.2.1, 60, .inl F)), (ud, .inl (K.2.1.2.1, 56, .inl D)), (uh, .inl (K.2.1.2.1, 48, .inl H)), (uv, .inl (K.2.1.2.1, 48, .inl V)), (uj, .inl (K.2.1.2.1, 48, .inl J)), (uq, .inl (K.2.1.2.1, 48, .inl (upd Q (8 * k + 7) 1)))])) rfl ?_
                  refine gx_aload_n (pc := 189) hB dL_acts_189 4 rfl ?_
                  refine gx_iload (pc := 190) hB dL_acts_190 1 rfl ?_
                  refine gx_bipush (pc := 192) hB dL_acts_192 8 (by decide) ?_
                  refine gx_idiv (pc := 194) hB dL_acts_194 (by decide) ?_
                  refine gx_top (show (nI (8 * k)) / 8 = nI ((8 * k) / 8) from pk_div (a := 8 * k) (d := 8) (by omega) (by omega) (by omega)) ?_
                  refine gx_top (show nI ((8 * k) / 8) = nI k by rw [show (8 * k) / 8 = k by omega]) ?_
                  refine gx_dVA (pc := 195) (r := (bMiss C (nI k)).1) (W1 := wZ K ad ((bMiss C (nI k)).2) (kR C R od sn) (kOd (bMiss C (nI k)).1 od sn) (kSn (bMiss C (nI k)).1 sn)) (wr := [(ug, .inl (K.2.1.2.1, 8, .inl G)), (uf, .inl (K.2.1.2.1, 60, .inl F)), (ud, .inl (K.2.1.2.1, 56, .inl D)), (uh, .inl (K.2.1.2.1, 48, .inl H)), (uv, .inl (K.2.1.2.1, 48, .inl V)), (uj, .inl (K.2.1.2.1, 48, .inl J)), (uq, .inl (K.2.1.2.1, 48, .inl (upd Q (8 * k + 7) 1)))]) hB (k_miss l K ad C R od sn (nI k) ho hsn) mX4_miss dL_acts_195 tb_296 pX4_miss ⟨Nat.le_of_ble_eq_true rfl, Nat.le_of_ble_eq_true rfl⟩ ⟨rfl, rfl⟩ ⟨Nat.le_of_ble_eq_true rfl, Nat.le_of_ble_eq_true rfl⟩ rfl (Nat.le_of_ble_eq_true rfl) (List.range 23) (List.range' 23 7) rfl rfl (by decide) (by decide) (by decide) rfl rfl (List.range' 7 23 ++ List.range 7) (by decide) rfl ?_
                  obtain ⟨e_1, hI⟩ := t_miss_ok h0 hk c_110 c_114
                  refine gx_top (x := (bMiss C (nI k)).1) (y := Q (8 * k + 4)) e_1 ?_
                  refine gx_iload (pc := 198) hB dL_acts_198 0 rfl ?_
                  refine gx_if_eq (pc := 200) hB 213 dL_acts_200 (by decide) (fun c_119 => ?_) (fun c_119 => ?_)
                  · exact absurd c_119 (by decide)
                  · refine gx_aload (pc := 203) hB dL_acts_203 11 rfl ?_
                    refine gx_iload (pc := 205) hB dL_acts_205 1 rfl ?_
                    refine gx_iconst (pc := 207) hB dL_acts_207 4 (by decide) ?_
                    refine gx_iadd (pc := 208) hB dL_acts_208 ?_
                    refine gx_top (show (nI (8 * k)) + 4 = nI (8 * k + 4) from nI_add (8 * k) 4) ?_
                    refine gx_iald (pc := 209) hB dL_acts_209 29 1 rfl rfl (8 * k + 4) rfl (by omega) (by decide) ?_
                    refine gx_top (show (upd Q (8 * k + 7) 1) (8 * k + 4) = Q (8 * k + 4) from upd_ne (by omega)) ?_
                    refine gx_goto (pc := 210) hB 215 dL_acts_210 (by decide) ?_
                    refine gx_icmp_ne (pc := 215) hB 222 dL_acts_215 (by decide) (fun c_120 => ?_) (fun c_120 => ?_)
                    · exact absurd rfl c_120
                    · refine gx_iconst (pc := 218) hB dL_acts_218 1 (by decide) ?_
                      refine gx_goto (pc := 219) hB 223 dL_acts_219 (by decide) ?_
                      exact gx_zret (pc := 223) hC dL_acts_223 (Nat.zero_le _) (Nat.zero_le _) (by decide) ⟨rfl, _, _, _, _, _, _, _, _, _, _, _, rfl, hI⟩
          · refine gx_iload (pc := 129) hB dL_acts_129 2 rfl ?_
            refine gx_iconst (pc := 131) hB dL_acts_131 4 (by decide) ?_
            refine gx_irem (pc := 132) hB dL_acts_132 (by decide) ?_
            refine gx_top (show nI y - nI y / 4 * 4 = nI (y % 4) from pk_rem (a := y) (d := 4) (by omega) (by omega) (by omega)) ?_
            refine gx_if_le (pc := 133) hB 224 dL_acts_133 (by decide) (fun c_121 => ?_) (fun c_121 => ?_)
            · refine gx_aload (pc := 224) hB dL_acts_224 10 rfl ?_
              refine gx_iload (pc := 226) hB dL_acts_226 0 rfl ?_
              refine gx_iconst (pc := 228) hB dL_acts_228 5 (by decide) ?_
              refine gx_iadd (pc := 229) hB dL_acts_229 ?_
              refine gx_top (show (nI (8 * k)) + 5 = nI (8 * k + 5) from nI_add (8 * k) 5) ?_
              refine gx_iald (pc := 230) hB dL_acts_230 29 1 rfl rfl (8 * k + 5) rfl (by omega) (by decide) ?_
              refine gx_if_ne (pc := 231) hB 238 dL_acts_231 (by decide) (fun c_122 => ?_) (fun c_122 => ?_)
              · refine gx_iconst (pc := 238) hB dL_acts_238 0 (by decide) ?_
                refine gx_istore (pc := 239) hB dL_acts_239 (by decide) [(12, .int 0), (11, .int (nI (8 * k))), (10, .int (nI w)), (9, .int (nI y)), (0, .ref (ad 0)), (1, .ref ug), (2, .ref uf), (3, .ref ud), (4, .ref uh), (5, .ref uv), (6, .ref uj), (7, .ref uq), (8, .int z)] rfl ?_
                refine gx_aload (pc := 241) hB dL_acts_241 11 rfl ?_
                refine gx_iload (pc := 243) hB dL_acts_243 1 rfl ?_
                refine gx_iconst (pc := 245) hB dL_acts_245 5 (by decide) ?_
                refine gx_iadd (pc := 246) hB dL_acts_246 ?_
                refine gx_top (show (nI (8 * k)) + 5 = nI (8 * k + 5) from nI_add (8 * k) 5) ?_
                refine gx_iload (pc := 247) hB dL_acts_247 0 rfl ?_
                refine gx_if_eq (pc := 249) hB 256 dL_acts_249 (by decide) (fun c_123 => ?_) (fun c_123 => ?_)
                · refine gx_aload (pc := 256) hB dL_acts_256 11 rfl ?_
                  refine gx_iload (pc := 258) hB dL_acts_258 1 rfl ?_
                  refine gx_iconst (pc := 260) hB dL_acts_260 5 (by decide) ?_
                  refine gx_iadd (pc := 261) hB dL_acts_261 ?_
                  refine gx_top (show (nI (8 * k)) + 5 = nI (8 * k + 5) from nI_add (8 * k) 5) ?_
                  refine gx_iald (pc := 262) hB dL_acts_262 29 1 rfl rfl (8 * k + 5) rfl (by omega) (by decide) ?_
                  refine gx_iast (pc := 263) hB dL_acts_263 29 1 rfl rfl (8 * k + 5) rfl (by omega) (by decide) ((wZ K ad C R od sn ++ [(ug, .inl (K.2.1.2.1, 8, .inl G)), (uf, .inl (K.2.1.2.1, 60, .inl F)), (ud, .inl (K.2.1.2.1, 56, .inl D)), (uh, .inl (K.2.1.2.1, 48, .inl H)), (uv, .inl (K.2.1.2.1, 48, .inl V)), (uj, .inl (K.2.1.2.1, 48, .inl J)), (uq, .inl (K.2.1.2.1, 48, .inl (upd Q (8 * k + 5) (Q (8 * k + 5)))))])) rfl ?_
                  refine gx_aload (pc := 264) hB dL_acts_264 11 rfl ?_
                  refine gx_iload (pc := 266) hB dL_acts_266 1 rfl ?_
                  refine gx_bipush (pc := 268) hB dL_acts_268 7 (by decide) ?_
                  refine gx_iadd (pc := 270) hB dL_acts_270 ?_
                  refine gx_top (show (nI (8 * k)) + 7 = nI (8 * k + 7) from nI_add (8 * k) 7) ?_
                  refine gx_iconst (pc := 271) hB dL_acts_271 0 (by decide) ?_
                  refine gx_iast (pc := 272) hB dL_acts_272 29 1 rfl rfl (8 * k + 7) rfl (by omega) (by decide) ((wZ K ad C R od sn ++ [(ug, .inl (K.2.1.2.1, 8, .inl G)), (uf, .inl (K.2.1.2.1, 60, .inl F)), (ud, .inl (K.2.1.2.1, 56, .inl D)), (uh, .inl (K.2.1.2.1, 48, .inl H)), (uv, .inl (K.2.1.2.1, 48, .inl V)), (uj, .inl (K.2.1.2.1, 48, .inl J)), (uq, .inl (K.2.1.2.1, 48, .inl (upd (upd Q (8 * k + 5) (Q (8 * k + 5))) (8 * k + 7) 0)))])) rfl ?_
                  refine gx_aload_n (pc := 273) hB dL_acts_273 4 rfl ?_
                  refine gx_iload (pc := 274) hB dL_acts_274 1 rfl ?_
                  refine gx_bipush (pc := 276) hB dL_acts_276 8 (by decide) ?_
                  refine gx_idiv (pc := 278) hB dL_acts_278 (by decide) ?_
                  refine gx_top (show (nI (8 * k)) / 8 = nI ((8 * k) / 8) from pk_div (a := 8 * k) (d := 8) (by omega) (by omega) (by omega)) ?_
                  refine gx_top (show nI ((8 * k) / 8) = nI k by rw [show (8 * k) / 8 = k by omega]) ?_
                  refine gx_dVA (pc := 279) (r := (bStop C (nI k)).1) (W1 := wZ K ad ((bStop C (nI k)).2) (kR C R od sn) (kOd (bStop C (nI k)).1 od sn) (kSn (bStop C (nI k)).1 sn)) (wr := [(ug, .inl (K.2.1.2.1, 8, .inl G)), (uf, .inl (K.2.1.2.1, 60, .inl F)), (ud, .inl (K.2.1.2.1, 56, .inl D)), (uh, .inl (K.2.1.2.1, 48, .inl H)), (uv, .inl (K.2.1.2.1, 48, .inl V)), (uj, .inl (K.2.1.2.1, 48, .inl J)), (uq, .inl (K.2.1.2.1, 48, .inl (upd (upd Q (8 * k + 5) (Q (8 * k + 5))) (8 * k + 7) 0)))]) hB (k_stop l K ad C R od sn (nI k) ho hsn) mX4_stop dL_acts_279 tb_308 pX4_stop ⟨Nat.le_of_ble_eq_true rfl, Nat.le_of_ble_eq_true rfl⟩ ⟨rfl, rfl⟩ ⟨Nat.le_of_ble_eq_true rfl, Nat.le_of_ble_eq_true rfl⟩ rfl (Nat.le_of_ble_eq_true rfl) (List.range 23) (List.range' 23 7) rfl rfl (by decide) (by decide) (by decide) rfl rfl (List.range' 7 23 ++ List.range 7) (by decide) rfl ?_
                  obtain ⟨e_1, hI⟩ := t_stop_no h0 hk c_122
                  refine gx_top (x := (bStop C (nI k)).1) (y := (-2)) e_1 ?_
                  refine gx_iload (pc := 282) hB dL_acts_282 0 rfl ?_
                  refine gx_if_eq (pc := 284) hB 297 dL_acts_284 (by decide) (fun c_124 => ?_) (fun c_124 => ?_)
                  · refine gx_bipush (pc := 297) hB dL_acts_297 (-2) (by decide) ?_
                    refine gx_icmp_ne (pc := 299) hB 306 dL_acts_299 (by decide) (fun c_125 => ?_) (fun c_125 => ?_)
                    · exact absurd c_125 (by decide)
                    · refine gx_iconst (pc := 302) hB dL_acts_302 1 (by decide) ?_
                      refine gx_goto (pc := 303) hB 307 dL_acts_303 (by decide) ?_
                      exact gx_zret (pc := 307) hC dL_acts_307 (Nat.zero_le _) (Nat.zero_le _) (by decide) ⟨rfl, _, _, _, _, _, _, _, _, _, _, _, rfl, hI⟩
                  · exact absurd c_124 (by decide)
                · exact absurd c_123 (by decide)
              · refine gx_iconst (pc := 234) hB dL_acts_234 1 (by decide) ?_
                refine gx_goto (pc := 235) hB 239 dL_acts_235 (by decide) ?_
                refine gx_istore (pc := 239) hB dL_acts_239 (by decide) [(12, .int 1), (11, .int (nI (8 * k))), (10, .int (nI w)), (9, .int (nI y)), (0, .ref (ad 0)), (1, .ref ug), (2, .ref uf), (3, .ref ud), (4, .ref uh), (5, .ref uv), (6, .ref uj), (7, .ref uq), (8, .int z)] rfl ?_
                refine gx_aload (pc := 241) hB dL_acts_241 11 rfl ?_
                refine gx_iload (pc := 243) hB dL_acts_243 1 rfl ?_
                refine gx_iconst (pc := 245) hB dL_acts_245 5 (by decide) ?_
                refine gx_iadd (pc := 246) hB dL_acts_246 ?_
                refine gx_top (show (nI (8 * k)) + 5 = nI (8 * k + 5) from nI_add (8 * k) 5) ?_
                refine gx_iload (pc := 247) hB dL_acts_247 0 rfl ?_
                refine gx_if_eq (pc := 249) hB 256 dL_acts_249 (by decide) (fun c_126 => ?_) (fun c_126 => ?_)
                · exact absurd c_126 (by decide)
                · refine gx_iconst (pc := 252) hB dL_acts_252 2 (by decide) ?_
                  refine gx_goto (pc := 253) hB 263 dL_acts_253 (by decide) ?_
                  refine gx_iast (pc := 263) hB dL_acts_263 29 1 rfl rfl (8 * k + 5) rfl (by omega) (by decide) ((wZ K ad C R od sn ++ [(ug, .inl (K.2.1.2.1, 8, .inl G)), (uf, .inl (K.2.1.2.1, 60, .inl F)), (ud, .inl (K.2.1.2.1, 56, .inl D)), (uh, .inl (K.2.1.2.1, 48, .inl H)), (uv, .inl (K.2.1.2.1, 48, .inl V)), (uj, .inl (K.2.1.2.1, 48, .inl J)), (uq, .inl (K.2.1.2.1, 48, .inl (upd Q (8 * k + 5) 2)))])) rfl ?_
                  refine gx_aload (pc := 264) hB dL_acts_264 11 rfl ?_
                  refine gx_iload (pc := 266) hB dL_acts_266 1 rfl ?_
                  refine gx_bipush (pc := 268) hB dL_acts_268 7 (by decide) ?_
                  refine gx_iadd (pc := 270) hB dL_acts_270 ?_
                  refine gx_top (show (nI (8 * k)) + 7 = nI (8 * k + 7) from nI_add (8 * k) 7) ?_
                  refine gx_iconst (pc := 271) hB dL_acts_271 0 (by decide) ?_
                  refine gx_iast (pc := 272) hB dL_acts_272 29 1 rfl rfl (8 * k + 7) rfl (by omega) (by decide) ((wZ K ad C R od sn ++ [(ug, .inl (K.2.1.2.1, 8, .inl G)), (uf, .inl (K.2.1.2.1, 60, .inl F)), (ud, .inl (K.2.1.2.1, 56, .inl D)), (uh, .inl (K.2.1.2.1, 48, .inl H)), (uv, .inl (K.2.1.2.1, 48, .inl V)), (uj, .inl (K.2.1.2.1, 48, .inl J)), (uq, .inl (K.2.1.2.1, 48, .inl (upd (upd Q (8 * k + 5) 2) (8 * k + 7) 0)))])) rfl ?_
                  refine gx_aload_n (pc := 273) hB dL_acts_273 4 rfl ?_
                  refine gx_iload (pc := 274) hB dL_acts_274 1 rfl ?_
                  refine gx_bipush (pc := 276) hB dL_acts_276 8 (by decide) ?_
                  refine gx_idiv (pc := 278) hB dL_acts_278 (by decide) ?_
                  refine gx_top (show (nI (8 * k)) / 8 = nI ((8 * k) / 8) from pk_div (a := 8 * k) (d := 8) (by omega) (by omega) (by omega)) ?_
                  refine gx_top (show nI ((8 * k) / 8) = nI k by rw [show (8 * k) / 8 = k by omega]) ?_
                  refine gx_dVA (pc := 279) (r := (bStop C (nI k)).1) (W1 := wZ K ad ((bStop C (nI k)).2) (kR C R od sn) (kOd (bStop C (nI k)).1 od sn) (kSn (bStop C (nI k)).1 sn)) (wr := [(ug, .inl (K.2.1.2.1, 8, .inl G)), (uf, .inl (K.2.1.2.1, 60, .inl F)), (ud, .inl (K.2.1.2.1, 56, .inl D)), (uh, .inl (K.2.1.2.1, 48, .inl H)), (uv, .inl (K.2.1.2.1, 48, .inl V)), (uj, .inl (K.2.1.2.1, 48, .inl J)), (uq, .inl (K.2.1.2.1, 48, .inl (upd (upd Q (8 * k + 5) 2) (8 * k + 7) 0)))]) hB (k_stop l K ad C R od sn (nI k) ho hsn) mX4_stop dL_acts_279 tb_308 pX4_stop ⟨Nat.le_of_ble_eq_true rfl, Nat.le_of_ble_eq_true rfl⟩ ⟨rfl, rfl⟩ ⟨Nat.le_of_ble_eq_true rfl, Nat.le_of_ble_eq_true rfl⟩ rfl (Nat.le_of_ble_eq_true rfl) (List.range 23) (List.range' 23 7) rfl rfl (by decide) (by decide) (by decide) rfl rfl (List.range' 7 23 ++ List.range 7) (by decide) rfl ?_
                  obtain ⟨e_1, hI⟩ := t_stop_ok h0 hk c_122
                  refine gx_top (x := (bStop C (nI k)).1) (y := Q (8 * k + 3)) e_1 ?_
                  refine gx_iload (pc := 282) hB dL_acts_282 0 rfl ?_
                  refine gx_if_eq (pc := 284) hB 297 dL_acts_284 (by decide) (fun c_127 => ?_) (fun c_127 => ?_)
                  · exact absurd c_127 (by decide)
                  · refine gx_aload (pc := 287) hB dL_acts_287 11 rfl ?_
                    refine gx_iload (pc := 289) hB dL_acts_289 1 rfl ?_
                    refine gx_iconst (pc := 291) hB dL_acts_291 3 (by decide) ?_
                    refine gx_iadd (pc := 292) hB dL_acts_292 ?_
                    refine gx_top (show (nI (8 * k)) + 3 = nI (8 * k + 3) from nI_add (8 * k) 3) ?_
                    refine gx_iald (pc := 293) hB dL_acts_293 29 1 rfl rfl (8 * k + 3) rfl (by omega) (by decide) ?_
                    refine gx_top (show (upd (upd Q (8 * k + 5) 2) (8 * k + 7) 0) (8 * k + 3) = Q (8 * k + 3) from (by rw [upd_ne (by omega), upd_ne (by omega)])) ?_
                    refine gx_goto (pc := 294) hB 299 dL_acts_294 (by decide) ?_
                    refine gx_icmp_ne (pc := 299) hB 306 dL_acts_299 (by decide) (fun c_128 => ?_) (fun c_128 => ?_)
                    · exact absurd rfl c_128
                    · refine gx_iconst (pc := 302) hB dL_acts_302 1 (by decide) ?_
                      refine gx_goto (pc := 303) hB 307 dL_acts_303 (by decide) ?_
                      exact gx_zret (pc := 307) hC dL_acts_307 (Nat.zero_le _) (Nat.zero_le _) (by decide) ⟨rfl, _, _, _, _, _, _, _, _, _, _, _, rfl, hI⟩
            · refine gx_aload (pc := 136) hB dL_acts_136 10 rfl ?_
              refine gx_iload (pc := 138) hB dL_acts_138 0 rfl ?_
              refine gx_iconst (pc := 140) hB dL_acts_140 5 (by decide) ?_
              refine gx_iadd (pc := 141) hB dL_acts_141 ?_
              refine gx_top (show (nI (8 * k)) + 5 = nI (8 * k + 5) from nI_add (8 * k) 5) ?_
              refine gx_iald (pc := 142) hB dL_acts_142 29 1 rfl rfl (8 * k + 5) rfl (by omega) (by decide) ?_
              refine gx_if_ne (pc := 143) hB 161 dL_acts_143 (by decide) (fun c_129 => ?_) (fun c_129 => ?_)
              · refine gx_iconst (pc := 161) hB dL_acts_161 0 (by decide) ?_
                refine gx_istore (pc := 162) hB dL_acts_162 (by decide) [(12, .int 0), (11, .int (nI (8 * k))), (10, .int (nI w)), (9, .int (nI y)), (0, .ref (ad 0)), (1, .ref ug), (2, .ref uf), (3, .ref ud), (4, .ref uh), (5, .ref uv), (6, .ref uj), (7, .ref uq), (8, .int z)] rfl ?_
                refine gx_aload (pc := 164) hB dL_acts_164 11 rfl ?_
                refine gx_iload (pc := 166) hB dL_acts_166 1 rfl ?_
                refine gx_bipush (pc := 168) hB dL_acts_168 7 (by decide) ?_
                refine gx_iadd (pc := 170) hB dL_acts_170 ?_
                refine gx_top (show (nI (8 * k)) + 7 = nI (8 * k + 7) from nI_add (8 * k) 7) ?_
                refine gx_iload (pc := 171) hB dL_acts_171 0 rfl ?_
                refine gx_if_eq (pc := 173) hB 180 dL_acts_173 (by decide) (fun c_130 => ?_) (fun c_130 => ?_)
                · refine gx_aload (pc := 180) hB dL_acts_180 11 rfl ?_
                  refine gx_iload (pc := 182) hB dL_acts_182 1 rfl ?_
                  refine gx_bipush (pc := 184) hB dL_acts_184 7 (by decide) ?_
                  refine gx_iadd (pc := 186) hB dL_acts_186 ?_
                  refine gx_top (show (nI (8 * k)) + 7 = nI (8 * k + 7) from nI_add (8 * k) 7) ?_
                  refine gx_iald (pc := 187) hB dL_acts_187 29 1 rfl rfl (8 * k + 7) rfl (by omega) (by decide) ?_
                  refine gx_iast (pc := 188) hB dL_acts_188 29 1 rfl rfl (8 * k + 7) rfl (by omega) (by decide) ((wZ K ad C R od sn ++ [(ug, .inl (K.2.1.2.1, 8, .inl G)), (uf, .inl (K.2.1.2.1, 60, .inl F)), (ud, .inl (K.2.1.2.1, 56, .inl D)), (uh, .inl (K.2.1.2.1, 48, .inl H)), (uv, .inl (K.2.1.2.1, 48, .inl V)), (uj, .inl (K.2.1.2.1, 48, .inl J)), (uq, .inl (K.2.1.2.1, 48, .inl (upd Q (8 * k + 7) (Q (8 * k + 7)))))])) rfl ?_
                  refine gx_aload_n (pc := 189) hB dL_acts_189 4 rfl ?_
                  refine gx_iload (pc := 190) hB dL_acts_190 1 rfl ?_
                  refine gx_bipush (pc := 192) hB dL_acts_192 8 (by decide) ?_
                  refine gx_idiv (pc := 194) hB dL_acts_194 (by decide) ?_
                  refine gx_top (show (nI (8 * k)) / 8 = nI ((8 * k) / 8) from pk_div (a := 8 * k) (d := 8) (by omega) (by omega) (by omega)) ?_
                  refine gx_top (show nI ((8 * k) / 8) = nI k by rw [show (8 * k) / 8 = k by omega]) ?_
                  refine gx_dVA (pc := 195) (r := (bMiss C (nI k)).1) (W1 := wZ K ad ((bMiss C (nI k)).2) (kR C R od sn) (kOd (bMiss C (nI k)).1 od sn) (kSn (bMiss C (nI k)).1 sn)) (wr := [(ug, .inl (K.2.1.2.1, 8, .inl G)), (uf, .inl (K.2.1.2.1, 60, .inl F)), (ud, .inl (K.2.1.2.1, 56, .inl D)), (uh, .inl (K.2.1.2.1, 48, .inl H)), (uv, .inl (K.2.1.2.1, 48, .inl V)), (uj, .inl (K.2.1.2.1, 48, .inl J)), (uq, .inl (K.2.1.2.1, 48, .inl (upd Q (8 * k + 7) (Q (8 * k + 7)))))]) hB (k_miss l K ad C R od sn (nI k) ho hsn) mX4_miss dL_acts_195 tb_296 pX4_miss ⟨Nat.le_of_ble_eq_true rfl, Nat.le_of_ble_eq_true rfl⟩ ⟨rfl, rfl⟩ ⟨Nat.le_of_ble_eq_true rfl, Nat.le_of_ble_eq_true rfl⟩ rfl (Nat.le_of_ble_eq_true rfl) (List.range 23) (List.range' 23 7) rfl rfl (by decide) (by decide) (by decide) rfl rfl (List.range' 7 23 ++ List.range 7) (by decide) rfl ?_
                  obtain ⟨e_1, hI⟩ := t_miss_no h0 hk (Or.inl c_129)
                  refine gx_top (x := (bMiss C (nI k)).1) (y := (-2)) e_1 ?_
                  refine gx_iload (pc := 198) hB dL_acts_198 0 rfl ?_
                  refine gx_if_eq (pc := 200) hB 213 dL_acts_200 (by decide) (fun c_131 => ?_) (fun c_131 => ?_)
                  · refine gx_bipush (pc := 213) hB dL_acts_213 (-2) (by decide) ?_
                    refine gx_icmp_ne (pc := 215) hB 222 dL_acts_215 (by decide) (fun c_132 => ?_) (fun c_132 => ?_)
                    · exact absurd c_132 (by decide)
                    · refine gx_iconst (pc := 218) hB dL_acts_218 1 (by decide) ?_
                      refine gx_goto (pc := 219) hB 223 dL_acts_219 (by decide) ?_
                      exact gx_zret (pc := 223) hC dL_acts_223 (Nat.zero_le _) (Nat.zero_le _) (by decide) ⟨rfl, _, _, _, _, _, _, _, _, _, _, _, rfl, hI⟩
                  · exact absurd c_131 (by decide)
                · exact absurd c_130 (by decide)
              · refine gx_aload (pc := 146) hB dL_acts_146 10 rfl ?_
                refine gx_iload (pc := 148) hB dL_acts_148 0 rfl ?_
                refine gx_bipush (pc := 150) hB dL_acts_150 7 (by decide) ?_
                refine gx_iadd (pc := 152) hB dL_acts_152 ?_
                refine gx_top (show (nI (8 * k)) + 7 = nI (8 * k + 7) from nI_add (8 * k) 7) ?_
                refine gx_iald (pc := 153) hB dL_acts_153 29 1 rfl rfl (8 * k + 7) rfl (by omega) (by decide) ?_
                refine gx_if_ne (pc := 154) hB 161 dL_acts_154 (by decide) (fun c_133 => ?_) (fun c_133 => ?_)
                · refine gx_iconst (pc := 161) hB dL_acts_161 0 (by decide) ?_
                  refine gx_istore (pc := 162) hB dL_acts_162 (by decide) [(12, .int 0), (11, .int (nI (8 * k))), (10, .int (nI w)), (9, .int (nI y)), (0, .ref (ad 0)), (1, .ref ug), (2, .ref uf), (3, .ref ud), (4, .ref uh), (5, .ref uv), (6, .ref uj), (7, .ref uq), (8, .int z)] rfl ?_
                  refine gx_aload (pc := 164) hB dL_acts_164 11 rfl ?_
                  refine gx_iload (pc := 166) hB dL_acts_166 1 rfl ?_
                  refine gx_bipush (pc := 168) hB dL_acts_168 7 (by decide) ?_
                  refine gx_iadd (pc := 170) hB dL_acts_170 ?_
                  refine gx_top (show (nI (8 * k)) + 7 = nI (8 * k + 7) from nI_add (8 * k) 7) ?_
                  refine gx_iload (pc := 171) hB dL_acts_171 0 rfl ?_
                  refine gx_if_eq (pc := 173) hB 180 dL_acts_173 (by decide) (fun c_134 => ?_) (fun c_134 => ?_)
                  · refine gx_aload (pc := 180) hB dL_acts_180 11 rfl ?_
                    refine gx_iload (pc := 182) hB dL_acts_182 1 rfl ?_
                    refine gx_bipush (pc := 184) hB dL_acts_184 7 (by decide) ?_
                    refine gx_iadd (pc := 186) hB dL_acts_186 ?_
                    refine gx_top (show (nI (8 * k)) + 7 = nI (8 * k + 7) from nI_add (8 * k) 7) ?_
                    refine gx_iald (pc := 187) hB dL_acts_187 29 1 rfl rfl (8 * k + 7) rfl (by omega) (by decide) ?_
                    refine gx_iast (pc := 188) hB dL_acts_188 29 1 rfl rfl (8 * k + 7) rfl (by omega) (by decide) ((wZ K ad C R od sn ++ [(ug, .inl (K.2.1.2.1, 8, .inl G)), (uf, .inl (K.2.1.2.1, 60, .inl F)), (ud, .inl (K.2.1.2.1, 56, .inl D)), (uh, .inl (K.2.1.2.1, 48, .inl H)), (uv, .inl (K.2.1.2.1, 48, .inl V)), (uj, .inl (K.2.1.2.1, 48, .inl J)), (uq, .inl (K.2.1.2.1, 48, .inl (upd Q (8 * k + 7) (Q (8 * k + 7)))))])) rfl ?_
                    refine gx_aload_n (pc := 189) hB dL_acts_189 4 rfl ?_
                    refine gx_iload (pc := 190) hB dL_acts_190 1 rfl ?_
                    refine gx_bipush (pc := 192) hB dL_acts_192 8 (by decide) ?_
                    refine gx_idiv (pc := 194) hB dL_acts_194 (by decide) ?_
                    refine gx_top (show (nI (8 * k)) / 8 = nI ((8 * k) / 8) from pk_div (a := 8 * k) (d := 8) (by omega) (by omega) (by omega)) ?_
                    refine gx_top (show nI ((8 * k) / 8) = nI k by rw [show (8 * k) / 8 = k by omega]) ?_
                    refine gx_dVA (pc := 195) (r := (bMiss C (nI k)).1) (W1 := wZ K ad ((bMiss C (nI k)).2) (kR C R od sn) (kOd (bMiss C (nI k)).1 od sn) (kSn (bMiss C (nI k)).1 sn)) (wr := [(ug, .inl (K.2.1.2.1, 8, .inl G)), (uf, .inl (K.2.1.2.1, 60, .inl F)), (ud, .inl (K.2.1.2.1, 56, .inl D)), (uh, .inl (K.2.1.2.1, 48, .inl H)), (uv, .inl (K.2.1.2.1, 48, .inl V)), (uj, .inl (K.2.1.2.1, 48, .inl J)), (uq, .inl (K.2.1.2.1, 48, .inl (upd Q (8 * k + 7) (Q (8 * k + 7)))))]) hB (k_miss l K ad C R od sn (nI k) ho hsn) mX4_miss dL_acts_195 tb_296 pX4_miss ⟨Nat.le_of_ble_eq_true rfl, Nat.le_of_ble_eq_true rfl⟩ ⟨rfl, rfl⟩ ⟨Nat.le_of_ble_eq_true rfl, Nat.le_of_ble_eq_true rfl⟩ rfl (Nat.le_of_ble_eq_true rfl) (List.range 23) (List.range' 23 7) rfl rfl (by decide) (by decide) (by decide) rfl rfl (List.range' 7 23 ++ List.range 7) (by decide) rfl ?_
                    obtain ⟨e_1, hI⟩ := t_miss_no h0 hk (Or.inr c_133)
                    refine gx_top (x := (bMiss C (nI k)).1) (y := (-2)) e_1 ?_
                    refine gx_iload (pc := 198) hB dL_acts_198 0 rfl ?_
                    refine gx_if_eq (pc := 200) hB 213 dL_acts_200 (by decide) (fun c_135 => ?_) (fun c_135 => ?_)
                    · refine gx_bipush (pc := 213) hB dL_acts_213 (-2) (by decide) ?_
                      refine gx_icmp_ne (pc := 215) hB 222 dL_acts_215 (by decide) (fun c_136 => ?_) (fun c_136 => ?_)
                      · exact absurd c_136 (by decide)
                      · refine gx_iconst (pc := 218) hB dL_acts_218 1 (by decide) ?_
                        refine gx_goto (pc := 219) hB 223 dL_acts_219 (by decide) ?_
                        exact gx_zret (pc := 223) hC dL_acts_223 (Nat.zero_le _) (Nat.zero_le _) (by decide) ⟨rfl, _, _, _, _, _, _, _, _, _, _, _, rfl, hI⟩
                    · exact absurd c_135 (by decide)
                  · exact absurd c_134 (by decide)
                · refine gx_iconst (pc := 157) hB dL_acts_157 1 (by decide) ?_
                  refine gx_goto (pc := 158) hB 162 dL_acts_158 (by decide) ?_
                  refine gx_istore (pc := 162) hB dL_acts_162 (by decide) [(12, .int 1), (11, .int (nI (8 * k))), (10, .int (nI w)), (9, .int (nI y)), (0, .ref (ad 0)), (1, .ref ug), (2, .ref uf), (3, .ref ud), (4, .ref uh), (5, .ref uv), (6, .ref uj), (7, .ref uq), (8, .int z)] rfl ?_
                  refine gx_aload (pc := 164) hB dL_acts_164 11 rfl ?_
                  refine gx_iload (pc := 166) hB dL_acts_166 1 rfl ?_
                  refine gx_bipush (pc := 168) hB dL_acts_168 7 (by decide) ?_
                  refine gx_iadd (pc := 170) hB dL_acts_170 ?_
                  refine gx_top (show (nI (8 * k)) + 7 = nI (8 * k + 7) from nI_add (8 * k) 7) ?_
                  refine gx_iload (pc := 171) hB dL_acts_171 0 rfl ?_
                  refine gx_if_eq (pc := 173) hB 180 dL_acts_173 (by decide) (fun c_137 => ?_) (fun c_137 => ?_)
                  · exact absurd c_137 (by decide)
                  · refine gx_iconst (pc := 176) hB dL_acts_176 1 (by decide) ?_
                    refine gx_goto (pc := 177) hB 188 dL_acts_177 (by decide) ?_
                    refine gx_iast (pc := 188) hB dL_acts_188 29 1 rfl rfl (8 * k + 7) rfl (by omega) (by decide) ((wZ K ad C R od sn ++ [(ug, .inl (K.2.1.2.1, 8, .inl G)), (uf, .inl (K.2.1.2.1, 60, .inl F)), (ud, .inl (K.2.1.2.1, 56, .inl D)), (uh, .inl (K.2.1.2.1, 48, .inl H)), (uv, .inl (K.2.1.2.1, 48, .inl V)), (uj, .inl (K.2.1.2.1, 48, .inl J)), (uq, .inl (K.2.1.2.1, 48, .inl (upd Q (8 * k + 7) 1)))])) rfl ?_
                    refine gx_aload_n (pc := 189) hB dL_acts_189 4 rfl ?_
                    refine gx_iload (pc := 190) hB dL_acts_190 1 rfl ?_
                    refine gx_bipush (pc := 192) hB dL_acts_192 8 (by decide) ?_
                    refine gx_idiv (pc := 194) hB dL_acts_194 (by decide) ?_
                    refine gx_top (show (nI (8 * k)) / 8 = nI ((8 * k) / 8) from pk_div (a := 8 * k) (d := 8) (by omega) (by omega) (by omega)) ?_
                    refine gx_top (show nI ((8 * k) / 8) = nI k by rw [show (8 * k) / 8 = k by omega]) ?_
                    refine gx_dVA (pc := 195) (r := (bMiss C (nI k)).1) (W1 := wZ K ad ((bMiss C (nI k)).2) (kR C R od sn) (kOd (bMiss C (nI k)).1 od sn) (kSn (bMiss C (nI k)).1 sn)) (wr := [(ug, .inl (K.2.1.2.1, 8, .inl G)), (uf, .inl (K.2.1.2.1, 60, .inl F)), (ud, .inl (K.2.1.2.1, 56, .inl D)), (uh, .inl (K.2.1.2.1, 48, .inl H)), (uv, .inl (K.2.1.2.1, 48, .inl V)), (uj, .inl (K.2.1.2.1, 48, .inl J)), (uq, .inl (K.2.1.2.1, 48, .inl (upd Q (8 * k + 7) 1)))]) hB (k_miss l K ad C R od sn (nI k) ho hsn) mX4_miss dL_acts_195 tb_296 pX4_miss ⟨Nat.le_of_ble_eq_true rfl, Nat.le_of_ble_eq_true rfl⟩ ⟨rfl, rfl⟩ ⟨Nat.le_of_ble_eq_true rfl, Nat.le_of_ble_eq_true rfl⟩ rfl (Nat.le_of_ble_eq_true rfl) (List.range 23) (List.range' 23 7) rfl rfl (by decide) (by decide) (by decide) rfl rfl (List.range' 7 23 ++ List.range 7) (by decide) rfl ?_
                    obtain ⟨e_1, hI⟩ := t_miss_ok h0 hk c_129 c_133
                    refine gx_top (x := (bMiss C (nI k)).1) (y := Q (8 * k + 4)) e_1 ?_
                    refine gx_iload (pc := 198) hB dL_acts_198 0 rfl ?_
                    refine gx_if_eq (pc := 200) hB 213 dL_acts_200 (by decide) (fun c_138 => ?_) (fun c_138 => ?_)
                    · exact absurd c_138 (by decide)
                    · refine gx_aload (pc := 203) hB dL_acts_203 11 rfl ?_
                      refine gx_iload (pc := 205) hB dL_acts_205 1 rfl ?_
                      refine gx_iconst (pc := 207) hB dL_acts_207 4 (by decide) ?_
                      refine gx_iadd (pc := 208) hB dL_acts_208 ?_
                      refine gx_top (show (nI (8 * k)) + 4 = nI (8 * k + 4) from nI_add (8 * k) 4) ?_
                      refine gx_iald (pc := 209) hB dL_acts_209 29 1 rfl rfl (8 * k + 4) rfl (by omega) (by decide) ?_
                      refine gx_top (show (upd Q (8 * k + 7) 1) (8 * k + 4) = Q (8 * k + 4) from upd_ne (by omega)) ?_
                      refine gx_goto (pc := 210) hB 215 dL_acts_210 (by decide) ?_
                      refine gx_icmp_ne (pc := 215) hB 222 dL_acts_215 (by decide) (fun c_139 => ?_) (fun c_139 => ?_)
                      · exact absurd rfl c_139
                      · refine gx_iconst (pc := 218) hB dL_acts_218 1 (by decide) ?_
                        refine gx_goto (pc := 219) hB 223 dL_acts_219 (by decide) ?_
                        exact gx_zret (pc := 223) hC dL_acts_223 (Nat.zero_le _) (Nat.zero_le _) (by decide) ⟨rfl, _, _, _, _, _, _, _, _, _, _, _, rfl, hI⟩
        · refine gx_aload_n (pc := 87) hB dL_acts_87 2 rfl ?_
          refine gx_iconst (pc := 88) hB dL_acts_88 0 (by decide) ?_
          refine gx_dVA (pc := 89) (r := (bMiss C 0).1) (W1 := wZ K ad ((bMiss C 0).2) (kR C R od sn) (kOd (bMiss C 0).1 od sn) (kSn (bMiss C 0).1 sn)) (wr := [(ug, .inl (K.2.1.2.1, 8, .inl G)), (uf, .inl (K.2.1.2.1, 60, .inl F)), (ud, .inl (K.2.1.2.1, 56, .inl D)), (uh, .inl (K.2.1.2.1, 48, .inl H)), (uv, .inl (K.2.1.2.1, 48, .inl V)), (uj, .inl (K.2.1.2.1, 48, .inl J)), (uq, .inl (K.2.1.2.1, 48, .inl Q))]) hB (k_miss l K ad C R od sn 0 ho hsn) mX4_miss dL_acts_89 tb_296 pX4_miss ⟨Nat.le_of_ble_eq_true rfl, Nat.le_of_ble_eq_true rfl⟩ ⟨rfl, rfl⟩ ⟨Nat.le_of_ble_eq_true rfl, Nat.le_of_ble_eq_true rfl⟩ rfl (Nat.le_of_ble_eq_true rfl) (List.range 23) (List.range' 23 7) rfl rfl (by decide) (by decide) (by decide) rfl rfl (List.range' 7 23 ++ List.range 7) (by decide) rfl ?_
          obtain ⟨e_1, hJ⟩ := t_miss_none h0 c_108
          refine gx_top (x := (bMiss C 0).1) (y := (-1)) e_1 ?_
          refine gx_iconst (pc := 92) hB dL_acts_92 (-1) (by decide) ?_
          refine gx_icmp_ne (pc := 93) hB 109 dL_acts_93 (by decide) (fun c_140 => ?_) (fun c_140 => ?_)
          · exact absurd c_140 (by decide)
          · refine gx_aload_n (pc := 96) hB dL_acts_96 2 rfl ?_
            refine gx_iconst (pc := 97) hB dL_acts_97 0 (by decide) ?_
            refine gx_dVA (pc := 98) (r := (bStop ((bMiss C 0).2) 0).1) (W1 := wZ K ad ((bStop ((bMiss C 0).2) 0).2) (kR ((bMiss C 0).2) (kR C R od sn) (kOd (bMiss C 0).1 od sn) (kSn (bMiss C 0).1 sn)) (kOd (bStop ((bMiss C 0).2) 0).1 (kOd (bMiss C 0).1 od sn) (kSn (bMiss C 0).1 sn)) (kSn (bStop ((bMiss C 0).2) 0).1 (kSn (bMiss C 0).1 sn))) (wr := [(ug, .inl (K.2.1.2.1, 8, .inl G)), (uf, .inl (K.2.1.2.1, 60, .inl F)), (ud, .inl (K.2.1.2.1, 56, .inl D)), (uh, .inl (K.2.1.2.1, 48, .inl H)), (uv, .inl (K.2.1.2.1, 48, .inl V)), (uj, .inl (K.2.1.2.1, 48, .inl J)), (uq, .inl (K.2.1.2.1, 48, .inl Q))]) hB (k_stop l K ad ((bMiss C 0).2) (kR C R od sn) (kOd (bMiss C 0).1 od sn) (kSn (bMiss C 0).1 sn) 0 hJ.2.2.2.2.1 hJ.2.2.2.2.2) mX4_stop dL_acts_98 tb_308 pX4_stop ⟨Nat.le_of_ble_eq_true rfl, Nat.le_of_ble_eq_true rfl⟩ ⟨rfl, rfl⟩ ⟨Nat.le_of_ble_eq_true rfl, Nat.le_of_ble_eq_true rfl⟩ rfl (Nat.le_of_ble_eq_true rfl) (List.range 23) (List.range' 23 7) rfl rfl (by decide) (by decide) (by decide) rfl rfl (List.range' 7 23 ++ List.range 7) (by decide) rfl ?_
            obtain ⟨e_1, hI⟩ := t_stop_none hJ c_108
            refine gx_top (x := (bStop ((bMiss C 0).2) 0).1) (y := (-1)) e_1 ?_
            refine gx_iconst (pc := 101) hB dL_acts_101 (-1) (by decide) ?_
            refine gx_icmp_ne (pc := 102) hB 109 dL_acts_102 (by decide) (fun c_141 => ?_) (fun c_141 => ?_)
            · exact absurd c_141 (by decide)
            · refine gx_iconst (pc := 105) hB dL_acts_105 1 (by decide) ?_
              refine gx_goto (pc := 106) hB 110 dL_acts_106 (by decide) ?_
              exact gx_zret (pc := 110) hC dL_acts_110 (Nat.zero_le _) (Nat.zero_le _) (by decide) ⟨rfl, _, _, _, _, _, _, _, _, _, _, _, rfl, hI⟩
    · refine gx_aload_n (pc := 33) hB dL_acts_33 2 rfl ?_
      refine gx_aload_n (pc := 34) hB dL_acts_34 3 rfl ?_
      refine gx_aload_n (pc := 35) hB dL_acts_35 4 rfl ?_
      refine gx_aload_n (pc := 36) hB dL_acts_36 5 rfl ?_
      refine gx_aload (pc := 37) hB dL_acts_37 6 rfl ?_
      refine gx_aload (pc := 39) hB dL_acts_39 7 rfl ?_
      refine gx_aload (pc := 41) hB dL_acts_41 8 rfl ?_
      refine gx_aload (pc := 43) hB dL_acts_43 9 rfl ?_
      refine gx_iload (pc := 45) hB dL_acts_45 0 rfl ?_
      refine gx_iconst (pc := 47) hB dL_acts_47 3 (by decide) ?_
      refine gx_icmp_ge (pc := 48) hB 56 dL_acts_48 (by decide) (fun c_142 => ?_) (fun c_142 => ?_)
      · refine gx_iload (pc := 56) hB dL_acts_56 0 rfl ?_
        refine gx_bipush (pc := 58) hB dL_acts_58 7 (by decide) ?_
        refine gx_icmp_ge (pc := 60) hB 67 dL_acts_60 (by decide) (fun c_143 => ?_) (fun c_143 => ?_)
        · refine gx_iconst (pc := 67) hB dL_acts_67 4 (by decide) ?_
          refine gx_iload (pc := 68) hB dL_acts_68 1 rfl ?_
          refine gx_callS (pc := 70) (wr := []) hB (c_L_comes l K ad ug uf ud uh uv uj uq C R od sn G F D H V J Q S a b c e 4 y (by first | assumption | omega | decide) (by first | assumption | omega | decide)) mL_comes dL_acts_70 tb_220 pL_comes ⟨Nat.le_of_ble_eq_true rfl, Nat.le_of_ble_eq_true rfl, Nat.le_of_ble_eq_true rfl, Nat.le_of_ble_eq_true rfl⟩ (rest := []) rfl (Nat.le_of_ble_eq_true rfl) [0, 1, 2, 3, 4, 5, 6, 7, 8, 9, 10, 11, 12, 13, 14, 15, 16, 17, 18, 19, 20, 21, 22, 23, 24, 25, 26, 27, 28, 29] [] rfl rfl (by decide) (by decide) (by decide) (fun v70 w70 hp70 => ?_)
          obtain ⟨rfl, hw⟩ := hp70
          refine gx_kn (k' := 0) (n' := 0) rfl rfl ?_
          refine gx_st (st' := [.int 1]) rfl ?_
          exact gx_zret (pc := 73) hC dL_acts_73 (Nat.zero_le _) (Nat.zero_le _) (by decide) ⟨rfl, hw⟩
        · refine gx_iconst (pc := 63) hB dL_acts_63 3 (by decide) ?_
          refine gx_goto (pc := 64) hB 68 dL_acts_64 (by decide) ?_
          refine gx_iload (pc := 68) hB dL_acts_68 1 rfl ?_
          refine gx_callS (pc := 70) (wr := []) hB (c_L_comes l K ad ug uf ud uh uv uj uq C R od sn G F D H V J Q S a b c e 3 y (by first | assumption | omega | decide) (by first | assumption | omega | decide)) mL_comes dL_acts_70 tb_220 pL_comes ⟨Nat.le_of_ble_eq_true rfl, Nat.le_of_ble_eq_true rfl, Nat.le_of_ble_eq_true rfl, Nat.le_of_ble_eq_true rfl⟩ (rest := []) rfl (Nat.le_of_ble_eq_true rfl) [0, 1, 2, 3, 4, 5, 6, 7, 8, 9, 10, 11, 12, 13, 14, 15, 16, 17, 18, 19, 20, 21, 22, 23, 24, 25, 26, 27, 28, 29] [] rfl rfl (by decide) (by decide) (by decide) (fun v70 w70 hp70 => ?_)
          obtain ⟨rfl, hw⟩ := hp70
          refine gx_kn (k' := 0) (n' := 0) rfl rfl ?_
          refine gx_st (st' := [.int 1]) rfl ?_
          exact gx_zret (pc := 73) hC dL_acts_73 (Nat.zero_le _) (Nat.zero_le _) (by decide) ⟨rfl, hw⟩
      · refine gx_iload (pc := 51) hB dL_acts_51 0 rfl ?_
        refine gx_goto (pc := 53) hB 68 dL_acts_53 (by decide) ?_
        refine gx_iload (pc := 68) hB dL_acts_68 1 rfl ?_
        refine gx_callS (pc := 70) (wr := []) hB (c_L_comes l K ad ug uf ud uh uv uj uq C R od sn G F D H V J Q S a b c e (nI w) y (by first | assumption | omega | decide) (by first | assumption | omega | decide)) mL_comes dL_acts_70 tb_220 pL_comes ⟨Nat.le_of_ble_eq_true rfl, Nat.le_of_ble_eq_true rfl, Nat.le_of_ble_eq_true rfl, Nat.le_of_ble_eq_true rfl⟩ (rest := []) rfl (Nat.le_of_ble_eq_true rfl) [0, 1, 2, 3, 4, 5, 6, 7, 8, 9, 10, 11, 12, 13, 14, 15, 16, 17, 18, 19, 20, 21, 22, 23, 24, 25, 26, 27, 28, 29] [] rfl rfl (by decide) (by decide) (by decide) (fun v70 w70 hp70 => ?_)
        obtain ⟨rfl, hw⟩ := hp70
        refine gx_kn (k' := 0) (n' := 0) rfl rfl ?_
        refine gx_st (st' := [.int 1]) rfl ?_
        exact gx_zret (pc := 73) hC dL_acts_73 (Nat.zero_le _) (Nat.zero_le _) (by decide) ⟨rfl, hw⟩
