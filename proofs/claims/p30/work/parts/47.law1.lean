/-! The law. -/
set_option maxHeartbeats 4000000 in
set_option maxRecDepth 100000 in
theorem law_go {l : Launch} {K : gx_K} {GG : gx_J} (hL : gx_L l K GG) (hK260 : K.2.2.2.1 ≤ 260) (ad : Nat → Nat) : GG 23 2602 (wZ K ad cNew (fun _ _ => 0) 0 0 ++ []) [(1, .ref (ad 0)), (0, .ref K.2.2.1)] 8 [] := by
  have hB := gx_Lb hL
  refine gx_bipush (pc := 8) hB dL_law_8 8 (by decide) ?_
  refine gx_newa (pc := 10) hB dL_law_10 (ty := .int) rfl 1 rfl (fun _ _ h => h) tb_67 (N' := 8) (8, .inl (fun _ => 0)) (fun _ => rfl) (by decide) rfl (by decide) (Nat.le_of_ble_eq_true rfl) (Nat.le_of_ble_eq_true rfl) (fun y1 => ?_)
  refine gx_kn (k' := 24) (n' := 2610) rfl rfl ?_
  refine gx_ws (ws' := (wZ K ad cNew (fun _ _ => 0) 0 0 ++ [(y1, .inl (K.2.1.2.1, 8, .inl (fun _ => 0)))])) rfl ?_
  refine gx_astore_n (pc := 12) hB dL_law_12 (by decide) [(2, .ref y1), (1, .ref (ad 0)), (0, .ref K.2.2.1)] rfl ?_
  refine gx_bipush (pc := 13) hB dL_law_13 60 (by decide) ?_
  refine gx_newa (pc := 15) hB dL_law_15 (ty := .int) rfl 1 rfl (fun _ _ h => h) tb_67 (N' := 60) (60, .inl (fun _ => 0)) (fun _ => rfl) (by decide) rfl (by decide) (Nat.le_of_ble_eq_true rfl) (Nat.le_of_ble_eq_true rfl) (fun y2 => ?_)
  refine gx_kn (k' := 25) (n' := 2670) rfl rfl ?_
  refine gx_ws (ws' := (wZ K ad cNew (fun _ _ => 0) 0 0 ++ [(y1, .inl (K.2.1.2.1, 8, .inl (fun _ => 0))), (y2, .inl (K.2.1.2.1, 60, .inl (fun _ => 0)))])) rfl ?_
  refine gx_astore_n (pc := 17) hB dL_law_17 (by decide) [(3, .ref y2), (2, .ref y1), (1, .ref (ad 0)), (0, .ref K.2.2.1)] rfl ?_
  refine gx_bipush (pc := 18) hB dL_law_18 56 (by decide) ?_
  refine gx_newa (pc := 20) hB dL_law_20 (ty := .int) rfl 1 rfl (fun _ _ h => h) tb_67 (N' := 56) (56, .inl (fun _ => 0)) (fun _ => rfl) (by decide) rfl (by decide) (Nat.le_of_ble_eq_true rfl) (Nat.le_of_ble_eq_true rfl) (fun y3 => ?_)
  refine gx_kn (k' := 26) (n' := 2726) rfl rfl ?_
  refine gx_ws (ws' := (wZ K ad cNew (fun _ _ => 0) 0 0 ++ [(y1, .inl (K.2.1.2.1, 8, .inl (fun _ => 0))), (y2, .inl (K.2.1.2.1, 60, .inl (fun _ => 0))), (y3, .inl (K.2.1.2.1, 56, .inl (fun _ => 0)))])) rfl ?_
  refine gx_astore (pc := 22) hB dL_law_22 (by decide) [(4, .ref y3), (3, .ref y2), (2, .ref y1), (1, .ref (ad 0)), (0, .ref K.2.2.1)] rfl ?_
  refine gx_bipush (pc := 24) hB dL_law_24 48 (by decide) ?_
  refine gx_newa (pc := 26) hB dL_law_26 (ty := .int) rfl 1 rfl (fun _ _ h => h) tb_67 (N' := 48) (48, .inl (fun _ => 0)) (fun _ => rfl) (by decide) rfl (by decide) (Nat.le_of_ble_eq_true rfl) (Nat.le_of_ble_eq_true rfl) (fun y4 => ?_)
  refine gx_kn (k' := 27) (n' := 2774) rfl rfl ?_
  refine gx_ws (ws' := (wZ K ad cNew (fun _ _ => 0) 0 0 ++ [(y1, .inl (K.2.1.2.1, 8, .inl (fun _ => 0))), (y2, .inl (K.2.1.2.1, 60, .inl (fun _ => 0))), (y3, .inl (K.2.1.2.1, 56, .inl (fun _ => 0))), (y4, .inl (K.2.1.2.1, 48, .inl (fun _ => 0)))])) rfl ?_
  refine gx_astore (pc := 28) hB dL_law_28 (by decide) [(5, .ref y4), (4, .ref y3), (3, .ref y2), (2, .ref y1), (1, .ref (ad 0)), (0, .ref K.2.2.1)] rfl ?_
  refine gx_bipush (pc := 30) hB dL_law_30 48 (by decide) ?_
  refine gx_newa (pc := 32) hB dL_law_32 (ty := .int) rfl 1 rfl (fun _ _ h => h) tb_67 (N' := 48) (48, .inl (fun _ => 0)) (fun _ => rfl) (by decide) rfl (by decide) (Nat.le_of_ble_eq_true rfl) (Nat.le_of_ble_eq_true rfl) (fun y5 => ?_)
  refine gx_kn (k' := 28) (n' := 2822) rfl rfl ?_
  refine gx_ws (ws' := (wZ K ad cNew (fun _ _ => 0) 0 0 ++ [(y1, .inl (K.2.1.2.1, 8, .inl (fun _ => 0))), (y2, .inl (K.2.1.2.1, 60, .inl (fun _ => 0))), (y3, .inl (K.2.1.2.1, 56, .inl (fun _ => 0))), (y4, .inl (K.2.1.2.1, 48, .inl (fun _ => 0))), (y5, .inl (K.2.1.2.1, 48, .inl (fun _ => 0)))])) rfl ?_
  refine gx_astore (pc := 34) hB dL_law_34 (by decide) [(6, .ref y5), (5, .ref y4), (4, .ref y3), (3, .ref y2), (2, .ref y1), (1, .ref (ad 0)), (0, .ref K.2.2.1)] rfl ?_
  refine gx_bipush (pc := 36) hB dL_law_36 48 (by decide) ?_
  refine gx_newa (pc := 38) hB dL_law_38 (ty := .int) rfl 1 rfl (fun _ _ h => h) tb_67 (N' := 48) (48, .inl (fun _ => 0)) (fun _ => rfl) (by decide) rfl (by decide) (Nat.le_of_ble_eq_true rfl) (Nat.le_of_ble_eq_true rfl) (fun y6 => ?_)
  refine gx_kn (k' := 29) (n' := 2870) rfl rfl ?_
  refine gx_ws (ws' := (wZ K ad cNew (fun _ _ => 0) 0 0 ++ [(y1, .inl (K.2.1.2.1, 8, .inl (fun _ => 0))), (y2, .inl (K.2.1.2.1, 60, .inl (fun _ => 0))), (y3, .inl (K.2.1.2.1, 56, .inl (fun _ => 0))), (y4, .inl (K.2.1.2.1, 48, .inl (fun _ => 0))), (y5, .inl (K.2.1.2.1, 48, .inl (fun _ => 0))), (y6, .inl (K.2.1.2.1, 48, .inl (fun _ => 0)))])) rfl ?_
  refine gx_astore (pc := 40) hB dL_law_40 (by decide) [(7, .ref y6), (6, .ref y5), (5, .ref y4), (4, .ref y3), (3, .ref y2), (2, .ref y1), (1, .ref (ad 0)), (0, .ref K.2.2.1)] rfl ?_
  refine gx_bipush (pc := 42) hB dL_law_42 48 (by decide) ?_
  refine gx_newa (pc := 44) hB dL_law_44 (ty := .int) rfl 1 rfl (fun _ _ h => h) tb_67 (N' := 48) (48, .inl (fun _ => 0)) (fun _ => rfl) (by decide) rfl (by decide) (Nat.le_of_ble_eq_true rfl) (Nat.le_of_ble_eq_true rfl) (fun y7 => ?_)
  refine gx_kn (k' := 30) (n' := 2918) rfl rfl ?_
  refine gx_ws (ws' := (wZ K ad cNew (fun _ _ => 0) 0 0 ++ [(y1, .inl (K.2.1.2.1, 8, .inl (fun _ => 0))), (y2, .inl (K.2.1.2.1, 60, .inl (fun _ => 0))), (y3, .inl (K.2.1.2.1, 56, .inl (fun _ => 0))), (y4, .inl (K.2.1.2.1, 48, .inl (fun _ => 0))), (y5, .inl (K.2.1.2.1, 48, .inl (fun _ => 0))), (y6, .inl (K.2.1.2.1, 48, .inl (fun _ => 0))), (y7, .inl (K.2.1.2.1, 48, .inl (fun _ => 0)))])) rfl ?_
  refine gx_astore (pc := 46) hB dL_law_46 (by decide) [(8, .ref y7), (7, .ref y6), (6, .ref y5), (5, .ref y4), (4, .ref y3), (3, .ref y2), (2, .ref y1), (1, .ref (ad 0)), (0, .ref K.2.2.1)] rfl ?_
  refine gx_aload_n (pc := 48) hB dL_law_48 6 rfl ?_
  refine gx_iconst (pc := 49) hB dL_law_49 0 (by decide) ?_
  refine gx_bipush (pc := 50) hB dL_law_50 60 (by decide) ?_
  refine gx_iast (pc := 52) hB dL_law_52 23 1 rfl rfl 0 rfl (by decide) (by decide) ((wZ K ad cNew (fun _ _ => 0) 0 0 ++ [(y1, .inl (K.2.1.2.1, 8, .inl (upd (fun _ => 0) 0 60))), (y2, .inl (K.2.1.2.1, 60, .inl (fun _ => 0))), (y3, .inl (K.2.1.2.1, 56, .inl (fun _ => 0))), (y4, .inl (K.2.1.2.1, 48, .inl (fun _ => 0))), (y5, .inl (K.2.1.2.1, 48, .inl (fun _ => 0))), (y6, .inl (K.2.1.2.1, 48, .inl (fun _ => 0))), (y7, .inl (K.2.1.2.1, 48, .inl (fun _ => 0)))])) rfl ?_
  refine gx_aload_n (pc := 53) hB dL_law_53 6 rfl ?_
  refine gx_iconst (pc := 54) hB dL_law_54 1 (by decide) ?_
  refine gx_sipush (pc := 55) hB dL_law_55 5000 (by decide) ?_
  refine gx_iast (pc := 58) hB dL_law_58 23 1 rfl rfl 1 rfl (by decide) (by decide) ((wZ K ad cNew (fun _ _ => 0) 0 0 ++ [(y1, .inl (K.2.1.2.1, 8, .inl (upd (upd (fun _ => 0) 0 60) 1 5000))), (y2, .inl (K.2.1.2.1, 60, .inl (fun _ => 0))), (y3, .inl (K.2.1.2.1, 56, .inl (fun _ => 0))), (y4, .inl (K.2.1.2.1, 48, .inl (fun _ => 0))), (y5, .inl (K.2.1.2.1, 48, .inl (fun _ => 0))), (y6, .inl (K.2.1.2.1, 48, .inl (fun _ => 0))), (y7, .inl (K.2.1.2.1, 48, .inl (fun _ => 0)))])) rfl ?_
  refine gx_aload_n (pc := 59) hB dL_law_59 6 rfl ?_
  refine gx_iconst (pc := 60) hB dL_law_60 2 (by decide) ?_
  refine gx_iconst (pc := 61) hB dL_law_61 1 (by decide) ?_
  refine gx_iast (pc := 62) hB dL_law_62 23 1 rfl rfl 2 rfl (by decide) (by decide) ((wZ K ad cNew (fun _ _ => 0) 0 0 ++ [(y1, .inl (K.2.1.2.1, 8, .inl (upd (upd (upd (fun _ => 0) 0 60) 1 5000) 2 1))), (y2, .inl (K.2.1.2.1, 60, .inl (fun _ => 0))), (y3, .inl (K.2.1.2.1, 56, .inl (fun _ => 0))), (y4, .inl (K.2.1.2.1, 48, .inl (fun _ => 0))), (y5, .inl (K.2.1.2.1, 48, .inl (fun _ => 0))), (y6, .inl (K.2.1.2.1, 48, .inl (fun _ => 0))), (y7, .inl (K.2.1.2.1, 48, .inl (fun _ => 0)))])) rfl ?_
  refine gx_aload_n (pc := 63) hB dL_law_63 5 rfl ?_
  refine gx_bipush (pc := 64) hB dL_law_64 9 (by decide) ?_
  refine gx_bipush (pc := 66) hB dL_law_66 (-4) (by decide) ?_
  refine gx_iast (pc := 68) hB dL_law_68 24 1 rfl rfl 9 rfl (by decide) (by decide) ((wZ K ad cNew (fun _ _ => 0) 0 0 ++ [(y1, .inl (K.2.1.2.1, 8, .inl (upd (upd (upd (fun _ => 0) 0 60) 1 5000) 2 1))), (y2, .inl (K.2.1.2.1, 60, .inl (upd (fun _ => 0) 9 (-4)))), (y3, .inl (K.2.1.2.1, 56, .inl (fun _ => 0))), (y4, .inl (K.2.1.2.1, 48, .inl (fun _ => 0))), (y5, .inl (K.2.1.2.1, 48, .inl (fun _ => 0))), (y6, .inl (K.2.1.2.1, 48, .inl (fun _ => 0))), (y7, .inl (K.2.1.2.1, 48, .inl (fun _ => 0)))])) rfl ?_
  refine gx_aload_n (pc := 69) hB dL_law_69 7 rfl ?_
  refine gx_aload_n (pc := 70) hB dL_law_70 6 rfl ?_
  refine gx_aload_n (pc := 71) hB dL_law_71 5 rfl ?_
  refine gx_aload (pc := 72) hB dL_law_72 4 rfl ?_
  refine gx_aload (pc := 74) hB dL_law_74 3 rfl ?_
  refine gx_aload (pc := 76) hB dL_law_76 2 rfl ?_
  refine gx_aload (pc := 78) hB dL_law_78 1 rfl ?_
  refine gx_aload (pc := 80) hB dL_law_80 0 rfl ?_
  refine gx_ws (ws' := (wZ K ad cNew (fun _ _ => 0) 0 0 ++ [(y1, .inl (K.2.1.2.1, 8, .inl G0n)), (y2, .inl (K.2.1.2.1, 60, .inl F0n)), (y3, .inl (K.2.1.2.1, 56, .inl (fun _ => 0))), (y4, .inl (K.2.1.2.1, 48, .inl (fun _ => 0))), (y5, .inl (K.2.1.2.1, 48, .inl (fun _ => 0))), (y6, .inl (K.2.1.2.1, 48, .inl (fun _ => 0))), (y7, .inl (K.2.1.2.1, 48, .inl (fun _ => 0)))])) rfl ?_
  refine gx_callS (pc := 82) (wr := []) hB (c_L_isSo l K ad y1 y2 y3 y4 y5 y6 y7 cNew (fun _ _ => 0) 0 0 G0n F0n (fun _ => 0) (fun _ => 0) (fun _ => 0) (fun _ => 0) (fun _ => 0) sNew 1 0 0 0 LJ_new) mL_isSo dL_law_82 tb_490 pL_isSo ⟨Nat.le_of_ble_eq_true rfl, Nat.le_of_ble_eq_true rfl, show 30 + 1 ≤ 600000 by omega, show 2918 + 10 ≤ 7302250 by omega⟩ (rest := []) rfl (Nat.le_of_ble_eq_true rfl) [0, 1, 2, 3, 4, 5, 6, 7, 8, 9, 10, 11, 12, 13, 14, 15, 16, 17, 18, 19, 20, 21, 22, 23, 24, 25, 26, 27, 28, 29] [] rfl rfl (by decide) (by decide) (by decide) (fun v82 w82 hp82 => ?_)
  obtain ⟨rfl, rfl⟩ := hp82
  refine gx_kn (k' := 31) (n' := 2928) rfl rfl ?_
  refine gx_st (st' := [.int 1]) rfl ?_
  refine gx_perm hB (ws' := (wZ K ad cNew (fun _ _ => 0) 0 0 ++ [(y1, .inl (K.2.1.2.1, 8, .inl G0n)), (y2, .inl (K.2.1.2.1, 60, .inl F0n)), (y3, .inl (K.2.1.2.1, 56, .inl (fun _ => 0))), (y4, .inl (K.2.1.2.1, 48, .inl (fun _ => 0))), (y5, .inl (K.2.1.2.1, 48, .inl (fun _ => 0))), (y6, .inl (K.2.1.2.1, 48, .inl (fun _ => 0))), (y7, .inl (K.2.1.2.1, 48, .inl (fun _ => 0)))])) [0, 1, 2, 3, 4, 5, 6, 7, 8, 9, 10, 11, 12, 13, 14, 15, 16, 17, 18, 19, 20, 21, 22, 23, 24, 25, 26, 27, 28, 29] (by decide) rfl ?_
  refine gx_istore (pc := 85) hB dL_law_85 (by decide) [(9, .int 1), (8, .ref y7), (7, .ref y6), (6, .ref y5), (5, .ref y4), (4, .ref y3), (3, .ref y2), (2, .ref y1), (1, .ref (ad 0)), (0, .ref K.2.2.1)] rfl ?_
  refine gx_iconst (pc := 87) hB dL_law_87 0 (by decide) ?_
  refine gx_istore (pc := 88) hB dL_law_88 (by decide) [(10, .int 0), (9, .int 1), (8, .ref y7), (7, .ref y6), (6, .ref y5), (5, .ref y4), (4, .ref y3), (3, .ref y2), (2, .ref y1), (1, .ref (ad 0)), (0, .ref K.2.2.1)] rfl ?_
  have loop_90 : ∀ (dq i : Nat) (k1 : Nat) (n1 : Nat) (C : Nat → Int32) (R : Nat → Nat → Int32) (od : Nat) (sn : Nat) (G : Nat → Int32) (F : Nat → Int32) (D : Nat → Int32) (H : Nat → Int32) (V : Nat → Int32) (J : Nat → Int32) (Q : Nat → Int32), i + dq = 10 → (k1 ≤ 100 + 2 * i) → (n1 ≤ 5000 + 20 * i) → (LI C G F D H V J Q od sn) → GG k1 n1 ((wZ K ad C R od sn ++ [(y1, .inl (K.2.1.2.1, 8, .inl G)), (y2, .inl (K.2.1.2.1, 60, .inl F)), (y3, .inl (K.2.1.2.1, 56, .inl D)), (y4, .inl (K.2.1.2.1, 48, .inl H)), (y5, .inl (K.2.1.2.1, 48, .inl V)), (y6, .inl (K.2.1.2.1, 48, .inl J)), (y7, .inl (K.2.1.2.1, 48, .inl Q))])) [(0, .ref K.2.2.1), (1, .ref (ad 0)), (2, .ref y1), (3, .ref y2), (4, .ref y3), (5, .ref y4), (6, .ref y5), (7, .ref y6), (8, .ref y7), (9, .int 1), (10, .int (nI i))] 90 [] := by
    intro dq
    induction dq with
    | zero =>
      intro i k1 n1 C R od sn G F D H V J Q hi90 hk hn hI
      have hz90 : i = 10 := by omega
      refine gx_iload (pc := 90) hB dL_law_90 10 rfl ?_
      refine gx_bipush (pc := 92) hB dL_law_92 10 (by decide) ?_
      refine gx_icmp_ge (pc := 94) hB 177 dL_law_94 (by decide) (fun c_8 => ?_) (fun c_8 => ?_)
      · refine gx_bipush (pc := 177) hB dL_law_177 12 (by decide) ?_
        refine gx_aload_n (pc := 179) hB dL_law_179 0 rfl ?_
        refine gx_iconst (pc := 180) hB dL_law_180 0 (by decide) ?_
        refine gx_dSi (pc := 181) (r := ceK K 0) (wr := (wZ K ad C R od sn ++ [(y1, .inl (K.2.1.2.1, 8, .inl G)), (y2, .inl (K.2.1.2.1, 60, .inl F)), (y3, .inl (K.2.1.2.1, 56, .inl D)), (y4, .inl (K.2.1.2.1, 48, .inl H)), (y5, .inl (K.2.1.2.1, 48, .inl V)), (y6, .inl (K.2.1.2.1, 48, .inl J)), (y7, .inl (K.2.1.2.1, 48, .inl Q))])) hB (c_L_cell l K 0 hK260 (by first | assumption | omega | decide)) mL_cell dL_law_181 tb_208 pL_cell ⟨Nat.le_of_ble_eq_true rfl, Nat.le_of_ble_eq_true rfl⟩ ⟨rfl, rfl⟩ ⟨show k1 ≤ 600000 by omega, show n1 ≤ 7302250 by omega⟩ rfl (Nat.le_of_ble_eq_true rfl) [] [0, 1, 2, 3, 4, 5, 6, 7, 8, 9, 10, 11, 12, 13, 14, 15, 16, 17, 18, 19, 20, 21, 22, 23, 24, 25, 26, 27, 28, 29] rfl rfl (by decide) (by decide) (by decide) [0, 1, 2, 3, 4, 5, 6, 7, 8, 9, 10, 11, 12, 13, 14, 15, 16, 17, 18, 19, 20, 21, 22, 23, 24, 25, 26, 27, 28, 29] (by decide) ((wZ K ad C R od sn ++ [(y1, .inl (K.2.1.2.1, 8, .inl G)), (y2, .inl (K.2.1.2.1, 60, .inl F)), (y3, .inl (K.2.1.2.1, 56, .inl D)), (y4, .inl (K.2.1.2.1, 48, .inl H)), (y5, .inl (K.2.1.2.1, 48, .inl V)), (y6, .inl (K.2.1.2.1, 48, .inl J)), (y7, .inl (K.2.1.2.1, 48, .inl Q))])) rfl ?_
        refine gx_bipush (pc := 184) hB dL_law_184 50 (by decide) ?_
        refine gx_dSi (pc := 186) (r := nI (loN (ceK K 0) 50)) (wr := (wZ K ad C R od sn ++ [(y1, .inl (K.2.1.2.1, 8, .inl G)), (y2, .inl (K.2.1.2.1, 60, .inl F)), (y3, .inl (K.2.1.2.1, 56, .inl D)), (y4, .inl (K.2.1.2.1, 48, .inl H)), (y5, .inl (K.2.1.2.1, 48, .inl V)), (y6, .inl (K.2.1.2.1, 48, .inl J)), (y7, .inl (K.2.1.2.1, 48, .inl Q))])) hB (c_L_low l K (ceK K 0) 50 (by first | assumption | omega | decide) (by first | assumption | omega | decide)) mL_low dL_law_186 tb_212 pL_low ⟨Nat.le_of_ble_eq_true rfl, Nat.le_of_ble_eq_true rfl⟩ ⟨rfl, rfl⟩ ⟨show k1 ≤ 600000 by omega, show n1 ≤ 7302250 by omega⟩ rfl (Nat.le_of_ble_eq_true rfl) [] [0, 1, 2, 3, 4, 5, 6, 7, 8, 9, 10, 11, 12, 13, 14, 15, 16, 17, 18, 19, 20, 21, 22, 23, 24, 25, 26, 27, 28, 29] rfl rfl (by decide) (by decide) (by decide) [0, 1, 2, 3, 4, 5, 6, 7, 8, 9, 10, 11, 12, 13, 14, 15, 16, 17, 18, 19, 20, 21, 22, 23, 24, 25, 26, 27, 28, 29] (by decide) ((wZ K ad C R od sn ++ [(y1, .inl (K.2.1.2.1, 8, .inl G)), (y2, .inl (K.2.1.2.1, 60, .inl F)), (y3, .inl (K.2.1.2.1, 56, .inl D)), (y4, .inl (K.2.1.2.1, 48, .inl H)), (y5, .inl (K.2.1.2.1, 48, .inl V)), (y6, .inl (K.2.1.2.1, 48, .inl J)), (y7, .inl (K.2.1.2.1, 48, .inl Q))])) rfl ?_
        refine gx_iadd (pc := 189) hB dL_law_189 ?_
        refine gx_top (show 12 + (nI (loN (ceK K 0) 50)) = nI (12 + (loN (ceK K 0) 50)) from nI_add 12 (loN (ceK K 0) 50)) ?_
        obtain ⟨t, ht, et⟩ : ∃ zz : Nat, zz < 62 ∧ nI (12 + (loN (ceK K 0) 50)) = nI zz := ⟨_, (by have z := lo_lt (v := ceK K 0) (m := 50) (by decide); omega), rfl⟩
        refine gx_top et ?_
        refine gx_istore (pc := 190) hB dL_law_190 (by decide) [(10, .int (nI t)), (0, .ref K.2.2.1), (1, .ref (ad 0)), (2, .ref y1), (3, .ref y2), (4, .ref y3), (5, .ref y4), (6, .ref y5), (7, .ref y6), (8, .ref y7), (9, .int 1)] rfl ?_
        refine gx_iconst (pc := 192) hB dL_law_192 0 (by decide) ?_
        refine gx_istore (pc := 193) hB dL_law_193 (by decide) [(11, .int 0), (10, .int (nI t)), (0, .ref K.2.2.1), (1, .ref (ad 0)), (2, .ref y1), (3, .ref y2), (4, .ref y3), (5, .ref y4), (6, .ref y5), (7, .ref y6), (8, .ref y7), (9, .int 1)] rfl ?_
        have loop_195 : ∀ (dq i : Nat) (k1 : Nat) (n1 : Nat) (C : Nat → Int32) (R : Nat → Nat → Int32) (od : Nat) (sn : Nat) (G : Nat → Int32) (F : Nat → Int32) (D : Nat → Int32) (H : Nat → Int32) (V : Nat → Int32) (J : Nat → Int32) (Q : Nat → Int32), i + dq = t → (k1 ≤ 200 + 2 * i) → (n1 ≤ 6000 + 20 * i) → (LI C G F D H V J Q od sn) → GG k1 n1 ((wZ K ad C R od sn ++ [(y1, .inl (K.2.1.2.1, 8, .inl G)), (y2, .inl (K.2.1.2.1, 60, .inl F)), (y3, .inl (K.2.1.2.1, 56, .inl D)), (y4, .inl (K.2.1.2.1, 48, .inl H)), (y5, .inl (K.2.1.2.1, 48, .inl V)), (y6, .inl (K.2.1.2.1, 48, .inl J)), (y7, .inl (K.2.1.2.1, 48, .inl Q))])) [(0, .ref K.2.2.1), (1, .ref (ad 0)), (2, .ref y1), (3, .ref y2), (4, .ref y3), (5, .ref y4), (6, .ref y5), (7, .ref y6), (8, .ref y7), (9, .int 1), (10, .int (nI t)), (11, .int (nI i))] 195 [] := by
          intro dq
          induction dq with
          | zero =>
            intro i k1 n1 C R od sn G F D H V J Q hi195 hk hn hI
            have hz195 : i = t := by omega
            refine gx_iload (pc := 195) hB dL_law_195 11 rfl ?_
            refine gx_iload (pc := 197) hB dL_law_197 10 rfl ?_
            refine gx_icmp_ge (pc := 199) hB 274 dL_law_199 (by decide) (fun c_9 => ?_) (fun c_9 => ?_)
            · obtain ⟨S, a, b, c, e, h0⟩ := hI
              have ho := h0.2.2.2.2.1
              have hsn := h0.2.2.2.2.2
              refine gx_iload (pc := 274) hB dL_law_274 9 rfl ?_
              refine gx_if_eq (pc := 276) hB 312 dL_law_276 (by decide) (fun c_10 => ?_) (fun c_10 => ?_)
              · exact absurd c_10 (by decide)
              · refine gx_aload_n (pc := 279) hB dL_law_279 1 rfl ?_
                refine gx_bipush (pc := 280) hB dL_law_280 15 (by decide) ?_
                refine gx_dVA (pc := 282) (r := ctF C sn 0 15) (W1 := wZ K ad C R od sn) (wr := [(y1, .inl (K.2.1.2.1, 8, .inl G)), (y2, .inl (K.2.1.2.1, 60, .inl F)), (y3, .inl (K.2.1.2.1, 56, .inl D)), (y4, .inl (K.2.1.2.1, 48, .inl H)), (y5, .inl (K.2.1.2.1, 48, .inl V)), (y6, .inl (K.2.1.2.1, 48, .inl J)), (y7, .inl (K.2.1.2.1, 48, .inl Q))]) hB (k_count l K ad C R od sn 15 ho hsn) mX4_count dL_law_282 tb_179 pX4_count ⟨Nat.le_of_ble_eq_true rfl, Nat.le_of_ble_eq_true rfl⟩ ⟨rfl, rfl⟩ ⟨show k1 ≤ 600000 by omega, show n1 ≤ 7302250 by omega⟩ rfl (Nat.le_of_ble_eq_true rfl) (List.range 23) (List.range' 23 7) rfl rfl (by decide) (by decide) (by decide) rfl rfl (List.range' 7 23 ++ List.range 7) (by decide) rfl ?_
                have e_1 := (tc h0).2.2.2.2.2.2.2.2.2.2.2.2.2.2.1
                refine gx_top (x := ctF C sn 0 15) (y := (-1)) e_1 ?_
                refine gx_iconst (pc := 285) hB dL_law_285 (-1) (by decide) ?_
                refine gx_icmp_ne (pc := 286) hB 312 dL_law_286 (by decide) (fun c_11 => ?_) (fun c_11 => ?_)
                · exact absurd c_11 (by decide)
                · refine gx_aload_n (pc := 289) hB dL_law_289 1 rfl ?_
                  refine gx_iconst (pc := 290) hB dL_law_290 (-1) (by decide) ?_
                  refine gx_dVA (pc := 291) (r := ctF C sn 0 (-1)) (W1 := wZ K ad C R od sn) (wr := [(y1, .inl (K.2.1.2.1, 8, .inl G)), (y2, .inl (K.2.1.2.1, 60, .inl F)), (y3, .inl (K.2.1.2.1, 56, .inl D)), (y4, .inl (K.2.1.2.1, 48, .inl H)), (y5, .inl (K.2.1.2.1, 48, .inl V)), (y6, .inl (K.2.1.2.1, 48, .inl J)), (y7, .inl (K.2.1.2.1, 48, .inl Q))]) hB (k_count l K ad C R od sn (-1) ho hsn) mX4_count dL_law_291 tb_179 pX4_count ⟨Nat.le_of_ble_eq_true rfl, Nat.le_of_ble_eq_true rfl⟩ ⟨rfl, rfl⟩ ⟨show k1 ≤ 600000 by omega, show n1 ≤ 7302250 by omega⟩ rfl (Nat.le_of_ble_eq_true rfl) (List.range 23) (List.range' 23 7) rfl rfl (by decide) (by decide) (by decide) rfl rfl (List.range' 7 23 ++ List.range 7) (by decide) rfl ?_
                  have e_1 := (tc h0).2.2.2.2.2.2.2.2.2.2.2.2.2.2.2
                  refine gx_top (x := ctF C sn 0 (-1)) (y := (-1)) e_1 ?_
                  refine gx_iconst (pc := 294) hB dL_law_294 (-1) (by decide) ?_
                  refine gx_icmp_ne (pc := 295) hB 312 dL_law_295 (by decide) (fun c_12 => ?_) (fun c_12 => ?_)
                  · exact absurd c_12 (by decide)
                  · refine gx_aload_n (pc := 298) hB dL_law_298 1 rfl ?_
                    refine gx_iconst (pc := 299) hB dL_law_299 0 (by decide) ?_
                    refine gx_iconst (pc := 300) hB dL_law_300 (-1) (by decide) ?_
                    refine gx_dVA (pc := 301) (r := bTellP C 0 (-1)) (W1 := wZ K ad C R od sn) (wr := [(y1, .inl (K.2.1.2.1, 8, .inl G)), (y2, .inl (K.2.1.2.1, 60, .inl F)), (y3, .inl (K.2.1.2.1, 56, .inl D)), (y4, .inl (K.2.1.2.1, 48, .inl H)), (y5, .inl (K.2.1.2.1, 48, .inl V)), (y6, .inl (K.2.1.2.1, 48, .inl J)), (y7, .inl (K.2.1.2.1, 48, .inl Q))]) hB (k_purposeOf l K ad C R od sn 0 (-1) ho hsn) mX4_purposeOf dL_law_301 tb_156 pX4_purposeOf ⟨Nat.le_of_ble_eq_true rfl, Nat.le_of_ble_eq_true rfl⟩ ⟨rfl, rfl⟩ ⟨show k1 ≤ 600000 by omega, show n1 ≤ 7302250 by omega⟩ rfl (Nat.le_of_ble_eq_true rfl) (List.range 23) (List.range' 23 7) rfl rfl (by decide) (by decide) (by decide) rfl rfl (List.range' 7 23 ++ List.range 7) (by decide) rfl ?_
                    have e_1 := tp_m1 h0
                    refine gx_top (x := bTellP C 0 (-1)) (y := (-1)) e_1 ?_
                    refine gx_iconst (pc := 304) hB dL_law_304 (-1) (by decide) ?_
                    refine gx_icmp_ne (pc := 305) hB 312 dL_law_305 (by decide) (fun c_13 => ?_) (fun c_13 => ?_)
                    · exact absurd c_13 (by decide)
                    · refine gx_iconst (pc := 308) hB dL_law_308 1 (by decide) ?_
                      refine gx_goto (pc := 309) hB 313 dL_law_309 (by decide) ?_
                      exact gx_lend (pc := 313) hL dL_law_313 (show k1 ≤ 600000 by omega) (show n1 ≤ 7302250 by omega)
            · exact absurd (lpTn (c := t) (by omega) hi195) c_9
          | succ dq ih195 =>
            intro i k1 n1 C R od sn G F D H V J Q hi195 hk hn hI
            have hi : i < t := by omega
            obtain ⟨S, a, b, c, e, h0⟩ := hI
            refine gx_iload (pc := 195) hB dL_law_195 11 rfl ?_
            refine gx_iload (pc := 197) hB dL_law_197 10 rfl ?_
            refine gx_icmp_ge (pc := 199) hB 274 dL_law_199 (by decide) (fun c_14 => ?_) (fun c_14 => ?_)
            · exact absurd c_14 (lpFn (c := t) (by omega) hi195)
            · refine gx_iload (pc := 202) hB dL_law_202 9 rfl ?_
              refine gx_if_eq (pc := 204) hB 274 dL_law_204 (by decide) (fun c_15 => ?_) (fun c_15 => ?_)
              · exact absurd c_15 (by decide)
              · refine gx_aload_n (pc := 207) hB dL_law_207 1 rfl ?_
                refine gx_aload_n (pc := 208) hB dL_law_208 2 rfl ?_
                refine gx_aload_n (pc := 209) hB dL_law_209 3 rfl ?_
                refine gx_aload (pc := 210) hB dL_law_210 4 rfl ?_
                refine gx_aload (pc := 212) hB dL_law_212 5 rfl ?_
                refine gx_aload (pc := 214) hB dL_law_214 6 rfl ?_
                refine gx_aload (pc := 216) hB dL_law_216 7 rfl ?_
                refine gx_aload (pc := 218) hB dL_law_218 8 rfl ?_
                refine gx_aload_n (pc := 220) hB dL_law_220 0 rfl ?_
                refine gx_bipush (pc := 221) hB dL_law_221 11 (by decide) ?_
                refine gx_iload (pc := 223) hB dL_law_223 11 rfl ?_
                refine gx_iadd (pc := 225) hB dL_law_225 ?_
                refine gx_top (show 11 + nI i = nI (11 + i) from nI_add 11 i) ?_
                refine gx_dSi (pc := 226) (r := ceK K (11 + i)) (wr := (wZ K ad C R od sn ++ [(y1, .inl (K.2.1.2.1, 8, .inl G)), (y2, .inl (K.2.1.2.1, 60, .inl F)), (y3, .inl (K.2.1.2.1, 56, .inl D)), (y4, .inl (K.2.1.2.1, 48, .inl H)), (y5, .inl (K.2.1.2.1, 48, .inl V)), (y6, .inl (K.2.1.2.1, 48, .inl J)), (y7, .inl (K.2.1.2.1, 48, .inl Q))])) hB (c_L_cell l K (11 + i) hK260 (by first | assumption | omega | decide)) mL_cell dL_law_226 tb_208 pL_cell ⟨Nat.le_of_ble_eq_true rfl, Nat.le_of_ble_eq_true rfl⟩ ⟨rfl, rfl⟩ ⟨show k1 ≤ 600000 by omega, show n1 ≤ 7302250 by omega⟩ rfl (Nat.le_of_ble_eq_true rfl) [] [0, 1, 2, 3, 4, 5, 6, 7, 8, 9, 10, 11, 12, 13, 14, 15, 16, 17, 18, 19, 20, 21, 22, 23, 24, 25, 26, 27, 28, 29] rfl rfl (by decide) (by decide) (by decide) [0, 1, 2, 3, 4, 5, 6, 7, 8, 9, 10, 11, 12, 13, 14, 15, 16, 17, 18, 19, 20, 21, 22, 23, 24, 25, 26, 27, 28, 29] (by decide) ((wZ K ad C R od sn ++ [(y1, .inl (K.2.1.2.1, 8, .inl G)), (y2, .inl (K.2.1.2.1, 60, .inl F)), (y3, .inl (K.2.1.2.1, 56, .inl D)), (y4, .inl (K.2.1.2.1, 48, .inl H)), (y5, .inl (K.2.1.2.1, 48, .inl V)), (y6, .inl (K.2.1.2.1, 48, .inl J)), (y7, .inl (K.2.1.2.1, 48, .inl Q))])) rfl ?_
                refine gx_sipush (pc := 229) hB dL_law_229 7919 (by decide) ?_
                refine gx_iload (pc := 232) hB dL_law_232 11 rfl ?_
                refine gx_imul (pc := 234) hB dL_law_234 ?_
                refine gx_top (show 7919 * nI i = nI (7919 * i) from pk_mul 7919 i) ?_
                refine gx_ixor (pc := 235) hB dL_law_235 ?_
                refine gx_callS (pc := 236) (wr := []) hB (c_L_acts l K ad y1 y2 y3 y4 y5 y6 y7 C R od sn G F D H V J Q S a b c e ((ceK K (11 + i)) ^^^ (nI (7919 * i))) (by first | assumption | omega | decide)) mL_acts dL_law_236 tb_216 pL_acts ⟨Nat.le_of_ble_eq_true rfl, Nat.le_of_ble_eq_true rfl, show k1 + 1 ≤ 600000 by omega, show n1 + 1 ≤ 7302250 by omega⟩ (rest := []) rfl (Nat.le_of_ble_eq_true rfl) [0, 1, 2, 3, 4, 5, 6, 7, 8, 9, 10, 11, 12, 13, 14, 15, 16, 17, 18, 19, 20, 21, 22, 23, 24, 25, 26, 27, 28, 29] [] rfl rfl (by decide) (by decide) (by decide) (fun v236 w236 hp236 => ?_)
                obtain ⟨rfl, C1, R1, od1, sn1, G1, F1, D1, H1, V1, J1, Q1, rfl, hI1⟩ := hp236
                refine gx_kn (k' := k1 + 1) (n' := n1 + 1) rfl rfl ?_
                refine gx_st (st' := [.int 1]) rfl ?_
                refine gx_perm hB (ws' := (wZ K ad C1 R1 od1 sn1 ++ [(y1, .inl (K.2.1.2.1, 8, .inl G1)), (y2, .inl (K.2.1.2.1, 60, .inl F1)), (y3, .inl (K.2.1.2.1, 56, .inl D1)), (y4, .inl (K.2.1.2.1, 48, .inl H1)), (y5, .inl (K.2.1.2.1, 48, .inl V1)), (y6, .inl (K.2.1.2.1, 48, .inl J1)), (y7, .inl (K.2.1.2.1, 48, .inl Q1))])) [0, 1, 2, 3, 4, 5, 6, 7, 8, 9, 10, 11, 12, 13, 14, 15, 16, 17, 18, 19, 20, 21, 22, 23, 24, 25, 26, 27, 28, 29] (by decide) rfl ?_
                refine gx_if_eq (pc := 239) hB 265 dL_law_239 (by decide) (fun c_16 => ?_) (fun c_16 => ?_)
                · exact absurd c_16 (by decide)
                · obtain ⟨S1, a1, b1, c1, e1, h1⟩ := id hI1
                  refine gx_aload_n (pc := 242) hB dL_law_242 1 rfl ?_
                  refine gx_aload_n (pc := 243) hB dL_law_243 2 rfl ?_
                  refine gx_aload_n (pc := 244) hB dL_law_244 3 rfl ?_
                  refine gx_aload (pc := 245) hB dL_law_245 4 rfl ?_
                  refine gx_aload (pc := 247) hB dL_law_247 5 rfl ?_
                  refine gx_aload (pc := 249) hB dL_law_249 6 rfl ?_
                  refine gx_aload (pc := 251) hB dL_law_251 7 rfl ?_
                  refine gx_aload (pc := 253) hB dL_law_253 8 rfl ?_
                  refine gx_callS (pc := 255) (wr := []) hB (c_L_isSo l K ad y1 y2 y3 y4 y5 y6 y7 C1 R1 od1 sn1 G1 F1 D1 H1 V1 J1 Q1 S1 a1 b1 c1 e1 h1) mL_isSo dL_law_255 tb_490 pL_isSo ⟨Nat.le_of_ble_eq_true rfl, Nat.le_of_ble_eq_true rfl, show k1 + 1 + 1 ≤ 600000 by omega, show n1 + 1 + 10 ≤ 7302250 by omega⟩ (rest := []) rfl (Nat.le_of_ble_eq_true rfl) [0, 1, 2, 3, 4, 5, 6, 7, 8, 9, 10, 11, 12, 13, 14, 15, 16, 17, 18, 19, 20, 21, 22, 23, 24, 25, 26, 27, 28, 29] [] rfl rfl (by decide) (by decide) (by decide) (fun v255 w255 hp255 => ?_)
                  obtain ⟨rfl, rfl⟩ := hp255
                  refine gx_kn (k' := k1 + 1 + 1) (n' := n1 + 1 + 10) rfl rfl ?_
                  refine gx_st (st' := [.int 1]) rfl ?_
                  refine gx_perm hB (ws' := (wZ K ad C1 R1 od1 sn1 ++ [(y1, .inl (K.2.1.2.1, 8, .inl G1)), (y2, .inl (K.2.1.2.1, 60, .inl F1)), (y3, .inl (K.2.1.2.1, 56, .inl D1)), (y4, .inl (K.2.1.2.1, 48, .inl H1)), (y5, .inl (K.2.1.2.1, 48, .inl V1)), (y6, .inl (K.2.1.2.1, 48, .inl J1)), (y7, .inl (K.2.1.2.1, 48, .inl Q1))])) [0, 1, 2, 3, 4, 5, 6, 7, 8, 9, 10, 11, 12, 13, 14, 15, 16, 17, 18, 19, 20, 21, 22, 23, 24, 25, 26, 27, 28, 29] (by decide) rfl ?_
                  refine gx_if_eq (pc := 258) hB 265 dL_law_258 (by decide) (fun c_17 => ?_) (fun c_17 => ?_)
                  · exact absurd c_17 (by decide)
                  · refine gx_iconst (pc := 261) hB dL_law_261 1 (by decide) ?_
                    refine gx_goto (pc := 262) hB 266 dL_law_262 (by decide) ?_
                    refine gx_istore (pc := 266) hB dL_law_266 (by decide) [(9, .int 1), (0, .ref K.2.2.1), (1, .ref (ad 0)), (2, .ref y1), (3, .ref y2), (4, .ref y3), (5, .ref y4), (6, .ref y5), (7, .ref y6), (8, .ref y7), (10, .int (nI t)), (11, .int (nI i))] rfl ?_
                    refine gx_iinc (pc := 268) hB dL_law_268 11 (by decide) rfl (nI (i + 1)) (nI_1 _) [(11, .int (nI (i + 1))), (9, .int 1), (0, .ref K.2.2.1), (1, .ref (ad 0)), (2, .ref y1), (3, .ref y2), (4, .ref y3), (5, .ref y4), (6, .ref y5), (7, .ref y6), (8, .ref y7), (10, .int (nI t))] rfl ?_
                    refine gx_goto (pc := 271) hB 195 dL_law_271 (by decide) ?_
                    refine gx_sub hB (lv' := [(0, .ref K.2.2.1), (1, .ref (ad 0)), (2, .ref y1), (3, .ref y2), (4, .ref y3), (5, .ref y4), (6, .ref y5), (7, .ref y6), (8, .ref y7), (9, .int 1), (10, .int (nI t)), (11, .int (nI (i + 1)))]) [2, 3, 4, 5, 6, 7, 8, 9, 10, 1, 11, 0] rfl ?_
                    exact ih195 (i + 1) (k1 + 1 + 1) (n1 + 1 + 10) C1 R1 od1 sn1 G1 F1 D1 H1 V1 J1 Q1 (by omega) (by omega) (by omega) hI1
        refine gx_sub hB (lv' := [(0, .ref K.2.2.1), (1, .ref (ad 0)), (2, .ref y1), (3, .ref y2), (4, .ref y3), (5, .ref y4), (6, .ref y5), (7, .ref y6), (8, .ref y7), (9, .int 1), (10, .int (nI t)), (11, .int 0)]) [2, 3, 4, 5, 6, 7, 8, 9, 10, 11, 1, 0] rfl ?_
        exact loop_195 (t) 0 k1 n1 C R od sn G F D H V J Q (by omega) (by omega) (by omega) hI
      · exact absurd (lpTn (c := 10) (by omega) hi90) c_8
    | succ dq ih90 =>
      intro i k1 n1 C R od sn G F D H V J Q hi90 hk hn hI
      have hi : i < 10 := by omega
      obtain ⟨S, a, b, c, e, h0⟩ := hI
      refine gx_iload (pc := 90) hB dL_law_90 10 rfl ?_
      refine gx_bipush (pc := 92) hB dL_law_92 10 (by decide) ?_
      refine gx_icmp_ge (pc := 94) hB 177 dL_law_94 (by decide) (fun c_18 => ?_) (fun c_18 => ?_)
      · exact absurd c_18 (lpFn (c := 10) (by omega) hi90)
      · refine gx_iload (pc := 97) hB dL_law_97 9 rfl ?_
        refine gx_if_eq (pc := 99) hB 177 dL_law_99 (by decide) (fun c_19 => ?_) (fun c_19 => ?_)
        · exact absurd c_19 (by decide)
        · refine gx_aload_n (pc := 102) hB dL_law_102 1 rfl ?_
          refine gx_aload_n (pc := 103) hB dL_law_103 2 rfl ?_
          refine gx_aload_n (pc := 104) hB dL_law_104 3 rfl ?_
          refine gx_aload (pc := 105) hB dL_law_105 4 rfl ?_
          refine gx_aload (pc := 107) hB dL_law_107 5 rfl ?_
          refine gx_aload (pc := 109) hB dL_law_109 6 rfl ?_
          refine gx_aload (pc := 111) hB dL_law_111 7 rfl ?_
          refine gx_aload (pc := 113) hB dL_law_113 8 rfl ?_
          refine gx_aload_n (pc := 115) hB dL_law_115 0 rfl ?_
          refine gx_iconst (pc := 116) hB dL_law_116 1 (by decide) ?_
          refine gx_iload (pc := 117) hB dL_law_117 10 rfl ?_
          refine gx_iadd (pc := 119) hB dL_law_119 ?_
          refine gx_top (show 1 + nI i = nI (1 + i) from nI_add 1 i) ?_
          refine gx_dSi (pc := 120) (r := ceK K (1 + i)) (wr := (wZ K ad C R od sn ++ [(y1, .inl (K.2.1.2.1, 8, .inl G)), (y2, .inl (K.2.1.2.1, 60, .inl F)), (y3, .inl (K.2.1.2.1, 56, .inl D)), (y4, .inl (K.2.1.2.1, 48, .inl H)), (y5, .inl (K.2.1.2.1, 48, .inl V)), (y6, .inl (K.2.1.2.1, 48, .inl J)), (y7, .inl (K.2.1.2.1, 48, .inl Q))])) hB (c_L_cell l K (1 + i) hK260 (by first | assumption | omega | decide)) mL_cell dL_law_120 tb_208 pL_cell ⟨Nat.le_of_ble_eq_true rfl, Nat.le_of_ble_eq_true rfl⟩ ⟨rfl, rfl⟩ ⟨show k1 ≤ 600000 by omega, show n1 ≤ 7302250 by omega⟩ rfl (Nat.le_of_ble_eq_true rfl) [] [0, 1, 2, 3, 4, 5, 6, 7, 8, 9, 10, 11, 12, 13, 14, 15, 16, 17, 18, 19, 20, 21, 22, 23, 24, 25, 26, 27, 28, 29] rfl rfl (by decide) (by decide) (by decide) [0, 1, 2, 3, 4, 5, 6, 7, 8, 9, 10, 11, 12, 13, 14, 15, 16, 17, 18, 19, 20, 21, 22, 23, 24, 25, 26, 27, 28, 29] (by decide) ((wZ K ad C R od sn ++ [(y1, .inl (K.2.1.2.1, 8, .inl G)), (y2, .inl (K.2.1.2.1, 60, .inl F)), (y3, .inl (K.2.1.2.1, 56, .inl D)), (y4, .inl (K.2.1.2.1, 48, .inl H)), (y5, .inl (K.2.1.2.1, 48, .inl V)), (y6, .inl (K.2.1.2.1, 48, .inl J)), (y7, .inl (K.2.1.2.1, 48, .inl Q))])) rfl ?_
          refine gx_ldc (pc := 123) hB dL_law_123 tb_215 ?_
          refine gx_iand (pc := 125) hB dL_law_125 ?_
          refine gx_sipush (pc := 126) hB dL_law_126 960 (by decide) ?_
          refine gx_idiv (pc := 129) hB dL_law_129 (by decide) ?_
          refine gx_sipush (pc := 130) hB dL_law_130 960 (by decide) ?_
          refine gx_imul (pc := 133) hB dL_law_133 ?_
          refine gx_iload (pc := 134) hB dL_law_134 10 rfl ?_
          refine gx_iconst (pc := 136) hB dL_law_136 2 (by decide) ?_
          refine gx_icmp_ge (pc := 137) hB 144 dL_law_137 (by decide) (fun c_20 => ?_) (fun c_20 => ?_)
          · refine gx_iload (pc := 144) hB dL_law_144 10 rfl ?_
            refine gx_iconst (pc := 146) hB dL_law_146 5 (by decide) ?_
            refine gx_icmp_ge (pc := 147) hB 154 dL_law_147 (by decide) (fun c_21 => ?_) (fun c_21 => ?_)
            · refine gx_iload (pc := 154) hB dL_law_154 10 rfl ?_
              refine gx_iconst (pc := 156) hB dL_law_156 5 (by decide) ?_
              refine gx_icmp_ne (pc := 157) hB 164 dL_law_157 (by decide) (fun c_22 => ?_) (fun c_22 => ?_)
              · refine gx_iconst (pc := 164) hB dL_law_164 3 (by decide) ?_
                refine gx_iadd (pc := 165) hB dL_law_165 ?_
                refine gx_callS (pc := 166) (wr := []) hB (c_L_acts l K ad y1 y2 y3 y4 y5 y6 y7 C R od sn G F D H V J Q S a b c e (((((ceK K (1 + i)) &&& 2147483647) / 960) * 960) + 3) (by first | assumption | omega | decide)) mL_acts dL_law_166 tb_216 pL_acts ⟨Nat.le_of_ble_eq_true rfl, Nat.le_of_ble_eq_true rfl, show k1 + 1 ≤ 600000 by omega, show n1 + 1 ≤ 7302250 by omega⟩ (rest := []) rfl (Nat.le_of_ble_eq_true rfl) [0, 1, 2, 3, 4, 5, 6, 7, 8, 9, 10, 11, 12, 13, 14, 15, 16, 17, 18, 19, 20, 21, 22, 23, 24, 25, 26, 27, 28, 29] [] rfl rfl (by decide) (by decide) (by decide) (fun v166 w166 hp166 => ?_)
                obtain ⟨rfl, C1, R1, od1, sn1, G1, F1, D1, H1, V1, J1, Q1, rfl, hI1⟩ := hp166
                refine gx_kn (k' := k1 + 1) (n' := n1 + 1) rfl rfl ?_
                refine gx_st (st' := [.int 1]) rfl ?_
                refine gx_perm hB (ws' := (wZ K ad C1 R1 od1 sn1 ++ [(y1, .inl (K.2.1.2.1, 8, .inl G1)), (y2, .inl (K.2.1.2.1, 60, .inl F1)), (y3, .inl (K.2.1.2.1, 56, .inl D1)), (y4, .inl (K.2.1.2.1, 48, .inl H1)), (y5, .inl (K.2.1.2.1, 48, .inl V1)), (y6, .inl (K.2.1.2.1, 48, .inl J1)), (y7, .inl (K.2.1.2.1, 48, .inl Q1))])) [0, 1, 2, 3, 4, 5, 6, 7, 8, 9, 10, 11, 12, 13, 14, 15, 16, 17, 18, 19, 20, 21, 22, 23, 24, 25, 26, 27, 28, 29] (by decide) rfl ?_
                refine gx_istore (pc := 169) hB dL_law_169 (by decide) [(9, .int 1), (0, .ref K.2.2.1), (1, .ref (ad 0)), (2, .ref y1), (3, .ref y2), (4, .ref y3), (5, .ref y4), (6, .ref y5), (7, .ref y6), (8, .ref y7), (10, .int (nI i))] rfl ?_
                refine gx_iinc (pc := 171) hB dL_law_171 10 (by decide) rfl (nI (i + 1)) (nI_1 _) [(10, .int (nI (i + 1))), (9, .int 1), (0, .ref K.2.2.1), (1, .ref (ad 0)), (2, .ref y1), (3, .ref y2), (4, .ref y3), (5, .ref y4), (6, .ref y5), (7, .ref y6), (8, .ref y7)] rfl ?_
                refine gx_goto (pc := 174) hB 90 dL_law_174 (by decide) ?_
                refine gx_sub hB (lv' := [(0, .ref K.2.2.1), (1, .ref (ad 0)), (2, .ref y1), (3, .ref y2), (4, .ref y3), (5, .ref y4), (6, .ref y5), (7, .ref y6), (8, .ref y7), (9, .int 1), (10, .int (nI (i + 1)))]) [2, 3, 4, 5, 6, 7, 8, 9, 10, 1, 0] rfl ?_
                exact ih90 (i + 1) (k1 + 1) (n1 + 1) C1 R1 od1 sn1 G1 F1 D1 H1 V1 J1 Q1 (by omega) (by omega) (by omega) hI1
              · refine gx_iconst (pc := 160) hB dL_law_160 2 (by decide) ?_
                refine gx_goto (pc := 161) hB 165 dL_law_161 (by decide) ?_
                refine gx_iadd (pc := 165) hB dL_law_165 ?_
                refine gx_callS (pc := 166) (wr := []) hB (c_L_acts l K ad y1 y2 y3 y4 y5 y6 y7 C R od sn G F D H V J Q S a b c e (((((ceK K (1 + i)) &&& 2147483647) / 960) * 960) + 2) (by first | assumption | omega | decide)) mL_acts dL_law_166 tb_216 pL_acts ⟨Nat.le_of_ble_eq_true rfl, Nat.le_of_ble_eq_true rfl, show k1 + 1 ≤ 600000 by omega, show n1 + 1 ≤ 7302250 by omega⟩ (rest := []) rfl (Nat.le_of_ble_eq_true rfl) [0, 1, 2, 3, 4, 5, 6, 7, 8, 9, 10, 11, 12, 13, 14, 15, 16, 17, 18, 19, 20, 21, 22, 23, 24, 25, 26, 27, 28, 29] [] rfl rfl (by decide) (by decide) (by decide) (fun v166 w166 hp166 => ?_)
                obtain ⟨rfl, C1, R1, od1, sn1, G1, F1, D1, H1, V1, J1, Q1, rfl, hI1⟩ := hp166
                refine gx_kn (k' := k1 + 1) (n' := n1 + 1) rfl rfl ?_
                refine gx_st (st' := [.int 1]) rfl ?_
                refine gx_perm hB (ws' := (wZ K ad C1 R1 od1 sn1 ++ [(y1, .inl (K.2.1.2.1, 8, .inl G1)), (y2, .inl (K.2.1.2.1, 60, .inl F1)), (y3, .inl (K.2.1.2.1, 56, .inl D1)), (y4, .inl (K.2.1.2.1, 48, .inl H1)), (y5, .inl (K.2.1.2.1, 48, .inl V1)), (y6, .inl (K.2.1.2.1, 48, .inl J1)), (y7, .inl (K.2.1.2.1, 48, .inl Q1))])) [0, 1, 2, 3, 4, 5, 6, 7, 8, 9, 10, 11, 12, 13, 14, 15, 16, 17, 18, 19, 20, 21, 22, 23, 24, 25, 26, 27, 28, 29] (by decide) rfl ?_
                refine gx_istore (pc := 169) hB dL_law_169 (by decide) [(9, .int 1), (0, .ref K.2.2.1), (1, .ref (ad 0)), (2, .ref y1), (3, .ref y2), (4, .ref y3), (5, .ref y4), (6, .ref y5), (7, .ref y6), (8, .ref y7), (10, .int (nI i))] rfl ?_
                refine gx_iinc (pc := 171) hB dL_law_171 10 (by decide) rfl (nI (i + 1)) (nI_1 _) [(10, .int (nI (i + 1))), (9, .int 1), (0, .ref K.2.2.1), (1, .ref (ad 0)), (2, .ref y1), (3, .ref y2), (4, .ref y3), (5, .ref y4), (6, .ref y5), (7, .ref y6), (8, .ref y7)] rfl ?_
                refine gx_goto (pc := 174) hB 90 dL_law_174 (by decide) ?_
                refine gx_sub hB (lv' := [(0, .ref K.2.2.1), (1, .ref (ad 0)), (2, .ref y1), (3, .ref y2), (4, .ref y3), (5, .ref y4), (6, .ref y5), (7, .ref y6), (8, .ref y7), (9, .int 1), (10, .int (nI (i + 1)))]) [2, 3, 4, 5, 6, 7, 8, 9, 10, 1, 0] rfl ?_
                exact ih90 (i + 1) (k1 + 1) (n1 + 1) C1 R1 od1 sn1 G1 F1 D1 H1 V1 J1 Q1 (by omega) (by omega) (by omega) hI1
            · refine gx_iconst (pc := 150) hB dL_law_150 1 (by decide) ?_
              refine gx_goto (pc := 151) hB 165 dL_law_151 (by decide) ?_
              refine gx_iadd (pc := 165) hB dL_law_165 ?_
              refine gx_callS (pc := 166) (wr := []) hB (c_L_acts l K ad y1 y2 y3 y4 y5 y6 y7 C R od sn G F D H V J Q S a b c e (((((ceK K (1 + i)) &&& 2147483647) / 960) * 960) + 1) (by first | assumption | omega | decide)) mL_acts dL_law_166 tb_216 pL_acts ⟨Nat.le_of_ble_eq_true rfl, Nat.le_of_ble_eq_true rfl, show k1 + 1 ≤ 600000 by omega, show n1 + 1 ≤ 7302250 by omega⟩ (rest := []) rfl (Nat.le_of_ble_eq_true rfl) [0, 1, 2, 3, 4, 5, 6, 7, 8, 9, 10, 11, 12, 13, 14, 15, 16, 17, 18, 19, 20, 21, 22, 23, 24, 25, 26, 27, 28, 29] [] rfl rfl (by decide) (by decide) (by decide) (fun v166 w166 hp166 => ?_)
              obtain ⟨rfl, C1, R1, od1, sn1, G1, F1, D1, H1, V1, J1, Q1, rfl, hI1⟩ := hp166
              refine gx_kn (k' := k1 + 1) (n' := n1 + 1) rfl rfl ?_
              refine gx_st (st' := [.int 1]) rfl ?_
              refine gx_perm hB (ws' := (wZ K ad C1 R1 od1 sn1 ++ [(y1, .inl (K.2.1.2.1, 8, .inl G1)), (y2, .inl (K.2.1.2.1, 60, .inl F1)), (y3, .inl (K.2.1.2.1, 56, .inl D1)), (y4, .inl (K.2.1.2.1, 48, .inl H1)), (y5, .inl (K.2.1.2.1, 48, .inl V1)), (y6, .inl (K.2.1.2.1, 48, .inl J1)), (y7, .inl (K.2.1.2.1, 48, .inl Q1))])) [0, 1, 2, 3, 4, 5, 6, 7, 8, 9, 10, 11, 12, 13, 14, 15, 16, 17, 18, 19, 20, 21, 22, 23, 24, 25, 26, 27, 28, 29] (by decide) rfl ?_
              refine gx_istore (pc := 169) hB dL_law_169 (by decide) [(9, .int 1), (0, .ref K.2.2.1), (1, .ref (ad 0)), (2, .ref y1), (3, .ref y2), (4, .ref y3), (5, .ref y4), (6, .ref y5), (7, .ref y6), (8, .ref y7), (10, .int (nI i))] rfl ?_
              refine gx_iinc (pc := 171) hB dL_law_171 10 (by decide) rfl (nI (i + 1)) (nI_1 _) [(10, .int (nI (i + 1))), (9, .int 1), (0, .ref K.2.2.1), (1, .ref (ad 0)), (2, .ref y1), (3, .ref y2), (4, .ref y3), (5, .ref y4), (6, .ref y5), (7, .ref y6), (8, .ref y7)] rfl ?_
              refine gx_goto (pc := 174) hB 90 dL_law_174 (by decide) ?_
              refine gx_sub hB (lv' := [(0, .ref K.2.2.1), (1, .ref (ad 0)), (2, .ref y1), (3, .ref y2), (4, .ref y3), (5, .ref y4), (6, .ref y5), (7, .ref y6), (8, .ref y7), (9, .int 1), (10, .int (nI (i + 1)))]) [2, 3, 4, 5, 6, 7, 8, 9, 10, 1, 0] rfl ?_
              exact ih90 (i + 1) (k1 + 1) (n1 + 1) C1 R1 od1 sn1 G1 F1 D1 H1 V1 J1 Q1 (by omega) (by omega) (by omega) hI1
          · refine gx_iconst (pc := 140) hB dL_law_140 0 (by decide) ?_
            refine gx_goto (pc := 141) hB 165 dL_law_141 (by decide) ?_
            refine gx_iadd (pc := 165) hB dL_law_165 ?_
            refine gx_top (show ((((ceK K (1 + i)) &&& 2147483647) / 960) * 960) + 0 = ((((ceK K (1 + i)) &&& 2147483647) / 960) * 960) from Int32.add_zero _) ?_
            refine gx_callS (pc := 166) (wr := []) hB (c_L_acts l K ad y1 y2 y3 y4 y5 y6 y7 C R od sn G F D H V J Q S a b c e ((((ceK K (1 + i)) &&& 2147483647) / 960) * 960) (by first | assumption | omega | decide)) mL_acts dL_law_166 tb_216 pL_acts ⟨Nat.le_of_ble_eq_true rfl, Nat.le_of_ble_eq_true rfl, show k1 + 1 ≤ 600000 by omega, show n1 + 1 ≤ 7302250 by omega⟩ (rest := []) rfl (Nat.le_of_ble_eq_true rfl) [0, 1, 2, 3, 4, 5, 6, 7, 8, 9, 10, 11, 12, 13, 14, 15, 16, 17, 18, 19, 20, 21, 22, 23, 24, 25, 26, 27, 28, 29] [] rfl rfl (by decide) (by decide) (by decide) (fun v166 w166 hp166 => ?_)
            obtain ⟨rfl, C1, R1, od1, sn1, G1, F1, D1, H1, V1, J1, Q1, rfl, hI1⟩ := hp166
            refine gx_kn (k' := k1 + 1) (n' := n1 + 1) rfl rfl ?_
            refine gx_st (st' := [.int 1]) rfl ?_
            refine gx_perm hB (ws' := (wZ K ad C1 R1 od1 sn1 ++ [(y1, .inl (K.2.1.2.1, 8, .inl G1)), (y2, .inl (K.2.1.2.1, 60, .inl F1)), (y3, .inl (K.2.1.2.1, 56, .inl D1)), (y4, .inl (K.2.1.2.1, 48, .inl H1)), (y5, .inl (K.2.1.2.1, 48, .inl V1)), (y6, .inl (K.2.1.2.1, 48, .inl J1)), (y7, .inl (K.2.1.2.1, 48, .inl Q1))])) [0, 1, 2, 3, 4, 5, 6, 7, 8, 9, 10, 11, 12, 13, 14, 15, 16, 17, 18, 19, 20, 21, 22, 23, 24, 25, 26, 27, 28, 29] (by decide) rfl ?_
            refine gx_istore (pc := 169) hB dL_law_169 (by decide) [(9, .int 1), (0, .ref K.2.2.1), (1, .ref (ad 0)), (2, .ref y1), (3, .ref y2), (4, .ref y3), (5, .ref y4), (6, .ref y5), (7, .ref y6), (8, .ref y7), (10, .int (nI i))] rfl ?_
            refine gx_iinc (pc := 171) hB dL_law_171 10 (by decide) rfl (nI (i + 1)) (nI_1 _) [(10, .int (nI (i + 1))), (9, .int 1), (0, .ref K.2.2.1), (1, .ref (ad 0)), (2, .ref y1), (3, .ref y2), (4, .ref y3), (5, .ref y4), (6, .ref y5), (7, .ref y6), (8, .ref y7)] rfl ?_
            refine gx_goto (pc := 174) hB 90 dL_law_174 (by decide) ?_
            refine gx_sub hB (lv' := [(0, .ref K.2.2.1), (1, .ref (ad 0)), (2, .ref y1), (3, .ref y2), (4, .ref y3), (5, .ref y4), (6, .ref y5), (7, .ref y6), (8, .ref y7), (9, .int 1), (10, .int (nI (i + 1)))]) [2, 3, 4, 5, 6, 7, 8, 9, 10, 1, 0] rfl ?_
            exact ih90 (i + 1) (k1 + 1) (n1 + 1) C1 R1 od1 sn1 G1 F1 D1 H1 V1 J1 Q1 (by omega) (by omega) (by omega) hI1
  refine gx_sub hB (lv' := [(0, .ref K.2.2.1), (1, .ref (ad 0)), (2, .ref y1), (3, .ref y2), (4, .ref y3), (5, .ref y4), (6, .ref y5), (7, .ref y6), (8, .ref y7), (9, .int 1), (10, .int 0)]) [10, 9, 8, 7, 6, 5, 4, 3, 2, 1, 0] rfl ?_
  exact loop_90 (10) 0 31 2928 cNew (fun _ _ => 0) 0 0 G0n F0n (fun _ => 0) (fun _ => 0) (fun _ => 0) (fun _ => 0) (fun _ => 0) (by omega) (by omega) (by omega) ⟨_, _, _, _, _, LJ_new⟩
