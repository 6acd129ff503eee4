def mFault (X : Nat → Int32) (ty : Nat) (S T : Nat → Int32) (cl : Int32) (Z : Nat → Int32) (ca : Int32) (x : Int32) : Int32 :=
  if bIn x 0 2 then
    (if plA (plR X ty S T cl Z ca) = (-4) ∨ x = 0 then plA (plR X ty S T cl Z ca)
     else if x = 1 then (if psCa (plR X ty S T cl Z ca) = 0 then 1 else 2)
     else if psCa (plR X ty S T cl Z ca) = 0 then (-4) else psCa (plR X ty S T cl Z ca))
  else (-1)
theorem pX5_plays : (parseMethodDescriptor yX5_plays.desc).map (fun d => d.parameters.length) = some 0 := by decide +kernel
theorem mX5_plays : gx_M yX5_plays cX5_plays 4 (some .int) := ⟨tb_989, tb_60, tb_73, tb_990, by decide, by decide⟩
set_option maxHeartbeats 4000000 in
set_option maxRecDepth 100000 in
theorem c_X5_plays (l : Launch) (K : gx_K) (m q1 q2 q3 q4 q5 q6 q7 q8 : Nat) (S P H T X Z : Nat → Int32) (n : Nat) (ru : Bool) (ty : Nat) (cl : Int32) (sp : Nat) (ca : Int32) (co : Nat) (a b c e : Nat)  (h0 : sOk S a b c e) (h1 : n ≤ 4) (h2 : ty ≤ 80) : gx_Ctr l K yX5_plays cX5_plays 4 (some .int) (rmm 7 136) [.ref m] (wM K m q1 q2 q3 q4 q5 q6 q7 q8 S P H T X Z n ru ty cl sp ca co) (gx_D (some (.int (plA (plR X ty S T cl Z ca)))) (wM K m q1 q2 q3 q4 q5 q6 q7 q8 (psS (plR X ty S T cl Z ca)) P H (psT (plR X ty S T cl Z ca)) X (psZ (plR X ty S T cl Z ca)) n false ty (psCl (plR X ty S T cl Z ca)) (psSp (plR X ty S T cl Z ca)) (psCa (plR X ty S T cl Z ca)) (psCo (plR X ty S T cl Z ca)))) := by
  refine gx_of (by decide) (Nat.le_of_ble_eq_true rfl) (fun G hC => ?_)
  have hB := hC.b
  refine gx_lv (lv' := [(0, .ref m)]) rfl ?_
  have hb0 := h0.1
  refine gx_aload_n (pc := 0) hB dX5_plays_0 0 rfl ?_
  refine gx_iconst (pc := 1) hB dX5_plays_1 1 (by decide) ?_
  refine gx_put (pc := 2) hB dX5_plays_2 inX5 rfl tyX5 tyX5_ok nmX5 0 rfl 5 (by decide) tb_731 rfl rfl rfl rfl (Nat.le_of_ble_eq_true rfl) (wM K m q1 q2 q3 q4 q5 q6 q7 q8 S P H T X Z n true ty cl sp ca co) rfl ?_
  refine gx_aload_n (pc := 5) hB dX5_plays_5 0 rfl ?_
  refine gx_iconst (pc := 6) hB dX5_plays_6 0 (by decide) ?_
  refine gx_put (pc := 7) hB dX5_plays_7 inX5 rfl tyX5 tyX5_ok nmX5 0 rfl 11 (by decide) tb_737 rfl rfl rfl rfl (Nat.le_of_ble_eq_true rfl) (wM K m q1 q2 q3 q4 q5 q6 q7 q8 S P H T X Z n true ty cl 0 ca co) rfl ?_
  refine gx_aload_n (pc := 10) hB dX5_plays_10 0 rfl ?_
  refine gx_iconst (pc := 11) hB dX5_plays_11 0 (by decide) ?_
  refine gx_put (pc := 12) hB dX5_plays_12 inX5 rfl tyX5 tyX5_ok nmX5 0 rfl 13 (by decide) tb_739 rfl rfl rfl rfl (Nat.le_of_ble_eq_true rfl) (wM K m q1 q2 q3 q4 q5 q6 q7 q8 S P H T X Z n true ty cl 0 ca 0) rfl ?_
  refine gx_iconst (pc := 15) hB dX5_plays_15 0 (by decide) ?_
  refine gx_istore_n (pc := 16) hB dX5_plays_16 (by decide) [(1, .int 0), (0, .ref m)] rfl ?_
  refine gx_iconst (pc := 17) hB dX5_plays_17 1 (by decide) ?_
  refine gx_istore_n (pc := 18) hB dX5_plays_18 (by decide) [(2, .int 1), (1, .int 0), (0, .ref m)] rfl ?_
  have loop_19 : ∀ (f : Nat) (s : gx_Ps), sOkk (psS s) → psSp s ≤ 110 → (psIs s = true → ty - psSp s < f) → plN X ty f s = (plR X ty S T cl Z ca) → G 0 0 (wM K m q1 q2 q3 q4 q5 q6 q7 q8 (psS s) P H (psT s) X (psZ s) n true ty (psCl s) (psSp s) (psCa s) (psCo s)) [(0, .ref m), (1, .int (nI (psFr s))), (2, .int (bI (psIs s)))] 19 [] := by
    intro f
    induction f with
    | zero =>
      intro s hok hsp hms he
      refine gx_aload_n (pc := 19) hB dX5_plays_19 0 rfl ?_
      refine gx_get (pc := 20) hB dX5_plays_20 inX5 rfl 0 rfl 11 (by decide) tb_737 rfl rfl ?_
      refine gx_aload_n (pc := 23) hB dX5_plays_23 0 rfl ?_
      refine gx_get (pc := 24) hB dX5_plays_24 inX5 rfl 0 rfl 7 (by decide) tb_733 rfl rfl ?_
      refine gx_icmp_ge (pc := 27) hB 91 dX5_plays_27 (by decide) (fun c_1 => ?_) (fun c_1 => ?_)
      · have e_s : s = (plR X ty S T cl Z ca) := he
        refine gx_all (ws' := wM K m q1 q2 q3 q4 q5 q6 q7 q8 (psS (plR X ty S T cl Z ca)) P H (psT (plR X ty S T cl Z ca)) X (psZ (plR X ty S T cl Z ca)) n true ty (psCl (plR X ty S T cl Z ca)) (psSp (plR X ty S T cl Z ca)) (psCa (plR X ty S T cl Z ca)) (psCo (plR X ty S T cl Z ca))) (lv' := [(0, .ref m), (1, .int (nI (psFr (plR X ty S T cl Z ca)))), (2, .int (bI (psIs (plR X ty S T cl Z ca))))]) (by rw [e_s]) (by rw [e_s]) ?_
        refine gx_aload_n (pc := 91) hB dX5_plays_91 0 rfl ?_
        refine gx_iconst (pc := 92) hB dX5_plays_92 0 (by decide) ?_
        refine gx_put (pc := 93) hB dX5_plays_93 inX5 rfl tyX5 tyX5_ok nmX5 0 rfl 5 (by decide) tb_731 rfl rfl rfl rfl (Nat.le_of_ble_eq_true rfl) (wM K m q1 q2 q3 q4 q5 q6 q7 q8 (psS (plR X ty S T cl Z ca)) P H (psT (plR X ty S T cl Z ca)) X (psZ (plR X ty S T cl Z ca)) n false ty (psCl (plR X ty S T cl Z ca)) (psSp (plR X ty S T cl Z ca)) (psCa (plR X ty S T cl Z ca)) (psCo (plR X ty S T cl Z ca))) rfl ?_
        refine gx_iload_n (pc := 96) hB dX5_plays_96 2 rfl ?_
        refine gx_if_eq_b (pc := 97) hB 105 dX5_plays_97 (by decide) (fun c_2 => ?_) (fun c_2 => ?_)
        · refine gx_iload_n (pc := 105) hB dX5_plays_105 1 rfl ?_
          have e1 : (plA (plR X ty S T cl Z ca)) = (nI (psFr (plR X ty S T cl Z ca))) := by simp [plA, c_2]
          exact gx_iret (pc := 106) hC dX5_plays_106 (Nat.zero_le _) (Nat.zero_le _) (⟨by rw [e1], rfl⟩)
        · refine gx_bipush (pc := 100) hB dX5_plays_100 (-4) (by decide) ?_
          refine gx_goto (pc := 102) hB 106 dX5_plays_102 (by decide) ?_
          have e1 : (plA (plR X ty S T cl Z ca)) = (-4) := by simp [plA, c_2]
          exact gx_iret (pc := 106) hC dX5_plays_106 (Nat.zero_le _) (Nat.zero_le _) (⟨by rw [e1], rfl⟩)
      · have s_lt : psSp s < ty := Nat.lt_of_not_le (fun q => c_1 (nI_le q (by omega)))
        refine gx_iload_n (pc := 30) hB dX5_plays_30 2 rfl ?_
        refine gx_if_eq_b (pc := 31) hB 91 dX5_plays_31 (by decide) (fun c_3 => ?_) (fun c_3 => ?_)
        · have e_s : s = (plR X ty S T cl Z ca) := he
          refine gx_all (ws' := wM K m q1 q2 q3 q4 q5 q6 q7 q8 (psS (plR X ty S T cl Z ca)) P H (psT (plR X ty S T cl Z ca)) X (psZ (plR X ty S T cl Z ca)) n true ty (psCl (plR X ty S T cl Z ca)) (psSp (plR X ty S T cl Z ca)) (psCa (plR X ty S T cl Z ca)) (psCo (plR X ty S T cl Z ca))) (lv' := [(0, .ref m), (1, .int (nI (psFr (plR X ty S T cl Z ca)))), (2, .int (bI (psIs (plR X ty S T cl Z ca))))]) (by rw [e_s]) (by rw [e_s]) ?_
          refine gx_aload_n (pc := 91) hB dX5_plays_91 0 rfl ?_
          refine gx_iconst (pc := 92) hB dX5_plays_92 0 (by decide) ?_
          refine gx_put (pc := 93) hB dX5_plays_93 inX5 rfl tyX5 tyX5_ok nmX5 0 rfl 5 (by decide) tb_731 rfl rfl rfl rfl (Nat.le_of_ble_eq_true rfl) (wM K m q1 q2 q3 q4 q5 q6 q7 q8 (psS (plR X ty S T cl Z ca)) P H (psT (plR X ty S T cl Z ca)) X (psZ (plR X ty S T cl Z ca)) n false ty (psCl (plR X ty S T cl Z ca)) (psSp (plR X ty S T cl Z ca)) (psCa (plR X ty S T cl Z ca)) (psCo (plR X ty S T cl Z ca))) rfl ?_
          refine gx_iload_n (pc := 96) hB dX5_plays_96 2 rfl ?_
          refine gx_if_eq_b (pc := 97) hB 105 dX5_plays_97 (by decide) (fun c_4 => ?_) (fun c_4 => ?_)
          · refine gx_iload_n (pc := 105) hB dX5_plays_105 1 rfl ?_
            have e1 : (plA (plR X ty S T cl Z ca)) = (nI (psFr (plR X ty S T cl Z ca))) := by simp [plA, c_4]
            exact gx_iret (pc := 106) hC dX5_plays_106 (Nat.zero_le _) (Nat.zero_le _) (⟨by rw [e1], rfl⟩)
          · refine gx_bipush (pc := 100) hB dX5_plays_100 (-4) (by decide) ?_
            refine gx_goto (pc := 102) hB 106 dX5_plays_102 (by decide) ?_
            have e1 : (plA (plR X ty S T cl Z ca)) = (-4) := by simp [plA, c_4]
            exact gx_iret (pc := 106) hC dX5_plays_106 (Nat.zero_le _) (Nat.zero_le _) (⟨by rw [e1], rfl⟩)
        · exact absurd (hms c_3) (Nat.not_lt_zero _)
    | succ f ihf =>
      intro s hok hsp hms he
      refine gx_aload_n (pc := 19) hB dX5_plays_19 0 rfl ?_
      refine gx_get (pc := 20) hB dX5_plays_20 inX5 rfl 0 rfl 11 (by decide) tb_737 rfl rfl ?_
      refine gx_aload_n (pc := 23) hB dX5_plays_23 0 rfl ?_
      refine gx_get (pc := 24) hB dX5_plays_24 inX5 rfl 0 rfl 7 (by decide) tb_733 rfl rfl ?_
      refine gx_icmp_ge (pc := 27) hB 91 dX5_plays_27 (by decide) (fun c_5 => ?_) (fun c_5 => ?_)
      · have e_s : s = (plR X ty S T cl Z ca) := by rw [← he]; simp [plN, show ¬ psSp s < ty from fun q => nI_ge q (by omega) c_5]
        refine gx_all (ws' := wM K m q1 q2 q3 q4 q5 q6 q7 q8 (psS (plR X ty S T cl Z ca)) P H (psT (plR X ty S T cl Z ca)) X (psZ (plR X ty S T cl Z ca)) n true ty (psCl (plR X ty S T cl Z ca)) (psSp (plR X ty S T cl Z ca)) (psCa (plR X ty S T cl Z ca)) (psCo (plR X ty S T cl Z ca))) (lv' := [(0, .ref m), (1, .int (nI (psFr (plR X ty S T cl Z ca)))), (2, .int (bI (psIs (plR X ty S T cl Z ca))))]) (by rw [e_s]) (by rw [e_s]) ?_
        refine gx_aload_n (pc := 91) hB dX5_plays_91 0 rfl ?_
        refine gx_iconst (pc := 92) hB dX5_plays_92 0 (by decide) ?_
        refine gx_put (pc := 93) hB dX5_plays_93 inX5 rfl tyX5 tyX5_ok nmX5 0 rfl 5 (by decide) tb_731 rfl rfl rfl rfl (Nat.le_of_ble_eq_true rfl) (wM K m q1 q2 q3 q4 q5 q6 q7 q8 (psS (plR X ty S T cl Z ca)) P H (psT (plR X ty S T cl Z ca)) X (psZ (plR X ty S T cl Z ca)) n false ty (psCl (plR X ty S T cl Z ca)) (psSp (plR X ty S T cl Z ca)) (psCa (plR X ty S T cl Z ca)) (psCo (plR X ty S T cl Z ca))) rfl ?_
        refine gx_iload_n (pc := 96) hB dX5_plays_96 2 rfl ?_
        refine gx_if_eq_b (pc := 97) hB 105 dX5_plays_97 (by decide) (fun c_6 => ?_) (fun c_6 => ?_)
        · refine gx_iload_n (pc := 105) hB dX5_plays_105 1 rfl ?_
          have e1 : (plA (plR X ty S T cl Z ca)) = (nI (psFr (plR X ty S T cl Z ca))) := by simp [plA, c_6]
          exact gx_iret (pc := 106) hC dX5_plays_106 (Nat.zero_le _) (Nat.zero_le _) (⟨by rw [e1], rfl⟩)
        · refine gx_bipush (pc := 100) hB dX5_plays_100 (-4) (by decide) ?_
          refine gx_goto (pc := 102) hB 106 dX5_plays_102 (by decide) ?_
          have e1 : (plA (plR X ty S T cl Z ca)) = (-4) := by simp [plA, c_6]
          exact gx_iret (pc := 106) hC dX5_plays_106 (Nat.zero_le _) (Nat.zero_le _) (⟨by rw [e1], rfl⟩)
      · have s_lt : psSp s < ty := Nat.lt_of_not_le (fun q => c_5 (nI_le q (by omega)))
        refine gx_iload_n (pc := 30) hB dX5_plays_30 2 rfl ?_
        refine gx_if_eq_b (pc := 31) hB 91 dX5_plays_31 (by decide) (fun c_7 => ?_) (fun c_7 => ?_)
        · have e_s : s = (plR X ty S T cl Z ca) := by rw [← he]; simp [plN, c_7]
          refine gx_all (ws' := wM K m q1 q2 q3 q4 q5 q6 q7 q8 (psS (plR X ty S T cl Z ca)) P H (psT (plR X ty S T cl Z ca)) X (psZ (plR X ty S T cl Z ca)) n true ty (psCl (plR X ty S T cl Z ca)) (psSp (plR X ty S T cl Z ca)) (psCa (plR X ty S T cl Z ca)) (psCo (plR X ty S T cl Z ca))) (lv' := [(0, .ref m), (1, .int (nI (psFr (plR X ty S T cl Z ca)))), (2, .int (bI (psIs (plR X ty S T cl Z ca))))]) (by rw [e_s]) (by rw [e_s]) ?_
          refine gx_aload_n (pc := 91) hB dX5_plays_91 0 rfl ?_
          refine gx_iconst (pc := 92) hB dX5_plays_92 0 (by decide) ?_
          refine gx_put (pc := 93) hB dX5_plays_93 inX5 rfl tyX5 tyX5_ok nmX5 0 rfl 5 (by decide) tb_731 rfl rfl rfl rfl (Nat.le_of_ble_eq_true rfl) (wM K m q1 q2 q3 q4 q5 q6 q7 q8 (psS (plR X ty S T cl Z ca)) P H (psT (plR X ty S T cl Z ca)) X (psZ (plR X ty S T cl Z ca)) n false ty (psCl (plR X ty S T cl Z ca)) (psSp (plR X ty S T cl Z ca)) (psCa (plR X ty S T cl Z ca)) (psCo (plR X ty S T cl Z ca))) rfl ?_
          refine gx_iload_n (pc := 96) hB dX5_plays_96 2 rfl ?_
          refine gx_if_eq_b (pc := 97) hB 105 dX5_plays_97 (by decide) (fun c_8 => ?_) (fun c_8 => ?_)
          · refine gx_iload_n (pc := 105) hB dX5_plays_105 1 rfl ?_
            have e1 : (plA (plR X ty S T cl Z ca)) = (nI (psFr (plR X ty S T cl Z ca))) := by simp [plA, c_8]
            exact gx_iret (pc := 106) hC dX5_plays_106 (Nat.zero_le _) (Nat.zero_le _) (⟨by rw [e1], rfl⟩)
          · refine gx_bipush (pc := 100) hB dX5_plays_100 (-4) (by decide) ?_
            refine gx_goto (pc := 102) hB 106 dX5_plays_102 (by decide) ?_
            have e1 : (plA (plR X ty S T cl Z ca)) = (-4) := by simp [plA, c_8]
            exact gx_iret (pc := 106) hC dX5_plays_106 (Nat.zero_le _) (Nat.zero_le _) (⟨by rw [e1], rfl⟩)
        · refine gx_aload_n (pc := 34) hB dX5_plays_34 0 rfl ?_
          refine gx_get (pc := 35) hB dX5_plays_35 inX5 rfl 0 rfl 11 (by decide) tb_737 rfl rfl ?_
          refine gx_istore_n (pc := 38) hB dX5_plays_38 (by decide) [(1, .int (nI (psSp s))), (0, .ref m), (2, .int (bI (psIs s)))] rfl ?_
          refine gx_aload_n (pc := 39) hB dX5_plays_39 1 rfl ?_
          refine gx_dVi (pc := 40) (r := (rdR X ty (psZ s) (psSp s)).1) (wr := []) hB (c_X5_reads l K m q1 q2 q3 q4 q5 q6 q7 q8 (psS s) P H (psT s) X (psZ s) n true ty (psCl s) (psSp s) (psCa s) (psCo s) (by first | assumption | omega | decide) (by first | assumption | omega | decide)) mX5_reads dX5_plays_40 tb_991 pX5_reads ⟨Nat.le_of_ble_eq_true rfl, Nat.le_of_ble_eq_true rfl⟩ ⟨rfl, rfl⟩ ⟨Nat.zero_le _, Nat.zero_le _⟩ rfl (Nat.le_of_ble_eq_true rfl) [0, 1, 2, 3, 4, 5, 6, 7, 8] [] rfl rfl (by decide) (by decide) (by decide) rfl rfl [0, 1, 2, 3, 4, 5, 6, 7, 8] (by decide) (wM K m q1 q2 q3 q4 q5 q6 q7 q8 (psS s) P H (psT s) X ((rdR X ty (psZ s) (psSp s)).2.2) n true ty (psCl s) ((rdR X ty (psZ s) (psSp s)).2.1) (psCa s) (psCo s)) rfl ?_
          refine gx_istore_n (pc := 43) hB dX5_plays_43 (by decide) [(3, .int ((rdR X ty (psZ s) (psSp s)).1)), (1, .int (nI (psSp s))), (0, .ref m), (2, .int (bI (psIs s)))] rfl ?_
          refine gx_aload_n (pc := 44) hB dX5_plays_44 2 rfl ?_
          refine gx_iload_n (pc := 45) hB dX5_plays_45 0 rfl ?_
          refine gx_if_ge (pc := 46) hB 53 dX5_plays_46 (by decide) (fun c_9 => ?_) (fun c_9 => ?_)
          · refine gx_aload_n (pc := 53) hB dX5_plays_53 2 rfl ?_
            refine gx_iload_n (pc := 54) hB dX5_plays_54 0 rfl ?_
            refine gx_dVi (pc := 55) (r := (mCall (psS s) (nn (psS s) 3) (nn (psS s) 4) (nn (psS s) 5) ((rdR X ty (psZ s) (psSp s)).2.2) ((rdR X ty (psZ s) (psSp s)).1)).1) (wr := []) hB (c_X5_calls l K m q1 q2 q3 q4 q5 q6 q7 q8 (psS s) P H (psT s) X ((rdR X ty (psZ s) (psSp s)).2.2) n true ty (psCl s) ((rdR X ty (psZ s) (psSp s)).2.1) (psCa s) (psCo s) (nn (psS s) 2) (nn (psS s) 3) (nn (psS s) 4) (nn (psS s) 5) ((rdR X ty (psZ s) (psSp s)).1) hok (by first | assumption | omega | decide)) mX5_calls dX5_plays_55 tb_1012 pX5_calls ⟨Nat.le_of_ble_eq_true rfl, Nat.le_of_ble_eq_true rfl⟩ ⟨rfl, rfl⟩ ⟨Nat.zero_le _, Nat.zero_le _⟩ rfl (Nat.le_of_ble_eq_true rfl) [0, 1, 2, 3, 4, 5, 6, 7, 8] [] rfl rfl (by decide) (by decide) (by decide) rfl rfl [0, 1, 2, 3, 4, 5, 6, 7, 8] (by decide) (wM K m q1 q2 q3 q4 q5 q6 q7 q8 ((mCall (psS s) (nn (psS s) 3) (nn (psS s) 4) (nn (psS s) 5) ((rdR X ty (psZ s) (psSp s)).2.2) ((rdR X ty (psZ s) (psSp s)).1)).2.2) (kpP (mCall (psS s) (nn (psS s) 3) (nn (psS s) 4) (nn (psS s) 5) ((rdR X ty (psZ s) (psSp s)).2.2) ((rdR X ty (psZ s) (psSp s)).1)).2.1 true n P (psS s)) H (if ((rdR X ty (psZ s) (psSp s)).1) = 3 then (psS s) else (psT s)) X ((rdR X ty (psZ s) (psSp s)).2.2) (kpn (mCall (psS s) (nn (psS s) 3) (nn (psS s) 4) (nn (psS s) 5) ((rdR X ty (psZ s) (psSp s)).2.2) ((rdR X ty (psZ s) (psSp s)).1)).2.1 true n) true ty (if ((rdR X ty (psZ s) (psSp s)).1) = 3 then (mClN (psS s) (nn (psS s) 4) (-1) (nn (psS s) 4)).2.1 else (psCl s)) ((rdR X ty (psZ s) (psSp s)).2.1) (psCa s) (psCo s)) rfl ?_
            refine gx_ws (ws' := wM K m q1 q2 q3 q4 q5 q6 q7 q8 ((mCall (psS s) (nn (psS s) 3) (nn (psS s) 4) (nn (psS s) 5) ((rdR X ty (psZ s) (psSp s)).2.2) ((rdR X ty (psZ s) (psSp s)).1)).2.2) P H (if ((rdR X ty (psZ s) (psSp s)).1) = 3 then (psS s) else (psT s)) X ((rdR X ty (psZ s) (psSp s)).2.2) n true ty (if ((rdR X ty (psZ s) (psSp s)).1) = 3 then (mClN (psS s) (nn (psS s) 4) (-1) (nn (psS s) 4)).2.1 else (psCl s)) ((rdR X ty (psZ s) (psSp s)).2.1) (psCa s) (psCo s)) (by rw [kpP_t, kpn_t]) ?_
            refine gx_put (pc := 58) hB dX5_plays_58 inX5 rfl tyX5 tyX5_ok nmX5 0 rfl 12 (by decide) tb_738 rfl rfl rfl rfl (Nat.le_of_ble_eq_true rfl) (wM K m q1 q2 q3 q4 q5 q6 q7 q8 ((mCall (psS s) (nn (psS s) 3) (nn (psS s) 4) (nn (psS s) 5) ((rdR X ty (psZ s) (psSp s)).2.2) ((rdR X ty (psZ s) (psSp s)).1)).2.2) P H (if ((rdR X ty (psZ s) (psSp s)).1) = 3 then (psS s) else (psT s)) X ((rdR X ty (psZ s) (psSp s)).2.2) n true ty (if ((rdR X ty (psZ s) (psSp s)).1) = 3 then (mClN (psS s) (nn (psS s) 4) (-1) (nn (psS s) 4)).2.1 else (psCl s)) ((rdR X ty (psZ s) (psSp s)).2.1) ((mCall (psS s) (nn (psS s) 3) (nn (psS s) 4) (nn (psS s) 5) ((rdR X ty (psZ s) (psSp s)).2.2) ((rdR X ty (psZ s) (psSp s)).1)).1) (psCo s)) rfl ?_
            refine gx_iload_n (pc := 61) hB dX5_plays_61 0 rfl ?_
            refine gx_if_lt (pc := 62) hB 76 dX5_plays_62 (by decide) (fun c_10 => ?_) (fun c_10 => ?_)
            · exact (by first | exact absurd c_9 c_10 | exact absurd c_10 c_9 | exact absurd c_9 (Int32.not_le.mpr c_10) | exact absurd c_9 (Int32.not_lt.mpr c_10) | exact absurd (Int32.not_le.mp c_9) c_10 | exact absurd (Int32.not_lt.mp c_9) c_10)
            · refine gx_aload_n (pc := 65) hB dX5_plays_65 2 rfl ?_
              refine gx_get (pc := 66) hB dX5_plays_66 inX5 rfl 0 rfl 12 (by decide) tb_738 rfl rfl ?_
              refine gx_if_lt (pc := 69) hB 76 dX5_plays_69 (by decide) (fun c_11 => ?_) (fun c_11 => ?_)
              · refine gx_iconst (pc := 76) hB dX5_plays_76 0 (by decide) ?_
                refine gx_istore_n (pc := 77) hB dX5_plays_77 (by decide) [(2, .int 0), (3, .int ((rdR X ty (psZ s) (psSp s)).1)), (1, .int (nI (psSp s))), (0, .ref m)] rfl ?_
                refine gx_aload_n (pc := 78) hB dX5_plays_78 3 rfl ?_
                refine gx_dup (pc := 79) hB dX5_plays_79 rfl ?_
                refine gx_get (pc := 80) hB dX5_plays_80 inX5 rfl 0 rfl 13 (by decide) tb_739 rfl rfl ?_
                refine gx_iconst (pc := 83) hB dX5_plays_83 1 (by decide) ?_
                refine gx_iadd (pc := 84) hB dX5_plays_84 ?_
                refine gx_top (show (nI (psCo s)) + 1 = nI (psCo s + 1) from nI_add (psCo s) 1) ?_
                refine gx_put (pc := 85) hB dX5_plays_85 inX5 rfl tyX5 tyX5_ok nmX5 0 rfl 13 (by decide) tb_739 rfl rfl rfl rfl (Nat.le_of_ble_eq_true rfl) (wM K m q1 q2 q3 q4 q5 q6 q7 q8 ((mCall (psS s) (nn (psS s) 3) (nn (psS s) 4) (nn (psS s) 5) ((rdR X ty (psZ s) (psSp s)).2.2) ((rdR X ty (psZ s) (psSp s)).1)).2.2) P H (if ((rdR X ty (psZ s) (psSp s)).1) = 3 then (psS s) else (psT s)) X ((rdR X ty (psZ s) (psSp s)).2.2) n true ty (if ((rdR X ty (psZ s) (psSp s)).1) = 3 then (mClN (psS s) (nn (psS s) 4) (-1) (nn (psS s) 4)).2.1 else (psCl s)) ((rdR X ty (psZ s) (psSp s)).2.1) ((mCall (psS s) (nn (psS s) 3) (nn (psS s) 4) (nn (psS s) 5) ((rdR X ty (psZ s) (psSp s)).2.2) ((rdR X ty (psZ s) (psSp s)).1)).1) (psCo s + 1)) rfl ?_
                refine gx_goto (pc := 88) hB 19 dX5_plays_88 (by decide) ?_
                refine gx_sub hB (lv' := [(0, .ref m), (1, .int (nI (psSp s))), (2, .int 0)]) [3, 2, 0] rfl ?_
                have e_p : plStep X ty s = ((mCall (psS s) (nn (psS s) 3) (nn (psS s) 4) (nn (psS s) 5) ((rdR X ty (psZ s) (psSp s)).2.2) ((rdR X ty (psZ s) (psSp s)).1)).2.2, (if ((rdR X ty (psZ s) (psSp s)).1) = 3 then (psS s) else (psT s)), (if ((rdR X ty (psZ s) (psSp s)).1) = 3 then (mClN (psS s) (nn (psS s) 4) (-1) (nn (psS s) 4)).2.1 else (psCl s)), (rdR X ty (psZ s) (psSp s)).2.2, (rdR X ty (psZ s) (psSp s)).2.1, (mCall (psS s) (nn (psS s) 3) (nn (psS s) 4) (nn (psS s) 5) ((rdR X ty (psZ s) (psSp s)).2.2) ((rdR X ty (psZ s) (psSp s)).1)).1, psCo s + 1, psSp s, false) := by simp [plStep, Int32.not_le.mp c_5, eq_false c_5, s_lt, c_7, c_9, eq_false (Int32.not_lt.mpr c_9), Int32.not_lt.mp c_10, eq_false c_10, c_11, eq_false (Int32.not_le.mpr c_11)]
                refine gx_all (ws' := wM K m q1 q2 q3 q4 q5 q6 q7 q8 (psS (plStep X ty s)) P H (psT (plStep X ty s)) X (psZ (plStep X ty s)) n true ty (psCl (plStep X ty s)) (psSp (plStep X ty s)) (psCa (plStep X ty s)) (psCo (plStep X ty s))) (lv' := [(0, .ref m), (1, .int (nI (psFr (plStep X ty s)))), (2, .int (bI (psIs (plStep X ty s))))]) (by rw [e_p]; rfl) (by rw [e_p]; rfl) ?_
                exact ihf (plStep X ty s) (plStep_okk hok) (by have := (plStep_sp (X := X) (ty := ty) (s := s)).1; omega) (fun q => by have := (plStep_sp (X := X) (ty := ty) (s := s)).2 q; have := hms c_7; omega) (by rw [← he]; simp [plN, s_lt, c_7])
              · refine gx_iconst (pc := 72) hB dX5_plays_72 1 (by decide) ?_
                refine gx_goto (pc := 73) hB 77 dX5_plays_73 (by decide) ?_
                refine gx_istore_n (pc := 77) hB dX5_plays_77 (by decide) [(2, .int 1), (3, .int ((rdR X ty (psZ s) (psSp s)).1)), (1, .int (nI (psSp s))), (0, .ref m)] rfl ?_
                refine gx_aload_n (pc := 78) hB dX5_plays_78 3 rfl ?_
                refine gx_dup (pc := 79) hB dX5_plays_79 rfl ?_
                refine gx_get (pc := 80) hB dX5_plays_80 inX5 rfl 0 rfl 13 (by decide) tb_739 rfl rfl ?_
                refine gx_iconst (pc := 83) hB dX5_plays_83 1 (by decide) ?_
                refine gx_iadd (pc := 84) hB dX5_plays_84 ?_
                refine gx_top (show (nI (psCo s)) + 1 = nI (psCo s + 1) from nI_add (psCo s) 1) ?_
                refine gx_put (pc := 85) hB dX5_plays_85 inX5 rfl tyX5 tyX5_ok nmX5 0 rfl 13 (by decide) tb_739 rfl rfl rfl rfl (Nat.le_of_ble_eq_true rfl) (wM K m q1 q2 q3 q4 q5 q6 q7 q8 ((mCall (psS s) (nn (psS s) 3) (nn (psS s) 4) (nn (psS s) 5) ((rdR X ty (psZ s) (psSp s)).2.2) ((rdR X ty (psZ s) (psSp s)).1)).2.2) P H (if ((rdR X ty (psZ s) (psSp s)).1) = 3 then (psS s) else (psT s)) X ((rdR X ty (psZ s) (psSp s)).2.2) n true ty (if ((rdR X ty (psZ s) (psSp s)).1) = 3 then (mClN (psS s) (nn (psS s) 4) (-1) (nn (psS s) 4)).2.1 else (psCl s)) ((rdR X ty (psZ s) (psSp s)).2.1) ((mCall (psS s) (nn (psS s) 3) (nn (psS s) 4) (nn (psS s) 5) ((rdR X ty (psZ s) (psSp s)).2.2) ((rdR X ty (psZ s) (psSp s)).1)).1) (psCo s + 1)) rfl ?_
                refine gx_goto (pc := 88) hB 19 dX5_plays_88 (by decide) ?_
                refine gx_sub hB (lv' := [(0, .ref m), (1, .int (nI (psSp s))), (2, .int 1)]) [3, 2, 0] rfl ?_
                have e_p : plStep X ty s = ((mCall (psS s) (nn (psS s) 3) (nn (psS s) 4) (nn (psS s) 5) ((rdR X ty (psZ s) (psSp s)).2.2) ((rdR X ty (psZ s) (psSp s)).1)).2.2, (if ((rdR X ty (psZ s) (psSp s)).1) = 3 then (psS s) else (psT s)), (if ((rdR X ty (psZ s) (psSp s)).1) = 3 then (mClN (psS s) (nn (psS s) 4) (-1) (nn (psS s) 4)).2.1 else (psCl s)), (rdR X ty (psZ s) (psSp s)).2.2, (rdR X ty (psZ s) (psSp s)).2.1, (mCall (psS s) (nn (psS s) 3) (nn (psS s) 4) (nn (psS s) 5) ((rdR X ty (psZ s) (psSp s)).2.2) ((rdR X ty (psZ s) (psSp s)).1)).1, psCo s + 1, psSp s, true) := by simp [plStep, Int32.not_le.mp c_5, eq_false c_5, s_lt, c_7, c_9, eq_false (Int32.not_lt.mpr c_9), Int32.not_lt.mp c_10, eq_false c_10, Int32.not_lt.mp c_11, eq_false c_11]
                refine gx_all (ws' := wM K m q1 q2 q3 q4 q5 q6 q7 q8 (psS (plStep X ty s)) P H (psT (plStep X ty s)) X (psZ (plStep X ty s)) n true ty (psCl (plStep X ty s)) (psSp (plStep X ty s)) (psCa (plStep X ty s)) (psCo (plStep X ty s))) (lv' := [(0, .ref m), (1, .int (nI (psFr (plStep X ty s)))), (2, .int (bI (psIs (plStep X ty s))))]) (by rw [e_p]; rfl) (by rw [e_p]; rfl) ?_
                exact ihf (plStep X ty s) (plStep_okk hok) (by have := (plStep_sp (X := X) (ty := ty) (s := s)).1; omega) (fun q => by have := (plStep_sp (X := X) (ty := ty) (s := s)).2 q; have := hms c_7; omega) (by rw [← he]; simp [plN, s_lt, c_7])
          · refine gx_iconst (pc := 49) hB dX5_plays_49 0 (by decide) ?_
            refine gx_goto (pc := 50) hB 58 dX5_plays_50 (by decide) ?_
            refine gx_put (pc := 58) hB dX5_plays_58 inX5 rfl tyX5 tyX5_ok nmX5 0 rfl 12 (by decide) tb_738 rfl rfl rfl rfl (Nat.le_of_ble_eq_true rfl) (wM K m q1 q2 q3 q4 q5 q6 q7 q8 (psS s) P H (psT s) X ((rdR X ty (psZ s) (psSp s)).2.2) n true ty (psCl s) ((rdR X ty (psZ s) (psSp s)).2.1) 0 (psCo s)) rfl ?_
            refine gx_iload_n (pc := 61) hB dX5_plays_61 0 rfl ?_
            refine gx_if_lt (pc := 62) hB 76 dX5_plays_62 (by decide) (fun c_12 => ?_) (fun c_12 => ?_)
            · refine gx_iconst (pc := 76) hB dX5_plays_76 0 (by decide) ?_
              refine gx_istore_n (pc := 77) hB dX5_plays_77 (by decide) [(2, .int 0), (3, .int ((rdR X ty (psZ s) (psSp s)).1)), (1, .int (nI (psSp s))), (0, .ref m)] rfl ?_
              refine gx_aload_n (pc := 78) hB dX5_plays_78 3 rfl ?_
              refine gx_dup (pc := 79) hB dX5_plays_79 rfl ?_
              refine gx_get (pc := 80) hB dX5_plays_80 inX5 rfl 0 rfl 13 (by decide) tb_739 rfl rfl ?_
              refine gx_iconst (pc := 83) hB dX5_plays_83 1 (by decide) ?_
              refine gx_iadd (pc := 84) hB dX5_plays_84 ?_
              refine gx_top (show (nI (psCo s)) + 1 = nI (psCo s + 1) from nI_add (psCo s) 1) ?_
              refine gx_put (pc := 85) hB dX5_plays_85 inX5 rfl tyX5 tyX5_ok nmX5 0 rfl 13 (by decide) tb_739 rfl rfl rfl rfl (Nat.le_of_ble_eq_true rfl) (wM K m q1 q2 q3 q4 q5 q6 q7 q8 (psS s) P H (psT s) X ((rdR X ty (psZ s) (psSp s)).2.2) n true ty (psCl s) ((rdR X ty (psZ s) (psSp s)).2.1) 0 (psCo s + 1)) rfl ?_
              refine gx_goto (pc := 88) hB 19 dX5_plays_88 (by decide) ?_
              refine gx_sub hB (lv' := [(0, .ref m), (1, .int (nI (psSp s))), (2, .int 0)]) [3, 2, 0] rfl ?_
              have e_p : plStep X ty s = (psS s, psT s, psCl s, (rdR X ty (psZ s) (psSp s)).2.2, (rdR X ty (psZ s) (psSp s)).2.1, 0, psCo s + 1, psSp s, false) := by simp [plStep, Int32.not_le.mp c_5, eq_false c_5, s_lt, c_7, Int32.not_le.mp c_9, eq_false c_9, c_12, eq_false (Int32.not_le.mpr c_12)]
              refine gx_all (ws' := wM K m q1 q2 q3 q4 q5 q6 q7 q8 (psS (plStep X ty s)) P H (psT (plStep X ty s)) X (psZ (plStep X ty s)) n true ty (psCl (plStep X ty s)) (psSp (plStep X ty s)) (psCa (plStep X ty s)) (psCo (plStep X ty s))) (lv' := [(0, .ref m), (1, .int (nI (psFr (plStep X ty s)))), (2, .int (bI (psIs (plStep X ty s))))]) (by rw [e_p]; rfl) (by rw [e_p]; rfl) ?_
              exact ihf (plStep X ty s) (plStep_okk hok) (by have := (plStep_sp (X := X) (ty := ty) (s := s)).1; omega) (fun q => by have := (plStep_sp (X := X) (ty := ty) (s := s)).2 q; have := hms c_7; omega) (by rw [← he]; simp [plN, s_lt, c_7])
            · exact (by first | exact absurd c_9 c_12 | exact absurd c_12 c_9 | exact absurd c_9 (Int32.not_le.mpr c_12) | exact absurd c_9 (Int32.not_lt.mpr c_12) | exact absurd (Int32.not_le.mp c_9) c_12 | exact absurd (Int32.not_lt.mp c_9) c_12)
  refine gx_sub hB (lv' := [(0, .ref m), (1, .int 0), (2, .int 1)]) [2, 1, 0] rfl ?_
  exact loop_19 81 (pl0 S T cl Z ca) (sOkk_of h0) (by show 0 ≤ 110; omega) (fun _ => by show ty - 0 < 81; omega) rfl
theorem pX5_fault : (parseMethodDescriptor yX5_fault.desc).map (fun d => d.parameters.length) = some 1 := by decide +kernel
theorem mX5_fault : gx_M yX5_fault cX5_fault 3 (some .int) := ⟨tb_984, tb_985, tb_73, tb_986, by decide, by decide⟩
set_option maxHeartbeats 4000000 in
set_option maxRecDepth 100000 in
theorem c_X5_fault (l : Launch) (K : gx_K) (m q1 q2 q3 q4 q5 q6 q7 q8 : Nat) (S P H T X Z : Nat → Int32) (n : Nat) (ru : Bool) (ty : Nat) (cl : Int32) (sp : Nat) (ca : Int32) (co : Nat) (a b c e : Nat) (x : Int32) (h0 : sOk S a b c e) (h1 : n ≤ 4) (h2 : ty ≤ 80) : gx_Ctr l K yX5_fault cX5_fault 3 (some .int) (rmm 8 159) [.ref m, .int x] (wM K m q1 q2 q3 q4 q5 q6 q7 q8 S P H T X Z n ru ty cl sp ca co) (gx_D (some (.int (mFault X ty S T cl Z ca x))) (wM K m q1 q2 q3 q4 q5 q6 q7 q8 S P (if bIn x 0 2 then S else H) (if bIn x 0 2 then psT (plR X ty S T cl Z ca) else T) X (if bIn x 0 2 then psZ (plR X ty S T cl Z ca) else Z) n (if bIn x 0 2 then false else ru) ty (if bIn x 0 2 then psCl (plR X ty S T cl Z ca) else cl) (if bIn x 0 2 then psSp (plR X ty S T cl Z ca) else sp) (if bIn x 0 2 then psCa (plR X ty S T cl Z ca) else ca) (if bIn x 0 2 then psCo (plR X ty S T cl Z ca) else co))) := by
  refine gx_of (by decide) (Nat.le_of_ble_eq_true rfl) (fun G hC => ?_)
  have hB := hC.b
  refine gx_lv (lv' := [(0, .ref m), (1, .int x)]) rfl ?_
  have hb0 := h0.1
  refine gx_iload_n (pc := 0) hB dX5_fault_0 1 rfl ?_
  refine gx_iconst (pc := 1) hB dX5_fault_1 0 (by decide) ?_
  refine gx_iconst (pc := 2) hB dX5_fault_2 2 (by decide) ?_
  refine gx_dSi (pc := 3) (r := bI (bIn x 0 2)) (wr := [(m, .inr (5, [.ref q1, .ref q2, .ref q3, .ref q4, .int (nI n), .int (bI ru), .ref q5, .int (nI ty), .ref q6, .ref q7, .int cl, .int (nI sp), .int ca, .int (nI co), .ref q8])), (q1, .inl (K.2.1.2.1, 345, .inl S)), (q2, .inl (K.2.1.2.1, 1380, .inl P)), (q3, .inl (K.2.1.2.1, 345, .inl H)), (q4, .inl (K.2.1.2.1, 345, .inl T)), (q5, .inl (K.2.1.2.1, 80, .inl X)), (q6, .inl (K.2.1.2.2.1, 9, .inr (.inl mW))), (q7, .inl (K.2.1.2.1, 9, .inl mN)), (q8, .inl (K.2.1.2.1, 4, .inl Z))]) hB (c_X5_in l K x 0 2 ) mX5_in dX5_fault_3 tb_797 pX5_in ⟨Nat.le_of_ble_eq_true rfl, Nat.le_of_ble_eq_true rfl⟩ ⟨rfl, rfl⟩ ⟨Nat.zero_le _, Nat.zero_le _⟩ rfl (Nat.le_of_ble_eq_true rfl) [] [0, 1, 2, 3, 4, 5, 6, 7, 8] rfl rfl (by decide) (by decide) (by decide) [0, 1, 2, 3, 4, 5, 6, 7, 8] (by decide) (wM K m q1 q2 q3 q4 q5 q6 q7 q8 S P H T X Z n ru ty cl sp ca co) rfl ?_
  refine gx_if_ne_b (pc := 6) hB 11 dX5_fault_6 (by decide) (fun c_1 => ?_) (fun c_1 => ?_)
  · refine gx_aload_n (pc := 11) hB dX5_fault_11 0 rfl ?_
    refine gx_get (pc := 12) hB dX5_fault_12 inX5 rfl 0 rfl 0 (by decide) tb_726 rfl rfl ?_
    refine gx_aload_n (pc := 15) hB dX5_fault_15 0 rfl ?_
    refine gx_get (pc := 16) hB dX5_fault_16 inX5 rfl 0 rfl 2 (by decide) tb_728 rfl rfl ?_
    refine gx_dSv (pc := 19) (wr := [(m, .inr (5, [.ref q1, .ref q2, .ref q3, .ref q4, .int (nI n), .int (bI ru), .ref q5, .int (nI ty), .ref q6, .ref q7, .int cl, .int (nI sp), .int ca, .int (nI co), .ref q8])), (q2, .inl (K.2.1.2.1, 1380, .inl P)), (q4, .inl (K.2.1.2.1, 345, .inl T)), (q5, .inl (K.2.1.2.1, 80, .inl X)), (q6, .inl (K.2.1.2.2.1, 9, .inr (.inl mW))), (q7, .inl (K.2.1.2.1, 9, .inl mN)), (q8, .inl (K.2.1.2.1, 4, .inl Z))]) hB (c_X5_copies l K q1 q3 S H ) mX5_copies dX5_fault_19 tb_860 pX5_copies ⟨Nat.le_of_ble_eq_true rfl, Nat.le_of_ble_eq_true rfl⟩ ⟨rfl, rfl⟩ ⟨Nat.zero_le _, Nat.zero_le _⟩ rfl (Nat.le_of_ble_eq_true rfl) [1, 3] [0, 2, 4, 5, 6, 7, 8] rfl rfl (by decide) (by decide) (by decide) [0, 7, 1, 8, 2, 3, 4, 5, 6] (by decide) (wM K m q1 q2 q3 q4 q5 q6 q7 q8 S P S T X Z n ru ty cl sp ca co) rfl ?_
    refine gx_aload_n (pc := 22) hB dX5_fault_22 0 rfl ?_
    refine gx_dVi (pc := 23) (r := plA (plR X ty S T cl Z ca)) (wr := []) hB (c_X5_plays l K m q1 q2 q3 q4 q5 q6 q7 q8 S P S T X Z n ru ty cl sp ca co a b c e (by first | assumption | omega | decide) (by first | assumption | omega | decide) (by first | assumption | omega | decide)) mX5_plays dX5_fault_23 tb_987 pX5_plays ⟨Nat.le_of_ble_eq_true rfl, Nat.le_of_ble_eq_true rfl⟩ ⟨rfl, rfl⟩ ⟨Nat.zero_le _, Nat.zero_le _⟩ rfl (Nat.le_of_ble_eq_true rfl) [0, 1, 2, 3, 4, 5, 6, 7, 8] [] rfl rfl (by decide) (by decide) (by decide) rfl rfl [0, 1, 2, 3, 4, 5, 6, 7, 8] (by decide) (wM K m q1 q2 q3 q4 q5 q6 q7 q8 (psS (plR X ty S T cl Z ca)) P S (psT (plR X ty S T cl Z ca)) X (psZ (plR X ty S T cl Z ca)) n false ty (psCl (plR X ty S T cl Z ca)) (psSp (plR X ty S T cl Z ca)) (psCa (plR X ty S T cl Z ca)) (psCo (plR X ty S T cl Z ca))) rfl ?_
    refine gx_istore_n (pc := 26) hB dX5_fault_26 (by decide) [(2, .int (plA (plR X ty S T cl Z ca))), (0, .ref m), (1, .int x)] rfl ?_
    refine gx_aload_n (pc := 27) hB dX5_fault_27 1 rfl ?_
    refine gx_get (pc := 28) hB dX5_fault_28 inX5 rfl 0 rfl 2 (by decide) tb_728 rfl rfl ?_
    refine gx_aload_n (pc := 31) hB dX5_fault_31 1 rfl ?_
    refine gx_get (pc := 32) hB dX5_fault_32 inX5 rfl 0 rfl 0 (by decide) tb_726 rfl rfl ?_
    refine gx_dSv (pc := 35) (wr := [(m, .inr (5, [.ref q1, .ref q2, .ref q3, .ref q4, .int (nI n), .int (bI false), .ref q5, .int (nI ty), .ref q6, .ref q7, .int (psCl (plR X ty S T cl Z ca)), .int (nI (psSp (plR X ty S T cl Z ca))), .int (psCa (plR X ty S T cl Z ca)), .int (nI (psCo (plR X ty S T cl Z ca))), .ref q8])), (q2, .inl (K.2.1.2.1, 1380, .inl P)), (q4, .inl (K.2.1.2.1, 345, .inl (psT (plR X ty S T cl Z ca)))), (q5, .inl (K.2.1.2.1, 80, .inl X)), (q6, .inl (K.2.1.2.2.1, 9, .inr (.inl mW))), (q7, .inl (K.2.1.2.1, 9, .inl mN)), (q8, .inl (K.2.1.2.1, 4, .inl (psZ (plR X ty S T cl Z ca))))]) hB (c_X5_copies l K q3 q1 S (psS (plR X ty S T cl Z ca)) ) mX5_copies dX5_fault_35 tb_860 pX5_copies ⟨Nat.le_of_ble_eq_true rfl, Nat.le_of_ble_eq_true rfl⟩ ⟨rfl, rfl⟩ ⟨Nat.zero_le _, Nat.zero_le _⟩ rfl (Nat.le_of_ble_eq_true rfl) [3, 1] [0, 2, 4, 5, 6, 7, 8] rfl rfl (by decide) (by decide) (by decide) [0, 8, 1, 7, 2, 3, 4, 5, 6] (by decide) (wM K m q1 q2 q3 q4 q5 q6 q7 q8 S P S (psT (plR X ty S T cl Z ca)) X (psZ (plR X ty S T cl Z ca)) n false ty (psCl (plR X ty S T cl Z ca)) (psSp (plR X ty S T cl Z ca)) (psCa (plR X ty S T cl Z ca)) (psCo (plR X ty S T cl Z ca))) rfl ?_
    refine gx_iload_n (pc := 38) hB dX5_fault_38 0 rfl ?_
    refine gx_bipush (pc := 39) hB dX5_fault_39 (-4) (by decide) ?_
    refine gx_icmp_eq (pc := 41) hB 48 dX5_fault_41 (by decide) (fun c_2 => ?_) (fun c_2 => ?_)
    · refine gx_iload_n (pc := 48) hB dX5_fault_48 0 rfl ?_
      refine gx_goto (pc := 49) hB 88 dX5_fault_49 (by decide) ?_
      have e1 : mFault X ty S T cl Z ca x = (plA (plR X ty S T cl Z ca)) := by simp [mFault, c_1, eq_true c_2]
      have f0 : (if bIn x 0 2 then S else H) = S := by simp [mFault, c_1, eq_true c_2]
      have f1 : (if bIn x 0 2 then psT (plR X ty S T cl Z ca) else T) = (psT (plR X ty S T cl Z ca)) := by simp [mFault, c_1, eq_true c_2]
      have f2 : (if bIn x 0 2 then psZ (plR X ty S T cl Z ca) else Z) = (psZ (plR X ty S T cl Z ca)) := by simp [mFault, c_1, eq_true c_2]
      have f3 : (if bIn x 0 2 then false else ru) = false := by simp [mFault, c_1, eq_true c_2]
      have f4 : (if bIn x 0 2 then psCl (plR X ty S T cl Z ca) else cl) = (psCl (plR X ty S T cl Z ca)) := by simp [mFault, c_1, eq_true c_2]
      have f5 : (if bIn x 0 2 then psSp (plR X ty S T cl Z ca) else sp) = (psSp (plR X ty S T cl Z ca)) := by simp [mFault, c_1, eq_true c_2]
      have f6 : (if bIn x 0 2 then psCa (plR X ty S T cl Z ca) else ca) = (psCa (plR X ty S T cl Z ca)) := by simp [mFault, c_1, eq_true c_2]
      have f7 : (if bIn x 0 2 then psCo (plR X ty S T cl Z ca) else co) = (psCo (plR X ty S T cl Z ca)) := by simp [mFault, c_1, eq_true c_2]
      exact gx_iret (pc := 88) hC dX5_fault_88 (Nat.zero_le _) (Nat.zero_le _) (⟨by rw [e1], by rw [f0, f1, f2, f3, f4, f5, f6, f7]⟩)
    · refine gx_iload_n (pc := 44) hB dX5_fault_44 2 rfl ?_
      refine gx_if_ne (pc := 45) hB 52 dX5_fault_45 (by decide) (fun c_3 => ?_) (fun c_3 => ?_)
      · refine gx_iload_n (pc := 52) hB dX5_fault_52 2 rfl ?_
        refine gx_iconst (pc := 53) hB dX5_fault_53 1 (by decide) ?_
        refine gx_icmp_ne (pc := 54) hB 72 dX5_fault_54 (by decide) (fun c_4 => ?_) (fun c_4 => ?_)
        · refine gx_aload_n (pc := 72) hB dX5_fault_72 1 rfl ?_
          refine gx_get (pc := 73) hB dX5_fault_73 inX5 rfl 0 rfl 12 (by decide) tb_738 rfl rfl ?_
          refine gx_if_ne (pc := 76) hB 84 dX5_fault_76 (by decide) (fun c_5 => ?_) (fun c_5 => ?_)
          · refine gx_aload_n (pc := 84) hB dX5_fault_84 1 rfl ?_
            refine gx_get (pc := 85) hB dX5_fault_85 inX5 rfl 0 rfl 12 (by decide) tb_738 rfl rfl ?_
            have e1 : mFault X ty S T cl Z ca x = (psCa (plR X ty S T cl Z ca)) := by simp [mFault, c_1, eq_false c_2, eq_false c_3, eq_false c_4, eq_false c_5]
            have f0 : (if bIn x 0 2 then S else H) = S := by simp [mFault, c_1, eq_false c_2, eq_false c_3, eq_false c_4, eq_false c_5]
            have f1 : (if bIn x 0 2 then psT (plR X ty S T cl Z ca) else T) = (psT (plR X ty S T cl Z ca)) := by simp [mFault, c_1, eq_false c_2, eq_false c_3, eq_false c_4, eq_false c_5]
            have f2 : (if bIn x 0 2 then psZ (plR X ty S T cl Z ca) else Z) = (psZ (plR X ty S T cl Z ca)) := by simp [mFault, c_1, eq_false c_2, eq_false c_3, eq_false c_4, eq_false c_5]
            have f3 : (if bIn x 0 2 then false else ru) = false := by simp [mFault, c_1, eq_false c_2, eq_false c_3, eq_false c_4, eq_false c_5]
            have f4 : (if bIn x 0 2 then psCl (plR X ty S T cl Z ca) else cl) = (psCl (plR X ty S T cl Z ca)) := by simp [mFault, c_1, eq_false c_2, eq_false c_3, eq_false c_4, eq_false c_5]
            have f5 : (if bIn x 0 2 then psSp (plR X ty S T cl Z ca) else sp) = (psSp (plR X ty S T cl Z ca)) := by simp [mFault, c_1, eq_false c_2, eq_false c_3, eq_false c_4, eq_false c_5]
            have f6 : (if bIn x 0 2 then psCa (plR X ty S T cl Z ca) else ca) = (psCa (plR X ty S T cl Z ca)) := by simp [mFault, c_1, eq_false c_2, eq_false c_3, eq_false c_4, eq_false c_5]
            have f7 : (if bIn x 0 2 then psCo (plR X ty S T cl Z ca) else co) = (psCo (plR X ty S T cl Z ca)) := by simp [mFault, c_1, eq_false c_2, eq_false c_3, eq_false c_4, eq_false c_5]
            exact gx_iret (pc := 88) hC dX5_fault_88 (Nat.zero_le _) (Nat.zero_le _) (⟨by rw [e1], by rw [f0, f1, f2, f3, f4, f5, f6, f7]⟩)
          · refine gx_bipush (pc := 79) hB dX5_fault_79 (-4) (by decide) ?_
            refine gx_goto (pc := 81) hB 88 dX5_fault_81 (by decide) ?_
            have e1 : mFault X ty S T cl Z ca x = (-4) := by simp [mFault, c_1, eq_false c_2, eq_false c_3, eq_false c_4, eq_true c_5]
            have f0 : (if bIn x 0 2 then S else H) = S := by simp [mFault, c_1, eq_false c_2, eq_false c_3, eq_false c_4, eq_true c_5]
            have f1 : (if bIn x 0 2 then psT (plR X ty S T cl Z ca) else T) = (psT (plR X ty S T cl Z ca)) := by simp [mFault, c_1, eq_false c_2, eq_false c_3, eq_false c_4, eq_true c_5]
            have f2 : (if bIn x 0 2 then psZ (plR X ty S T cl Z ca) else Z) = (psZ (plR X ty S T cl Z ca)) := by simp [mFault, c_1, eq_false c_2, eq_false c_3, eq_false c_4, eq_true c_5]
            have f3 : (if bIn x 0 2 then false else ru) = false := by simp [mFault, c_1, eq_false c_2, eq_false c_3, eq_false c_4, eq_true c_5]
            have f4 : (if bIn x 0 2 then psCl (plR X ty S T cl Z ca) else cl) = (psCl (plR X ty S T cl Z ca)) := by simp [mFault, c_1, eq_false c_2, eq_false c_3, eq_false c_4, eq_true c_5]
            have f5 : (if bIn x 0 2 then psSp (plR X ty S T cl Z ca) else sp) = (psSp (plR X ty S T cl Z ca)) := by simp [mFault, c_1, eq_false c_2, eq_false c_3, eq_false c_4, eq_true c_5]
            have f6 : (if bIn x 0 2 then psCa (plR X ty S T cl Z ca) else ca) = (psCa (plR X ty S T cl Z ca)) := by simp [mFault, c_1, eq_false c_2, eq_false c_3, eq_false c_4, eq_true c_5]
            have f7 : (if bIn x 0 2 then psCo (plR X ty S T cl Z ca) else co) = (psCo (plR X ty S T cl Z ca)) := by simp [mFault, c_1, eq_false c_2, eq_false c_3, eq_false c_4, eq_true c_5]
            exact gx_iret (pc := 88) hC dX5_fault_88 (Nat.zero_le _) (Nat.zero_le _) (⟨by rw [e1], by rw [f0, f1, f2, f3, f4, f5, f6, f7]⟩)
        · refine gx_aload_n (pc := 57) hB dX5_fault_57 1 rfl ?_
          refine gx_get (pc := 58) hB dX5_fault_58 inX5 rfl 0 rfl 12 (by decide) tb_738 rfl rfl ?_
          refine gx_if_ne (pc := 61) hB 68 dX5_fault_61 (by decide) (fun c_6 => ?_) (fun c_6 => ?_)
          · refine gx_iconst (pc := 68) hB dX5_fault_68 2 (by decide) ?_
            refine gx_goto (pc := 69) hB 88 dX5_fault_69 (by decide) ?_
            have e1 : mFault X ty S T cl Z ca x = 2 := by simp [mFault, c_1, eq_false c_2, eq_false c_3, eq_true c_4, eq_false c_6]
            have f0 : (if bIn x 0 2 then S else H) = S := by simp [mFault, c_1, eq_false c_2, eq_false c_3, eq_true c_4, eq_false c_6]
            have f1 : (if bIn x 0 2 then psT (plR X ty S T cl Z ca) else T) = (psT (plR X ty S T cl Z ca)) := by simp [mFault, c_1, eq_false c_2, eq_false c_3, eq_true c_4, eq_false c_6]
            have f2 : (if bIn x 0 2 then psZ (plR X ty S T cl Z ca) else Z) = (psZ (plR X ty S T cl Z ca)) := by simp [mFault, c_1, eq_false c_2, eq_false c_3, eq_true c_4, eq_false c_6]
            have f3 : (if bIn x 0 2 then false else ru) = false := by simp [mFault, c_1, eq_false c_2, eq_false c_3, eq_true c_4, eq_false c_6]
            have f4 : (if bIn x 0 2 then psCl (plR X ty S T cl Z ca) else cl) = (psCl (plR X ty S T cl Z ca)) := by simp [mFault, c_1, eq_false c_2, eq_false c_3, eq_true c_4, eq_false c_6]
            have f5 : (if bIn x 0 2 then psSp (plR X ty S T cl Z ca) else sp) = (psSp (plR X ty S T cl Z ca)) := by simp [mFault, c_1, eq_false c_2, eq_false c_3, eq_true c_4, eq_false c_6]
            have f6 : (if bIn x 0 2 then psCa (plR X ty S T cl Z ca) else ca) = (psCa (plR X ty S T cl Z ca)) := by simp [mFault, c_1, eq_false c_2, eq_false c_3, eq_true c_4, eq_false c_6]
            have f7 : (if bIn x 0 2 then psCo (plR X ty S T cl Z ca) else co) = (psCo (plR X ty S T cl Z ca)) := by simp [mFault, c_1, eq_false c_2, eq_false c_3, eq_true c_4, eq_false c_6]
            exact gx_iret (pc := 88) hC dX5_fault_88 (Nat.zero_le _) (Nat.zero_le _) (⟨by rw [e1], by rw [f0, f1, f2, f3, f4, f5, f6, f7]⟩)
          · refine gx_iconst (pc := 64) hB dX5_fault_64 1 (by decide) ?_
            refine gx_goto (pc := 65) hB 88 dX5_fault_65 (by decide) ?_
            have e1 : mFault X ty S T cl Z ca x = 1 := by simp [mFault, c_1, eq_false c_2, eq_false c_3, eq_true c_4, eq_true c_6]
            have f0 : (if bIn x 0 2 then S else H) = S := by simp [mFault, c_1, eq_false c_2, eq_false c_3, eq_true c_4, eq_true c_6]
            have f1 : (if bIn x 0 2 then psT (plR X ty S T cl Z ca) else T) = (psT (plR X ty S T cl Z ca)) := by simp [mFault, c_1, eq_false c_2, eq_false c_3, eq_true c_4, eq_true c_6]
            have f2 : (if bIn x 0 2 then psZ (plR X ty S T cl Z ca) else Z) = (psZ (plR X ty S T cl Z ca)) := by simp [mFault, c_1, eq_false c_2, eq_false c_3, eq_true c_4, eq_true c_6]
            have f3 : (if bIn x 0 2 then false else ru) = false := by simp [mFault, c_1, eq_false c_2, eq_false c_3, eq_true c_4, eq_true c_6]
            have f4 : (if bIn x 0 2 then psCl (plR X ty S T cl Z ca) else cl) = (psCl (plR X ty S T cl Z ca)) := by simp [mFault, c_1, eq_false c_2, eq_false c_3, eq_true c_4, eq_true c_6]
            have f5 : (if bIn x 0 2 then psSp (plR X ty S T cl Z ca) else sp) = (psSp (plR X ty S T cl Z ca)) := by simp [mFault, c_1, eq_false c_2, eq_false c_3, eq_true c_4, eq_true c_6]
            have f6 : (if bIn x 0 2 then psCa (plR X ty S T cl Z ca) else ca) = (psCa (plR X ty S T cl Z ca)) := by simp [mFault, c_1, eq_false c_2, eq_false c_3, eq_true c_4, eq_true c_6]
            have f7 : (if bIn x 0 2 then psCo (plR X ty S T cl Z ca) else co) = (psCo (plR X ty S T cl Z ca)) := by simp [mFault, c_1, eq_false c_2, eq_false c_3, eq_true c_4, eq_true c_6]
            exact gx_iret (pc := 88) hC dX5_fault_88 (Nat.zero_le _) (Nat.zero_le _) (⟨by rw [e1], by rw [f0, f1, f2, f3, f4, f5, f6, f7]⟩)
      · refine gx_iload_n (pc := 48) hB dX5_fault_48 0 rfl ?_
        refine gx_goto (pc := 49) hB 88 dX5_fault_49 (by decide) ?_
        have e1 : mFault X ty S T cl Z ca x = (plA (plR X ty S T cl Z ca)) := by simp [mFault, c_1, eq_false c_2, eq_true c_3]
        have f0 : (if bIn x 0 2 then S else H) = S := by simp [mFault, c_1, eq_false c_2, eq_true c_3]
        have f1 : (if bIn x 0 2 then psT (plR X ty S T cl Z ca) else T) = (psT (plR X ty S T cl Z ca)) := by simp [mFault, c_1, eq_false c_2, eq_true c_3]
        have f2 : (if bIn x 0 2 then psZ (plR X ty S T cl Z ca) else Z) = (psZ (plR X ty S T cl Z ca)) := by simp [mFault, c_1, eq_false c_2, eq_true c_3]
        have f3 : (if bIn x 0 2 then false else ru) = false := by simp [mFault, c_1, eq_false c_2, eq_true c_3]
        have f4 : (if bIn x 0 2 then psCl (plR X ty S T cl Z ca) else cl) = (psCl (plR X ty S T cl Z ca)) := by simp [mFault, c_1, eq_false c_2, eq_true c_3]
        have f5 : (if bIn x 0 2 then psSp (plR X ty S T cl Z ca) else sp) = (psSp (plR X ty S T cl Z ca)) := by simp [mFault, c_1, eq_false c_2, eq_true c_3]
        have f6 : (if bIn x 0 2 then psCa (plR X ty S T cl Z ca) else ca) = (psCa (plR X ty S T cl Z ca)) := by simp [mFault, c_1, eq_false c_2, eq_true c_3]
        have f7 : (if bIn x 0 2 then psCo (plR X ty S T cl Z ca) else co) = (psCo (plR X ty S T cl Z ca)) := by simp [mFault, c_1, eq_false c_2, eq_true c_3]
        exact gx_iret (pc := 88) hC dX5_fault_88 (Nat.zero_le _) (Nat.zero_le _) (⟨by rw [e1], by rw [f0, f1, f2, f3, f4, f5, f6, f7]⟩)
  · refine gx_iconst (pc := 9) hB dX5_fault_9 (-1) (by decide) ?_
    have e1 : mFault X ty S T cl Z ca x = (-1) := by simp [mFault, c_1]
    have f0 : (if bIn x 0 2 then S else H) = H := by simp [mFault, c_1]
    have f1 : (if bIn x 0 2 then psT (plR X ty S T cl Z ca) else T) = T := by simp [mFault, c_1]
    have f2 : (if bIn x 0 2 then psZ (plR X ty S T cl Z ca) else Z) = Z := by simp [mFault, c_1]
    have f3 : (if bIn x 0 2 then false else ru) = ru := by simp [mFault, c_1]
    have f4 : (if bIn x 0 2 then psCl (plR X ty S T cl Z ca) else cl) = cl := by simp [mFault, c_1]
    have f5 : (if bIn x 0 2 then psSp (plR X ty S T cl Z ca) else sp) = sp := by simp [mFault, c_1]
    have f6 : (if bIn x 0 2 then psCa (plR X ty S T cl Z ca) else ca) = ca := by simp [mFault, c_1]
    have f7 : (if bIn x 0 2 then psCo (plR X ty S T cl Z ca) else co) = co := by simp [mFault, c_1]
    exact gx_iret (pc := 10) hC dX5_fault_10 (Nat.zero_le _) (Nat.zero_le _) (⟨by rw [e1], by rw [f0, f1, f2, f3, f4, f5, f6, f7]⟩)
theorem pX5_play : (parseMethodDescriptor yX5_play.desc).map (fun d => d.parameters.length) = some 0 := by decide +kernel
theorem mX5_play : gx_M yX5_play cX5_play 2 (some .int) := ⟨tb_1026, tb_1027, tb_73, tb_1028, by decide, by decide⟩
set_option maxHeartbeats 4000000 in
set_option maxRecDepth 100000 in
theorem c_X5_play (l : Launch) (K : gx_K) (m q1 q2 q3 q4 q5 q6 q7 q8 : Nat) (S P H T X Z : Nat → Int32) (n : Nat) (ru : Bool) (ty : Nat) (cl : Int32) (sp : Nat) (ca : Int32) (co : Nat) (a b c e : Nat)  (h0 : sOk S a b c e) (h1 : n ≤ 4) (h2 : ty ≤ 80) : gx_Ctr l K yX5_play cX5_play 2 (some .int) (rmm 8 159) [.ref m] (wM K m q1 q2 q3 q4 q5 q6 q7 q8 S P H T X Z n ru ty cl sp ca co) (gx_D (some (.int (if plA (plR X ty S T cl Z ca) = (-4) then (if plA (plR X ty S (psT (plR X ty S T cl Z ca)) (psCl (plR X ty S T cl Z ca)) (psZ (plR X ty S T cl Z ca)) (psCa (plR X ty S T cl Z ca))) = (-4) then nI (psCo (plR X ty S (psT (plR X ty S T cl Z ca)) (psCl (plR X ty S T cl Z ca)) (psZ (plR X ty S T cl Z ca)) (psCa (plR X ty S T cl Z ca)))) else (-4)) else (-2)))) (wM K m q1 q2 q3 q4 q5 q6 q7 q8 (if plA (plR X ty S T cl Z ca) = (-4) then psS (plR X ty S (psT (plR X ty S T cl Z ca)) (psCl (plR X ty S T cl Z ca)) (psZ (plR X ty S T cl Z ca)) (psCa (plR X ty S T cl Z ca))) else S) (if plA (plR X ty S T cl Z ca) = (-4) then chP false n P S else P) S (if plA (plR X ty S T cl Z ca) = (-4) then psT (plR X ty S (psT (plR X ty S T cl Z ca)) (psCl (plR X ty S T cl Z ca)) (psZ (plR X ty S T cl Z ca)) (psCa (plR X ty S T cl Z ca))) else psT (plR X ty S T cl Z ca)) X (if plA (plR X ty S T cl Z ca) = (-4) then psZ (plR X ty S (psT (plR X ty S T cl Z ca)) (psCl (plR X ty S T cl Z ca)) (psZ (plR X ty S T cl Z ca)) (psCa (plR X ty S T cl Z ca))) else psZ (plR X ty S T cl Z ca)) (if plA (plR X ty S T cl Z ca) = (-4) then chn false n else n) false ty (if plA (plR X ty S T cl Z ca) = (-4) then psCl (plR X ty S (psT (plR X ty S T cl Z ca)) (psCl (plR X ty S T cl Z ca)) (psZ (plR X ty S T cl Z ca)) (psCa (plR X ty S T cl Z ca))) else psCl (plR X ty S T cl Z ca)) (if plA (plR X ty S T cl Z ca) = (-4) then psSp (plR X ty S (psT (plR X ty S T cl Z ca)) (psCl (plR X ty S T cl Z ca)) (psZ (plR X ty S T cl Z ca)) (psCa (plR X ty S T cl Z ca))) else psSp (plR X ty S T cl Z ca)) (if plA (plR X ty S T cl Z ca) = (-4) then psCa (plR X ty S (psT (plR X ty S T cl Z ca)) (psCl (plR X ty S T cl Z ca)) (psZ (plR X ty S T cl Z ca)) (psCa (plR X ty S T cl Z ca))) else psCa (plR X ty S T cl Z ca)) (if plA (plR X ty S T cl Z ca) = (-4) then psCo (plR X ty S (psT (plR X ty S T cl Z ca)) (psCl (plR X ty S T cl Z ca)) (psZ (plR X ty S T cl Z ca)) (psCa (plR X ty S T cl Z ca))) else psCo (plR X ty S T cl Z ca)))) := by
  refine gx_of (by decide) (Nat.le_of_ble_eq_true rfl) (fun G hC => ?_)
  have hB := hC.b
  refine gx_lv (lv' := [(0, .ref m)]) rfl ?_
  have hb0 := h0.1
  refine gx_aload_n (pc := 0) hB dX5_play_0 0 rfl ?_
  refine gx_get (pc := 1) hB dX5_play_1 inX5 rfl 0 rfl 0 (by decide) tb_726 rfl rfl ?_
  refine gx_aload_n (pc := 4) hB dX5_play_4 0 rfl ?_
  refine gx_get (pc := 5) hB dX5_play_5 inX5 rfl 0 rfl 2 (by decide) tb_728 rfl rfl ?_
  refine gx_dSv (pc := 8) (wr := [(m, .inr (5, [.ref q1, .ref q2, .ref q3, .ref q4, .int (nI n), .int (bI ru), .ref q5, .int (nI ty), .ref q6, .ref q7, .int cl, .int (nI sp), .int ca, .int (nI co), .ref q8])), (q2, .inl (K.2.1.2.1, 1380, .inl P)), (q4, .inl (K.2.1.2.1, 345, .inl T)), (q5, .inl (K.2.1.2.1, 80, .inl X)), (q6, .inl (K.2.1.2.2.1, 9, .inr (.inl mW))), (q7, .inl (K.2.1.2.1, 9, .inl mN)), (q8, .inl (K.2.1.2.1, 4, .inl Z))]) hB (c_X5_copies l K q1 q3 S H ) mX5_copies dX5_play_8 tb_860 pX5_copies ⟨Nat.le_of_ble_eq_true rfl, Nat.le_of_ble_eq_true rfl⟩ ⟨rfl, rfl⟩ ⟨Nat.zero_le _, Nat.zero_le _⟩ rfl (Nat.le_of_ble_eq_true rfl) [1, 3] [0, 2, 4, 5, 6, 7, 8] rfl rfl (by decide) (by decide) (by decide) [0, 7, 1, 8, 2, 3, 4, 5, 6] (by decide) (wM K m q1 q2 q3 q4 q5 q6 q7 q8 S P S T X Z n ru ty cl sp ca co) rfl ?_
  refine gx_aload_n (pc := 11) hB dX5_play_11 0 rfl ?_
  refine gx_dVi (pc := 12) (r := plA (plR X ty S T cl Z ca)) (wr := []) hB (c_X5_plays l K m q1 q2 q3 q4 q5 q6 q7 q8 S P S T X Z n ru ty cl sp ca co a b c e (by first | assumption | omega | decide) (by first | assumption | (unfold chn; split; omega; split <;> omega)) (by first | assumption | omega | decide)) mX5_plays dX5_play_12 tb_987 pX5_plays ⟨Nat.le_of_ble_eq_true rfl, Nat.le_of_ble_eq_true rfl⟩ ⟨rfl, rfl⟩ ⟨Nat.zero_le _, Nat.zero_le _⟩ rfl (Nat.le_of_ble_eq_true rfl) [0, 1, 2, 3, 4, 5, 6, 7, 8] [] rfl rfl (by decide) (by decide) (by decide) rfl rfl [0, 1, 2, 3, 4, 5, 6, 7, 8] (by decide) (wM K m q1 q2 q3 q4 q5 q6 q7 q8 (psS (plR X ty S T cl Z ca)) P S (psT (plR X ty S T cl Z ca)) X (psZ (plR X ty S T cl Z ca)) n false ty (psCl (plR X ty S T cl Z ca)) (psSp (plR X ty S T cl Z ca)) (psCa (plR X ty S T cl Z ca)) (psCo (plR X ty S T cl Z ca))) rfl ?_
  refine gx_istore_n (pc := 15) hB dX5_play_15 (by decide) [(1, .int (plA (plR X ty S T cl Z ca))), (0, .ref m)] rfl ?_
  refine gx_aload_n (pc := 16) hB dX5_play_16 1 rfl ?_
  refine gx_get (pc := 17) hB dX5_play_17 inX5 rfl 0 rfl 2 (by decide) tb_728 rfl rfl ?_
  refine gx_aload_n (pc := 20) hB dX5_play_20 1 rfl ?_
  refine gx_get (pc := 21) hB dX5_play_21 inX5 rfl 0 rfl 0 (by decide) tb_726 rfl rfl ?_
  refine gx_dSv (pc := 24) (wr := [(m, .inr (5, [.ref q1, .ref q2, .ref q3, .ref q4, .int (nI n), .int (bI false), .ref q5, .int (nI ty), .ref q6, .ref q7, .int (psCl (plR X ty S T cl Z ca)), .int (nI (psSp (plR X ty S T cl Z ca))), .int (psCa (plR X ty S T cl Z ca)), .int (nI (psCo (plR X ty S T cl Z ca))), .ref q8])), (q2, .inl (K.2.1.2.1, 1380, .inl P)), (q4, .inl (K.2.1.2.1, 345, .inl (psT (plR X ty S T cl Z ca)))), (q5, .inl (K.2.1.2.1, 80, .inl X)), (q6, .inl (K.2.1.2.2.1, 9, .inr (.inl mW))), (q7, .inl (K.2.1.2.1, 9, .inl mN)), (q8, .inl (K.2.1.2.1, 4, .inl (psZ (plR X ty S T cl Z ca))))]) hB (c_X5_copies l K q3 q1 S (psS (plR X ty S T cl Z ca)) ) mX5_copies dX5_play_24 tb_860 pX5_copies ⟨Nat.le_of_ble_eq_true rfl, Nat.le_of_ble_eq_true rfl⟩ ⟨rfl, rfl⟩ ⟨Nat.zero_le _, Nat.zero_le _⟩ rfl (Nat.le_of_ble_eq_true rfl) [3, 1] [0, 2, 4, 5, 6, 7, 8] rfl rfl (by decide) (by decide) (by decide) [0, 8, 1, 7, 2, 3, 4, 5, 6] (by decide) (wM K m q1 q2 q3 q4 q5 q6 q7 q8 S P S (psT (plR X ty S T cl Z ca)) X (psZ (plR X ty S T cl Z ca)) n false ty (psCl (plR X ty S T cl Z ca)) (psSp (plR X ty S T cl Z ca)) (psCa (plR X ty S T cl Z ca)) (psCo (plR X ty S T cl Z ca))) rfl ?_
  refine gx_iload_n (pc := 27) hB dX5_play_27 0 rfl ?_
  refine gx_bipush (pc := 28) hB dX5_play_28 (-4) (by decide) ?_
  refine gx_icmp_eq (pc := 30) hB 36 dX5_play_30 (by decide) (fun c_1 => ?_) (fun c_1 => ?_)
  · refine gx_aload_n (pc := 36) hB dX5_play_36 1 rfl ?_
    refine gx_dVv (pc := 37) (wr := []) hB (c_X5_changes l K m q1 q2 q3 q4 q5 q6 q7 q8 S P S (psT (plR X ty S T cl Z ca)) X (psZ (plR X ty S T cl Z ca)) n false ty (psCl (plR X ty S T cl Z ca)) (psSp (plR X ty S T cl Z ca)) (psCa (plR X ty S T cl Z ca)) (psCo (plR X ty S T cl Z ca)) (by first | assumption | omega | decide)) mX5_changes dX5_play_37 tb_777 pX5_changes ⟨Nat.le_of_ble_eq_true rfl, Nat.le_of_ble_eq_true rfl⟩ ⟨rfl, rfl⟩ ⟨Nat.zero_le _, Nat.zero_le _⟩ rfl (Nat.le_of_ble_eq_true rfl) [0, 1, 2, 3, 4, 5, 6, 7, 8] [] rfl rfl (by decide) (by decide) (by decide) rfl rfl [0, 1, 2, 3, 4, 5, 6, 7, 8] (by decide) (wM K m q1 q2 q3 q4 q5 q6 q7 q8 S (chP false n P S) S (psT (plR X ty S T cl Z ca)) X (psZ (plR X ty S T cl Z ca)) (chn false n) false ty (psCl (plR X ty S T cl Z ca)) (psSp (plR X ty S T cl Z ca)) (psCa (plR X ty S T cl Z ca)) (psCo (plR X ty S T cl Z ca))) rfl ?_
    refine gx_aload_n (pc := 40) hB dX5_play_40 1 rfl ?_
    refine gx_dVi (pc := 41) (r := plA (plR X ty S (psT (plR X ty S T cl Z ca)) (psCl (plR X ty S T cl Z ca)) (psZ (plR X ty S T cl Z ca)) (psCa (plR X ty S T cl Z ca)))) (wr := []) hB (c_X5_plays l K m q1 q2 q3 q4 q5 q6 q7 q8 S (chP false n P S) S (psT (plR X ty S T cl Z ca)) X (psZ (plR X ty S T cl Z ca)) (chn false n) false ty (psCl (plR X ty S T cl Z ca)) (psSp (plR X ty S T cl Z ca)) (psCa (plR X ty S T cl Z ca)) (psCo (plR X ty S T cl Z ca)) a b c e (by first | assumption | omega | decide) (by first | assumption | (unfold chn; split; omega; split <;> omega)) (by first | assumption | omega | decide)) mX5_plays dX5_play_41 tb_987 pX5_plays ⟨Nat.le_of_ble_eq_true rfl, Nat.le_of_ble_eq_true rfl⟩ ⟨rfl, rfl⟩ ⟨Nat.zero_le _, Nat.zero_le _⟩ rfl (Nat.le_of_ble_eq_true rfl) [0, 1, 2, 3, 4, 5, 6, 7, 8] [] rfl rfl (by decide) (by decide) (by decide) rfl rfl [0, 1, 2, 3, 4, 5, 6, 7, 8] (by decide) (wM K m q1 q2 q3 q4 q5 q6 q7 q8 (psS (plR X ty S (psT (plR X ty S T cl Z ca)) (psCl (plR X ty S T cl Z ca)) (psZ (plR X ty S T cl Z ca)) (psCa (plR X ty S T cl Z ca)))) (chP false n P S) S (psT (plR X ty S (psT (plR X ty S T cl Z ca)) (psCl (plR X ty S T cl Z ca)) (psZ (plR X ty S T cl Z ca)) (psCa (plR X ty S T cl Z ca)))) X (psZ (plR X ty S (psT (plR X ty S T cl Z ca)) (psCl (plR X ty S T cl Z ca)) (psZ (plR X ty S T cl Z ca)) (psCa (plR X ty S T cl Z ca)))) (chn false n) false ty (psCl (plR X ty S (psT (plR X ty S T cl Z ca)) (psCl (plR X ty S T cl Z ca)) (psZ (plR X ty S T cl Z ca)) (psCa (plR X ty S T cl Z ca)))) (psSp (plR X ty S (psT (plR X ty S T cl Z ca)) (psCl (plR X ty S T cl Z ca)) (psZ (plR X ty S T cl Z ca)) (psCa (plR X ty S T cl Z ca)))) (psCa (plR X ty S (psT (plR X ty S T cl Z ca)) (psCl (plR X ty S T cl Z ca)) (psZ (plR X ty S T cl Z ca)) (psCa (plR X ty S T cl Z ca)))) (psCo (plR X ty S (psT (plR X ty S T cl Z ca)) (psCl (plR X ty S T cl Z ca)) (psZ (plR X ty S T cl Z ca)) (psCa (plR X ty S T cl Z ca))))) rfl ?_
    refine gx_bipush (pc := 44) hB dX5_play_44 (-4) (by decide) ?_
    refine gx_icmp_ne (pc := 46) hB 56 dX5_play_46 (by decide) (fun c_2 => ?_) (fun c_2 => ?_)
    · refine gx_bipush (pc := 56) hB dX5_play_56 (-4) (by decide) ?_
      have e1 : (if plA (plR X ty S T cl Z ca) = (-4) then (if plA (plR X ty S (psT (plR X ty S T cl Z ca)) (psCl (plR X ty S T cl Z ca)) (psZ (plR X ty S T cl Z ca)) (psCa (plR X ty S T cl Z ca))) = (-4) then nI (psCo (plR X ty S (psT (plR X ty S T cl Z ca)) (psCl (plR X ty S T cl Z ca)) (psZ (plR X ty S T cl Z ca)) (psCa (plR X ty S T cl Z ca)))) else (-4)) else (-2)) = (-4) := by simp [eq_true c_1, eq_false c_2]
      have f0 : (if plA (plR X ty S T cl Z ca) = (-4) then psS (plR X ty S (psT (plR X ty S T cl Z ca)) (psCl (plR X ty S T cl Z ca)) (psZ (plR X ty S T cl Z ca)) (psCa (plR X ty S T cl Z ca))) else S) = (psS (plR X ty S (psT (plR X ty S T cl Z ca)) (psCl (plR X ty S T cl Z ca)) (psZ (plR X ty S T cl Z ca)) (psCa (plR X ty S T cl Z ca)))) := by simp [eq_true c_1, eq_false c_2]
      have f1 : (if plA (plR X ty S T cl Z ca) = (-4) then chP false n P S else P) = chP false n P S := by simp [eq_true c_1, eq_false c_2]
      have f2 : (if plA (plR X ty S T cl Z ca) = (-4) then psT (plR X ty S (psT (plR X ty S T cl Z ca)) (psCl (plR X ty S T cl Z ca)) (psZ (plR X ty S T cl Z ca)) (psCa (plR X ty S T cl Z ca))) else psT (plR X ty S T cl Z ca)) = (psT (plR X ty S (psT (plR X ty S T cl Z ca)) (psCl (plR X ty S T cl Z ca)) (psZ (plR X ty S T cl Z ca)) (psCa (plR X ty S T cl Z ca)))) := by simp [eq_true c_1, eq_false c_2]
      have f3 : (if plA (plR X ty S T cl Z ca) = (-4) then psZ (plR X ty S (psT (plR X ty S T cl Z ca)) (psCl (plR X ty S T cl Z ca)) (psZ (plR X ty S T cl Z ca)) (psCa (plR X ty S T cl Z ca))) else psZ (plR X ty S T cl Z ca)) = (psZ (plR X ty S (psT (plR X ty S T cl Z ca)) (psCl (plR X ty S T cl Z ca)) (psZ (plR X ty S T cl Z ca)) (psCa (plR X ty S T cl Z ca)))) := by simp [eq_true c_1, eq_false c_2]
      have f4 : (if plA (plR X ty S T cl Z ca) = (-4) then chn false n else n) = chn false n := by simp [eq_true c_1, eq_false c_2]
      have f5 : (if plA (plR X ty S T cl Z ca) = (-4) then psCl (plR X ty S (psT (plR X ty S T cl Z ca)) (psCl (plR X ty S T cl Z ca)) (psZ (plR X ty S T cl Z ca)) (psCa (plR X ty S T cl Z ca))) else psCl (plR X ty S T cl Z ca)) = (psCl (plR X ty S (psT (plR X ty S T cl Z ca)) (psCl (plR X ty S T cl Z ca)) (psZ (plR X ty S T cl Z ca)) (psCa (plR X ty S T cl Z ca)))) := by simp [eq_true c_1, eq_false c_2]
      have f6 : (if plA (plR X ty S T cl Z ca) = (-4) then psSp (plR X ty S (psT (plR X ty S T cl Z ca)) (psCl (plR X ty S T cl Z ca)) (psZ (plR X ty S T cl Z ca)) (psCa (plR X ty S T cl Z ca))) else psSp (plR X ty S T cl Z ca)) = (psSp (plR X ty S (psT (plR X ty S T cl Z ca)) (psCl (plR X ty S T cl Z ca)) (psZ (plR X ty S T cl Z ca)) (psCa (plR X ty S T cl Z ca)))) := by simp [eq_true c_1, eq_false c_2]
      have f7 : (if plA (plR X ty S T cl Z ca) = (-4) then psCa (plR X ty S (psT (plR X ty S T cl Z ca)) (psCl (plR X ty S T cl Z ca)) (psZ (plR X ty S T cl Z ca)) (psCa (plR X ty S T cl Z ca))) else psCa (plR X ty S T cl Z ca)) = (psCa (plR X ty S (psT (plR X ty S T cl Z ca)) (psCl (plR X ty S T cl Z ca)) (psZ (plR X ty S T cl Z ca)) (psCa (plR X ty S T cl Z ca)))) := by simp [eq_true c_1, eq_false c_2]
      have f8 : (if plA (plR X ty S T cl Z ca) = (-4) then psCo (plR X ty S (psT (plR X ty S T cl Z ca)) (psCl (plR X ty S T cl Z ca)) (psZ (plR X ty S T cl Z ca)) (psCa (plR X ty S T cl Z ca))) else psCo (plR X ty S T cl Z ca)) = (psCo (plR X ty S (psT (plR X ty S T cl Z ca)) (psCl (plR X ty S T cl Z ca)) (psZ (plR X ty S T cl Z ca)) (psCa (plR X ty S T cl Z ca)))) := by simp [eq_true c_1, eq_false c_2]
      exact gx_iret (pc := 58) hC dX5_play_58 (Nat.zero_le _) (Nat.zero_le _) (⟨by rw [e1], by rw [f0, f1, f2, f3, f4, f5, f6, f7, f8]⟩)
    · refine gx_aload_n (pc := 49) hB dX5_play_49 1 rfl ?_
      refine gx_get (pc := 50) hB dX5_play_50 inX5 rfl 0 rfl 13 (by decide) tb_739 rfl rfl ?_
      refine gx_goto (pc := 53) hB 58 dX5_play_53 (by decide) ?_
      have e1 : (if plA (plR X ty S T cl Z ca) = (-4) then (if plA (plR X ty S (psT (plR X ty S T cl Z ca)) (psCl (plR X ty S T cl Z ca)) (psZ (plR X ty S T cl Z ca)) (psCa (plR X ty S T cl Z ca))) = (-4) then nI (psCo (plR X ty S (psT (plR X ty S T cl Z ca)) (psCl (plR X ty S T cl Z ca)) (psZ (plR X ty S T cl Z ca)) (psCa (plR X ty S T cl Z ca)))) else (-4)) else (-2)) = (nI (psCo (plR X ty S (psT (plR X ty S T cl Z ca)) (psCl (plR X ty S T cl Z ca)) (psZ (plR X ty S T cl Z ca)) (psCa (plR X ty S T cl Z ca))))) := by simp [eq_true c_1, eq_true c_2]
      have f0 : (if plA (plR X ty S T cl Z ca) = (-4) then psS (plR X ty S (psT (plR X ty S T cl Z ca)) (psCl (plR X ty S T cl Z ca)) (psZ (plR X ty S T cl Z ca)) (psCa (plR X ty S T cl Z ca))) else S) = (psS (plR X ty S (psT (plR X ty S T cl Z ca)) (psCl (plR X ty S T cl Z ca)) (psZ (plR X ty S T cl Z ca)) (psCa (plR X ty S T cl Z ca)))) := by simp [eq_true c_1, eq_true c_2]
      have f1 : (if plA (plR X ty S T cl Z ca) = (-4) then chP false n P S else P) = chP false n P S := by simp [eq_true c_1, eq_true c_2]
      have f2 : (if plA (plR X ty S T cl Z ca) = (-4) then psT (plR X ty S (psT (plR X ty S T cl Z ca)) (psCl (plR X ty S T cl Z ca)) (psZ (plR X ty S T cl Z ca)) (psCa (plR X ty S T cl Z ca))) else psT (plR X ty S T cl Z ca)) = (psT (plR X ty S (psT (plR X ty S T cl Z ca)) (psCl (plR X ty S T cl Z ca)) (psZ (plR X ty S T cl Z ca)) (psCa (plR X ty S T cl Z ca)))) := by simp [eq_true c_1, eq_true c_2]
      have f3 : (if plA (plR X ty S T cl Z ca) = (-4) then psZ (plR X ty S (psT (plR X ty S T cl Z ca)) (psCl (plR X ty S T cl Z ca)) (psZ (plR X ty S T cl Z ca)) (psCa (plR X ty S T cl Z ca))) else psZ (plR X ty S T cl Z ca)) = (psZ (plR X ty S (psT (plR X ty S T cl Z ca)) (psCl (plR X ty S T cl Z ca)) (psZ (plR X ty S T cl Z ca)) (psCa (plR X ty S T cl Z ca)))) := by simp [eq_true c_1, eq_true c_2]
      have f4 : (if plA (plR X ty S T cl Z ca) = (-4) then chn false n else n) = chn false n := by simp [eq_true c_1, eq_true c_2]
      have f5 : (if plA (plR X ty S T cl Z ca) = (-4) then psCl (plR X ty S (psT (plR X ty S T cl Z ca)) (psCl (plR X ty S T cl Z ca)) (psZ (plR X ty S T cl Z ca)) (psCa (plR X ty S T cl Z ca))) else psCl (plR X ty S T cl Z ca)) = (psCl (plR X ty S (psT (plR X ty S T cl Z ca)) (psCl (plR X ty S T cl Z ca)) (psZ (plR X ty S T cl Z ca)) (psCa (plR X ty S T cl Z ca)))) := by simp [eq_true c_1, eq_true c_2]
      have f6 : (if plA (plR X ty S T cl Z ca) = (-4) then psSp (plR X ty S (psT (plR X ty S T cl Z ca)) (psCl (plR X ty S T cl Z ca)) (psZ (plR X ty S T cl Z ca)) (psCa (plR X ty S T cl Z ca))) else psSp (plR X ty S T cl Z ca)) = (psSp (plR X ty S (psT (plR X ty S T cl Z ca)) (psCl (plR X ty S T cl Z ca)) (psZ (plR X ty S T cl Z ca)) (psCa (plR X ty S T cl Z ca)))) := by simp [eq_true c_1, eq_true c_2]
      have f7 : (if plA (plR X ty S T cl Z ca) = (-4) then psCa (plR X ty S (psT (plR X ty S T cl Z ca)) (psCl (plR X ty S T cl Z ca)) (psZ (plR X ty S T cl Z ca)) (psCa (plR X ty S T cl Z ca))) else psCa (plR X ty S T cl Z ca)) = (psCa (plR X ty S (psT (plR X ty S T cl Z ca)) (psCl (plR X ty S T cl Z ca)) (psZ (plR X ty S T cl Z ca)) (psCa (plR X ty S T cl Z ca)))) := by simp [eq_true c_1, eq_true c_2]
      have f8 : (if plA (plR X ty S T cl Z ca) = (-4) then psCo (plR X ty S (psT (plR X ty S T cl Z ca)) (psCl (plR X ty S T cl Z ca)) (psZ (plR X ty S T cl Z ca)) (psCa (plR X ty S T cl Z ca))) else psCo (plR X ty S T cl Z ca)) = (psCo (plR X ty S (psT (plR X ty S T cl Z ca)) (psCl (plR X ty S T cl Z ca)) (psZ (plR X ty S T cl Z ca)) (psCa (plR X ty S T cl Z ca)))) := by simp [eq_true c_1, eq_true c_2]
      exact gx_iret (pc := 58) hC dX5_play_58 (Nat.zero_le _) (Nat.zero_le _) (⟨by rw [e1], by rw [f0, f1, f2, f3, f4, f5, f6, f7, f8]⟩)
  · refine gx_bipush (pc := 33) hB dX5_play_33 (-2) (by decide) ?_
    have e1 : (if plA (plR X ty S T cl Z ca) = (-4) then (if plA (plR X ty S (psT (plR X ty S T cl Z ca)) (psCl (plR X ty S T cl Z ca)) (psZ (plR X ty S T cl Z ca)) (psCa (plR X ty S T cl Z ca))) = (-4) then nI (psCo (plR X ty S (psT (plR X ty S T cl Z ca)) (psCl (plR X ty S T cl Z ca)) (psZ (plR X ty S T cl Z ca)) (psCa (plR X ty S T cl Z ca)))) else (-4)) else (-2)) = (-2) := by simp [eq_false c_1]
    have f0 : (if plA (plR X ty S T cl Z ca) = (-4) then psS (plR X ty S (psT (plR X ty S T cl Z ca)) (psCl (plR X ty S T cl Z ca)) (psZ (plR X ty S T cl Z ca)) (psCa (plR X ty S T cl Z ca))) else S) = S := by simp [eq_false c_1]
    have f1 : (if plA (plR X ty S T cl Z ca) = (-4) then chP false n P S else P) = P := by simp [eq_false c_1]
    have f2 : (if plA (plR X ty S T cl Z ca) = (-4) then psT (plR X ty S (psT (plR X ty S T cl Z ca)) (psCl (plR X ty S T cl Z ca)) (psZ (plR X ty S T cl Z ca)) (psCa (plR X ty S T cl Z ca))) else psT (plR X ty S T cl Z ca)) = (psT (plR X ty S T cl Z ca)) := by simp [eq_false c_1]
    have f3 : (if plA (plR X ty S T cl Z ca) = (-4) then psZ (plR X ty S (psT (plR X ty S T cl Z ca)) (psCl (plR X ty S T cl Z ca)) (psZ (plR X ty S T cl Z ca)) (psCa (plR X ty S T cl Z ca))) else psZ (plR X ty S T cl Z ca)) = (psZ (plR X ty S T cl Z ca)) := by simp [eq_false c_1]
    have f4 : (if plA (plR X ty S T cl Z ca) = (-4) then chn false n else n) = n := by simp [eq_false c_1]
    have f5 : (if plA (plR X ty S T cl Z ca) = (-4) then psCl (plR X ty S (psT (plR X ty S T cl Z ca)) (psCl (plR X ty S T cl Z ca)) (psZ (plR X ty S T cl Z ca)) (psCa (plR X ty S T cl Z ca))) else psCl (plR X ty S T cl Z ca)) = (psCl (plR X ty S T cl Z ca)) := by simp [eq_false c_1]
    have f6 : (if plA (plR X ty S T cl Z ca) = (-4) then psSp (plR X ty S (psT (plR X ty S T cl Z ca)) (psCl (plR X ty S T cl Z ca)) (psZ (plR X ty S T cl Z ca)) (psCa (plR X ty S T cl Z ca))) else psSp (plR X ty S T cl Z ca)) = (psSp (plR X ty S T cl Z ca)) := by simp [eq_false c_1]
    have f7 : (if plA (plR X ty S T cl Z ca) = (-4) then psCa (plR X ty S (psT (plR X ty S T cl Z ca)) (psCl (plR X ty S T cl Z ca)) (psZ (plR X ty S T cl Z ca)) (psCa (plR X ty S T cl Z ca))) else psCa (plR X ty S T cl Z ca)) = (psCa (plR X ty S T cl Z ca)) := by simp [eq_false c_1]
    have f8 : (if plA (plR X ty S T cl Z ca) = (-4) then psCo (plR X ty S (psT (plR X ty S T cl Z ca)) (psCl (plR X ty S T cl Z ca)) (psZ (plR X ty S T cl Z ca)) (psCa (plR X ty S T cl Z ca))) else psCo (plR X ty S T cl Z ca)) = (psCo (plR X ty S T cl Z ca)) := by simp [eq_false c_1]
    exact gx_iret (pc := 35) hC dX5_play_35 (Nat.zero_le _) (Nat.zero_le _) (⟨by rw [e1], by rw [f0, f1, f2, f3, f4, f5, f6, f7, f8]⟩)
