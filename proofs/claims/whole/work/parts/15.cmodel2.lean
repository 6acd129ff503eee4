theorem dn_no {y : Int32} (h : bIn y 0 4 = true) (h1 : 4 ≤ y) (h2 : ¬ y = 4) : False := by
  obtain ⟨j, hj, rfl⟩ := bIn_of (n := 4) (by decide) h
  have : j < 4 := nI_ne (n := 4) h2 hj
  exact nI_ge this (by decide) h1
theorem dn_of {S : Nat → Int32} {a b c e : Nat} {y : Int32} (hO : sOk S a b c e) (h : sIsP S (y - 10) = true) : ∃ d, d < 7 ∧ y - 9 = nI d := by
  obtain ⟨p, hp, ep⟩ := isP_of hO h
  have hb := hO.1
  refine ⟨p + 1, by omega, ?_⟩
  rw [← nI_1, ← ep]
  have e : y - 9 = y - 10 + 1 := by
    rw [show (9 : Int32) = 10 - 1 from rfl]
    apply Int32.toBitVec_inj.mp
    simp only [Int32.toBitVec_sub, Int32.toBitVec_add]
    bv_omega
  exact e
theorem pX5_home : (parseMethodDescriptor yX5_home.desc).map (fun d => d.parameters.length) = some 1 := by decide +kernel
theorem mX5_home : gx_M yX5_home cX5_home 3 (some .int) := ⟨tb_880, tb_51, tb_73, tb_881, by decide, by decide⟩
set_option maxHeartbeats 4000000 in
set_option maxRecDepth 100000 in
theorem c_X5_home (l : Launch) (K : gx_K) (m q1 q2 q3 q4 q5 q6 q7 q8 : Nat) (S P H T X Z : Nat → Int32) (n : Nat) (ru : Bool) (ty : Nat) (cl : Int32) (sp : Nat) (ca : Int32) (co : Nat) (a b c e : Nat) (p : Nat) (h0 : sOk S a b c e) (h1 : p < a) : gx_Ctr l K yX5_home cX5_home 3 (some .int) (rmm 3 43) [.ref m, .int (nI p)] (wM K m q1 q2 q3 q4 q5 q6 q7 q8 S P H T X Z n ru ty cl sp ca co) (gx_D (some (.int (nI (sHome S p)))) (wM K m q1 q2 q3 q4 q5 q6 q7 q8 S P H T X Z n ru ty cl sp ca co)) := by
  refine gx_of (by decide) (Nat.le_of_ble_eq_true rfl) (fun G hC => ?_)
  have hB := hC.b
  refine gx_lv (lv' := [(0, .ref m), (1, .int (nI p))]) rfl ?_
  have hb0 := h0.1
  refine gx_iload_n (pc := 0) hB dX5_home_0 1 rfl ?_
  refine gx_istore_n (pc := 1) hB dX5_home_1 (by decide) [(2, .int (nI p)), (0, .ref m), (1, .int (nI p))] rfl ?_
  obtain ⟨rk, hrk⟩ := h0.2.2.2
  have loop_2 : ∀ f q : Nat, q < a → rk q ≤ f → sHomeN S f q = sHome S p → G 0 0 (wM K m q1 q2 q3 q4 q5 q6 q7 q8 S P H T X Z n ru ty cl sp ca co) [(0, .ref m), (1, .int (nI p)), (2, .int (nI q))] 2 [] := by
    intro f
    induction f with
    | zero =>
      intro q hq hr he
      refine gx_aload_n (pc := 2) hB dX5_home_2 0 rfl ?_
      refine gx_iload_n (pc := 3) hB dX5_home_3 2 rfl ?_
      refine gx_dVi (pc := 4) (r := bI (sClosed S q)) (wr := []) hB (c_X5_isClosed l K m q1 q2 q3 q4 q5 q6 q7 q8 S P H T X Z n ru ty cl sp ca co q (by first | assumption | omega | decide)) mX5_isClosed dX5_home_4 tb_812 pX5_isClosed ⟨Nat.le_of_ble_eq_true rfl, Nat.le_of_ble_eq_true rfl⟩ ⟨rfl, rfl⟩ ⟨Nat.zero_le _, Nat.zero_le _⟩ rfl (Nat.le_of_ble_eq_true rfl) [0, 1, 2, 3, 4, 5, 6, 7, 8] [] rfl rfl (by decide) (by decide) (by decide) rfl rfl [0, 1, 2, 3, 4, 5, 6, 7, 8] (by decide) (wM K m q1 q2 q3 q4 q5 q6 q7 q8 S P H T X Z n ru ty cl sp ca co) rfl ?_
      refine gx_if_eq_b (pc := 7) hB 21 dX5_home_7 (by decide) (fun c_1 => ?_) (fun c_1 => ?_)
      · refine gx_iload_n (pc := 21) hB dX5_home_21 2 rfl ?_
        have e1 : (nI (sHome S p)) = nI q := by rw [← he, sHomeN_open c_1]
        exact gx_iret (pc := 22) hC dX5_home_22 (Nat.zero_le _) (Nat.zero_le _) (⟨by rw [e1], rfl⟩)
      · obtain ⟨w2, hw2, e_2, r_2, e_q⟩ := sCl_of (by omega) hrk hq c_1
        exact absurd r_2 (by omega)
    | succ f ihf =>
      intro q hq hr he
      refine gx_aload_n (pc := 2) hB dX5_home_2 0 rfl ?_
      refine gx_iload_n (pc := 3) hB dX5_home_3 2 rfl ?_
      refine gx_dVi (pc := 4) (r := bI (sClosed S q)) (wr := []) hB (c_X5_isClosed l K m q1 q2 q3 q4 q5 q6 q7 q8 S P H T X Z n ru ty cl sp ca co q (by first | assumption | omega | decide)) mX5_isClosed dX5_home_4 tb_812 pX5_isClosed ⟨Nat.le_of_ble_eq_true rfl, Nat.le_of_ble_eq_true rfl⟩ ⟨rfl, rfl⟩ ⟨Nat.zero_le _, Nat.zero_le _⟩ rfl (Nat.le_of_ble_eq_true rfl) [0, 1, 2, 3, 4, 5, 6, 7, 8] [] rfl rfl (by decide) (by decide) (by decide) rfl rfl [0, 1, 2, 3, 4, 5, 6, 7, 8] (by decide) (wM K m q1 q2 q3 q4 q5 q6 q7 q8 S P H T X Z n ru ty cl sp ca co) rfl ?_
      refine gx_if_eq_b (pc := 7) hB 21 dX5_home_7 (by decide) (fun c_2 => ?_) (fun c_2 => ?_)
      · refine gx_iload_n (pc := 21) hB dX5_home_21 2 rfl ?_
        have e1 : (nI (sHome S p)) = nI q := by rw [← he, sHomeN_open c_2]
        exact gx_iret (pc := 22) hC dX5_home_22 (Nat.zero_le _) (Nat.zero_le _) (⟨by rw [e1], rfl⟩)
      · obtain ⟨w2, hw2, e_2, r_2, e_q⟩ := sCl_of (by omega) hrk hq c_2
        refine gx_aload_n (pc := 10) hB dX5_home_10 0 rfl ?_
        refine gx_iload_n (pc := 11) hB dX5_home_11 2 rfl ?_
        refine gx_bipush (pc := 12) hB dX5_home_12 9 (by decide) ?_
        refine gx_dVi (pc := 14) (r := sP S q 9) (wr := []) hB (c_X5_ofPurpose l K m q1 q2 q3 q4 q5 q6 q7 q8 S P H T X Z n ru ty cl sp ca co q 9 (by first | assumption | omega | decide) (by first | assumption | omega | decide)) mX5_ofPurpose dX5_home_14 tb_816 pX5_ofPurpose ⟨Nat.le_of_ble_eq_true rfl, Nat.le_of_ble_eq_true rfl⟩ ⟨rfl, rfl⟩ ⟨Nat.zero_le _, Nat.zero_le _⟩ rfl (Nat.le_of_ble_eq_true rfl) [0, 1, 2, 3, 4, 5, 6, 7, 8] [] rfl rfl (by decide) (by decide) (by decide) rfl rfl [0, 1, 2, 3, 4, 5, 6, 7, 8] (by decide) (wM K m q1 q2 q3 q4 q5 q6 q7 q8 S P H T X Z n ru ty cl sp ca co) rfl ?_
        refine gx_top (show sP S q 9 = nI w2 from e_2) ?_
        refine gx_istore_n (pc := 17) hB dX5_home_17 (by decide) [(2, .int (nI w2)), (0, .ref m), (1, .int (nI p))] rfl ?_
        refine gx_goto (pc := 18) hB 2 dX5_home_18 (by decide) ?_
        refine gx_sub hB (lv' := [(0, .ref m), (1, .int (nI p)), (2, .int (nI w2))]) [1, 2, 0] rfl ?_
        exact ihf w2 hw2 (by omega) (by rw [← he]; show _ = sHomeN S f (sStep S q); rw [e_q])
  refine gx_sub hB (lv' := [(0, .ref m), (1, .int (nI p)), (2, .int (nI p))]) [1, 2, 0] rfl ?_
  exact loop_2 6 p h1 (hrk p h1).1 rfl
theorem pX5_canClaim : (parseMethodDescriptor yX5_canClaim.desc).map (fun d => d.parameters.length) = some 1 := by decide +kernel
theorem mX5_canClaim : gx_M yX5_canClaim cX5_canClaim 7 (some .boolean) := ⟨tb_873, tb_50, tb_73, tb_874, by decide, by decide⟩
set_option maxHeartbeats 4000000 in
set_option maxRecDepth 100000 in
theorem c_X5_canClaim (l : Launch) (K : gx_K) (m q1 q2 q3 q4 q5 q6 q7 q8 : Nat) (S P H T X Z : Nat → Int32) (n : Nat) (ru : Bool) (ty : Nat) (cl : Int32) (sp : Nat) (ca : Int32) (co : Nat) (a b c e : Nat) (g : Nat) (h0 : sOk S a b c e) (h1 : g < c) : gx_Ctr l K yX5_canClaim cX5_canClaim 7 (some .boolean) (rmm 2 22) [.ref m, .int (nI g)] (wM K m q1 q2 q3 q4 q5 q6 q7 q8 S P H T X Z n ru ty cl sp ca co) (gx_D (some (.int (bI (mCan S c g)))) (wM K m q1 q2 q3 q4 q5 q6 q7 q8 S P H T X Z n ru ty cl sp ca co)) := by
  refine gx_of (by decide) (Nat.le_of_ble_eq_true rfl) (fun G hC => ?_)
  have hB := hC.b
  refine gx_lv (lv' := [(0, .ref m), (1, .int (nI g))]) rfl ?_
  have hb0 := h0.1
  refine gx_aload_n (pc := 0) hB dX5_canClaim_0 0 rfl ?_
  refine gx_iload_n (pc := 1) hB dX5_canClaim_1 1 rfl ?_
  refine gx_iconst (pc := 2) hB dX5_canClaim_2 0 (by decide) ?_
  refine gx_dVi (pc := 3) (r := sG S g 0) (wr := []) hB (c_X5_ofGift l K m q1 q2 q3 q4 q5 q6 q7 q8 S P H T X Z n ru ty cl sp ca co g 0 (by first | assumption | omega | decide) (by first | assumption | omega | decide)) mX5_ofGift dX5_canClaim_3 tb_867 pX5_ofGift ⟨Nat.le_of_ble_eq_true rfl, Nat.le_of_ble_eq_true rfl⟩ ⟨rfl, rfl⟩ ⟨Nat.zero_le _, Nat.zero_le _⟩ rfl (Nat.le_of_ble_eq_true rfl) [0, 1, 2, 3, 4, 5, 6, 7, 8] [] rfl rfl (by decide) (by decide) (by decide) rfl rfl [0, 1, 2, 3, 4, 5, 6, 7, 8] (by decide) (wM K m q1 q2 q3 q4 q5 q6 q7 q8 S P H T X Z n ru ty cl sp ca co) rfl ?_
  refine gx_istore_n (pc := 6) hB dX5_canClaim_6 (by decide) [(2, .int (sG S g 0)), (0, .ref m), (1, .int (nI g))] rfl ?_
  refine gx_aload_n (pc := 7) hB dX5_canClaim_7 1 rfl ?_
  refine gx_iload_n (pc := 8) hB dX5_canClaim_8 2 rfl ?_
  refine gx_iconst (pc := 9) hB dX5_canClaim_9 3 (by decide) ?_
  refine gx_dVi (pc := 10) (r := sG S g 3) (wr := []) hB (c_X5_ofGift l K m q1 q2 q3 q4 q5 q6 q7 q8 S P H T X Z n ru ty cl sp ca co g 3 (by first | assumption | omega | decide) (by first | assumption | omega | decide)) mX5_ofGift dX5_canClaim_10 tb_867 pX5_ofGift ⟨Nat.le_of_ble_eq_true rfl, Nat.le_of_ble_eq_true rfl⟩ ⟨rfl, rfl⟩ ⟨Nat.zero_le _, Nat.zero_le _⟩ rfl (Nat.le_of_ble_eq_true rfl) [0, 1, 2, 3, 4, 5, 6, 7, 8] [] rfl rfl (by decide) (by decide) (by decide) rfl rfl [0, 1, 2, 3, 4, 5, 6, 7, 8] (by decide) (wM K m q1 q2 q3 q4 q5 q6 q7 q8 S P H T X Z n ru ty cl sp ca co) rfl ?_
  refine gx_bipush (pc := 13) hB dX5_canClaim_13 12 (by decide) ?_
  refine gx_idiv (pc := 15) hB dX5_canClaim_15 (by decide) ?_
  refine gx_istore_n (pc := 16) hB dX5_canClaim_16 (by decide) [(3, .int (sG S g 3 / 12)), (2, .int (sG S g 0)), (0, .ref m), (1, .int (nI g))] rfl ?_
  refine gx_aload_n (pc := 17) hB dX5_canClaim_17 2 rfl ?_
  refine gx_iload_n (pc := 18) hB dX5_canClaim_18 3 rfl ?_
  refine gx_iconst (pc := 19) hB dX5_canClaim_19 4 (by decide) ?_
  refine gx_dVi (pc := 20) (r := sG S g 4) (wr := []) hB (c_X5_ofGift l K m q1 q2 q3 q4 q5 q6 q7 q8 S P H T X Z n ru ty cl sp ca co g 4 (by first | assumption | omega | decide) (by first | assumption | omega | decide)) mX5_ofGift dX5_canClaim_20 tb_867 pX5_ofGift ⟨Nat.le_of_ble_eq_true rfl, Nat.le_of_ble_eq_true rfl⟩ ⟨rfl, rfl⟩ ⟨Nat.zero_le _, Nat.zero_le _⟩ rfl (Nat.le_of_ble_eq_true rfl) [0, 1, 2, 3, 4, 5, 6, 7, 8] [] rfl rfl (by decide) (by decide) (by decide) rfl rfl [0, 1, 2, 3, 4, 5, 6, 7, 8] (by decide) (wM K m q1 q2 q3 q4 q5 q6 q7 q8 S P H T X Z n ru ty cl sp ca co) rfl ?_
  refine gx_aload_n (pc := 23) hB dX5_canClaim_23 2 rfl ?_
  refine gx_iload_n (pc := 24) hB dX5_canClaim_24 3 rfl ?_
  refine gx_iconst (pc := 25) hB dX5_canClaim_25 5 (by decide) ?_
  refine gx_dVi (pc := 26) (r := sG S g 5) (wr := []) hB (c_X5_ofGift l K m q1 q2 q3 q4 q5 q6 q7 q8 S P H T X Z n ru ty cl sp ca co g 5 (by first | assumption | omega | decide) (by first | assumption | omega | decide)) mX5_ofGift dX5_canClaim_26 tb_867 pX5_ofGift ⟨Nat.le_of_ble_eq_true rfl, Nat.le_of_ble_eq_true rfl⟩ ⟨rfl, rfl⟩ ⟨Nat.zero_le _, Nat.zero_le _⟩ rfl (Nat.le_of_ble_eq_true rfl) [0, 1, 2, 3, 4, 5, 6, 7, 8] [] rfl rfl (by decide) (by decide) (by decide) rfl rfl [0, 1, 2, 3, 4, 5, 6, 7, 8] (by decide) (wM K m q1 q2 q3 q4 q5 q6 q7 q8 S P H T X Z n ru ty cl sp ca co) rfl ?_
  refine gx_iadd (pc := 29) hB dX5_canClaim_29 ?_
  refine gx_if_gt (pc := 30) hB 61 dX5_canClaim_30 (by decide) (fun c_1 => ?_) (fun c_1 => ?_)
  · refine gx_iconst (pc := 61) hB dX5_canClaim_61 0 (by decide) ?_
    have e1 : (bI (mCan S c g)) = 0 := by simp [mCan, mYearN, bI, c_1, eq_false (Int32.not_le.mpr c_1)]
    exact gx_zret (pc := 62) hC dX5_canClaim_62 (Nat.zero_le _) (Nat.zero_le _) (by decide) (⟨by rw [e1], rfl⟩)
  · obtain ⟨z_1, y_1⟩ := num_of (x := sG S g 0) (N := b) (h0.2.1 g h1).1 (by omega)
    refine gx_aload_n (pc := 33) hB dX5_canClaim_33 2 rfl ?_
    refine gx_iload_n (pc := 34) hB dX5_canClaim_34 1 rfl ?_
    refine gx_top (show sG S g 0 = nI ((sG S g 0).toNatClampNeg) from z_1) ?_
    refine gx_iconst (pc := 35) hB dX5_canClaim_35 0 (by decide) ?_
    refine gx_dVi (pc := 36) (r := sD S ((sG S g 0).toNatClampNeg) 0) (wr := []) hB (c_X5_ofDonor l K m q1 q2 q3 q4 q5 q6 q7 q8 S P H T X Z n ru ty cl sp ca co ((sG S g 0).toNatClampNeg) 0 (by first | assumption | omega | decide) (by first | assumption | omega | decide)) mX5_ofDonor dX5_canClaim_36 tb_800 pX5_ofDonor ⟨Nat.le_of_ble_eq_true rfl, Nat.le_of_ble_eq_true rfl⟩ ⟨rfl, rfl⟩ ⟨Nat.zero_le _, Nat.zero_le _⟩ rfl (Nat.le_of_ble_eq_true rfl) [0, 1, 2, 3, 4, 5, 6, 7, 8] [] rfl rfl (by decide) (by decide) (by decide) rfl rfl [0, 1, 2, 3, 4, 5, 6, 7, 8] (by decide) (wM K m q1 q2 q3 q4 q5 q6 q7 q8 S P H T X Z n ru ty cl sp ca co) rfl ?_
    refine gx_if_eq (pc := 39) hB 61 dX5_canClaim_39 (by decide) (fun c_2 => ?_) (fun c_2 => ?_)
    · refine gx_iconst (pc := 61) hB dX5_canClaim_61 0 (by decide) ?_
      have e1 : (bI (mCan S c g)) = 0 := by simp [mCan, mYearN, bI, Int32.not_lt.mp c_1, eq_false c_1, eq_true c_2]
      exact gx_zret (pc := 62) hC dX5_canClaim_62 (Nat.zero_le _) (Nat.zero_le _) (by decide) (⟨by rw [e1], rfl⟩)
    · refine gx_aload_n (pc := 42) hB dX5_canClaim_42 2 rfl ?_
      refine gx_get (pc := 43) hB dX5_canClaim_43 inX5 rfl 0 rfl 0 (by decide) tb_726 rfl rfl ?_
      refine gx_bipush (pc := 46) hB dX5_canClaim_46 6 (by decide) ?_
      refine gx_iald (pc := 48) hB dX5_canClaim_48 1 1 rfl rfl 6 rfl (by decide) (by decide) ?_
      refine gx_aload_n (pc := 49) hB dX5_canClaim_49 2 rfl ?_
      refine gx_iload_n (pc := 50) hB dX5_canClaim_50 3 rfl ?_
      refine gx_iconst (pc := 51) hB dX5_canClaim_51 3 (by decide) ?_
      refine gx_dVi (pc := 52) (r := sG S g 3) (wr := []) hB (c_X5_ofGift l K m q1 q2 q3 q4 q5 q6 q7 q8 S P H T X Z n ru ty cl sp ca co g 3 (by first | assumption | omega | decide) (by first | assumption | omega | decide)) mX5_ofGift dX5_canClaim_52 tb_867 pX5_ofGift ⟨Nat.le_of_ble_eq_true rfl, Nat.le_of_ble_eq_true rfl⟩ ⟨rfl, rfl⟩ ⟨Nat.zero_le _, Nat.zero_le _⟩ rfl (Nat.le_of_ble_eq_true rfl) [0, 1, 2, 3, 4, 5, 6, 7, 8] [] rfl rfl (by decide) (by decide) (by decide) rfl rfl [0, 1, 2, 3, 4, 5, 6, 7, 8] (by decide) (wM K m q1 q2 q3 q4 q5 q6 q7 q8 S P H T X Z n ru ty cl sp ca co) rfl ?_
      refine gx_isub (pc := 55) hB dX5_canClaim_55 ?_
      refine gx_bipush (pc := 56) hB dX5_canClaim_56 47 (by decide) ?_
      refine gx_icmp_le (pc := 58) hB 63 dX5_canClaim_58 (by decide) (fun c_3 => ?_) (fun c_3 => ?_)
      · refine gx_aload_n (pc := 63) hB dX5_canClaim_63 2 rfl ?_
        refine gx_iload_n (pc := 64) hB dX5_canClaim_64 3 rfl ?_
        refine gx_iconst (pc := 65) hB dX5_canClaim_65 2 (by decide) ?_
        refine gx_dVi (pc := 66) (r := sG S g 2) (wr := []) hB (c_X5_ofGift l K m q1 q2 q3 q4 q5 q6 q7 q8 S P H T X Z n ru ty cl sp ca co g 2 (by first | assumption | omega | decide) (by first | assumption | omega | decide)) mX5_ofGift dX5_canClaim_66 tb_867 pX5_ofGift ⟨Nat.le_of_ble_eq_true rfl, Nat.le_of_ble_eq_true rfl⟩ ⟨rfl, rfl⟩ ⟨Nat.zero_le _, Nat.zero_le _⟩ rfl (Nat.le_of_ble_eq_true rfl) [0, 1, 2, 3, 4, 5, 6, 7, 8] [] rfl rfl (by decide) (by decide) (by decide) rfl rfl [0, 1, 2, 3, 4, 5, 6, 7, 8] (by decide) (wM K m q1 q2 q3 q4 q5 q6 q7 q8 S P H T X Z n ru ty cl sp ca co) rfl ?_
        refine gx_istore (pc := 69) hB dX5_canClaim_69 (by decide) [(4, .int (sG S g 2)), (3, .int (sG S g 3 / 12)), (2, .int (sG S g 0)), (0, .ref m), (1, .int (nI g))] rfl ?_
        refine gx_iconst (pc := 71) hB dX5_canClaim_71 0 (by decide) ?_
        refine gx_istore (pc := 72) hB dX5_canClaim_72 (by decide) [(5, .int 0), (4, .int (sG S g 2)), (3, .int (sG S g 3 / 12)), (2, .int (sG S g 0)), (0, .ref m), (1, .int (nI g))] rfl ?_
        have loop_74 : ∀ dq i : Nat, i + dq = c → G 0 0 (wM K m q1 q2 q3 q4 q5 q6 q7 q8 S P H T X Z n ru ty cl sp ca co) [(0, .ref m), (1, .int (nI g)), (2, .int (sG S g 0)), (3, .int (sG S g 3 / 12)), (4, .int (mYearN S g i)), (5, .int (nI i))] 74 [] := by
          intro dq
          induction dq with
          | zero =>
            intro i hi74
            obtain rfl : c = i := by omega
            refine gx_iload (pc := 74) hB dX5_canClaim_74 5 rfl ?_
            refine gx_aload_n (pc := 76) hB dX5_canClaim_76 0 rfl ?_
            refine gx_get (pc := 77) hB dX5_canClaim_77 inX5 rfl 0 rfl 0 (by decide) tb_726 rfl rfl ?_
            refine gx_iconst (pc := 80) hB dX5_canClaim_80 4 (by decide) ?_
            refine gx_iald (pc := 81) hB dX5_canClaim_81 1 1 rfl rfl 4 rfl (by decide) (by decide) ?_
            refine gx_top (show S 4 = nI c from h0.1.2.2.1) ?_
            refine gx_icmp_ge (pc := 82) hB 165 dX5_canClaim_82 (by decide) (fun c_4 => ?_) (fun c_4 => ?_)
            · refine gx_iload (pc := 165) hB dX5_canClaim_165 4 rfl ?_
              refine gx_aload_n (pc := 167) hB dX5_canClaim_167 0 rfl ?_
              refine gx_get (pc := 168) hB dX5_canClaim_168 inX5 rfl 0 rfl 0 (by decide) tb_726 rfl rfl ?_
              refine gx_iconst (pc := 171) hB dX5_canClaim_171 1 (by decide) ?_
              refine gx_iald (pc := 172) hB dX5_canClaim_172 1 1 rfl rfl 1 rfl (by decide) (by decide) ?_
              refine gx_icmp_gt (pc := 173) hB 180 dX5_canClaim_173 (by decide) (fun c_5 => ?_) (fun c_5 => ?_)
              · refine gx_iconst (pc := 180) hB dX5_canClaim_180 0 (by decide) ?_
                have e1 : (bI (mCan S c g)) = 0 := by simp [mCan, bI, Int32.not_lt.mp c_1, eq_false c_1, eq_false c_2, c_3, eq_false (Int32.not_lt.mpr c_3), c_4, eq_false (Int32.not_lt.mpr c_4), c_5, eq_false (Int32.not_le.mpr c_5)]
                exact gx_zret (pc := 181) hC dX5_canClaim_181 (Nat.zero_le _) (Nat.zero_le _) (by decide) (⟨by rw [e1], rfl⟩)
              · refine gx_iconst (pc := 176) hB dX5_canClaim_176 1 (by decide) ?_
                refine gx_goto (pc := 177) hB 181 dX5_canClaim_177 (by decide) ?_
                have e1 : (bI (mCan S c g)) = 1 := by simp [mCan, bI, Int32.not_lt.mp c_1, eq_false c_1, eq_false c_2, c_3, eq_false (Int32.not_lt.mpr c_3), c_4, eq_false (Int32.not_lt.mpr c_4), Int32.not_lt.mp c_5, eq_false c_5]
                exact gx_zret (pc := 181) hC dX5_canClaim_181 (Nat.zero_le _) (Nat.zero_le _) (by decide) (⟨by rw [e1], rfl⟩)
            · exact absurd (lpTn (c := c) (by omega) hi74) c_4
          | succ dq ih74 =>
            intro i hi74
            refine gx_iload (pc := 74) hB dX5_canClaim_74 5 rfl ?_
            refine gx_aload_n (pc := 76) hB dX5_canClaim_76 0 rfl ?_
            refine gx_get (pc := 77) hB dX5_canClaim_77 inX5 rfl 0 rfl 0 (by decide) tb_726 rfl rfl ?_
            refine gx_iconst (pc := 80) hB dX5_canClaim_80 4 (by decide) ?_
            refine gx_iald (pc := 81) hB dX5_canClaim_81 1 1 rfl rfl 4 rfl (by decide) (by decide) ?_
            refine gx_top (show S 4 = nI c from h0.1.2.2.1) ?_
            refine gx_icmp_ge (pc := 82) hB 165 dX5_canClaim_82 (by decide) (fun c_6 => ?_) (fun c_6 => ?_)
            · exact absurd c_6 (lpFn (c := c) (by omega) hi74)
            · refine gx_aload_n (pc := 85) hB dX5_canClaim_85 0 rfl ?_
              refine gx_iload (pc := 86) hB dX5_canClaim_86 5 rfl ?_
              refine gx_iconst (pc := 88) hB dX5_canClaim_88 0 (by decide) ?_
              refine gx_dVi (pc := 89) (r := sG S i 0) (wr := []) hB (c_X5_ofGift l K m q1 q2 q3 q4 q5 q6 q7 q8 S P H T X Z n ru ty cl sp ca co i 0 (by first | assumption | omega | decide) (by first | assumption | omega | decide)) mX5_ofGift dX5_canClaim_89 tb_867 pX5_ofGift ⟨Nat.le_of_ble_eq_true rfl, Nat.le_of_ble_eq_true rfl⟩ ⟨rfl, rfl⟩ ⟨Nat.zero_le _, Nat.zero_le _⟩ rfl (Nat.le_of_ble_eq_true rfl) [0, 1, 2, 3, 4, 5, 6, 7, 8] [] rfl rfl (by decide) (by decide) (by decide) rfl rfl [0, 1, 2, 3, 4, 5, 6, 7, 8] (by decide) (wM K m q1 q2 q3 q4 q5 q6 q7 q8 S P H T X Z n ru ty cl sp ca co) rfl ?_
              refine gx_iload_n (pc := 92) hB dX5_canClaim_92 2 rfl ?_
              refine gx_icmp_ne (pc := 93) hB 135 dX5_canClaim_93 (by decide) (fun c_7 => ?_) (fun c_7 => ?_)
              · refine gx_iconst (pc := 135) hB dX5_canClaim_135 0 (by decide) ?_
                refine gx_istore (pc := 136) hB dX5_canClaim_136 (by decide) [(6, .int 0), (0, .ref m), (1, .int (nI g)), (2, .int (sG S g 0)), (3, .int (sG S g 3 / 12)), (4, .int (mYearN S g i)), (5, .int (nI i))] rfl ?_
                refine gx_iload (pc := 138) hB dX5_canClaim_138 5 rfl ?_
                refine gx_iload (pc := 140) hB dX5_canClaim_140 0 rfl ?_
                refine gx_if_eq (pc := 142) hB 155 dX5_canClaim_142 (by decide) (fun c_8 => ?_) (fun c_8 => ?_)
                · refine gx_iconst (pc := 155) hB dX5_canClaim_155 0 (by decide) ?_
                  refine gx_iadd (pc := 156) hB dX5_canClaim_156 ?_
                  refine gx_top (show mYearN S g i + 0 = (mYearN S g i) from Int32.add_zero _) ?_
                  refine gx_istore (pc := 157) hB dX5_canClaim_157 (by decide) [(4, .int (mYearN S g i)), (6, .int 0), (0, .ref m), (1, .int (nI g)), (2, .int (sG S g 0)), (3, .int (sG S g 3 / 12)), (5, .int (nI i))] rfl ?_
                  refine gx_iinc (pc := 159) hB dX5_canClaim_159 6 (by decide) rfl (nI (i + 1)) (nI_1 _) [(5, .int (nI (i + 1))), (4, .int (mYearN S g i)), (6, .int 0), (0, .ref m), (1, .int (nI g)), (2, .int (sG S g 0)), (3, .int (sG S g 3 / 12))] rfl ?_
                  refine gx_goto (pc := 162) hB 74 dX5_canClaim_162 (by decide) ?_
                  have g4 : mYearN S g i = mYearN S g (i + 1) := by simp [mCan, mYearN, bI, Int32.not_lt.mp c_1, eq_false c_1, eq_false c_2, c_3, eq_false (Int32.not_lt.mpr c_3), Int32.not_le.mp c_6, eq_false c_6, eq_false c_7]
                  refine gx_sub hB (lv' := [(0, .ref m), (1, .int (nI g)), (2, .int (sG S g 0)), (3, .int (sG S g 3 / 12)), (4, .int (mYearN S g i)), (5, .int (nI (i + 1)))]) [3, 4, 5, 6, 1, 0] rfl ?_
                  refine gx_all (ws' := wM K m q1 q2 q3 q4 q5 q6 q7 q8 S P H T X Z n ru ty cl sp ca co) (lv' := [(0, .ref m), (1, .int (nI g)), (2, .int (sG S g 0)), (3, .int (sG S g 3 / 12)), (4, .int (mYearN S g (i + 1))), (5, .int (nI (i + 1)))]) (rfl) (by rw [← g4]) ?_
                  exact ih74 (i + 1) (by omega)
                · exact absurd c_8 (by decide)
              · refine gx_aload_n (pc := 96) hB dX5_canClaim_96 0 rfl ?_
                refine gx_iload (pc := 97) hB dX5_canClaim_97 5 rfl ?_
                refine gx_iconst (pc := 99) hB dX5_canClaim_99 3 (by decide) ?_
                refine gx_dVi (pc := 100) (r := sG S i 3) (wr := []) hB (c_X5_ofGift l K m q1 q2 q3 q4 q5 q6 q7 q8 S P H T X Z n ru ty cl sp ca co i 3 (by first | assumption | omega | decide) (by first | assumption | omega | decide)) mX5_ofGift dX5_canClaim_100 tb_867 pX5_ofGift ⟨Nat.le_of_ble_eq_true rfl, Nat.le_of_ble_eq_true rfl⟩ ⟨rfl, rfl⟩ ⟨Nat.zero_le _, Nat.zero_le _⟩ rfl (Nat.le_of_ble_eq_true rfl) [0, 1, 2, 3, 4, 5, 6, 7, 8] [] rfl rfl (by decide) (by decide) (by decide) rfl rfl [0, 1, 2, 3, 4, 5, 6, 7, 8] (by decide) (wM K m q1 q2 q3 q4 q5 q6 q7 q8 S P H T X Z n ru ty cl sp ca co) rfl ?_
                refine gx_bipush (pc := 103) hB dX5_canClaim_103 12 (by decide) ?_
                refine gx_idiv (pc := 105) hB dX5_canClaim_105 (by decide) ?_
                refine gx_iload_n (pc := 106) hB dX5_canClaim_106 3 rfl ?_
                refine gx_icmp_ne (pc := 107) hB 135 dX5_canClaim_107 (by decide) (fun c_9 => ?_) (fun c_9 => ?_)
                · refine gx_iconst (pc := 135) hB dX5_canClaim_135 0 (by decide) ?_
                  refine gx_istore (pc := 136) hB dX5_canClaim_136 (by decide) [(6, .int 0), (0, .ref m), (1, .int (nI g)), (2, .int (sG S g 0)), (3, .int (sG S g 3 / 12)), (4, .int (mYearN S g i)), (5, .int (nI i))] rfl ?_
                  refine gx_iload (pc := 138) hB dX5_canClaim_138 5 rfl ?_
                  refine gx_iload (pc := 140) hB dX5_canClaim_140 0 rfl ?_
                  refine gx_if_eq (pc := 142) hB 155 dX5_canClaim_142 (by decide) (fun c_10 => ?_) (fun c_10 => ?_)
                  · refine gx_iconst (pc := 155) hB dX5_canClaim_155 0 (by decide) ?_
                    refine gx_iadd (pc := 156) hB dX5_canClaim_156 ?_
                    refine gx_top (show mYearN S g i + 0 = (mYearN S g i) from Int32.add_zero _) ?_
                    refine gx_istore (pc := 157) hB dX5_canClaim_157 (by decide) [(4, .int (mYearN S g i)), (6, .int 0), (0, .ref m), (1, .int (nI g)), (2, .int (sG S g 0)), (3, .int (sG S g 3 / 12)), (5, .int (nI i))] rfl ?_
                    refine gx_iinc (pc := 159) hB dX5_canClaim_159 6 (by decide) rfl (nI (i + 1)) (nI_1 _) [(5, .int (nI (i + 1))), (4, .int (mYearN S g i)), (6, .int 0), (0, .ref m), (1, .int (nI g)), (2, .int (sG S g 0)), (3, .int (sG S g 3 / 12))] rfl ?_
                    refine gx_goto (pc := 162) hB 74 dX5_canClaim_162 (by decide) ?_
                    have g4 : mYearN S g i = mYearN S g (i + 1) := by simp [mCan, mYearN, bI, Int32.not_lt.mp c_1, eq_false c_1, eq_false c_2, c_3, eq_false (Int32.not_lt.mpr c_3), Int32.not_le.mp c_6, eq_false c_6, eq_true c_7, eq_false c_9]
                    refine gx_sub hB (lv' := [(0, .ref m), (1, .int (nI g)), (2, .int (sG S g 0)), (3, .int (sG S g 3 / 12)), (4, .int (mYearN S g i)), (5, .int (nI (i + 1)))]) [3, 4, 5, 6, 1, 0] rfl ?_
                    refine gx_all (ws' := wM K m q1 q2 q3 q4 q5 q6 q7 q8 S P H T X Z n ru ty cl sp ca co) (lv' := [(0, .ref m), (1, .int (nI g)), (2, .int (sG S g 0)), (3, .int (sG S g 3 / 12)), (4, .int (mYearN S g (i + 1))), (5, .int (nI (i + 1)))]) (rfl) (by rw [← g4]) ?_
                    exact ih74 (i + 1) (by omega)
                  · exact absurd c_10 (by decide)
                · refine gx_aload_n (pc := 110) hB dX5_canClaim_110 0 rfl ?_
                  refine gx_iload (pc := 111) hB dX5_canClaim_111 5 rfl ?_
                  refine gx_iconst (pc := 113) hB dX5_canClaim_113 4 (by decide) ?_
                  refine gx_dVi (pc := 114) (r := sG S i 4) (wr := []) hB (c_X5_ofGift l K m q1 q2 q3 q4 q5 q6 q7 q8 S P H T X Z n ru ty cl sp ca co i 4 (by first | assumption | omega | decide) (by first | assumption | omega | decide)) mX5_ofGift dX5_canClaim_114 tb_867 pX5_ofGift ⟨Nat.le_of_ble_eq_true rfl, Nat.le_of_ble_eq_true rfl⟩ ⟨rfl, rfl⟩ ⟨Nat.zero_le _, Nat.zero_le _⟩ rfl (Nat.le_of_ble_eq_true rfl) [0, 1, 2, 3, 4, 5, 6, 7, 8] [] rfl rfl (by decide) (by decide) (by decide) rfl rfl [0, 1, 2, 3, 4, 5, 6, 7, 8] (by decide) (wM K m q1 q2 q3 q4 q5 q6 q7 q8 S P H T X Z n ru ty cl sp ca co) rfl ?_
                  refine gx_iconst (pc := 117) hB dX5_canClaim_117 1 (by decide) ?_
                  refine gx_icmp_ne (pc := 118) hB 135 dX5_canClaim_118 (by decide) (fun c_11 => ?_) (fun c_11 => ?_)
                  · refine gx_iconst (pc := 135) hB dX5_canClaim_135 0 (by decide) ?_
                    refine gx_istore (pc := 136) hB dX5_canClaim_136 (by decide) [(6, .int 0), (0, .ref m), (1, .int (nI g)), (2, .int (sG S g 0)), (3, .int (sG S g 3 / 12)), (4, .int (mYearN S g i)), (5, .int (nI i))] rfl ?_
                    refine gx_iload (pc := 138) hB dX5_canClaim_138 5 rfl ?_
                    refine gx_iload (pc := 140) hB dX5_canClaim_140 0 rfl ?_
                    refine gx_if_eq (pc := 142) hB 155 dX5_canClaim_142 (by decide) (fun c_12 => ?_) (fun c_12 => ?_)
                    · refine gx_iconst (pc := 155) hB dX5_canClaim_155 0 (by decide) ?_
                      refine gx_iadd (pc := 156) hB dX5_canClaim_156 ?_
                      refine gx_top (show mYearN S g i + 0 = (mYearN S g i) from Int32.add_zero _) ?_
                      refine gx_istore (pc := 157) hB dX5_canClaim_157 (by decide) [(4, .int (mYearN S g i)), (6, .int 0), (0, .ref m), (1, .int (nI g)), (2, .int (sG S g 0)), (3, .int (sG S g 3 / 12)), (5, .int (nI i))] rfl ?_
                      refine gx_iinc (pc := 159) hB dX5_canClaim_159 6 (by decide) rfl (nI (i + 1)) (nI_1 _) [(5, .int (nI (i + 1))), (4, .int (mYearN S g i)), (6, .int 0), (0, .ref m), (1, .int (nI g)), (2, .int (sG S g 0)), (3, .int (sG S g 3 / 12))] rfl ?_
                      refine gx_goto (pc := 162) hB 74 dX5_canClaim_162 (by decide) ?_
                      have g4 : mYearN S g i = mYearN S g (i + 1) := by simp [mCan, mYearN, bI, Int32.not_lt.mp c_1, eq_false c_1, eq_false c_2, c_3, eq_false (Int32.not_lt.mpr c_3), Int32.not_le.mp c_6, eq_false c_6, eq_true c_7, eq_true c_9, eq_false c_11]
                      refine gx_sub hB (lv' := [(0, .ref m), (1, .int (nI g)), (2, .int (sG S g 0)), (3, .int (sG S g 3 / 12)), (4, .int (mYearN S g i)), (5, .int (nI (i + 1)))]) [3, 4, 5, 6, 1, 0] rfl ?_
                      refine gx_all (ws' := wM K m q1 q2 q3 q4 q5 q6 q7 q8 S P H T X Z n ru ty cl sp ca co) (lv' := [(0, .ref m), (1, .int (nI g)), (2, .int (sG S g 0)), (3, .int (sG S g 3 / 12)), (4, .int (mYearN S g (i + 1))), (5, .int (nI (i + 1)))]) (rfl) (by rw [← g4]) ?_
                      exact ih74 (i + 1) (by omega)
                    · exact absurd c_12 (by decide)
                  · refine gx_aload_n (pc := 121) hB dX5_canClaim_121 0 rfl ?_
                    refine gx_iload (pc := 122) hB dX5_canClaim_122 5 rfl ?_
                    refine gx_iconst (pc := 124) hB dX5_canClaim_124 5 (by decide) ?_
                    refine gx_dVi (pc := 125) (r := sG S i 5) (wr := []) hB (c_X5_ofGift l K m q1 q2 q3 q4 q5 q6 q7 q8 S P H T X Z n ru ty cl sp ca co i 5 (by first | assumption | omega | decide) (by first | assumption | omega | decide)) mX5_ofGift dX5_canClaim_125 tb_867 pX5_ofGift ⟨Nat.le_of_ble_eq_true rfl, Nat.le_of_ble_eq_true rfl⟩ ⟨rfl, rfl⟩ ⟨Nat.zero_le _, Nat.zero_le _⟩ rfl (Nat.le_of_ble_eq_true rfl) [0, 1, 2, 3, 4, 5, 6, 7, 8] [] rfl rfl (by decide) (by decide) (by decide) rfl rfl [0, 1, 2, 3, 4, 5, 6, 7, 8] (by decide) (wM K m q1 q2 q3 q4 q5 q6 q7 q8 S P H T X Z n ru ty cl sp ca co) rfl ?_
                    refine gx_if_ne (pc := 128) hB 135 dX5_canClaim_128 (by decide) (fun c_13 => ?_) (fun c_13 => ?_)
                    · refine gx_iconst (pc := 135) hB dX5_canClaim_135 0 (by decide) ?_
                      refine gx_istore (pc := 136) hB dX5_canClaim_136 (by decide) [(6, .int 0), (0, .ref m), (1, .int (nI g)), (2, .int (sG S g 0)), (3, .int (sG S g 3 / 12)), (4, .int (mYearN S g i)), (5, .int (nI i))] rfl ?_
                      refine gx_iload (pc := 138) hB dX5_canClaim_138 5 rfl ?_
                      refine gx_iload (pc := 140) hB dX5_canClaim_140 0 rfl ?_
                      refine gx_if_eq (pc := 142) hB 155 dX5_canClaim_142 (by decide) (fun c_14 => ?_) (fun c_14 => ?_)
                      · refine gx_iconst (pc := 155) hB dX5_canClaim_155 0 (by decide) ?_
                        refine gx_iadd (pc := 156) hB dX5_canClaim_156 ?_
                        refine gx_top (show mYearN S g i + 0 = (mYearN S g i) from Int32.add_zero _) ?_
                        refine gx_istore (pc := 157) hB dX5_canClaim_157 (by decide) [(4, .int (mYearN S g i)), (6, .int 0), (0, .ref m), (1, .int (nI g)), (2, .int (sG S g 0)), (3, .int (sG S g 3 / 12)), (5, .int (nI i))] rfl ?_
                        refine gx_iinc (pc := 159) hB dX5_canClaim_159 6 (by decide) rfl (nI (i + 1)) (nI_1 _) [(5, .int (nI (i + 1))), (4, .int (mYearN S g i)), (6, .int 0), (0, .ref m), (1, .int (nI g)), (2, .int (sG S g 0)), (3, .int (sG S g 3 / 12))] rfl ?_
                        refine gx_goto (pc := 162) hB 74 dX5_canClaim_162 (by decide) ?_
                        have g4 : mYearN S g i = mYearN S g (i + 1) := by simp [mCan, mYearN, bI, Int32.not_lt.mp c_1, eq_false c_1, eq_false c_2, c_3, eq_false (Int32.not_lt.mpr c_3), Int32.not_le.mp c_6, eq_false c_6, eq_true c_7, eq_true c_9, eq_true c_11, eq_false c_13]
                        refine gx_sub hB (lv' := [(0, .ref m), (1, .int (nI g)), (2, .int (sG S g 0)), (3, .int (sG S g 3 / 12)), (4, .int (mYearN S g i)), (5, .int (nI (i + 1)))]) [3, 4, 5, 6, 1, 0] rfl ?_
                        refine gx_all (ws' := wM K m q1 q2 q3 q4 q5 q6 q7 q8 S P H T X Z n ru ty cl sp ca co) (lv' := [(0, .ref m), (1, .int (nI g)), (2, .int (sG S g 0)), (3, .int (sG S g 3 / 12)), (4, .int (mYearN S g (i + 1))), (5, .int (nI (i + 1)))]) (rfl) (by rw [← g4]) ?_
                        exact ih74 (i + 1) (by omega)
                      · exact absurd c_14 (by decide)
                    · refine gx_iconst (pc := 131) hB dX5_canClaim_131 1 (by decide) ?_
                      refine gx_goto (pc := 132) hB 136 dX5_canClaim_132 (by decide) ?_
                      refine gx_istore (pc := 136) hB dX5_canClaim_136 (by decide) [(6, .int 1), (0, .ref m), (1, .int (nI g)), (2, .int (sG S g 0)), (3, .int (sG S g 3 / 12)), (4, .int (mYearN S g i)), (5, .int (nI i))] rfl ?_
                      refine gx_iload (pc := 138) hB dX5_canClaim_138 5 rfl ?_
                      refine gx_iload (pc := 140) hB dX5_canClaim_140 0 rfl ?_
                      refine gx_if_eq (pc := 142) hB 155 dX5_canClaim_142 (by decide) (fun c_15 => ?_) (fun c_15 => ?_)
                      · exact absurd c_15 (by decide)
                      · refine gx_aload_n (pc := 145) hB dX5_canClaim_145 1 rfl ?_
                        refine gx_iload (pc := 146) hB dX5_canClaim_146 6 rfl ?_
                        refine gx_iconst (pc := 148) hB dX5_canClaim_148 2 (by decide) ?_
                        refine gx_dVi (pc := 149) (r := sG S i 2) (wr := []) hB (c_X5_ofGift l K m q1 q2 q3 q4 q5 q6 q7 q8 S P H T X Z n ru ty cl sp ca co i 2 (by first | assumption | omega | decide) (by first | assumption | omega | decide)) mX5_ofGift dX5_canClaim_149 tb_867 pX5_ofGift ⟨Nat.le_of_ble_eq_true rfl, Nat.le_of_ble_eq_true rfl⟩ ⟨rfl, rfl⟩ ⟨Nat.zero_le _, Nat.zero_le _⟩ rfl (Nat.le_of_ble_eq_true rfl) [0, 1, 2, 3, 4, 5, 6, 7, 8] [] rfl rfl (by decide) (by decide) (by decide) rfl rfl [0, 1, 2, 3, 4, 5, 6, 7, 8] (by decide) (wM K m q1 q2 q3 q4 q5 q6 q7 q8 S P H T X Z n ru ty cl sp ca co) rfl ?_
                        refine gx_goto (pc := 152) hB 156 dX5_canClaim_152 (by decide) ?_
                        refine gx_iadd (pc := 156) hB dX5_canClaim_156 ?_
                        refine gx_istore (pc := 157) hB dX5_canClaim_157 (by decide) [(4, .int (mYearN S g i + sG S i 2)), (6, .int 1), (0, .ref m), (1, .int (nI g)), (2, .int (sG S g 0)), (3, .int (sG S g 3 / 12)), (5, .int (nI i))] rfl ?_
                        refine gx_iinc (pc := 159) hB dX5_canClaim_159 6 (by decide) rfl (nI (i + 1)) (nI_1 _) [(5, .int (nI (i + 1))), (4, .int (mYearN S g i + sG S i 2)), (6, .int 1), (0, .ref m), (1, .int (nI g)), (2, .int (sG S g 0)), (3, .int (sG S g 3 / 12))] rfl ?_
                        refine gx_goto (pc := 162) hB 74 dX5_canClaim_162 (by decide) ?_
                        have g4 : mYearN S g i + sG S i 2 = mYearN S g (i + 1) := by simp [mCan, mYearN, bI, Int32.not_lt.mp c_1, eq_false c_1, eq_false c_2, c_3, eq_false (Int32.not_lt.mpr c_3), Int32.not_le.mp c_6, eq_false c_6, eq_true c_7, eq_true c_9, eq_true c_11, eq_true c_13]
                        refine gx_sub hB (lv' := [(0, .ref m), (1, .int (nI g)), (2, .int (sG S g 0)), (3, .int (sG S g 3 / 12)), (4, .int (mYearN S g i + sG S i 2)), (5, .int (nI (i + 1)))]) [3, 4, 5, 6, 1, 0] rfl ?_
                        refine gx_all (ws' := wM K m q1 q2 q3 q4 q5 q6 q7 q8 S P H T X Z n ru ty cl sp ca co) (lv' := [(0, .ref m), (1, .int (nI g)), (2, .int (sG S g 0)), (3, .int (sG S g 3 / 12)), (4, .int (mYearN S g (i + 1))), (5, .int (nI (i + 1)))]) (rfl) (by rw [← g4]) ?_
                        exact ih74 (i + 1) (by omega)
        refine gx_sub hB (lv' := [(0, .ref m), (1, .int (nI g)), (2, .int (sG S g 0)), (3, .int (sG S g 3 / 12)), (4, .int (sG S g 2)), (5, .int 0)]) [4, 5, 3, 2, 1, 0] rfl ?_
        refine gx_all (ws' := wM K m q1 q2 q3 q4 q5 q6 q7 q8 S P H T X Z n ru ty cl sp ca co) (lv' := [(0, .ref m), (1, .int (nI g)), (2, .int (sG S g 0)), (3, .int (sG S g 3 / 12)), (4, .int (mYearN S g 0)), (5, .int (nI 0))]) (rfl) (rfl) ?_
        exact loop_74 (c) 0 (by omega)
      · refine gx_iconst (pc := 61) hB dX5_canClaim_61 0 (by decide) ?_
        have e1 : (bI (mCan S c g)) = 0 := by simp [mCan, mYearN, bI, Int32.not_lt.mp c_1, eq_false c_1, eq_false c_2, Int32.not_le.mp c_3, eq_false c_3]
        exact gx_zret (pc := 62) hC dX5_canClaim_62 (Nat.zero_le _) (Nat.zero_le _) (by decide) (⟨by rw [e1], rfl⟩)
theorem pX5_claims : (parseMethodDescriptor yX5_claims.desc).map (fun d => d.parameters.length) = some 1 := by decide +kernel
theorem mX5_claims : gx_M yX5_claims cX5_claims 6 (some .int) := ⟨tb_865, tb_48, tb_73, tb_866, by decide, by decide⟩
set_option maxHeartbeats 4000000 in
set_option maxRecDepth 100000 in
theorem c_X5_claims (l : Launch) (K : gx_K) (m q1 q2 q3 q4 q5 q6 q7 q8 : Nat) (S P H T X Z : Nat → Int32) (n : Nat) (ru : Bool) (ty : Nat) (cl : Int32) (sp : Nat) (ca : Int32) (co : Nat) (a b c e : Nat) (x : Int32) (h0 : sOk S a b c e) : gx_Ctr l K yX5_claims cX5_claims 6 (some .int) (rmm 4 65) [.ref m, .int x] (wM K m q1 q2 q3 q4 q5 q6 q7 q8 S P H T X Z n ru ty cl sp ca co) (gx_D (some (.int ((mClN S c x c).1))) (wM K m q1 q2 q3 q4 q5 q6 q7 q8 ((mClN S c x c).2.2) P H T X Z n ru ty ((mClN S c x c).2.1) sp ca co)) := by
  refine gx_of (by decide) (Nat.le_of_ble_eq_true rfl) (fun G hC => ?_)
  have hB := hC.b
  refine gx_lv (lv' := [(0, .ref m), (1, .int x)]) rfl ?_
  have hb0 := h0.1
  refine gx_iconst (pc := 0) hB dX5_claims_0 0 (by decide) ?_
  refine gx_istore_n (pc := 1) hB dX5_claims_1 (by decide) [(2, .int 0), (0, .ref m), (1, .int x)] rfl ?_
  refine gx_aload_n (pc := 2) hB dX5_claims_2 1 rfl ?_
  refine gx_iconst (pc := 3) hB dX5_claims_3 0 (by decide) ?_
  refine gx_put (pc := 4) hB dX5_claims_4 inX5 rfl tyX5 tyX5_ok nmX5 0 rfl 10 (by decide) tb_736 rfl rfl rfl rfl (Nat.le_of_ble_eq_true rfl) (wM K m q1 q2 q3 q4 q5 q6 q7 q8 S P H T X Z n ru ty 0 sp ca co) rfl ?_
  refine gx_iconst (pc := 7) hB dX5_claims_7 0 (by decide) ?_
  refine gx_istore_n (pc := 8) hB dX5_claims_8 (by decide) [(3, .int 0), (2, .int 0), (0, .ref m), (1, .int x)] rfl ?_
  have loop_9 : ∀ dq i : Nat, i + dq = c → G 0 0 (wM K m q1 q2 q3 q4 q5 q6 q7 q8 ((mClN S c x i).2.2) P H T X Z n ru ty ((mClN S c x i).2.1) sp ca co) [(0, .ref m), (1, .int x), (2, .int ((mClN S c x i).1)), (3, .int (nI i))] 9 [] := by
    intro dq
    induction dq with
    | zero =>
      intro i hi9
      have hOi := mClN_ok h0 x i (by omega)
      obtain rfl : c = i := by omega
      refine gx_iload_n (pc := 9) hB dX5_claims_9 3 rfl ?_
      refine gx_aload_n (pc := 10) hB dX5_claims_10 0 rfl ?_
      refine gx_get (pc := 11) hB dX5_claims_11 inX5 rfl 0 rfl 0 (by decide) tb_726 rfl rfl ?_
      refine gx_iconst (pc := 14) hB dX5_claims_14 4 (by decide) ?_
      refine gx_iald (pc := 15) hB dX5_claims_15 1 1 rfl rfl 4 rfl (by decide) (by decide) ?_
      refine gx_top (show ((mClN S c x c).2.2) 4 = nI c from hOi.1.2.2.1) ?_
      refine gx_icmp_ge (pc := 16) hB 119 dX5_claims_16 (by decide) (fun c_1 => ?_) (fun c_1 => ?_)
      · refine gx_iload_n (pc := 119) hB dX5_claims_119 2 rfl ?_
        exact gx_iret (pc := 120) hC dX5_claims_120 (Nat.zero_le _) (Nat.zero_le _) (⟨rfl, rfl⟩)
      · exact absurd (lpTn (c := c) (by omega) hi9) c_1
    | succ dq ih9 =>
      intro i hi9
      have hOi := mClN_ok h0 x i (by omega)
      refine gx_iload_n (pc := 9) hB dX5_claims_9 3 rfl ?_
      refine gx_aload_n (pc := 10) hB dX5_claims_10 0 rfl ?_
      refine gx_get (pc := 11) hB dX5_claims_11 inX5 rfl 0 rfl 0 (by decide) tb_726 rfl rfl ?_
      refine gx_iconst (pc := 14) hB dX5_claims_14 4 (by decide) ?_
      refine gx_iald (pc := 15) hB dX5_claims_15 1 1 rfl rfl 4 rfl (by decide) (by decide) ?_
      refine gx_top (show ((mClN S c x i).2.2) 4 = nI c from hOi.1.2.2.1) ?_
      refine gx_icmp_ge (pc := 16) hB 119 dX5_claims_16 (by decide) (fun c_2 => ?_) (fun c_2 => ?_)
      · exact absurd c_2 (lpFn (c := c) (by omega) hi9)
      · refine gx_iload_n (pc := 19) hB dX5_claims_19 1 rfl ?_
        refine gx_if_lt (pc := 20) hB 33 dX5_claims_20 (by decide) (fun c_3 => ?_) (fun c_3 => ?_)
        · refine gx_aload_n (pc := 33) hB dX5_claims_33 0 rfl ?_
          refine gx_iload_n (pc := 34) hB dX5_claims_34 3 rfl ?_
          refine gx_dVi (pc := 35) (r := bI (mCan ((mClN S c x i).2.2) c i)) (wr := []) hB (c_X5_canClaim l K m q1 q2 q3 q4 q5 q6 q7 q8 ((mClN S c x i).2.2) P H T X Z n ru ty ((mClN S c x i).2.1) sp ca co a b c e i hOi (by first | assumption | omega | decide)) mX5_canClaim dX5_claims_35 tb_871 pX5_canClaim ⟨Nat.le_of_ble_eq_true rfl, Nat.le_of_ble_eq_true rfl⟩ ⟨rfl, rfl⟩ ⟨Nat.zero_le _, Nat.zero_le _⟩ rfl (Nat.le_of_ble_eq_true rfl) [0, 1, 2, 3, 4, 5, 6, 7, 8] [] rfl rfl (by decide) (by decide) (by decide) rfl rfl [0, 1, 2, 3, 4, 5, 6, 7, 8] (by decide) (wM K m q1 q2 q3 q4 q5 q6 q7 q8 ((mClN S c x i).2.2) P H T X Z n ru ty ((mClN S c x i).2.1) sp ca co) rfl ?_
          refine gx_if_eq_b (pc := 38) hB 113 dX5_claims_38 (by decide) (fun c_4 => ?_) (fun c_4 => ?_)
          · refine gx_iinc (pc := 113) hB dX5_claims_113 3 (by decide) rfl (nI (i + 1)) (nI_1 _) [(3, .int (nI (i + 1))), (0, .ref m), (1, .int x), (2, .int ((mClN S c x i).1))] rfl ?_
            refine gx_goto (pc := 116) hB 9 dX5_claims_116 (by decide) ?_
            have g2 : (mClN S c x i).1 = (mClN S c x (i + 1)).1 := by simp [mClN, mClOne, Int32.not_le.mp c_2, eq_false c_2, c_3, eq_false (Int32.not_le.mpr c_3), c_4]
            have w0 : (mClN S c x i).2.2 = (mClN S c x (i + 1)).2.2 := by simp [mClN, mClOne, Int32.not_le.mp c_2, eq_false c_2, c_3, eq_false (Int32.not_le.mpr c_3), c_4]
            have w1 : (mClN S c x i).2.1 = (mClN S c x (i + 1)).2.1 := by simp [mClN, mClOne, Int32.not_le.mp c_2, eq_false c_2, c_3, eq_false (Int32.not_le.mpr c_3), c_4]
            refine gx_sub hB (lv' := [(0, .ref m), (1, .int x), (2, .int ((mClN S c x i).1)), (3, .int (nI (i + 1)))]) [1, 2, 3, 0] rfl ?_
            refine gx_all (ws' := wM K m q1 q2 q3 q4 q5 q6 q7 q8 ((mClN S c x (i + 1)).2.2) P H T X Z n ru ty ((mClN S c x (i + 1)).2.1) sp ca co) (lv' := [(0, .ref m), (1, .int x), (2, .int ((mClN S c x (i + 1)).1)), (3, .int (nI (i + 1)))]) (by rw [← w0, ← w1]) (by rw [← g2]) ?_
            exact ih9 (i + 1) (by omega)
          · refine gx_aload_n (pc := 41) hB dX5_claims_41 0 rfl ?_
            refine gx_get (pc := 42) hB dX5_claims_42 inX5 rfl 0 rfl 0 (by decide) tb_726 rfl rfl ?_
            refine gx_sipush (pc := 45) hB dX5_claims_45 129 (by decide) ?_
            refine gx_bipush (pc := 48) hB dX5_claims_48 7 (by decide) ?_
            refine gx_iload_n (pc := 50) hB dX5_claims_50 3 rfl ?_
            refine gx_imul (pc := 51) hB dX5_claims_51 ?_
            refine gx_top (show 7 * nI i = nI (7 * i) from pk_mul 7 i) ?_
            refine gx_iadd (pc := 52) hB dX5_claims_52 ?_
            refine gx_top (show 129 + (nI (7 * i)) = nI (129 + (7 * i)) from nI_add 129 (7 * i)) ?_
            refine gx_iconst (pc := 53) hB dX5_claims_53 4 (by decide) ?_
            refine gx_iadd (pc := 54) hB dX5_claims_54 ?_
            refine gx_top (show (nI (129 + (7 * i))) + 4 = nI (129 + (7 * i) + 4) from nI_add (129 + (7 * i)) 4) ?_
            refine gx_iconst (pc := 55) hB dX5_claims_55 1 (by decide) ?_
            refine gx_iast (pc := 56) hB dX5_claims_56 1 1 rfl rfl (129 + (7 * i) + 4) rfl (by omega) (by decide) (wM K m q1 q2 q3 q4 q5 q6 q7 q8 (upd ((mClN S c x i).2.2) (129 + (7 * i) + 4) 1) P H T X Z n ru ty ((mClN S c x i).2.1) sp ca co) rfl ?_
            have hO1 : sOk (upd ((mClN S c x i).2.2) (129 + (7 * i) + 4) 1) a b c e := sOk_upd hOi (by omega) (fun q hq => by omega) (fun g hg => by omega) (fun g hg => by omega)
            obtain ⟨z_1, y_1⟩ := num_of (x := sG (upd ((mClN S c x i).2.2) (129 + (7 * i) + 4) 1) i 1) (N := a) (hO1.2.1 i (by omega)).2 (by omega)
            have hh := sOk_home hO1 y_1
            refine gx_aload_n (pc := 57) hB dX5_claims_57 0 rfl ?_
            refine gx_iload_n (pc := 58) hB dX5_claims_58 3 rfl ?_
            refine gx_iconst (pc := 59) hB dX5_claims_59 2 (by decide) ?_
            refine gx_dVi (pc := 60) (r := sG (upd ((mClN S c x i).2.2) (129 + (7 * i) + 4) 1) i 2) (wr := []) hB (c_X5_ofGift l K m q1 q2 q3 q4 q5 q6 q7 q8 (upd ((mClN S c x i).2.2) (129 + (7 * i) + 4) 1) P H T X Z n ru ty ((mClN S c x i).2.1) sp ca co i 2 (by first | assumption | omega | decide) (by first | assumption | omega | decide)) mX5_ofGift dX5_claims_60 tb_867 pX5_ofGift ⟨Nat.le_of_ble_eq_true rfl, Nat.le_of_ble_eq_true rfl⟩ ⟨rfl, rfl⟩ ⟨Nat.zero_le _, Nat.zero_le _⟩ rfl (Nat.le_of_ble_eq_true rfl) [0, 1, 2, 3, 4, 5, 6, 7, 8] [] rfl rfl (by decide) (by decide) (by decide) rfl rfl [0, 1, 2, 3, 4, 5, 6, 7, 8] (by decide) (wM K m q1 q2 q3 q4 q5 q6 q7 q8 (upd ((mClN S c x i).2.2) (129 + (7 * i) + 4) 1) P H T X Z n ru ty ((mClN S c x i).2.1) sp ca co) rfl ?_
            refine gx_dSi (pc := 63) (r := (sG (upd ((mClN S c x i).2.2) (129 + (7 * i) + 4) 1) i 2) / 4) (wr := [(m, .inr (5, [.ref q1, .ref q2, .ref q3, .ref q4, .int (nI n), .int (bI ru), .ref q5, .int (nI ty), .ref q6, .ref q7, .int ((mClN S c x i).2.1), .int (nI sp), .int ca, .int (nI co), .ref q8])), (q1, .inl (K.2.1.2.1, 345, .inl (upd ((mClN S c x i).2.2) (129 + (7 * i) + 4) 1))), (q2, .inl (K.2.1.2.1, 1380, .inl P)), (q3, .inl (K.2.1.2.1, 345, .inl H)), (q4, .inl (K.2.1.2.1, 345, .inl T)), (q5, .inl (K.2.1.2.1, 80, .inl X)), (q6, .inl (K.2.1.2.2.1, 9, .inr (.inl mW))), (q7, .inl (K.2.1.2.1, 9, .inl mN)), (q8, .inl (K.2.1.2.1, 4, .inl Z))]) hB (c_X5_tax l K (sG (upd ((mClN S c x i).2.2) (129 + (7 * i) + 4) 1) i 2) ) mX5_tax dX5_claims_63 tb_875 pX5_tax ⟨Nat.le_of_ble_eq_true rfl, Nat.le_of_ble_eq_true rfl⟩ ⟨rfl, rfl⟩ ⟨Nat.zero_le _, Nat.zero_le _⟩ rfl (Nat.le_of_ble_eq_true rfl) [] [0, 1, 2, 3, 4, 5, 6, 7, 8] rfl rfl (by decide) (by decide) (by decide) [0, 1, 2, 3, 4, 5, 6, 7, 8] (by decide) (wM K m q1 q2 q3 q4 q5 q6 q7 q8 (upd ((mClN S c x i).2.2) (129 + (7 * i) + 4) 1) P H T X Z n ru ty ((mClN S c x i).2.1) sp ca co) rfl ?_
            refine gx_istore (pc := 66) hB dX5_claims_66 (by decide) [(4, .int ((sG (upd ((mClN S c x i).2.2) (129 + (7 * i) + 4) 1) i 2) / 4)), (0, .ref m), (1, .int x), (2, .int ((mClN S c x i).1)), (3, .int (nI i))] rfl ?_
            refine gx_aload_n (pc := 68) hB dX5_claims_68 1 rfl ?_
            refine gx_aload_n (pc := 69) hB dX5_claims_69 1 rfl ?_
            refine gx_iload_n (pc := 70) hB dX5_claims_70 4 rfl ?_
            refine gx_iconst (pc := 71) hB dX5_claims_71 1 (by decide) ?_
            refine gx_dVi (pc := 72) (r := sG (upd ((mClN S c x i).2.2) (129 + (7 * i) + 4) 1) i 1) (wr := []) hB (c_X5_ofGift l K m q1 q2 q3 q4 q5 q6 q7 q8 (upd ((mClN S c x i).2.2) (129 + (7 * i) + 4) 1) P H T X Z n ru ty ((mClN S c x i).2.1) sp ca co i 1 (by first | assumption | omega | decide) (by first | assumption | omega | decide)) mX5_ofGift dX5_claims_72 tb_867 pX5_ofGift ⟨Nat.le_of_ble_eq_true rfl, Nat.le_of_ble_eq_true rfl⟩ ⟨rfl, rfl⟩ ⟨Nat.zero_le _, Nat.zero_le _⟩ rfl (Nat.le_of_ble_eq_true rfl) [0, 1, 2, 3, 4, 5, 6, 7, 8] [] rfl rfl (by decide) (by decide) (by decide) rfl rfl [0, 1, 2, 3, 4, 5, 6, 7, 8] (by decide) (wM K m q1 q2 q3 q4 q5 q6 q7 q8 (upd ((mClN S c x i).2.2) (129 + (7 * i) + 4) 1) P H T X Z n ru ty ((mClN S c x i).2.1) sp ca co) rfl ?_
            refine gx_top (show sG (upd ((mClN S c x i).2.2) (129 + (7 * i) + 4) 1) i 1 = nI ((sG (upd ((mClN S c x i).2.2) (129 + (7 * i) + 4) 1) i 1).toNatClampNeg) from z_1) ?_
            refine gx_dVi (pc := 75) (r := nI (sHome (upd ((mClN S c x i).2.2) (129 + (7 * i) + 4) 1) ((sG (upd ((mClN S c x i).2.2) (129 + (7 * i) + 4) 1) i 1).toNatClampNeg))) (wr := []) hB (c_X5_home l K m q1 q2 q3 q4 q5 q6 q7 q8 (upd ((mClN S c x i).2.2) (129 + (7 * i) + 4) 1) P H T X Z n ru ty ((mClN S c x i).2.1) sp ca co a b c e ((sG (upd ((mClN S c x i).2.2) (129 + (7 * i) + 4) 1) i 1).toNatClampNeg) hO1 y_1) mX5_home dX5_claims_75 tb_878 pX5_home ⟨Nat.le_of_ble_eq_true rfl, Nat.le_of_ble_eq_true rfl⟩ ⟨rfl, rfl⟩ ⟨Nat.zero_le _, Nat.zero_le _⟩ rfl (Nat.le_of_ble_eq_true rfl) [0, 1, 2, 3, 4, 5, 6, 7, 8] [] rfl rfl (by decide) (by decide) (by decide) rfl rfl [0, 1, 2, 3, 4, 5, 6, 7, 8] (by decide) (wM K m q1 q2 q3 q4 q5 q6 q7 q8 (upd ((mClN S c x i).2.2) (129 + (7 * i) + 4) 1) P H T X Z n ru ty ((mClN S c x i).2.1) sp ca co) rfl ?_
            refine gx_istore (pc := 78) hB dX5_claims_78 (by decide) [(5, .int (nI (sHome (upd ((mClN S c x i).2.2) (129 + (7 * i) + 4) 1) ((sG (upd ((mClN S c x i).2.2) (129 + (7 * i) + 4) 1) i 1).toNatClampNeg)))), (4, .int ((sG (upd ((mClN S c x i).2.2) (129 + (7 * i) + 4) 1) i 2) / 4)), (0, .ref m), (1, .int x), (2, .int ((mClN S c x i).1)), (3, .int (nI i))] rfl ?_
            refine gx_aload_n (pc := 80) hB dX5_claims_80 2 rfl ?_
            refine gx_iload (pc := 81) hB dX5_claims_81 0 rfl ?_
            refine gx_iconst (pc := 83) hB dX5_claims_83 0 (by decide) ?_
            refine gx_iload (pc := 84) hB dX5_claims_84 1 rfl ?_
            refine gx_dVv (pc := 86) (wr := []) hB (c_X5_adds l K m q1 q2 q3 q4 q5 q6 q7 q8 (upd ((mClN S c x i).2.2) (129 + (7 * i) + 4) 1) P H T X Z n ru ty ((mClN S c x i).2.1) sp ca co (sHome (upd ((mClN S c x i).2.2) (129 + (7 * i) + 4) 1) ((sG (upd ((mClN S c x i).2.2) (129 + (7 * i) + 4) 1) i 1).toNatClampNeg)) 0 ((sG (upd ((mClN S c x i).2.2) (129 + (7 * i) + 4) 1) i 2) / 4) (by first | assumption | omega | decide) (by first | assumption | omega | decide)) mX5_adds dX5_claims_86 tb_824 pX5_adds ⟨Nat.le_of_ble_eq_true rfl, Nat.le_of_ble_eq_true rfl⟩ ⟨rfl, rfl⟩ ⟨Nat.zero_le _, Nat.zero_le _⟩ rfl (Nat.le_of_ble_eq_true rfl) [0, 1, 2, 3, 4, 5, 6, 7, 8] [] rfl rfl (by decide) (by decide) (by decide) rfl rfl [0, 1, 2, 3, 4, 5, 6, 7, 8] (by decide) (wM K m q1 q2 q3 q4 q5 q6 q7 q8 (aP (upd ((mClN S c x i).2.2) (129 + (7 * i) + 4) 1) (sHome (upd ((mClN S c x i).2.2) (129 + (7 * i) + 4) 1) ((sG (upd ((mClN S c x i).2.2) (129 + (7 * i) + 4) 1) i 1).toNatClampNeg)) 0 ((sG (upd ((mClN S c x i).2.2) (129 + (7 * i) + 4) 1) i 2) / 4)) P H T X Z n ru ty ((mClN S c x i).2.1) sp ca co) rfl ?_
            refine gx_aload_n (pc := 89) hB dX5_claims_89 2 rfl ?_
            refine gx_iload (pc := 90) hB dX5_claims_90 0 rfl ?_
            refine gx_iconst (pc := 92) hB dX5_claims_92 2 (by decide) ?_
            refine gx_iload (pc := 93) hB dX5_claims_93 1 rfl ?_
            refine gx_dVv (pc := 95) (wr := []) hB (c_X5_adds l K m q1 q2 q3 q4 q5 q6 q7 q8 (aP (upd ((mClN S c x i).2.2) (129 + (7 * i) + 4) 1) (sHome (upd ((mClN S c x i).2.2) (129 + (7 * i) + 4) 1) ((sG (upd ((mClN S c x i).2.2) (129 + (7 * i) + 4) 1) i 1).toNatClampNeg)) 0 ((sG (upd ((mClN S c x i).2.2) (129 + (7 * i) + 4) 1) i 2) / 4)) P H T X Z n ru ty ((mClN S c x i).2.1) sp ca co (sHome (upd ((mClN S c x i).2.2) (129 + (7 * i) + 4) 1) ((sG (upd ((mClN S c x i).2.2) (129 + (7 * i) + 4) 1) i 1).toNatClampNeg)) 2 ((sG (upd ((mClN S c x i).2.2) (129 + (7 * i) + 4) 1) i 2) / 4) (by first | assumption | omega | decide) (by first | assumption | omega | decide)) mX5_adds dX5_claims_95 tb_824 pX5_adds ⟨Nat.le_of_ble_eq_true rfl, Nat.le_of_ble_eq_true rfl⟩ ⟨rfl, rfl⟩ ⟨Nat.zero_le _, Nat.zero_le _⟩ rfl (Nat.le_of_ble_eq_true rfl) [0, 1, 2, 3, 4, 5, 6, 7, 8] [] rfl rfl (by decide) (by decide) (by decide) rfl rfl [0, 1, 2, 3, 4, 5, 6, 7, 8] (by decide) (wM K m q1 q2 q3 q4 q5 q6 q7 q8 (aP (aP (upd ((mClN S c x i).2.2) (129 + (7 * i) + 4) 1) (sHome (upd ((mClN S c x i).2.2) (129 + (7 * i) + 4) 1) ((sG (upd ((mClN S c x i).2.2) (129 + (7 * i) + 4) 1) i 1).toNatClampNeg)) 0 ((sG (upd ((mClN S c x i).2.2) (129 + (7 * i) + 4) 1) i 2) / 4)) (sHome (upd ((mClN S c x i).2.2) (129 + (7 * i) + 4) 1) ((sG (upd ((mClN S c x i).2.2) (129 + (7 * i) + 4) 1) i 1).toNatClampNeg)) 2 ((sG (upd ((mClN S c x i).2.2) (129 + (7 * i) + 4) 1) i 2) / 4)) P H T X Z n ru ty ((mClN S c x i).2.1) sp ca co) rfl ?_
            refine gx_iload_n (pc := 98) hB dX5_claims_98 4 rfl ?_
            refine gx_iload (pc := 99) hB dX5_claims_99 1 rfl ?_
            refine gx_iadd (pc := 101) hB dX5_claims_101 ?_
            refine gx_istore_n (pc := 102) hB dX5_claims_102 (by decide) [(2, .int (((mClN S c x i).1) + ((sG (upd ((mClN S c x i).2.2) (129 + (7 * i) + 4) 1) i 2) / 4))), (5, .int (nI (sHome (upd ((mClN S c x i).2.2) (129 + (7 * i) + 4) 1) ((sG (upd ((mClN S c x i).2.2) (129 + (7 * i) + 4) 1) i 1).toNatClampNeg)))), (4, .int ((sG (upd ((mClN S c x i).2.2) (129 + (7 * i) + 4) 1) i 2) / 4)), (0, .ref m), (1, .int x), (3, .int (nI i))] rfl ?_
            refine gx_aload_n (pc := 103) hB dX5_claims_103 3 rfl ?_
            refine gx_dup (pc := 104) hB dX5_claims_104 rfl ?_
            refine gx_get (pc := 105) hB dX5_claims_105 inX5 rfl 0 rfl 10 (by decide) tb_736 rfl rfl ?_
            refine gx_iconst (pc := 108) hB dX5_claims_108 1 (by decide) ?_
            refine gx_iadd (pc := 109) hB dX5_claims_109 ?_
            refine gx_put (pc := 110) hB dX5_claims_110 inX5 rfl tyX5 tyX5_ok nmX5 0 rfl 10 (by decide) tb_736 rfl rfl rfl rfl (Nat.le_of_ble_eq_true rfl) (wM K m q1 q2 q3 q4 q5 q6 q7 q8 (aP (aP (upd ((mClN S c x i).2.2) (129 + (7 * i) + 4) 1) (sHome (upd ((mClN S c x i).2.2) (129 + (7 * i) + 4) 1) ((sG (upd ((mClN S c x i).2.2) (129 + (7 * i) + 4) 1) i 1).toNatClampNeg)) 0 ((sG (upd ((mClN S c x i).2.2) (129 + (7 * i) + 4) 1) i 2) / 4)) (sHome (upd ((mClN S c x i).2.2) (129 + (7 * i) + 4) 1) ((sG (upd ((mClN S c x i).2.2) (129 + (7 * i) + 4) 1) i 1).toNatClampNeg)) 2 ((sG (upd ((mClN S c x i).2.2) (129 + (7 * i) + 4) 1) i 2) / 4)) P H T X Z n ru ty (((mClN S c x i).2.1) + 1) sp ca co) rfl ?_
            refine gx_iinc (pc := 113) hB dX5_claims_113 5 (by decide) rfl (nI (i + 1)) (nI_1 _) [(3, .int (nI (i + 1))), (2, .int (((mClN S c x i).1) + ((sG (upd ((mClN S c x i).2.2) (129 + (7 * i) + 4) 1) i 2) / 4))), (5, .int (nI (sHome (upd ((mClN S c x i).2.2) (129 + (7 * i) + 4) 1) ((sG (upd ((mClN S c x i).2.2) (129 + (7 * i) + 4) 1) i 1).toNatClampNeg)))), (4, .int ((sG (upd ((mClN S c x i).2.2) (129 + (7 * i) + 4) 1) i 2) / 4)), (0, .ref m), (1, .int x)] rfl ?_
            refine gx_goto (pc := 116) hB 9 dX5_claims_116 (by decide) ?_
            have g2 : ((mClN S c x i).1) + ((sG (upd ((mClN S c x i).2.2) (129 + (7 * i) + 4) 1) i 2) / 4) = (mClN S c x (i + 1)).1 := by simp [mClN, mClOne, Int32.not_le.mp c_2, eq_false c_2, c_3, eq_false (Int32.not_le.mpr c_3), c_4]
            have w0 : aP (aP (upd ((mClN S c x i).2.2) (129 + (7 * i) + 4) 1) (sHome (upd ((mClN S c x i).2.2) (129 + (7 * i) + 4) 1) ((sG (upd ((mClN S c x i).2.2) (129 + (7 * i) + 4) 1) i 1).toNatClampNeg)) 0 ((sG (upd ((mClN S c x i).2.2) (129 + (7 * i) + 4) 1) i 2) / 4)) (sHome (upd ((mClN S c x i).2.2) (129 + (7 * i) + 4) 1) ((sG (upd ((mClN S c x i).2.2) (129 + (7 * i) + 4) 1) i 1).toNatClampNeg)) 2 ((sG (upd ((mClN S c x i).2.2) (129 + (7 * i) + 4) 1) i 2) / 4) = (mClN S c x (i + 1)).2.2 := by simp [mClN, mClOne, Int32.not_le.mp c_2, eq_false c_2, c_3, eq_false (Int32.not_le.mpr c_3), c_4]
            have w1 : ((mClN S c x i).2.1) + 1 = (mClN S c x (i + 1)).2.1 := by simp [mClN, mClOne, Int32.not_le.mp c_2, eq_false c_2, c_3, eq_false (Int32.not_le.mpr c_3), c_4]
            refine gx_sub hB (lv' := [(0, .ref m), (1, .int x), (2, .int (((mClN S c x i).1) + ((sG (upd ((mClN S c x i).2.2) (129 + (7 * i) + 4) 1) i 2) / 4))), (3, .int (nI (i + 1)))]) [4, 5, 1, 0] rfl ?_
            refine gx_all (ws' := wM K m q1 q2 q3 q4 q5 q6 q7 q8 ((mClN S c x (i + 1)).2.2) P H T X Z n ru ty ((mClN S c x (i + 1)).2.1) sp ca co) (lv' := [(0, .ref m), (1, .int x), (2, .int ((mClN S c x (i + 1)).1)), (3, .int (nI (i + 1)))]) (by rw [← w0, ← w1]) (by rw [← g2]) ?_
            exact ih9 (i + 1) (by omega)
        · refine gx_aload_n (pc := 23) hB dX5_claims_23 0 rfl ?_
          refine gx_iload_n (pc := 24) hB dX5_claims_24 3 rfl ?_
          refine gx_iconst (pc := 25) hB dX5_claims_25 0 (by decide) ?_
          refine gx_dVi (pc := 26) (r := sG ((mClN S c x i).2.2) i 0) (wr := []) hB (c_X5_ofGift l K m q1 q2 q3 q4 q5 q6 q7 q8 ((mClN S c x i).2.2) P H T X Z n ru ty ((mClN S c x i).2.1) sp ca co i 0 (by first | assumption | omega | decide) (by first | assumption | omega | decide)) mX5_ofGift dX5_claims_26 tb_867 pX5_ofGift ⟨Nat.le_of_ble_eq_true rfl, Nat.le_of_ble_eq_true rfl⟩ ⟨rfl, rfl⟩ ⟨Nat.zero_le _, Nat.zero_le _⟩ rfl (Nat.le_of_ble_eq_true rfl) [0, 1, 2, 3, 4, 5, 6, 7, 8] [] rfl rfl (by decide) (by decide) (by decide) rfl rfl [0, 1, 2, 3, 4, 5, 6, 7, 8] (by decide) (wM K m q1 q2 q3 q4 q5 q6 q7 q8 ((mClN S c x i).2.2) P H T X Z n ru ty ((mClN S c x i).2.1) sp ca co) rfl ?_
          refine gx_iload_n (pc := 29) hB dX5_claims_29 1 rfl ?_
          refine gx_icmp_ne (pc := 30) hB 113 dX5_claims_30 (by decide) (fun c_5 => ?_) (fun c_5 => ?_)
          · refine gx_iinc (pc := 113) hB dX5_claims_113 3 (by decide) rfl (nI (i + 1)) (nI_1 _) [(3, .int (nI (i + 1))), (0, .ref m), (1, .int x), (2, .int ((mClN S c x i).1))] rfl ?_
            refine gx_goto (pc := 116) hB 9 dX5_claims_116 (by decide) ?_
            have g2 : (mClN S c x i).1 = (mClN S c x (i + 1)).1 := by simp [mClN, mClOne, Int32.not_le.mp c_2, eq_false c_2, Int32.not_lt.mp c_3, eq_false c_3, eq_false c_5]
            have w0 : (mClN S c x i).2.2 = (mClN S c x (i + 1)).2.2 := by simp [mClN, mClOne, Int32.not_le.mp c_2, eq_false c_2, Int32.not_lt.mp c_3, eq_false c_3, eq_false c_5]
            have w1 : (mClN S c x i).2.1 = (mClN S c x (i + 1)).2.1 := by simp [mClN, mClOne, Int32.not_le.mp c_2, eq_false c_2, Int32.not_lt.mp c_3, eq_false c_3, eq_false c_5]
            refine gx_sub hB (lv' := [(0, .ref m), (1, .int x), (2, .int ((mClN S c x i).1)), (3, .int (nI (i + 1)))]) [1, 2, 3, 0] rfl ?_
            refine gx_all (ws' := wM K m q1 q2 q3 q4 q5 q6 q7 q8 ((mClN S c x (i + 1)).2.2) P H T X Z n ru ty ((mClN S c x (i + 1)).2.1) sp ca co) (lv' := [(0, .ref m), (1, .int x), (2, .int ((mClN S c x (i + 1)).1)), (3, .int (nI (i + 1)))]) (by rw [← w0, ← w1]) (by rw [← g2]) ?_
            exact ih9 (i + 1) (by omega)
          · refine gx_aload_n (pc := 33) hB dX5_claims_33 0 rfl ?_
            refine gx_iload_n (pc := 34) hB dX5_claims_34 3 rfl ?_
            refine gx_dVi (pc := 35) (r := bI (mCan ((mClN S c x i).2.2) c i)) (wr := []) hB (c_X5_canClaim l K m q1 q2 q3 q4 q5 q6 q7 q8 ((mClN S c x i).2.2) P H T X Z n ru ty ((mClN S c x i).2.1) sp ca co a b c e i hOi (by first | assumption | omega | decide)) mX5_canClaim dX5_claims_35 tb_871 pX5_canClaim ⟨Nat.le_of_ble_eq_true rfl, Nat.le_of_ble_eq_true rfl⟩ ⟨rfl, rfl⟩ ⟨Nat.zero_le _, Nat.zero_le _⟩ rfl (Nat.le_of_ble_eq_true rfl) [0, 1, 2, 3, 4, 5, 6, 7, 8] [] rfl rfl (by decide) (by decide) (by decide) rfl rfl [0, 1, 2, 3, 4, 5, 6, 7, 8] (by decide) (wM K m q1 q2 q3 q4 q5 q6 q7 q8 ((mClN S c x i).2.2) P H T X Z n ru ty ((mClN S c x i).2.1) sp ca co) rfl ?_
            refine gx_if_eq_b (pc := 38) hB 113 dX5_claims_38 (by decide) (fun c_6 => ?_) (fun c_6 => ?_)
            · refine gx_iinc (pc := 113) hB dX5_claims_113 3 (by decide) rfl (nI (i + 1)) (nI_1 _) [(3, .int (nI (i + 1))), (0, .ref m), (1, .int x), (2, .int ((mClN S c x i).1))] rfl ?_
              refine gx_goto (pc := 116) hB 9 dX5_claims_116 (by decide) ?_
              have g2 : (mClN S c x i).1 = (mClN S c x (i + 1)).1 := by simp [mClN, mClOne, Int32.not_le.mp c_2, eq_false c_2, Int32.not_lt.mp c_3, eq_false c_3, eq_true c_5, c_6]
              have w0 : (mClN S c x i).2.2 = (mClN S c x (i + 1)).2.2 := by simp [mClN, mClOne, Int32.not_le.mp c_2, eq_false c_2, Int32.not_lt.mp c_3, eq_false c_3, eq_true c_5, c_6]
              have w1 : (mClN S c x i).2.1 = (mClN S c x (i + 1)).2.1 := by simp [mClN, mClOne, Int32.not_le.mp c_2, eq_false c_2, Int32.not_lt.mp c_3, eq_false c_3, eq_true c_5, c_6]
              refine gx_sub hB (lv' := [(0, .ref m), (1, .int x), (2, .int ((mClN S c x i).1)), (3, .int (nI (i + 1)))]) [1, 2, 3, 0] rfl ?_
              refine gx_all (ws' := wM K m q1 q2 q3 q4 q5 q6 q7 q8 ((mClN S c x (i + 1)).2.2) P H T X Z n ru ty ((mClN S c x (i + 1)).2.1) sp ca co) (lv' := [(0, .ref m), (1, .int x), (2, .int ((mClN S c x (i + 1)).1)), (3, .int (nI (i + 1)))]) (by rw [← w0, ← w1]) (by rw [← g2]) ?_
              exact ih9 (i + 1) (by omega)
            · refine gx_aload_n (pc := 41) hB dX5_claims_41 0 rfl ?_
              refine gx_get (pc := 42) hB dX5_claims_42 inX5 rfl 0 rfl 0 (by decide) tb_726 rfl rfl ?_
              refine gx_sipush (pc := 45) hB dX5_claims_45 129 (by decide) ?_
              refine gx_bipush (pc := 48) hB dX5_claims_48 7 (by decide) ?_
              refine gx_iload_n (pc := 50) hB dX5_claims_50 3 rfl ?_
              refine gx_imul (pc := 51) hB dX5_claims_51 ?_
              refine gx_top (show 7 * nI i = nI (7 * i) from pk_mul 7 i) ?_
              refine gx_iadd (pc := 52) hB dX5_claims_52 ?_
              refine gx_top (show 129 + (nI (7 * i)) = nI (129 + (7 * i)) from nI_add 129 (7 * i)) ?_
              refine gx_iconst (pc := 53) hB dX5_claims_53 4 (by decide) ?_
              refine gx_iadd (pc := 54) hB dX5_claims_54 ?_
              refine gx_top (show (nI (129 + (7 * i))) + 4 = nI (129 + (7 * i) + 4) from nI_add (129 + (7 * i)) 4) ?_
              refine gx_iconst (pc := 55) hB dX5_claims_55 1 (by decide) ?_
              refine gx_iast (pc := 56) hB dX5_claims_56 1 1 rfl rfl (129 + (7 * i) + 4) rfl (by omega) (by decide) (wM K m q1 q2 q3 q4 q5 q6 q7 q8 (upd ((mClN S c x i).2.2) (129 + (7 * i) + 4) 1) P H T X Z n ru ty ((mClN S c x i).2.1) sp ca co) rfl ?_
              have hO1 : sOk (upd ((mClN S c x i).2.2) (129 + (7 * i) + 4) 1) a b c e := sOk_upd hOi (by omega) (fun q hq => by omega) (fun g hg => by omega) (fun g hg => by omega)
              obtain ⟨z_1, y_1⟩ := num_of (x := sG (upd ((mClN S c x i).2.2) (129 + (7 * i) + 4) 1) i 1) (N := a) (hO1.2.1 i (by omega)).2 (by omega)
              have hh := sOk_home hO1 y_1
              refine gx_aload_n (pc := 57) hB dX5_claims_57 0 rfl ?_
              refine gx_iload_n (pc := 58) hB dX5_claims_58 3 rfl ?_
              refine gx_iconst (pc := 59) hB dX5_claims_59 2 (by decide) ?_
              refine gx_dVi (pc := 60) (r := sG (upd ((mClN S c x i).2.2) (129 + (7 * i) + 4) 1) i 2) (wr := []) hB (c_X5_ofGift l K m q1 q2 q3 q4 q5 q6 q7 q8 (upd ((mClN S c x i).2.2) (129 + (7 * i) + 4) 1) P H T X Z n ru ty ((mClN S c x i).2.1) sp ca co i 2 (by first | assumption | omega | decide) (by first | assumption | omega | decide)) mX5_ofGift dX5_claims_60 tb_867 pX5_ofGift ⟨Nat.le_of_ble_eq_true rfl, Nat.le_of_ble_eq_true rfl⟩ ⟨rfl, rfl⟩ ⟨Nat.zero_le _, Nat.zero_le _⟩ rfl (Nat.le_of_ble_eq_true rfl) [0, 1, 2, 3, 4, 5, 6, 7, 8] [] rfl rfl (by decide) (by decide) (by decide) rfl rfl [0, 1, 2, 3, 4, 5, 6, 7, 8] (by decide) (wM K m q1 q2 q3 q4 q5 q6 q7 q8 (upd ((mClN S c x i).2.2) (129 + (7 * i) + 4) 1) P H T X Z n ru ty ((mClN S c x i).2.1) sp ca co) rfl ?_
              refine gx_dSi (pc := 63) (r := (sG (upd ((mClN S c x i).2.2) (129 + (7 * i) + 4) 1) i 2) / 4) (wr := [(m, .inr (5, [.ref q1, .ref q2, .ref q3, .ref q4, .int (nI n), .int (bI ru), .ref q5, .int (nI ty), .ref q6, .ref q7, .int ((mClN S c x i).2.1), .int (nI sp), .int ca, .int (nI co), .ref q8])), (q1, .inl (K.2.1.2.1, 345, .inl (upd ((mClN S c x i).2.2) (129 + (7 * i) + 4) 1))), (q2, .inl (K.2.1.2.1, 1380, .inl P)), (q3, .inl (K.2.1.2.1, 345, .inl H)), (q4, .inl (K.2.1.2.1, 345, .inl T)), (q5, .inl (K.2.1.2.1, 80, .inl X)), (q6, .inl (K.2.1.2.2.1, 9, .inr (.inl mW))), (q7, .inl (K.2.1.2.1, 9, .inl mN)), (q8, .inl (K.2.1.2.1, 4, .inl Z))]) hB (c_X5_tax l K (sG (upd ((mClN S c x i).2.2) (129 + (7 * i) + 4) 1) i 2) ) mX5_tax dX5_claims_63 tb_875 pX5_tax ⟨Nat.le_of_ble_eq_true rfl, Nat.le_of_ble_eq_true rfl⟩ ⟨rfl, rfl⟩ ⟨Nat.zero_le _, Nat.zero_le _⟩ rfl (Nat.le_of_ble_eq_true rfl) [] [0, 1, 2, 3, 4, 5, 6, 7, 8] rfl rfl (by decide) (by decide) (by decide) [0, 1, 2, 3, 4, 5, 6, 7, 8] (by decide) (wM K m q1 q2 q3 q4 q5 q6 q7 q8 (upd ((mClN S c x i).2.2) (129 + (7 * i) + 4) 1) P H T X Z n ru ty ((mClN S c x i).2.1) sp ca co) rfl ?_
              refine gx_istore (pc := 66) hB dX5_claims_66 (by decide) [(4, .int ((sG (upd ((mClN S c x i).2.2) (129 + (7 * i) + 4) 1) i 2) / 4)), (0, .ref m), (1, .int x), (2, .int ((mClN S c x i).1)), (3, .int (nI i))] rfl ?_
              refine gx_aload_n (pc := 68) hB dX5_claims_68 1 rfl ?_
              refine gx_aload_n (pc := 69) hB dX5_claims_69 1 rfl ?_
              refine gx_iload_n (pc := 70) hB dX5_claims_70 4 rfl ?_
              refine gx_iconst (pc := 71) hB dX5_claims_71 1 (by decide) ?_
              refine gx_dVi (pc := 72) (r := sG (upd ((mClN S c x i).2.2) (129 + (7 * i) + 4) 1) i 1) (wr := []) hB (c_X5_ofGift l K m q1 q2 q3 q4 q5 q6 q7 q8 (upd ((mClN S c x i).2.2) (129 + (7 * i) + 4) 1) P H T X Z n ru ty ((mClN S c x i).2.1) sp ca co i 1 (by first | assumption | omega | decide) (by first | assumption | omega | decide)) mX5_ofGift dX5_claims_72 tb_867 pX5_ofGift ⟨Nat.le_of_ble_eq_true rfl, Nat.le_of_ble_eq_true rfl⟩ ⟨rfl, rfl⟩ ⟨Nat.zero_le _, Nat.zero_le _⟩ rfl (Nat.le_of_ble_eq_true rfl) [0, 1, 2, 3, 4, 5, 6, 7, 8] [] rfl rfl (by decide) (by decide) (by decide) rfl rfl [0, 1, 2, 3, 4, 5, 6, 7, 8] (by decide) (wM K m q1 q2 q3 q4 q5 q6 q7 q8 (upd ((mClN S c x i).2.2) (129 + (7 * i) + 4) 1) P H T X Z n ru ty ((mClN S c x i).2.1) sp ca co) rfl ?_
              refine gx_top (show sG (upd ((mClN S c x i).2.2) (129 + (7 * i) + 4) 1) i 1 = nI ((sG (upd ((mClN S c x i).2.2) (129 + (7 * i) + 4) 1) i 1).toNatClampNeg) from z_1) ?_
              refine gx_dVi (pc := 75) (r := nI (sHome (upd ((mClN S c x i).2.2) (129 + (7 * i) + 4) 1) ((sG (upd ((mClN S c x i).2.2) (129 + (7 * i) + 4) 1) i 1).toNatClampNeg))) (wr := []) hB (c_X5_home l K m q1 q2 q3 q4 q5 q6 q7 q8 (upd ((mClN S c x i).2.2) (129 + (7 * i) + 4) 1) P H T X Z n ru ty ((mClN S c x i).2.1) sp ca co a b c e ((sG (upd ((mClN S c x i).2.2) (129 + (7 * i) + 4) 1) i 1).toNatClampNeg) hO1 y_1) mX5_home dX5_claims_75 tb_878 pX5_home ⟨Nat.le_of_ble_eq_true rfl, Nat.le_of_ble_eq_true rfl⟩ ⟨rfl, rfl⟩ ⟨Nat.zero_le _, Nat.zero_le _⟩ rfl (Nat.le_of_ble_eq_true rfl) [0, 1, 2, 3, 4, 5, 6, 7, 8] [] rfl rfl (by decide) (by decide) (by decide) rfl rfl [0, 1, 2, 3, 4, 5, 6, 7, 8] (by decide) (wM K m q1 q2 q3 q4 q5 q6 q7 q8 (upd ((mClN S c x i).2.2) (129 + (7 * i) + 4) 1) P H T X Z n ru ty ((mClN S c x i).2.1) sp ca co) rfl ?_
              refine gx_istore (pc := 78) hB dX5_claims_78 (by decide) [(5, .int (nI (sHome (upd ((mClN S c x i).2.2) (129 + (7 * i) + 4) 1) ((sG (upd ((mClN S c x i).2.2) (129 + (7 * i) + 4) 1) i 1).toNatClampNeg)))), (4, .int ((sG (upd ((mClN S c x i).2.2) (129 + (7 * i) + 4) 1) i 2) / 4)), (0, .ref m), (1, .int x), (2, .int ((mClN S c x i).1)), (3, .int (nI i))] rfl ?_
              refine gx_aload_n (pc := 80) hB dX5_claims_80 2 rfl ?_
              refine gx_iload (pc := 81) hB dX5_claims_81 0 rfl ?_
              refine gx_iconst (pc := 83) hB dX5_claims_83 0 (by decide) ?_
              refine gx_iload (pc := 84) hB dX5_claims_84 1 rfl ?_
              refine gx_dVv (pc := 86) (wr := []) hB (c_X5_adds l K m q1 q2 q3 q4 q5 q6 q7 q8 (upd ((mClN S c x i).2.2) (129 + (7 * i) + 4) 1) P H T X Z n ru ty ((mClN S c x i).2.1) sp ca co (sHome (upd ((mClN S c x i).2.2) (129 + (7 * i) + 4) 1) ((sG (upd ((mClN S c x i).2.2) (129 + (7 * i) + 4) 1) i 1).toNatClampNeg)) 0 ((sG (upd ((mClN S c x i).2.2) (129 + (7 * i) + 4) 1) i 2) / 4) (by first | assumption | omega | decide) (by first | assumption | omega | decide)) mX5_adds dX5_claims_86 tb_824 pX5_adds ⟨Nat.le_of_ble_eq_true rfl, Nat.le_of_ble_eq_true rfl⟩ ⟨rfl, rfl⟩ ⟨Nat.zero_le _, Nat.zero_le _⟩ rfl (Nat.le_of_ble_eq_true rfl) [0, 1, 2, 3, 4, 5, 6, 7, 8] [] rfl rfl (by decide) (by decide) (by decide) rfl rfl [0, 1, 2, 3, 4, 5, 6, 7, 8] (by decide) (wM K m q1 q2 q3 q4 q5 q6 q7 q8 (aP (upd ((mClN S c x i).2.2) (129 + (7 * i) + 4) 1) (sHome (upd ((mClN S c x i).2.2) (129 + (7 * i) + 4) 1) ((sG (upd ((mClN S c x i).2.2) (129 + (7 * i) + 4) 1) i 1).toNatClampNeg)) 0 ((sG (upd ((mClN S c x i).2.2) (129 + (7 * i) + 4) 1) i 2) / 4)) P H T X Z n ru ty ((mClN S c x i).2.1) sp ca co) rfl ?_
              refine gx_aload_n (pc := 89) hB dX5_claims_89 2 rfl ?_
              refine gx_iload (pc := 90) hB dX5_claims_90 0 rfl ?_
              refine gx_iconst (pc := 92) hB dX5_claims_92 2 (by decide) ?_
              refine gx_iload (pc := 93) hB dX5_claims_93 1 rfl ?_
              refine gx_dVv (pc := 95) (wr := []) hB (c_X5_adds l K m q1 q2 q3 q4 q5 q6 q7 q8 (aP (upd ((mClN S c x i).2.2) (129 + (7 * i) + 4) 1) (sHome (upd ((mClN S c x i).2.2) (129 + (7 * i) + 4) 1) ((sG (upd ((mClN S c x i).2.2) (129 + (7 * i) + 4) 1) i 1).toNatClampNeg)) 0 ((sG (upd ((mClN S c x i).2.2) (129 + (7 * i) + 4) 1) i 2) / 4)) P H T X Z n ru ty ((mClN S c x i).2.1) sp ca co (sHome (upd ((mClN S c x i).2.2) (129 + (7 * i) + 4) 1) ((sG (upd ((mClN S c x i).2.2) (129 + (7 * i) + 4) 1) i 1).toNatClampNeg)) 2 ((sG (upd ((mClN S c x i).2.2) (129 + (7 * i) + 4) 1) i 2) / 4) (by first | assumption | omega | decide) (by first | assumption | omega | decide)) mX5_adds dX5_claims_95 tb_824 pX5_adds ⟨Nat.le_of_ble_eq_true rfl, Nat.le_of_ble_eq_true rfl⟩ ⟨rfl, rfl⟩ ⟨Nat.zero_le _, Nat.zero_le _⟩ rfl (Nat.le_of_ble_eq_true rfl) [0, 1, 2, 3, 4, 5, 6, 7, 8] [] rfl rfl (by decide) (by decide) (by decide) rfl rfl [0, 1, 2, 3, 4, 5, 6, 7, 8] (by decide) (wM K m q1 q2 q3 q4 q5 q6 q7 q8 (aP (aP (upd ((mClN S c x i).2.2) (129 + (7 * i) + 4) 1) (sHome (upd ((mClN S c x i).2.2) (129 + (7 * i) + 4) 1) ((sG (upd ((mClN S c x i).2.2) (129 + (7 * i) + 4) 1) i 1).toNatClampNeg)) 0 ((sG (upd ((mClN S c x i).2.2) (129 + (7 * i) + 4) 1) i 2) / 4)) (sHome (upd ((mClN S c x i).2.2) (129 + (7 * i) + 4) 1) ((sG (upd ((mClN S c x i).2.2) (129 + (7 * i) + 4) 1) i 1).toNatClampNeg)) 2 ((sG (upd ((mClN S c x i).2.2) (129 + (7 * i) + 4) 1) i 2) / 4)) P H T X Z n ru ty ((mClN S c x i).2.1) sp ca co) rfl ?_
              refine gx_iload_n (pc := 98) hB dX5_claims_98 4 rfl ?_
              refine gx_iload (pc := 99) hB dX5_claims_99 1 rfl ?_
              refine gx_iadd (pc := 101) hB dX5_claims_101 ?_
              refine gx_istore_n (pc := 102) hB dX5_claims_102 (by decide) [(2, .int (((mClN S c x i).1) + ((sG (upd ((mClN S c x i).2.2) (129 + (7 * i) + 4) 1) i 2) / 4))), (5, .int (nI (sHome (upd ((mClN S c x i).2.2) (129 + (7 * i) + 4) 1) ((sG (upd ((mClN S c x i).2.2) (129 + (7 * i) + 4) 1) i 1).toNatClampNeg)))), (4, .int ((sG (upd ((mClN S c x i).2.2) (129 + (7 * i) + 4) 1) i 2) / 4)), (0, .ref m), (1, .int x), (3, .int (nI i))] rfl ?_
              refine gx_aload_n (pc := 103) hB dX5_claims_103 3 rfl ?_
              refine gx_dup (pc := 104) hB dX5_claims_104 rfl ?_
              refine gx_get (pc := 105) hB dX5_claims_105 inX5 rfl 0 rfl 10 (by decide) tb_736 rfl rfl ?_
              refine gx_iconst (pc := 108) hB dX5_claims_108 1 (by decide) ?_
              refine gx_iadd (pc := 109) hB dX5_claims_109 ?_
              refine gx_put (pc := 110) hB dX5_claims_110 inX5 rfl tyX5 tyX5_ok nmX5 0 rfl 10 (by decide) tb_736 rfl rfl rfl rfl (Nat.le_of_ble_eq_true rfl) (wM K m q1 q2 q3 q4 q5 q6 q7 q8 (aP (aP (upd ((mClN S c x i).2.2) (129 + (7 * i) + 4) 1) (sHome (upd ((mClN S c x i).2.2) (129 + (7 * i) + 4) 1) ((sG (upd ((mClN S c x i).2.2) (129 + (7 * i) + 4) 1) i 1).toNatClampNeg)) 0 ((sG (upd ((mClN S c x i).2.2) (129 + (7 * i) + 4) 1) i 2) / 4)) (sHome (upd ((mClN S c x i).2.2) (129 + (7 * i) + 4) 1) ((sG (upd ((mClN S c x i).2.2) (129 + (7 * i) + 4) 1) i 1).toNatClampNeg)) 2 ((sG (upd ((mClN S c x i).2.2) (129 + (7 * i) + 4) 1) i 2) / 4)) P H T X Z n ru ty (((mClN S c x i).2.1) + 1) sp ca co) rfl ?_
              refine gx_iinc (pc := 113) hB dX5_claims_113 5 (by decide) rfl (nI (i + 1)) (nI_1 _) [(3, .int (nI (i + 1))), (2, .int (((mClN S c x i).1) + ((sG (upd ((mClN S c x i).2.2) (129 + (7 * i) + 4) 1) i 2) / 4))), (5, .int (nI (sHome (upd ((mClN S c x i).2.2) (129 + (7 * i) + 4) 1) ((sG (upd ((mClN S c x i).2.2) (129 + (7 * i) + 4) 1) i 1).toNatClampNeg)))), (4, .int ((sG (upd ((mClN S c x i).2.2) (129 + (7 * i) + 4) 1) i 2) / 4)), (0, .ref m), (1, .int x)] rfl ?_
              refine gx_goto (pc := 116) hB 9 dX5_claims_116 (by decide) ?_
              have g2 : ((mClN S c x i).1) + ((sG (upd ((mClN S c x i).2.2) (129 + (7 * i) + 4) 1) i 2) / 4) = (mClN S c x (i + 1)).1 := by simp [mClN, mClOne, Int32.not_le.mp c_2, eq_false c_2, Int32.not_lt.mp c_3, eq_false c_3, eq_true c_5, c_6]
              have w0 : aP (aP (upd ((mClN S c x i).2.2) (129 + (7 * i) + 4) 1) (sHome (upd ((mClN S c x i).2.2) (129 + (7 * i) + 4) 1) ((sG (upd ((mClN S c x i).2.2) (129 + (7 * i) + 4) 1) i 1).toNatClampNeg)) 0 ((sG (upd ((mClN S c x i).2.2) (129 + (7 * i) + 4) 1) i 2) / 4)) (sHome (upd ((mClN S c x i).2.2) (129 + (7 * i) + 4) 1) ((sG (upd ((mClN S c x i).2.2) (129 + (7 * i) + 4) 1) i 1).toNatClampNeg)) 2 ((sG (upd ((mClN S c x i).2.2) (129 + (7 * i) + 4) 1) i 2) / 4) = (mClN S c x (i + 1)).2.2 := by simp [mClN, mClOne, Int32.not_le.mp c_2, eq_false c_2, Int32.not_lt.mp c_3, eq_false c_3, eq_true c_5, c_6]
              have w1 : ((mClN S c x i).2.1) + 1 = (mClN S c x (i + 1)).2.1 := by simp [mClN, mClOne, Int32.not_le.mp c_2, eq_false c_2, Int32.not_lt.mp c_3, eq_false c_3, eq_true c_5, c_6]
              refine gx_sub hB (lv' := [(0, .ref m), (1, .int x), (2, .int (((mClN S c x i).1) + ((sG (upd ((mClN S c x i).2.2) (129 + (7 * i) + 4) 1) i 2) / 4))), (3, .int (nI (i + 1)))]) [4, 5, 1, 0] rfl ?_
              refine gx_all (ws' := wM K m q1 q2 q3 q4 q5 q6 q7 q8 ((mClN S c x (i + 1)).2.2) P H T X Z n ru ty ((mClN S c x (i + 1)).2.1) sp ca co) (lv' := [(0, .ref m), (1, .int x), (2, .int ((mClN S c x (i + 1)).1)), (3, .int (nI (i + 1)))]) (by rw [← w0, ← w1]) (by rw [← g2]) ?_
              exact ih9 (i + 1) (by omega)
  refine gx_sub hB (lv' := [(0, .ref m), (1, .int x), (2, .int 0), (3, .int 0)]) [2, 3, 1, 0] rfl ?_
  refine gx_all (ws' := wM K m q1 q2 q3 q4 q5 q6 q7 q8 ((mClN S c x 0).2.2) P H T X Z n ru ty ((mClN S c x 0).2.1) sp ca co) (lv' := [(0, .ref m), (1, .int x), (2, .int ((mClN S c x 0).1)), (3, .int (nI 0))]) (rfl) (rfl) ?_
  exact loop_9 (c) 0 (by omega)
theorem pX5_wouldClaim : (parseMethodDescriptor yX5_wouldClaim.desc).map (fun d => d.parameters.length) = some 1 := by decide +kernel
theorem mX5_wouldClaim : gx_M yX5_wouldClaim cX5_wouldClaim 3 (some .int) := ⟨tb_857, tb_858, tb_73, tb_859, by decide, by decide⟩
set_option maxHeartbeats 4000000 in
set_option maxRecDepth 100000 in
theorem c_X5_wouldClaim (l : Launch) (K : gx_K) (m q1 q2 q3 q4 q5 q6 q7 q8 : Nat) (S P H T X Z : Nat → Int32) (n : Nat) (ru : Bool) (ty : Nat) (cl : Int32) (sp : Nat) (ca : Int32) (co : Nat) (a b c e : Nat) (x : Int32) (h0 : sOk S a b c e) : gx_Ctr l K yX5_wouldClaim cX5_wouldClaim 3 (some .int) (rmm 5 90) [.ref m, .int x] (wM K m q1 q2 q3 q4 q5 q6 q7 q8 S P H T X Z n ru ty cl sp ca co) (gx_D (some (.int (if (sIsD S x || decide (x = (-1))) then (mClN S c x c).1 else (-1)))) (wM K m q1 q2 q3 q4 q5 q6 q7 q8 S P H (if (sIsD S x || decide (x = (-1))) then S else T) X Z n ru ty (if (sIsD S x || decide (x = (-1))) then (mClN S c x c).2.1 else cl) sp ca co)) := by
  refine gx_of (by decide) (Nat.le_of_ble_eq_true rfl) (fun G hC => ?_)
  have hB := hC.b
  refine gx_lv (lv' := [(0, .ref m), (1, .int x)]) rfl ?_
  have hb0 := h0.1
  refine gx_aload_n (pc := 0) hB dX5_wouldClaim_0 0 rfl ?_
  refine gx_iload_n (pc := 1) hB dX5_wouldClaim_1 1 rfl ?_
  refine gx_dVi (pc := 2) (r := bI (sIsD S x)) (wr := []) hB (c_X5_isDonor l K m q1 q2 q3 q4 q5 q6 q7 q8 S P H T X Z n ru ty cl sp ca co x ) mX5_isDonor dX5_wouldClaim_2 tb_793 pX5_isDonor ⟨Nat.le_of_ble_eq_true rfl, Nat.le_of_ble_eq_true rfl⟩ ⟨rfl, rfl⟩ ⟨Nat.zero_le _, Nat.zero_le _⟩ rfl (Nat.le_of_ble_eq_true rfl) [0, 1, 2, 3, 4, 5, 6, 7, 8] [] rfl rfl (by decide) (by decide) (by decide) rfl rfl [0, 1, 2, 3, 4, 5, 6, 7, 8] (by decide) (wM K m q1 q2 q3 q4 q5 q6 q7 q8 S P H T X Z n ru ty cl sp ca co) rfl ?_
  refine gx_if_ne_b (pc := 5) hB 15 dX5_wouldClaim_5 (by decide) (fun c_1 => ?_) (fun c_1 => ?_)
  · refine gx_aload_n (pc := 15) hB dX5_wouldClaim_15 0 rfl ?_
    refine gx_get (pc := 16) hB dX5_wouldClaim_16 inX5 rfl 0 rfl 0 (by decide) tb_726 rfl rfl ?_
    refine gx_aload_n (pc := 19) hB dX5_wouldClaim_19 0 rfl ?_
    refine gx_get (pc := 20) hB dX5_wouldClaim_20 inX5 rfl 0 rfl 3 (by decide) tb_729 rfl rfl ?_
    refine gx_dSv (pc := 23) (wr := [(m, .inr (5, [.ref q1, .ref q2, .ref q3, .ref q4, .int (nI n), .int (bI ru), .ref q5, .int (nI ty), .ref q6, .ref q7, .int cl, .int (nI sp), .int ca, .int (nI co), .ref q8])), (q2, .inl (K.2.1.2.1, 1380, .inl P)), (q3, .inl (K.2.1.2.1, 345, .inl H)), (q5, .inl (K.2.1.2.1, 80, .inl X)), (q6, .inl (K.2.1.2.2.1, 9, .inr (.inl mW))), (q7, .inl (K.2.1.2.1, 9, .inl mN)), (q8, .inl (K.2.1.2.1, 4, .inl Z))]) hB (c_X5_copies l K q1 q4 S T ) mX5_copies dX5_wouldClaim_23 tb_860 pX5_copies ⟨Nat.le_of_ble_eq_true rfl, Nat.le_of_ble_eq_true rfl⟩ ⟨rfl, rfl⟩ ⟨Nat.zero_le _, Nat.zero_le _⟩ rfl (Nat.le_of_ble_eq_true rfl) [1, 4] [0, 2, 3, 5, 6, 7, 8] rfl rfl (by decide) (by decide) (by decide) [0, 7, 1, 2, 8, 3, 4, 5, 6] (by decide) (wM K m q1 q2 q3 q4 q5 q6 q7 q8 S P H S X Z n ru ty cl sp ca co) rfl ?_
    refine gx_aload_n (pc := 26) hB dX5_wouldClaim_26 0 rfl ?_
    refine gx_iload_n (pc := 27) hB dX5_wouldClaim_27 1 rfl ?_
    refine gx_dVi (pc := 28) (r := (mClN S c x c).1) (wr := []) hB (c_X5_claims l K m q1 q2 q3 q4 q5 q6 q7 q8 S P H S X Z n ru ty cl sp ca co a b c e x (by first | assumption | omega | decide)) mX5_claims dX5_wouldClaim_28 tb_863 pX5_claims ⟨Nat.le_of_ble_eq_true rfl, Nat.le_of_ble_eq_true rfl⟩ ⟨rfl, rfl⟩ ⟨Nat.zero_le _, Nat.zero_le _⟩ rfl (Nat.le_of_ble_eq_true rfl) [0, 1, 2, 3, 4, 5, 6, 7, 8] [] rfl rfl (by decide) (by decide) (by decide) rfl rfl [0, 1, 2, 3, 4, 5, 6, 7, 8] (by decide) (wM K m q1 q2 q3 q4 q5 q6 q7 q8 ((mClN S c x c).2.2) P H S X Z n ru ty ((mClN S c x c).2.1) sp ca co) rfl ?_
    refine gx_istore_n (pc := 31) hB dX5_wouldClaim_31 (by decide) [(2, .int ((mClN S c x c).1)), (0, .ref m), (1, .int x)] rfl ?_
    refine gx_aload_n (pc := 32) hB dX5_wouldClaim_32 1 rfl ?_
    refine gx_get (pc := 33) hB dX5_wouldClaim_33 inX5 rfl 0 rfl 3 (by decide) tb_729 rfl rfl ?_
    refine gx_aload_n (pc := 36) hB dX5_wouldClaim_36 1 rfl ?_
    refine gx_get (pc := 37) hB dX5_wouldClaim_37 inX5 rfl 0 rfl 0 (by decide) tb_726 rfl rfl ?_
    refine gx_dSv (pc := 40) (wr := [(m, .inr (5, [.ref q1, .ref q2, .ref q3, .ref q4, .int (nI n), .int (bI ru), .ref q5, .int (nI ty), .ref q6, .ref q7, .int ((mClN S c x c).2.1), .int (nI sp), .int ca, .int (nI co), .ref q8])), (q2, .inl (K.2.1.2.1, 1380, .inl P)), (q3, .inl (K.2.1.2.1, 345, .inl H)), (q5, .inl (K.2.1.2.1, 80, .inl X)), (q6, .inl (K.2.1.2.2.1, 9, .inr (.inl mW))), (q7, .inl (K.2.1.2.1, 9, .inl mN)), (q8, .inl (K.2.1.2.1, 4, .inl Z))]) hB (c_X5_copies l K q4 q1 S ((mClN S c x c).2.2) ) mX5_copies dX5_wouldClaim_40 tb_860 pX5_copies ⟨Nat.le_of_ble_eq_true rfl, Nat.le_of_ble_eq_true rfl⟩ ⟨rfl, rfl⟩ ⟨Nat.zero_le _, Nat.zero_le _⟩ rfl (Nat.le_of_ble_eq_true rfl) [4, 1] [0, 2, 3, 5, 6, 7, 8] rfl rfl (by decide) (by decide) (by decide) [0, 8, 1, 2, 7, 3, 4, 5, 6] (by decide) (wM K m q1 q2 q3 q4 q5 q6 q7 q8 S P H S X Z n ru ty ((mClN S c x c).2.1) sp ca co) rfl ?_
    refine gx_iload_n (pc := 43) hB dX5_wouldClaim_43 0 rfl ?_
    have e1 : (if (sIsD S x || decide (x = (-1))) then (mClN S c x c).1 else (-1)) = ((mClN S c x c).1) := by simp [c_1]
    have f0 : (if (sIsD S x || decide (x = (-1))) then S else T) = S := by simp [c_1]
    have f1 : (if (sIsD S x || decide (x = (-1))) then (mClN S c x c).2.1 else cl) = ((mClN S c x c).2.1) := by simp [c_1]
    exact gx_iret (pc := 44) hC dX5_wouldClaim_44 (Nat.zero_le _) (Nat.zero_le _) (⟨by rw [e1], by rw [f0, f1]⟩)
  · refine gx_iload_n (pc := 8) hB dX5_wouldClaim_8 1 rfl ?_
    refine gx_iconst (pc := 9) hB dX5_wouldClaim_9 (-1) (by decide) ?_
    refine gx_icmp_eq (pc := 10) hB 15 dX5_wouldClaim_10 (by decide) (fun c_2 => ?_) (fun c_2 => ?_)
    · refine gx_aload_n (pc := 15) hB dX5_wouldClaim_15 0 rfl ?_
      refine gx_get (pc := 16) hB dX5_wouldClaim_16 inX5 rfl 0 rfl 0 (by decide) tb_726 rfl rfl ?_
      refine gx_aload_n (pc := 19) hB dX5_wouldClaim_19 0 rfl ?_
      refine gx_get (pc := 20) hB dX5_wouldClaim_20 inX5 rfl 0 rfl 3 (by decide) tb_729 rfl rfl ?_
      refine gx_dSv (pc := 23) (wr := [(m, .inr (5, [.ref q1, .ref q2, .ref q3, .ref q4, .int (nI n), .int (bI ru), .ref q5, .int (nI ty), .ref q6, .ref q7, .int cl, .int (nI sp), .int ca, .int (nI co), .ref q8])), (q2, .inl (K.2.1.2.1, 1380, .inl P)), (q3, .inl (K.2.1.2.1, 345, .inl H)), (q5, .inl (K.2.1.2.1, 80, .inl X)), (q6, .inl (K.2.1.2.2.1, 9, .inr (.inl mW))), (q7, .inl (K.2.1.2.1, 9, .inl mN)), (q8, .inl (K.2.1.2.1, 4, .inl Z))]) hB (c_X5_copies l K q1 q4 S T ) mX5_copies dX5_wouldClaim_23 tb_860 pX5_copies ⟨Nat.le_of_ble_eq_true rfl, Nat.le_of_ble_eq_true rfl⟩ ⟨rfl, rfl⟩ ⟨Nat.zero_le _, Nat.zero_le _⟩ rfl (Nat.le_of_ble_eq_true rfl) [1, 4] [0, 2, 3, 5, 6, 7, 8] rfl rfl (by decide) (by decide) (by decide) [0, 7, 1, 2, 8, 3, 4, 5, 6] (by decide) (wM K m q1 q2 q3 q4 q5 q6 q7 q8 S P H S X Z n ru ty cl sp ca co) rfl ?_
      refine gx_aload_n (pc := 26) hB dX5_wouldClaim_26 0 rfl ?_
      refine gx_iload_n (pc := 27) hB dX5_wouldClaim_27 1 rfl ?_
      refine gx_dVi (pc := 28) (r := (mClN S c x c).1) (wr := []) hB (c_X5_claims l K m q1 q2 q3 q4 q5 q6 q7 q8 S P H S X Z n ru ty cl sp ca co a b c e x (by first | assumption | omega | decide)) mX5_claims dX5_wouldClaim_28 tb_863 pX5_claims ⟨Nat.le_of_ble_eq_true rfl, Nat.le_of_ble_eq_true rfl⟩ ⟨rfl, rfl⟩ ⟨Nat.zero_le _, Nat.zero_le _⟩ rfl (Nat.le_of_ble_eq_true rfl) [0, 1, 2, 3, 4, 5, 6, 7, 8] [] rfl rfl (by decide) (by decide) (by decide) rfl rfl [0, 1, 2, 3, 4, 5, 6, 7, 8] (by decide) (wM K m q1 q2 q3 q4 q5 q6 q7 q8 ((mClN S c x c).2.2) P H S X Z n ru ty ((mClN S c x c).2.1) sp ca co) rfl ?_
      refine gx_istore_n (pc := 31) hB dX5_wouldClaim_31 (by decide) [(2, .int ((mClN S c x c).1)), (0, .ref m), (1, .int x)] rfl ?_
      refine gx_aload_n (pc := 32) hB dX5_wouldClaim_32 1 rfl ?_
      refine gx_get (pc := 33) hB dX5_wouldClaim_33 inX5 rfl 0 rfl 3 (by decide) tb_729 rfl rfl ?_
      refine gx_aload_n (pc := 36) hB dX5_wouldClaim_36 1 rfl ?_
      refine gx_get (pc := 37) hB dX5_wouldClaim_37 inX5 rfl 0 rfl 0 (by decide) tb_726 rfl rfl ?_
      refine gx_dSv (pc := 40) (wr := [(m, .inr (5, [.ref q1, .ref q2, .ref q3, .ref q4, .int (nI n), .int (bI ru), .ref q5, .int (nI ty), .ref q6, .ref q7, .int ((mClN S c x c).2.1), .int (nI sp), .int ca, .int (nI co), .ref q8])), (q2, .inl (K.2.1.2.1, 1380, .inl P)), (q3, .inl (K.2.1.2.1, 345, .inl H)), (q5, .inl (K.2.1.2.1, 80, .inl X)), (q6, .inl (K.2.1.2.2.1, 9, .inr (.inl mW))), (q7, .inl (K.2.1.2.1, 9, .inl mN)), (q8, .inl (K.2.1.2.1, 4, .inl Z))]) hB (c_X5_copies l K q4 q1 S ((mClN S c x c).2.2) ) mX5_copies dX5_wouldClaim_40 tb_860 pX5_copies ⟨Nat.le_of_ble_eq_true rfl, Nat.le_of_ble_eq_true rfl⟩ ⟨rfl, rfl⟩ ⟨Nat.zero_le _, Nat.zero_le _⟩ rfl (Nat.le_of_ble_eq_true rfl) [4, 1] [0, 2, 3, 5, 6, 7, 8] rfl rfl (by decide) (by decide) (by decide) [0, 8, 1, 2, 7, 3, 4, 5, 6] (by decide) (wM K m q1 q2 q3 q4 q5 q6 q7 q8 S P H S X Z n ru ty ((mClN S c x c).2.1) sp ca co) rfl ?_
      refine gx_iload_n (pc := 43) hB dX5_wouldClaim_43 0 rfl ?_
      have e1 : (if (sIsD S x || decide (x = (-1))) then (mClN S c x c).1 else (-1)) = ((mClN S c x c).1) := by simp [c_1, eq_true c_2]
      have f0 : (if (sIsD S x || decide (x = (-1))) then S else T) = S := by simp [c_1, eq_true c_2]
      have f1 : (if (sIsD S x || decide (x = (-1))) then (mClN S c x c).2.1 else cl) = ((mClN S c x c).2.1) := by simp [c_1, eq_true c_2]
      exact gx_iret (pc := 44) hC dX5_wouldClaim_44 (Nat.zero_le _) (Nat.zero_le _) (⟨by rw [e1], by rw [f0, f1]⟩)
    · refine gx_iconst (pc := 13) hB dX5_wouldClaim_13 (-1) (by decide) ?_
      have e1 : (if (sIsD S x || decide (x = (-1))) then (mClN S c x c).1 else (-1)) = (-1) := by simp [c_1, eq_false c_2]
      have f0 : (if (sIsD S x || decide (x = (-1))) then S else T) = T := by simp [c_1, eq_false c_2]
      have f1 : (if (sIsD S x || decide (x = (-1))) then (mClN S c x c).2.1 else cl) = cl := by simp [c_1, eq_false c_2]
      exact gx_iret (pc := 14) hC dX5_wouldClaim_14 (Nat.zero_le _) (Nat.zero_le _) (⟨by rw [e1], by rw [f0, f1]⟩)
theorem pX5_claim : (parseMethodDescriptor yX5_claim.desc).map (fun d => d.parameters.length) = some 0 := by decide +kernel
theorem mX5_claim : gx_M yX5_claim cX5_claim 1 (some .int) := ⟨tb_883, tb_884, tb_73, tb_885, by decide, by decide⟩
set_option maxHeartbeats 4000000 in
set_option maxRecDepth 100000 in
theorem c_X5_claim (l : Launch) (K : gx_K) (m q1 q2 q3 q4 q5 q6 q7 q8 : Nat) (S P H T X Z : Nat → Int32) (n : Nat) (ru : Bool) (ty : Nat) (cl : Int32) (sp : Nat) (ca : Int32) (co : Nat) (a b c e : Nat)  (h0 : sOk S a b c e) (h1 : n ≤ 4) : gx_Ctr l K yX5_claim cX5_claim 1 (some .int) (rmm 5 90) [.ref m] (wM K m q1 q2 q3 q4 q5 q6 q7 q8 S P H T X Z n ru ty cl sp ca co) (gx_D (some (.int ((mClaim S c).1))) (wM K m q1 q2 q3 q4 q5 q6 q7 q8 ((mClaim S c).2.2) (kpP (mClaim S c).2.1 ru n P S) H S X Z (kpn (mClaim S c).2.1 ru n) ru ty ((mClN S c (-1) c).2.1) sp ca co)) := by
  refine gx_of (by decide) (Nat.le_of_ble_eq_true rfl) (fun G hC => ?_)
  have hB := hC.b
  refine gx_lv (lv' := [(0, .ref m)]) rfl ?_
  have hb0 := h0.1
  refine gx_aload_n (pc := 0) hB dX5_claim_0 0 rfl ?_
  refine gx_get (pc := 1) hB dX5_claim_1 inX5 rfl 0 rfl 0 (by decide) tb_726 rfl rfl ?_
  refine gx_aload_n (pc := 4) hB dX5_claim_4 0 rfl ?_
  refine gx_get (pc := 5) hB dX5_claim_5 inX5 rfl 0 rfl 3 (by decide) tb_729 rfl rfl ?_
  refine gx_dSv (pc := 8) (wr := [(m, .inr (5, [.ref q1, .ref q2, .ref q3, .ref q4, .int (nI n), .int (bI ru), .ref q5, .int (nI ty), .ref q6, .ref q7, .int cl, .int (nI sp), .int ca, .int (nI co), .ref q8])), (q2, .inl (K.2.1.2.1, 1380, .inl P)), (q3, .inl (K.2.1.2.1, 345, .inl H)), (q5, .inl (K.2.1.2.1, 80, .inl X)), (q6, .inl (K.2.1.2.2.1, 9, .inr (.inl mW))), (q7, .inl (K.2.1.2.1, 9, .inl mN)), (q8, .inl (K.2.1.2.1, 4, .inl Z))]) hB (c_X5_copies l K q1 q4 S T ) mX5_copies dX5_claim_8 tb_860 pX5_copies ⟨Nat.le_of_ble_eq_true rfl, Nat.le_of_ble_eq_true rfl⟩ ⟨rfl, rfl⟩ ⟨Nat.zero_le _, Nat.zero_le _⟩ rfl (Nat.le_of_ble_eq_true rfl) [1, 4] [0, 2, 3, 5, 6, 7, 8] rfl rfl (by decide) (by decide) (by decide) [0, 7, 1, 2, 8, 3, 4, 5, 6] (by decide) (wM K m q1 q2 q3 q4 q5 q6 q7 q8 S P H S X Z n ru ty cl sp ca co) rfl ?_
  refine gx_aload_n (pc := 11) hB dX5_claim_11 0 rfl ?_
  refine gx_iconst (pc := 12) hB dX5_claim_12 (-1) (by decide) ?_
  refine gx_dVi (pc := 13) (r := (mClN S c (-1) c).1) (wr := []) hB (c_X5_claims l K m q1 q2 q3 q4 q5 q6 q7 q8 S P H S X Z n ru ty cl sp ca co a b c e (-1) (by first | assumption | omega | decide)) mX5_claims dX5_claim_13 tb_863 pX5_claims ⟨Nat.le_of_ble_eq_true rfl, Nat.le_of_ble_eq_true rfl⟩ ⟨rfl, rfl⟩ ⟨Nat.zero_le _, Nat.zero_le _⟩ rfl (Nat.le_of_ble_eq_true rfl) [0, 1, 2, 3, 4, 5, 6, 7, 8] [] rfl rfl (by decide) (by decide) (by decide) rfl rfl [0, 1, 2, 3, 4, 5, 6, 7, 8] (by decide) (wM K m q1 q2 q3 q4 q5 q6 q7 q8 ((mClN S c (-1) c).2.2) P H S X Z n ru ty ((mClN S c (-1) c).2.1) sp ca co) rfl ?_
  refine gx_pop (pc := 16) hB dX5_claim_16 rfl ?_
  refine gx_aload_n (pc := 17) hB dX5_claim_17 0 rfl ?_
  refine gx_get (pc := 18) hB dX5_claim_18 inX5 rfl 0 rfl 3 (by decide) tb_729 rfl rfl ?_
  refine gx_aload_n (pc := 21) hB dX5_claim_21 0 rfl ?_
  refine gx_get (pc := 22) hB dX5_claim_22 inX5 rfl 0 rfl 0 (by decide) tb_726 rfl rfl ?_
  refine gx_dSv (pc := 25) (wr := [(m, .inr (5, [.ref q1, .ref q2, .ref q3, .ref q4, .int (nI n), .int (bI ru), .ref q5, .int (nI ty), .ref q6, .ref q7, .int ((mClN S c (-1) c).2.1), .int (nI sp), .int ca, .int (nI co), .ref q8])), (q2, .inl (K.2.1.2.1, 1380, .inl P)), (q3, .inl (K.2.1.2.1, 345, .inl H)), (q5, .inl (K.2.1.2.1, 80, .inl X)), (q6, .inl (K.2.1.2.2.1, 9, .inr (.inl mW))), (q7, .inl (K.2.1.2.1, 9, .inl mN)), (q8, .inl (K.2.1.2.1, 4, .inl Z))]) hB (c_X5_copies l K q4 q1 S ((mClN S c (-1) c).2.2) ) mX5_copies dX5_claim_25 tb_860 pX5_copies ⟨Nat.le_of_ble_eq_true rfl, Nat.le_of_ble_eq_true rfl⟩ ⟨rfl, rfl⟩ ⟨Nat.zero_le _, Nat.zero_le _⟩ rfl (Nat.le_of_ble_eq_true rfl) [4, 1] [0, 2, 3, 5, 6, 7, 8] rfl rfl (by decide) (by decide) (by decide) [0, 8, 1, 2, 7, 3, 4, 5, 6] (by decide) (wM K m q1 q2 q3 q4 q5 q6 q7 q8 S P H S X Z n ru ty ((mClN S c (-1) c).2.1) sp ca co) rfl ?_
  refine gx_aload_n (pc := 28) hB dX5_claim_28 0 rfl ?_
  refine gx_get (pc := 29) hB dX5_claim_29 inX5 rfl 0 rfl 10 (by decide) tb_736 rfl rfl ?_
  refine gx_if_ne (pc := 32) hB 38 dX5_claim_32 (by decide) (fun c_1 => ?_) (fun c_1 => ?_)
  · refine gx_aload_n (pc := 38) hB dX5_claim_38 0 rfl ?_
    refine gx_dVv (pc := 39) (wr := []) hB (c_X5_changes l K m q1 q2 q3 q4 q5 q6 q7 q8 S P H S X Z n ru ty ((mClN S c (-1) c).2.1) sp ca co (by first | assumption | omega | decide)) mX5_changes dX5_claim_39 tb_777 pX5_changes ⟨Nat.le_of_ble_eq_true rfl, Nat.le_of_ble_eq_true rfl⟩ ⟨rfl, rfl⟩ ⟨Nat.zero_le _, Nat.zero_le _⟩ rfl (Nat.le_of_ble_eq_true rfl) [0, 1, 2, 3, 4, 5, 6, 7, 8] [] rfl rfl (by decide) (by decide) (by decide) rfl rfl [0, 1, 2, 3, 4, 5, 6, 7, 8] (by decide) (wM K m q1 q2 q3 q4 q5 q6 q7 q8 S (chP ru n P S) H S X Z (chn ru n) ru ty ((mClN S c (-1) c).2.1) sp ca co) rfl ?_
    refine gx_aload_n (pc := 42) hB dX5_claim_42 0 rfl ?_
    refine gx_iconst (pc := 43) hB dX5_claim_43 (-1) (by decide) ?_
    refine gx_dVi (pc := 44) (r := (mClN S c (-1) c).1) (wr := []) hB (c_X5_claims l K m q1 q2 q3 q4 q5 q6 q7 q8 S (chP ru n P S) H S X Z (chn ru n) ru ty ((mClN S c (-1) c).2.1) sp ca co a b c e (-1) (by first | assumption | omega | decide)) mX5_claims dX5_claim_44 tb_863 pX5_claims ⟨Nat.le_of_ble_eq_true rfl, Nat.le_of_ble_eq_true rfl⟩ ⟨rfl, rfl⟩ ⟨Nat.zero_le _, Nat.zero_le _⟩ rfl (Nat.le_of_ble_eq_true rfl) [0, 1, 2, 3, 4, 5, 6, 7, 8] [] rfl rfl (by decide) (by decide) (by decide) rfl rfl [0, 1, 2, 3, 4, 5, 6, 7, 8] (by decide) (wM K m q1 q2 q3 q4 q5 q6 q7 q8 ((mClN S c (-1) c).2.2) (chP ru n P S) H S X Z (chn ru n) ru ty ((mClN S c (-1) c).2.1) sp ca co) rfl ?_
    have e1 : ((mClaim S c).1) = ((mClN S c (-1) c).1) := by simp [mClaim, kpP, kpn, eq_false c_1]
    have f0 : ((mClaim S c).2.2) = ((mClN S c (-1) c).2.2) := by simp [mClaim, kpP, kpn, eq_false c_1]
    have f1 : (kpP (mClaim S c).2.1 ru n P S) = chP ru n P S := by simp [mClaim, kpP, kpn, eq_false c_1]
    have f2 : (kpn (mClaim S c).2.1 ru n) = chn ru n := by simp [mClaim, kpP, kpn, eq_false c_1]
    exact gx_iret (pc := 47) hC dX5_claim_47 (Nat.zero_le _) (Nat.zero_le _) (⟨by rw [e1], by rw [f0, f1, f2]⟩)
  · refine gx_bipush (pc := 35) hB dX5_claim_35 (-2) (by decide) ?_
    have e1 : ((mClaim S c).1) = (-2) := by simp [mClaim, kpP, kpn, eq_true c_1]
    have f0 : ((mClaim S c).2.2) = S := by simp [mClaim, kpP, kpn, eq_true c_1]
    have f1 : (kpP (mClaim S c).2.1 ru n P S) = P := by simp [mClaim, kpP, kpn, eq_true c_1]
    have f2 : (kpn (mClaim S c).2.1 ru n) = n := by simp [mClaim, kpP, kpn, eq_true c_1]
    exact gx_iret (pc := 37) hC dX5_claim_37 (Nat.zero_le _) (Nat.zero_le _) (⟨by rw [e1], by rw [f0, f1, f2]⟩)
theorem pX5_spend : (parseMethodDescriptor yX5_spend.desc).map (fun d => d.parameters.length) = some 2 := by decide +kernel
theorem mX5_spend : gx_M yX5_spend cX5_spend 5 (some .int) := ⟨tb_887, tb_888, tb_73, tb_889, by decide, by decide⟩
set_option maxHeartbeats 4000000 in
set_option maxRecDepth 100000 in
theorem c_X5_spend (l : Launch) (K : gx_K) (m q1 q2 q3 q4 q5 q6 q7 q8 : Nat) (S P H T X Z : Nat → Int32) (n : Nat) (ru : Bool) (ty : Nat) (cl : Int32) (sp : Nat) (ca : Int32) (co : Nat) (a b c e : Nat) (x z : Int32) (h0 : sOk S a b c e) (h1 : n ≤ 4) : gx_Ctr l K yX5_spend cX5_spend 5 (some .int) (rmm 3 43) [.ref m, .int x, .int z] (wM K m q1 q2 q3 q4 q5 q6 q7 q8 S P H T X Z n ru ty cl sp ca co) (gx_D (some (.int ((mSpend S x z).1))) (wM K m q1 q2 q3 q4 q5 q6 q7 q8 ((mSpend S x z).2.2) (kpP (mSpend S x z).2.1 ru n P S) H T X Z (kpn (mSpend S x z).2.1 ru n) ru ty cl sp ca co)) := by
  refine gx_of (by decide) (Nat.le_of_ble_eq_true rfl) (fun G hC => ?_)
  have hB := hC.b
  refine gx_lv (lv' := [(0, .ref m), (1, .int x), (2, .int z)]) rfl ?_
  have hb0 := h0.1
  refine gx_aload_n (pc := 0) hB dX5_spend_0 0 rfl ?_
  refine gx_iload_n (pc := 1) hB dX5_spend_1 1 rfl ?_
  refine gx_dVi (pc := 2) (r := bI (sIsP S x)) (wr := []) hB (c_X5_isPurpose l K m q1 q2 q3 q4 q5 q6 q7 q8 S P H T X Z n ru ty cl sp ca co x ) mX5_isPurpose dX5_spend_2 tb_808 pX5_isPurpose ⟨Nat.le_of_ble_eq_true rfl, Nat.le_of_ble_eq_true rfl⟩ ⟨rfl, rfl⟩ ⟨Nat.zero_le _, Nat.zero_le _⟩ rfl (Nat.le_of_ble_eq_true rfl) [0, 1, 2, 3, 4, 5, 6, 7, 8] [] rfl rfl (by decide) (by decide) (by decide) rfl rfl [0, 1, 2, 3, 4, 5, 6, 7, 8] (by decide) (wM K m q1 q2 q3 q4 q5 q6 q7 q8 S P H T X Z n ru ty cl sp ca co) rfl ?_
  refine gx_if_eq_b (pc := 5) hB 19 dX5_spend_5 (by decide) (fun c_1 => ?_) (fun c_1 => ?_)
  · refine gx_iconst (pc := 19) hB dX5_spend_19 (-1) (by decide) ?_
    have e1 : ((mSpend S x z).1) = (-1) := by simp [mSpend, mSpendH, mSpendS, kpP, kpn, c_1]
    have f0 : ((mSpend S x z).2.2) = S := by simp [mSpend, mSpendH, mSpendS, kpP, kpn, c_1]
    have f1 : (kpP (mSpend S x z).2.1 ru n P S) = P := by simp [mSpend, mSpendH, mSpendS, kpP, kpn, c_1]
    have f2 : (kpn (mSpend S x z).2.1 ru n) = n := by simp [mSpend, mSpendH, mSpendS, kpP, kpn, c_1]
    exact gx_iret (pc := 20) hC dX5_spend_20 (Nat.zero_le _) (Nat.zero_le _) (⟨by rw [e1], by rw [f0, f1, f2]⟩)
  · obtain ⟨p, h_p, rfl⟩ := isP_of h0 c_1
    have s_p : (nI p).toNatClampNeg = p := nI_clamp (by omega)
    refine gx_iload_n (pc := 8) hB dX5_spend_8 2 rfl ?_
    refine gx_iconst (pc := 9) hB dX5_spend_9 1 (by decide) ?_
    refine gx_sipush (pc := 10) hB dX5_spend_10 9999 (by decide) ?_
    refine gx_dSi (pc := 13) (r := bI (bIn z 1 9999)) (wr := [(m, .inr (5, [.ref q1, .ref q2, .ref q3, .ref q4, .int (nI n), .int (bI ru), .ref q5, .int (nI ty), .ref q6, .ref q7, .int cl, .int (nI sp), .int ca, .int (nI co), .ref q8])), (q1, .inl (K.2.1.2.1, 345, .inl S)), (q2, .inl (K.2.1.2.1, 1380, .inl P)), (q3, .inl (K.2.1.2.1, 345, .inl H)), (q4, .inl (K.2.1.2.1, 345, .inl T)), (q5, .inl (K.2.1.2.1, 80, .inl X)), (q6, .inl (K.2.1.2.2.1, 9, .inr (.inl mW))), (q7, .inl (K.2.1.2.1, 9, .inl mN)), (q8, .inl (K.2.1.2.1, 4, .inl Z))]) hB (c_X5_in l K z 1 9999 ) mX5_in dX5_spend_13 tb_797 pX5_in ⟨Nat.le_of_ble_eq_true rfl, Nat.le_of_ble_eq_true rfl⟩ ⟨rfl, rfl⟩ ⟨Nat.zero_le _, Nat.zero_le _⟩ rfl (Nat.le_of_ble_eq_true rfl) [] [0, 1, 2, 3, 4, 5, 6, 7, 8] rfl rfl (by decide) (by decide) (by decide) [0, 1, 2, 3, 4, 5, 6, 7, 8] (by decide) (wM K m q1 q2 q3 q4 q5 q6 q7 q8 S P H T X Z n ru ty cl sp ca co) rfl ?_
    refine gx_if_ne_b (pc := 16) hB 21 dX5_spend_16 (by decide) (fun c_2 => ?_) (fun c_2 => ?_)
    · refine gx_aload_n (pc := 21) hB dX5_spend_21 0 rfl ?_
      refine gx_iload_n (pc := 22) hB dX5_spend_22 1 rfl ?_
      refine gx_iconst (pc := 23) hB dX5_spend_23 0 (by decide) ?_
      refine gx_dVi (pc := 24) (r := sP S p 0) (wr := []) hB (c_X5_ofPurpose l K m q1 q2 q3 q4 q5 q6 q7 q8 S P H T X Z n ru ty cl sp ca co p 0 (by first | assumption | omega | decide) (by first | assumption | omega | decide)) mX5_ofPurpose dX5_spend_24 tb_816 pX5_ofPurpose ⟨Nat.le_of_ble_eq_true rfl, Nat.le_of_ble_eq_true rfl⟩ ⟨rfl, rfl⟩ ⟨Nat.zero_le _, Nat.zero_le _⟩ rfl (Nat.le_of_ble_eq_true rfl) [0, 1, 2, 3, 4, 5, 6, 7, 8] [] rfl rfl (by decide) (by decide) (by decide) rfl rfl [0, 1, 2, 3, 4, 5, 6, 7, 8] (by decide) (wM K m q1 q2 q3 q4 q5 q6 q7 q8 S P H T X Z n ru ty cl sp ca co) rfl ?_
      refine gx_istore_n (pc := 27) hB dX5_spend_27 (by decide) [(3, .int (sP S p 0)), (0, .ref m), (1, .int (nI p)), (2, .int z)] rfl ?_
      refine gx_iload_n (pc := 28) hB dX5_spend_28 3 rfl ?_
      refine gx_iload_n (pc := 29) hB dX5_spend_29 0 rfl ?_
      refine gx_icmp_le (pc := 30) hB 39 dX5_spend_30 (by decide) (fun c_3 => ?_) (fun c_3 => ?_)
      · refine gx_iconst (pc := 39) hB dX5_spend_39 0 (by decide) ?_
        refine gx_istore (pc := 40) hB dX5_spend_40 (by decide) [(4, .int 0), (3, .int (sP S p 0)), (0, .ref m), (1, .int (nI p)), (2, .int z)] rfl ?_
        refine gx_aload_n (pc := 42) hB dX5_spend_42 2 rfl ?_
        refine gx_iload_n (pc := 43) hB dX5_spend_43 3 rfl ?_
        refine gx_dVi (pc := 44) (r := bI (sClosed S p)) (wr := []) hB (c_X5_isClosed l K m q1 q2 q3 q4 q5 q6 q7 q8 S P H T X Z n ru ty cl sp ca co p (by first | assumption | omega | decide)) mX5_isClosed dX5_spend_44 tb_812 pX5_isClosed ⟨Nat.le_of_ble_eq_true rfl, Nat.le_of_ble_eq_true rfl⟩ ⟨rfl, rfl⟩ ⟨Nat.zero_le _, Nat.zero_le _⟩ rfl (Nat.le_of_ble_eq_true rfl) [0, 1, 2, 3, 4, 5, 6, 7, 8] [] rfl rfl (by decide) (by decide) (by decide) rfl rfl [0, 1, 2, 3, 4, 5, 6, 7, 8] (by decide) (wM K m q1 q2 q3 q4 q5 q6 q7 q8 S P H T X Z n ru ty cl sp ca co) rfl ?_
        refine gx_if_ne_b (pc := 47) hB 69 dX5_spend_47 (by decide) (fun c_4 => ?_) (fun c_4 => ?_)
        · refine gx_bipush (pc := 69) hB dX5_spend_69 (-2) (by decide) ?_
          have e1 : ((mSpend S (nI p) z).1) = (-2) := by simp [mSpend, mSpendH, mSpendS, kpP, kpn, c_1, s_p, c_2, c_3, eq_false (Int32.not_lt.mpr c_3), c_4]
          have f0 : ((mSpend S (nI p) z).2.2) = S := by simp [mSpend, mSpendH, mSpendS, kpP, kpn, c_1, s_p, c_2, c_3, eq_false (Int32.not_lt.mpr c_3), c_4]
          have f1 : (kpP (mSpend S (nI p) z).2.1 ru n P S) = P := by simp [mSpend, mSpendH, mSpendS, kpP, kpn, c_1, s_p, c_2, c_3, eq_false (Int32.not_lt.mpr c_3), c_4]
          have f2 : (kpn (mSpend S (nI p) z).2.1 ru n) = n := by simp [mSpend, mSpendH, mSpendS, kpP, kpn, c_1, s_p, c_2, c_3, eq_false (Int32.not_lt.mpr c_3), c_4]
          exact gx_iret (pc := 71) hC dX5_spend_71 (Nat.zero_le _) (Nat.zero_le _) (⟨by rw [e1], by rw [f0, f1, f2]⟩)
        · refine gx_iload (pc := 50) hB dX5_spend_50 0 rfl ?_
          refine gx_iload_n (pc := 52) hB dX5_spend_52 3 rfl ?_
          refine gx_if_ne (pc := 53) hB 60 dX5_spend_53 (by decide) (fun c_5 => ?_) (fun c_5 => ?_)
          · refine gx_aload_n (pc := 60) hB dX5_spend_60 2 rfl ?_
            refine gx_iconst (pc := 61) hB dX5_spend_61 0 (by decide) ?_
            refine gx_iconst (pc := 62) hB dX5_spend_62 0 (by decide) ?_
            refine gx_dVi (pc := 63) (r := sP S 0 0) (wr := []) hB (c_X5_ofPurpose l K m q1 q2 q3 q4 q5 q6 q7 q8 S P H T X Z n ru ty cl sp ca co 0 0 (by first | assumption | omega | decide) (by first | assumption | omega | decide)) mX5_ofPurpose dX5_spend_63 tb_816 pX5_ofPurpose ⟨Nat.le_of_ble_eq_true rfl, Nat.le_of_ble_eq_true rfl⟩ ⟨rfl, rfl⟩ ⟨Nat.zero_le _, Nat.zero_le _⟩ rfl (Nat.le_of_ble_eq_true rfl) [0, 1, 2, 3, 4, 5, 6, 7, 8] [] rfl rfl (by decide) (by decide) (by decide) rfl rfl [0, 1, 2, 3, 4, 5, 6, 7, 8] (by decide) (wM K m q1 q2 q3 q4 q5 q6 q7 q8 S P H T X Z n ru ty cl sp ca co) rfl ?_
            refine gx_icmp_le (pc := 66) hB 72 dX5_spend_66 (by decide) (fun c_6 => ?_) (fun c_6 => ?_)
            · refine gx_aload_n (pc := 72) hB dX5_spend_72 2 rfl ?_
              refine gx_dVv (pc := 73) (wr := []) hB (c_X5_changes l K m q1 q2 q3 q4 q5 q6 q7 q8 S P H T X Z n ru ty cl sp ca co (by first | assumption | omega | decide)) mX5_changes dX5_spend_73 tb_777 pX5_changes ⟨Nat.le_of_ble_eq_true rfl, Nat.le_of_ble_eq_true rfl⟩ ⟨rfl, rfl⟩ ⟨Nat.zero_le _, Nat.zero_le _⟩ rfl (Nat.le_of_ble_eq_true rfl) [0, 1, 2, 3, 4, 5, 6, 7, 8] [] rfl rfl (by decide) (by decide) (by decide) rfl rfl [0, 1, 2, 3, 4, 5, 6, 7, 8] (by decide) (wM K m q1 q2 q3 q4 q5 q6 q7 q8 S (chP ru n P S) H T X Z (chn ru n) ru ty cl sp ca co) rfl ?_
              refine gx_aload_n (pc := 76) hB dX5_spend_76 2 rfl ?_
              refine gx_iload_n (pc := 77) hB dX5_spend_77 3 rfl ?_
              refine gx_iconst (pc := 78) hB dX5_spend_78 0 (by decide) ?_
              refine gx_iload (pc := 79) hB dX5_spend_79 0 rfl ?_
              refine gx_iload_n (pc := 81) hB dX5_spend_81 4 rfl ?_
              refine gx_isub (pc := 82) hB dX5_spend_82 ?_
              refine gx_dVv (pc := 83) (wr := []) hB (c_X5_adds l K m q1 q2 q3 q4 q5 q6 q7 q8 S (chP ru n P S) H T X Z (chn ru n) ru ty cl sp ca co p 0 (0 - z) (by first | assumption | omega | decide) (by first | assumption | omega | decide)) mX5_adds dX5_spend_83 tb_824 pX5_adds ⟨Nat.le_of_ble_eq_true rfl, Nat.le_of_ble_eq_true rfl⟩ ⟨rfl, rfl⟩ ⟨Nat.zero_le _, Nat.zero_le _⟩ rfl (Nat.le_of_ble_eq_true rfl) [0, 1, 2, 3, 4, 5, 6, 7, 8] [] rfl rfl (by decide) (by decide) (by decide) rfl rfl [0, 1, 2, 3, 4, 5, 6, 7, 8] (by decide) (wM K m q1 q2 q3 q4 q5 q6 q7 q8 (aP S p 0 (0 - z)) (chP ru n P S) H T X Z (chn ru n) ru ty cl sp ca co) rfl ?_
              refine gx_aload_n (pc := 86) hB dX5_spend_86 2 rfl ?_
              refine gx_iload_n (pc := 87) hB dX5_spend_87 3 rfl ?_
              refine gx_iconst (pc := 88) hB dX5_spend_88 3 (by decide) ?_
              refine gx_iload_n (pc := 89) hB dX5_spend_89 4 rfl ?_
              refine gx_dVv (pc := 90) (wr := []) hB (c_X5_adds l K m q1 q2 q3 q4 q5 q6 q7 q8 (aP S p 0 (0 - z)) (chP ru n P S) H T X Z (chn ru n) ru ty cl sp ca co p 3 z (by first | assumption | omega | decide) (by first | assumption | omega | decide)) mX5_adds dX5_spend_90 tb_824 pX5_adds ⟨Nat.le_of_ble_eq_true rfl, Nat.le_of_ble_eq_true rfl⟩ ⟨rfl, rfl⟩ ⟨Nat.zero_le _, Nat.zero_le _⟩ rfl (Nat.le_of_ble_eq_true rfl) [0, 1, 2, 3, 4, 5, 6, 7, 8] [] rfl rfl (by decide) (by decide) (by decide) rfl rfl [0, 1, 2, 3, 4, 5, 6, 7, 8] (by decide) (wM K m q1 q2 q3 q4 q5 q6 q7 q8 (aP (aP S p 0 (0 - z)) p 3 z) (chP ru n P S) H T X Z (chn ru n) ru ty cl sp ca co) rfl ?_
              refine gx_aload_n (pc := 93) hB dX5_spend_93 2 rfl ?_
              refine gx_iload_n (pc := 94) hB dX5_spend_94 3 rfl ?_
              refine gx_iconst (pc := 95) hB dX5_spend_95 4 (by decide) ?_
              refine gx_iload (pc := 96) hB dX5_spend_96 0 rfl ?_
              refine gx_dVv (pc := 98) (wr := []) hB (c_X5_adds l K m q1 q2 q3 q4 q5 q6 q7 q8 (aP (aP S p 0 (0 - z)) p 3 z) (chP ru n P S) H T X Z (chn ru n) ru ty cl sp ca co p 4 0 (by first | assumption | omega | decide) (by first | assumption | omega | decide)) mX5_adds dX5_spend_98 tb_824 pX5_adds ⟨Nat.le_of_ble_eq_true rfl, Nat.le_of_ble_eq_true rfl⟩ ⟨rfl, rfl⟩ ⟨Nat.zero_le _, Nat.zero_le _⟩ rfl (Nat.le_of_ble_eq_true rfl) [0, 1, 2, 3, 4, 5, 6, 7, 8] [] rfl rfl (by decide) (by decide) (by decide) rfl rfl [0, 1, 2, 3, 4, 5, 6, 7, 8] (by decide) (wM K m q1 q2 q3 q4 q5 q6 q7 q8 (aP (aP (aP S p 0 (0 - z)) p 3 z) p 4 0) (chP ru n P S) H T X Z (chn ru n) ru ty cl sp ca co) rfl ?_
              refine gx_aload_n (pc := 101) hB dX5_spend_101 2 rfl ?_
              refine gx_iconst (pc := 102) hB dX5_spend_102 0 (by decide) ?_
              refine gx_iconst (pc := 103) hB dX5_spend_103 0 (by decide) ?_
              refine gx_iload (pc := 104) hB dX5_spend_104 0 rfl ?_
              refine gx_ineg (pc := 106) hB dX5_spend_106 ?_
              refine gx_dVv (pc := 107) (wr := []) hB (c_X5_adds l K m q1 q2 q3 q4 q5 q6 q7 q8 (aP (aP (aP S p 0 (0 - z)) p 3 z) p 4 0) (chP ru n P S) H T X Z (chn ru n) ru ty cl sp ca co 0 0 (-0) (by first | assumption | omega | decide) (by first | assumption | omega | decide)) mX5_adds dX5_spend_107 tb_824 pX5_adds ⟨Nat.le_of_ble_eq_true rfl, Nat.le_of_ble_eq_true rfl⟩ ⟨rfl, rfl⟩ ⟨Nat.zero_le _, Nat.zero_le _⟩ rfl (Nat.le_of_ble_eq_true rfl) [0, 1, 2, 3, 4, 5, 6, 7, 8] [] rfl rfl (by decide) (by decide) (by decide) rfl rfl [0, 1, 2, 3, 4, 5, 6, 7, 8] (by decide) (wM K m q1 q2 q3 q4 q5 q6 q7 q8 (aP (aP (aP (aP S p 0 (0 - z)) p 3 z) p 4 0) 0 0 (-0)) (chP ru n P S) H T X Z (chn ru n) ru ty cl sp ca co) rfl ?_
              refine gx_aload_n (pc := 110) hB dX5_spend_110 2 rfl ?_
              refine gx_iconst (pc := 111) hB dX5_spend_111 0 (by decide) ?_
              refine gx_bipush (pc := 112) hB dX5_spend_112 10 (by decide) ?_
              refine gx_iload (pc := 114) hB dX5_spend_114 0 rfl ?_
              refine gx_dVv (pc := 116) (wr := []) hB (c_X5_adds l K m q1 q2 q3 q4 q5 q6 q7 q8 (aP (aP (aP (aP S p 0 (0 - z)) p 3 z) p 4 0) 0 0 (-0)) (chP ru n P S) H T X Z (chn ru n) ru ty cl sp ca co 0 10 0 (by first | assumption | omega | decide) (by first | assumption | omega | decide)) mX5_adds dX5_spend_116 tb_824 pX5_adds ⟨Nat.le_of_ble_eq_true rfl, Nat.le_of_ble_eq_true rfl⟩ ⟨rfl, rfl⟩ ⟨Nat.zero_le _, Nat.zero_le _⟩ rfl (Nat.le_of_ble_eq_true rfl) [0, 1, 2, 3, 4, 5, 6, 7, 8] [] rfl rfl (by decide) (by decide) (by decide) rfl rfl [0, 1, 2, 3, 4, 5, 6, 7, 8] (by decide) (wM K m q1 q2 q3 q4 q5 q6 q7 q8 (aP (aP (aP (aP (aP S p 0 (0 - z)) p 3 z) p 4 0) 0 0 (-0)) 0 10 0) (chP ru n P S) H T X Z (chn ru n) ru ty cl sp ca co) rfl ?_
              refine gx_iload (pc := 119) hB dX5_spend_119 0 rfl ?_
              have e1 : ((mSpend S (nI p) z).1) = 0 := by simp [mSpend, mSpendH, mSpendS, kpP, kpn, c_1, s_p, c_2, c_3, eq_false (Int32.not_lt.mpr c_3), c_4, eq_false c_5, c_6, eq_false (Int32.not_lt.mpr c_6)]
              have f0 : ((mSpend S (nI p) z).2.2) = (aP (aP (aP (aP (aP S p 0 (0 - z)) p 3 z) p 4 0) 0 0 (-0)) 0 10 0) := by simp [mSpend, mSpendH, mSpendS, kpP, kpn, c_1, s_p, c_2, c_3, eq_false (Int32.not_lt.mpr c_3), c_4, eq_false c_5, c_6, eq_false (Int32.not_lt.mpr c_6)]
              have f1 : (kpP (mSpend S (nI p) z).2.1 ru n P S) = chP ru n P S := by simp [mSpend, mSpendH, mSpendS, kpP, kpn, c_1, s_p, c_2, c_3, eq_false (Int32.not_lt.mpr c_3), c_4, eq_false c_5, c_6, eq_false (Int32.not_lt.mpr c_6)]
              have f2 : (kpn (mSpend S (nI p) z).2.1 ru n) = chn ru n := by simp [mSpend, mSpendH, mSpendS, kpP, kpn, c_1, s_p, c_2, c_3, eq_false (Int32.not_lt.mpr c_3), c_4, eq_false c_5, c_6, eq_false (Int32.not_lt.mpr c_6)]
              exact gx_iret (pc := 121) hC dX5_spend_121 (Nat.zero_le _) (Nat.zero_le _) (⟨by rw [e1], by rw [f0, f1, f2]⟩)
            · refine gx_bipush (pc := 69) hB dX5_spend_69 (-2) (by decide) ?_
              have e1 : ((mSpend S (nI p) z).1) = (-2) := by simp [mSpend, mSpendH, mSpendS, kpP, kpn, c_1, s_p, c_2, c_3, eq_false (Int32.not_lt.mpr c_3), c_4, eq_false c_5, Int32.not_le.mp c_6, eq_false c_6]
              have f0 : ((mSpend S (nI p) z).2.2) = S := by simp [mSpend, mSpendH, mSpendS, kpP, kpn, c_1, s_p, c_2, c_3, eq_false (Int32.not_lt.mpr c_3), c_4, eq_false c_5, Int32.not_le.mp c_6, eq_false c_6]
              have f1 : (kpP (mSpend S (nI p) z).2.1 ru n P S) = P := by simp [mSpend, mSpendH, mSpendS, kpP, kpn, c_1, s_p, c_2, c_3, eq_false (Int32.not_lt.mpr c_3), c_4, eq_false c_5, Int32.not_le.mp c_6, eq_false c_6]
              have f2 : (kpn (mSpend S (nI p) z).2.1 ru n) = n := by simp [mSpend, mSpendH, mSpendS, kpP, kpn, c_1, s_p, c_2, c_3, eq_false (Int32.not_lt.mpr c_3), c_4, eq_false c_5, Int32.not_le.mp c_6, eq_false c_6]
              exact gx_iret (pc := 71) hC dX5_spend_71 (Nat.zero_le _) (Nat.zero_le _) (⟨by rw [e1], by rw [f0, f1, f2]⟩)
          · refine gx_iconst (pc := 56) hB dX5_spend_56 0 (by decide) ?_
            refine gx_goto (pc := 57) hB 66 dX5_spend_57 (by decide) ?_
            refine gx_icmp_le (pc := 66) hB 72 dX5_spend_66 (by decide) (fun c_7 => ?_) (fun c_7 => ?_)
            · refine gx_aload_n (pc := 72) hB dX5_spend_72 2 rfl ?_
              refine gx_dVv (pc := 73) (wr := []) hB (c_X5_changes l K m q1 q2 q3 q4 q5 q6 q7 q8 S P H T X Z n ru ty cl sp ca co (by first | assumption | omega | decide)) mX5_changes dX5_spend_73 tb_777 pX5_changes ⟨Nat.le_of_ble_eq_true rfl, Nat.le_of_ble_eq_true rfl⟩ ⟨rfl, rfl⟩ ⟨Nat.zero_le _, Nat.zero_le _⟩ rfl (Nat.le_of_ble_eq_true rfl) [0, 1, 2, 3, 4, 5, 6, 7, 8] [] rfl rfl (by decide) (by decide) (by decide) rfl rfl [0, 1, 2, 3, 4, 5, 6, 7, 8] (by decide) (wM K m q1 q2 q3 q4 q5 q6 q7 q8 S (chP ru n P S) H T X Z (chn ru n) ru ty cl sp ca co) rfl ?_
              refine gx_aload_n (pc := 76) hB dX5_spend_76 2 rfl ?_
              refine gx_iload_n (pc := 77) hB dX5_spend_77 3 rfl ?_
              refine gx_iconst (pc := 78) hB dX5_spend_78 0 (by decide) ?_
              refine gx_iload (pc := 79) hB dX5_spend_79 0 rfl ?_
              refine gx_iload_n (pc := 81) hB dX5_spend_81 4 rfl ?_
              refine gx_isub (pc := 82) hB dX5_spend_82 ?_
              refine gx_dVv (pc := 83) (wr := []) hB (c_X5_adds l K m q1 q2 q3 q4 q5 q6 q7 q8 S (chP ru n P S) H T X Z (chn ru n) ru ty cl sp ca co p 0 (0 - z) (by first | assumption | omega | decide) (by first | assumption | omega | decide)) mX5_adds dX5_spend_83 tb_824 pX5_adds ⟨Nat.le_of_ble_eq_true rfl, Nat.le_of_ble_eq_true rfl⟩ ⟨rfl, rfl⟩ ⟨Nat.zero_le _, Nat.zero_le _⟩ rfl (Nat.le_of_ble_eq_true rfl) [0, 1, 2, 3, 4, 5, 6, 7, 8] [] rfl rfl (by decide) (by decide) (by decide) rfl rfl [0, 1, 2, 3, 4, 5, 6, 7, 8] (by decide) (wM K m q1 q2 q3 q4 q5 q6 q7 q8 (aP S p 0 (0 - z)) (chP ru n P S) H T X Z (chn ru n) ru ty cl sp ca co) rfl ?_
              refine gx_aload_n (pc := 86) hB dX5_spend_86 2 rfl ?_
              refine gx_iload_n (pc := 87) hB dX5_spend_87 3 rfl ?_
              refine gx_iconst (pc := 88) hB dX5_spend_88 3 (by decide) ?_
              refine gx_iload_n (pc := 89) hB dX5_spend_89 4 rfl ?_
              refine gx_dVv (pc := 90) (wr := []) hB (c_X5_adds l K m q1 q2 q3 q4 q5 q6 q7 q8 (aP S p 0 (0 - z)) (chP ru n P S) H T X Z (chn ru n) ru ty cl sp ca co p 3 z (by first | assumption | omega | decide) (by first | assumption | omega | decide)) mX5_adds dX5_spend_90 tb_824 pX5_adds ⟨Nat.le_of_ble_eq_true rfl, Nat.le_of_ble_eq_true rfl⟩ ⟨rfl, rfl⟩ ⟨Nat.zero_le _, Nat.zero_le _⟩ rfl (Nat.le_of_ble_eq_true rfl) [0, 1, 2, 3, 4, 5, 6, 7, 8] [] rfl rfl (by decide) (by decide) (by decide) rfl rfl [0, 1, 2, 3, 4, 5, 6, 7, 8] (by decide) (wM K m q1 q2 q3 q4 q5 q6 q7 q8 (aP (aP S p 0 (0 - z)) p 3 z) (chP ru n P S) H T X Z (chn ru n) ru ty cl sp ca co) rfl ?_
              refine gx_aload_n (pc := 93) hB dX5_spend_93 2 rfl ?_
              refine gx_iload_n (pc := 94) hB dX5_spend_94 3 rfl ?_
              refine gx_iconst (pc := 95) hB dX5_spend_95 4 (by decide) ?_
              refine gx_iload (pc := 96) hB dX5_spend_96 0 rfl ?_
              refine gx_dVv (pc := 98) (wr := []) hB (c_X5_adds l K m q1 q2 q3 q4 q5 q6 q7 q8 (aP (aP S p 0 (0 - z)) p 3 z) (chP ru n P S) H T X Z (chn ru n) ru ty cl sp ca co p 4 0 (by first | assumption | omega | decide) (by first | assumption | omega | decide)) mX5_adds dX5_spend_98 tb_824 pX5_adds ⟨Nat.le_of_ble_eq_true rfl, Nat.le_of_ble_eq_true rfl⟩ ⟨rfl, rfl⟩ ⟨Nat.zero_le _, Nat.zero_le _⟩ rfl (Nat.le_of_ble_eq_true rfl) [0, 1, 2, 3, 4, 5, 6, 7, 8] [] rfl rfl (by decide) (by decide) (by decide) rfl rfl [0, 1, 2, 3, 4, 5, 6, 7, 8] (by decide) (wM K m q1 q2 q3 q4 q5 q6 q7 q8 (aP (aP (aP S p 0 (0 - z)) p 3 z) p 4 0) (chP ru n P S) H T X Z (chn ru n) ru ty cl sp ca co) rfl ?_
              refine gx_aload_n (pc := 101) hB dX5_spend_101 2 rfl ?_
              refine gx_iconst (pc := 102) hB dX5_spend_102 0 (by decide) ?_
              refine gx_iconst (pc := 103) hB dX5_spend_103 0 (by decide) ?_
              refine gx_iload (pc := 104) hB dX5_spend_104 0 rfl ?_
              refine gx_ineg (pc := 106) hB dX5_spend_106 ?_
              refine gx_dVv (pc := 107) (wr := []) hB (c_X5_adds l K m q1 q2 q3 q4 q5 q6 q7 q8 (aP (aP (aP S p 0 (0 - z)) p 3 z) p 4 0) (chP ru n P S) H T X Z (chn ru n) ru ty cl sp ca co 0 0 (-0) (by first | assumption | omega | decide) (by first | assumption | omega | decide)) mX5_adds dX5_spend_107 tb_824 pX5_adds ⟨Nat.le_of_ble_eq_true rfl, Nat.le_of_ble_eq_true rfl⟩ ⟨rfl, rfl⟩ ⟨Nat.zero_le _, Nat.zero_le _⟩ rfl (Nat.le_of_ble_eq_true rfl) [0, 1, 2, 3, 4, 5, 6, 7, 8] [] rfl rfl (by decide) (by decide) (by decide) rfl rfl [0, 1, 2, 3, 4, 5, 6, 7, 8] (by decide) (wM K m q1 q2 q3 q4 q5 q6 q7 q8 (aP (aP (aP (aP S p 0 (0 - z)) p 3 z) p 4 0) 0 0 (-0)) (chP ru n P S) H T X Z (chn ru n) ru ty cl sp ca co) rfl ?_
              refine gx_aload_n (pc := 110) hB dX5_spend_110 2 rfl ?_
              refine gx_iconst (pc := 111) hB dX5_spend_111 0 (by decide) ?_
              refine gx_bipush (pc := 112) hB dX5_spend_112 10 (by decide) ?_
              refine gx_iload (pc := 114) hB dX5_spend_114 0 rfl ?_
              refine gx_dVv (pc := 116) (wr := []) hB (c_X5_adds l K m q1 q2 q3 q4 q5 q6 q7 q8 (aP (aP (aP (aP S p 0 (0 - z)) p 3 z) p 4 0) 0 0 (-0)) (chP ru n P S) H T X Z (chn ru n) ru ty cl sp ca co 0 10 0 (by first | assumption | omega | decide) (by first | assumption | omega | decide)) mX5_adds dX5_spend_116 tb_824 pX5_adds ⟨Nat.le_of_ble_eq_true rfl, Nat.le_of_ble_eq_true rfl⟩ ⟨rfl, rfl⟩ ⟨Nat.zero_le _, Nat.zero_le _⟩ rfl (Nat.le_of_ble_eq_true rfl) [0, 1, 2, 3, 4, 5, 6, 7, 8] [] rfl rfl (by decide) (by decide) (by decide) rfl rfl [0, 1, 2, 3, 4, 5, 6, 7, 8] (by decide) (wM K m q1 q2 q3 q4 q5 q6 q7 q8 (aP (aP (aP (aP (aP S p 0 (0 - z)) p 3 z) p 4 0) 0 0 (-0)) 0 10 0) (chP ru n P S) H T X Z (chn ru n) ru ty cl sp ca co) rfl ?_
              refine gx_iload (pc := 119) hB dX5_spend_119 0 rfl ?_
              have e1 : ((mSpend S (nI p) z).1) = 0 := by simp [mSpend, mSpendH, mSpendS, kpP, kpn, c_1, s_p, c_2, c_3, eq_false (Int32.not_lt.mpr c_3), c_4, eq_true c_5]
              have f0 : ((mSpend S (nI p) z).2.2) = (aP (aP (aP (aP (aP S p 0 (0 - z)) p 3 z) p 4 0) 0 0 (-0)) 0 10 0) := by simp [mSpend, mSpendH, mSpendS, kpP, kpn, c_1, s_p, c_2, c_3, eq_false (Int32.not_lt.mpr c_3), c_4, eq_true c_5]
              have f1 : (kpP (mSpend S (nI p) z).2.1 ru n P S) = chP ru n P S := by simp [mSpend, mSpendH, mSpendS, kpP, kpn, c_1, s_p, c_2, c_3, eq_false (Int32.not_lt.mpr c_3), c_4, eq_true c_5]
              have f2 : (kpn (mSpend S (nI p) z).2.1 ru n) = chn ru n := by simp [mSpend, mSpendH, mSpendS, kpP, kpn, c_1, s_p, c_2, c_3, eq_false (Int32.not_lt.mpr c_3), c_4, eq_true c_5]
              exact gx_iret (pc := 121) hC dX5_spend_121 (Nat.zero_le _) (Nat.zero_le _) (⟨by rw [e1], by rw [f0, f1, f2]⟩)
            · exact absurd c_7 (by decide)
      · refine gx_iload_n (pc := 33) hB dX5_spend_33 3 rfl ?_
        refine gx_iload_n (pc := 34) hB dX5_spend_34 0 rfl ?_
        refine gx_isub (pc := 35) hB dX5_spend_35 ?_
        refine gx_goto (pc := 36) hB 40 dX5_spend_36 (by decide) ?_
        refine gx_istore (pc := 40) hB dX5_spend_40 (by decide) [(4, .int (z - sP S p 0)), (3, .int (sP S p 0)), (0, .ref m), (1, .int (nI p)), (2, .int z)] rfl ?_
        refine gx_aload_n (pc := 42) hB dX5_spend_42 2 rfl ?_
        refine gx_iload_n (pc := 43) hB dX5_spend_43 3 rfl ?_
        refine gx_dVi (pc := 44) (r := bI (sClosed S p)) (wr := []) hB (c_X5_isClosed l K m q1 q2 q3 q4 q5 q6 q7 q8 S P H T X Z n ru ty cl sp ca co p (by first | assumption | omega | decide)) mX5_isClosed dX5_spend_44 tb_812 pX5_isClosed ⟨Nat.le_of_ble_eq_true rfl, Nat.le_of_ble_eq_true rfl⟩ ⟨rfl, rfl⟩ ⟨Nat.zero_le _, Nat.zero_le _⟩ rfl (Nat.le_of_ble_eq_true rfl) [0, 1, 2, 3, 4, 5, 6, 7, 8] [] rfl rfl (by decide) (by decide) (by decide) rfl rfl [0, 1, 2, 3, 4, 5, 6, 7, 8] (by decide) (wM K m q1 q2 q3 q4 q5 q6 q7 q8 S P H T X Z n ru ty cl sp ca co) rfl ?_
        refine gx_if_ne_b (pc := 47) hB 69 dX5_spend_47 (by decide) (fun c_8 => ?_) (fun c_8 => ?_)
        · refine gx_bipush (pc := 69) hB dX5_spend_69 (-2) (by decide) ?_
          have e1 : ((mSpend S (nI p) z).1) = (-2) := by simp [mSpend, mSpendH, mSpendS, kpP, kpn, c_1, s_p, c_2, Int32.not_le.mp c_3, eq_false c_3, c_8]
          have f0 : ((mSpend S (nI p) z).2.2) = S := by simp [mSpend, mSpendH, mSpendS, kpP, kpn, c_1, s_p, c_2, Int32.not_le.mp c_3, eq_false c_3, c_8]
          have f1 : (kpP (mSpend S (nI p) z).2.1 ru n P S) = P := by simp [mSpend, mSpendH, mSpendS, kpP, kpn, c_1, s_p, c_2, Int32.not_le.mp c_3, eq_false c_3, c_8]
          have f2 : (kpn (mSpend S (nI p) z).2.1 ru n) = n := by simp [mSpend, mSpendH, mSpendS, kpP, kpn, c_1, s_p, c_2, Int32.not_le.mp c_3, eq_false c_3, c_8]
          exact gx_iret (pc := 71) hC dX5_spend_71 (Nat.zero_le _) (Nat.zero_le _) (⟨by rw [e1], by rw [f0, f1, f2]⟩)
        · refine gx_iload (pc := 50) hB dX5_spend_50 0 rfl ?_
          refine gx_iload_n (pc := 52) hB dX5_spend_52 3 rfl ?_
          refine gx_if_ne (pc := 53) hB 60 dX5_spend_53 (by decide) (fun c_9 => ?_) (fun c_9 => ?_)
          · refine gx_aload_n (pc := 60) hB dX5_spend_60 2 rfl ?_
            refine gx_iconst (pc := 61) hB dX5_spend_61 0 (by decide) ?_
            refine gx_iconst (pc := 62) hB dX5_spend_62 0 (by decide) ?_
            refine gx_dVi (pc := 63) (r := sP S 0 0) (wr := []) hB (c_X5_ofPurpose l K m q1 q2 q3 q4 q5 q6 q7 q8 S P H T X Z n ru ty cl sp ca co 0 0 (by first | assumption | omega | decide) (by first | assumption | omega | decide)) mX5_ofPurpose dX5_spend_63 tb_816 pX5_ofPurpose ⟨Nat.le_of_ble_eq_true rfl, Nat.le_of_ble_eq_true rfl⟩ ⟨rfl, rfl⟩ ⟨Nat.zero_le _, Nat.zero_le _⟩ rfl (Nat.le_of_ble_eq_true rfl) [0, 1, 2, 3, 4, 5, 6, 7, 8] [] rfl rfl (by decide) (by decide) (by decide) rfl rfl [0, 1, 2, 3, 4, 5, 6, 7, 8] (by decide) (wM K m q1 q2 q3 q4 q5 q6 q7 q8 S P H T X Z n ru ty cl sp ca co) rfl ?_
            refine gx_icmp_le (pc := 66) hB 72 dX5_spend_66 (by decide) (fun c_10 => ?_) (fun c_10 => ?_)
            · refine gx_aload_n (pc := 72) hB dX5_spend_72 2 rfl ?_
              refine gx_dVv (pc := 73) (wr := []) hB (c_X5_changes l K m q1 q2 q3 q4 q5 q6 q7 q8 S P H T X Z n ru ty cl sp ca co (by first | assumption | omega | decide)) mX5_changes dX5_spend_73 tb_777 pX5_changes ⟨Nat.le_of_ble_eq_true rfl, Nat.le_of_ble_eq_true rfl⟩ ⟨rfl, rfl⟩ ⟨Nat.zero_le _, Nat.zero_le _⟩ rfl (Nat.le_of_ble_eq_true rfl) [0, 1, 2, 3, 4, 5, 6, 7, 8] [] rfl rfl (by decide) (by decide) (by decide) rfl rfl [0, 1, 2, 3, 4, 5, 6, 7, 8] (by decide) (wM K m q1 q2 q3 q4 q5 q6 q7 q8 S (chP ru n P S) H T X Z (chn ru n) ru ty cl sp ca co) rfl ?_
              refine gx_aload_n (pc := 76) hB dX5_spend_76 2 rfl ?_
              refine gx_iload_n (pc := 77) hB dX5_spend_77 3 rfl ?_
              refine gx_iconst (pc := 78) hB dX5_spend_78 0 (by decide) ?_
              refine gx_iload (pc := 79) hB dX5_spend_79 0 rfl ?_
              refine gx_iload_n (pc := 81) hB dX5_spend_81 4 rfl ?_
              refine gx_isub (pc := 82) hB dX5_spend_82 ?_
              refine gx_dVv (pc := 83) (wr := []) hB (c_X5_adds l K m q1 q2 q3 q4 q5 q6 q7 q8 S (chP ru n P S) H T X Z (chn ru n) ru ty cl sp ca co p 0 ((z - sP S p 0) - z) (by first | assumption | omega | decide) (by first | assumption | omega | decide)) mX5_adds dX5_spend_83 tb_824 pX5_adds ⟨Nat.le_of_ble_eq_true rfl, Nat.le_of_ble_eq_true rfl⟩ ⟨rfl, rfl⟩ ⟨Nat.zero_le _, Nat.zero_le _⟩ rfl (Nat.le_of_ble_eq_true rfl) [0, 1, 2, 3, 4, 5, 6, 7, 8] [] rfl rfl (by decide) (by decide) (by decide) rfl rfl [0, 1, 2, 3, 4, 5, 6, 7, 8] (by decide) (wM K m q1 q2 q3 q4 q5 q6 q7 q8 (aP S p 0 ((z - sP S p 0) - z)) (chP ru n P S) H T X Z (chn ru n) ru ty cl sp ca co) rfl ?_
              refine gx_aload_n (pc := 86) hB dX5_spend_86 2 rfl ?_
              refine gx_iload_n (pc := 87) hB dX5_spend_87 3 rfl ?_
              refine gx_iconst (pc := 88) hB dX5_spend_88 3 (by decide) ?_
              refine gx_iload_n (pc := 89) hB dX5_spend_89 4 rfl ?_
              refine gx_dVv (pc := 90) (wr := []) hB (c_X5_adds l K m q1 q2 q3 q4 q5 q6 q7 q8 (aP S p 0 ((z - sP S p 0) - z)) (chP ru n P S) H T X Z (chn ru n) ru ty cl sp ca co p 3 z (by first | assumption | omega | decide) (by first | assumption | omega | decide)) mX5_adds dX5_spend_90 tb_824 pX5_adds ⟨Nat.le_of_ble_eq_true rfl, Nat.le_of_ble_eq_true rfl⟩ ⟨rfl, rfl⟩ ⟨Nat.zero_le _, Nat.zero_le _⟩ rfl (Nat.le_of_ble_eq_true rfl) [0, 1, 2, 3, 4, 5, 6, 7, 8] [] rfl rfl (by decide) (by decide) (by decide) rfl rfl [0, 1, 2, 3, 4, 5, 6, 7, 8] (by decide) (wM K m q1 q2 q3 q4 q5 q6 q7 q8 (aP (aP S p 0 ((z - sP S p 0) - z)) p 3 z) (chP ru n P S) H T X Z (chn ru n) ru ty cl sp ca co) rfl ?_
              refine gx_aload_n (pc := 93) hB dX5_spend_93 2 rfl ?_
              refine gx_iload_n (pc := 94) hB dX5_spend_94 3 rfl ?_
              refine gx_iconst (pc := 95) hB dX5_spend_95 4 (by decide) ?_
              refine gx_iload (pc := 96) hB dX5_spend_96 0 rfl ?_
              refine gx_dVv (pc := 98) (wr := []) hB (c_X5_adds l K m q1 q2 q3 q4 q5 q6 q7 q8 (aP (aP S p 0 ((z - sP S p 0) - z)) p 3 z) (chP ru n P S) H T X Z (chn ru n) ru ty cl sp ca co p 4 (z - sP S p 0) (by first | assumption | omega | decide) (by first | assumption | omega | decide)) mX5_adds dX5_spend_98 tb_824 pX5_adds ⟨Nat.le_of_ble_eq_true rfl, Nat.le_of_ble_eq_true rfl⟩ ⟨rfl, rfl⟩ ⟨Nat.zero_le _, Nat.zero_le _⟩ rfl (Nat.le_of_ble_eq_true rfl) [0, 1, 2, 3, 4, 5, 6, 7, 8] [] rfl rfl (by decide) (by decide) (by decide) rfl rfl [0, 1, 2, 3, 4, 5, 6, 7, 8] (by decide) (wM K m q1 q2 q3 q4 q5 q6 q7 q8 (aP (aP (aP S p 0 ((z - sP S p 0) - z)) p 3 z) p 4 (z - sP S p 0)) (chP ru n P S) H T X Z (chn ru n) ru ty cl sp ca co) rfl ?_
              refine gx_aload_n (pc := 101) hB dX5_spend_101 2 rfl ?_
              refine gx_iconst (pc := 102) hB dX5_spend_102 0 (by decide) ?_
              refine gx_iconst (pc := 103) hB dX5_spend_103 0 (by decide) ?_
              refine gx_iload (pc := 104) hB dX5_spend_104 0 rfl ?_
              refine gx_ineg (pc := 106) hB dX5_spend_106 ?_
              refine gx_dVv (pc := 107) (wr := []) hB (c_X5_adds l K m q1 q2 q3 q4 q5 q6 q7 q8 (aP (aP (aP S p 0 ((z - sP S p 0) - z)) p 3 z) p 4 (z - sP S p 0)) (chP ru n P S) H T X Z (chn ru n) ru ty cl sp ca co 0 0 (-(z - sP S p 0)) (by first | assumption | omega | decide) (by first | assumption | omega | decide)) mX5_adds dX5_spend_107 tb_824 pX5_adds ⟨Nat.le_of_ble_eq_true rfl, Nat.le_of_ble_eq_true rfl⟩ ⟨rfl, rfl⟩ ⟨Nat.zero_le _, Nat.zero_le _⟩ rfl (Nat.le_of_ble_eq_true rfl) [0, 1, 2, 3, 4, 5, 6, 7, 8] [] rfl rfl (by decide) (by decide) (by decide) rfl rfl [0, 1, 2, 3, 4, 5, 6, 7, 8] (by decide) (wM K m q1 q2 q3 q4 q5 q6 q7 q8 (aP (aP (aP (aP S p 0 ((z - sP S p 0) - z)) p 3 z) p 4 (z - sP S p 0)) 0 0 (-(z - sP S p 0))) (chP ru n P S) H T X Z (chn ru n) ru ty cl sp ca co) rfl ?_
              refine gx_aload_n (pc := 110) hB dX5_spend_110 2 rfl ?_
              refine gx_iconst (pc := 111) hB dX5_spend_111 0 (by decide) ?_
              refine gx_bipush (pc := 112) hB dX5_spend_112 10 (by decide) ?_
              refine gx_iload (pc := 114) hB dX5_spend_114 0 rfl ?_
              refine gx_dVv (pc := 116) (wr := []) hB (c_X5_adds l K m q1 q2 q3 q4 q5 q6 q7 q8 (aP (aP (aP (aP S p 0 ((z - sP S p 0) - z)) p 3 z) p 4 (z - sP S p 0)) 0 0 (-(z - sP S p 0))) (chP ru n P S) H T X Z (chn ru n) ru ty cl sp ca co 0 10 (z - sP S p 0) (by first | assumption | omega | decide) (by first | assumption | omega | decide)) mX5_adds dX5_spend_116 tb_824 pX5_adds ⟨Nat.le_of_ble_eq_true rfl, Nat.le_of_ble_eq_true rfl⟩ ⟨rfl, rfl⟩ ⟨Nat.zero_le _, Nat.zero_le _⟩ rfl (Nat.le_of_ble_eq_true rfl) [0, 1, 2, 3, 4, 5, 6, 7, 8] [] rfl rfl (by decide) (by decide) (by decide) rfl rfl [0, 1, 2, 3, 4, 5, 6, 7, 8] (by decide) (wM K m q1 q2 q3 q4 q5 q6 q7 q8 (aP (aP (aP (aP (aP S p 0 ((z - sP S p 0) - z)) p 3 z) p 4 (z - sP S p 0)) 0 0 (-(z - sP S p 0))) 0 10 (z - sP S p 0)) (chP ru n P S) H T X Z (chn ru n) ru ty cl sp ca co) rfl ?_
              refine gx_iload (pc := 119) hB dX5_spend_119 0 rfl ?_
              have e1 : ((mSpend S (nI p) z).1) = (z - sP S p 0) := by simp [mSpend, mSpendH, mSpendS, kpP, kpn, c_1, s_p, c_2, Int32.not_le.mp c_3, eq_false c_3, c_8, eq_false c_9, c_10, eq_false (Int32.not_lt.mpr c_10)]
              have f0 : ((mSpend S (nI p) z).2.2) = (aP (aP (aP (aP (aP S p 0 ((z - sP S p 0) - z)) p 3 z) p 4 (z - sP S p 0)) 0 0 (-(z - sP S p 0))) 0 10 (z - sP S p 0)) := by simp [mSpend, mSpendH, mSpendS, kpP, kpn, c_1, s_p, c_2, Int32.not_le.mp c_3, eq_false c_3, c_8, eq_false c_9, c_10, eq_false (Int32.not_lt.mpr c_10)]
              have f1 : (kpP (mSpend S (nI p) z).2.1 ru n P S) = chP ru n P S := by simp [mSpend, mSpendH, mSpendS, kpP, kpn, c_1, s_p, c_2, Int32.not_le.mp c_3, eq_false c_3, c_8, eq_false c_9, c_10, eq_false (Int32.not_lt.mpr c_10)]
              have f2 : (kpn (mSpend S (nI p) z).2.1 ru n) = chn ru n := by simp [mSpend, mSpendH, mSpendS, kpP, kpn, c_1, s_p, c_2, Int32.not_le.mp c_3, eq_false c_3, c_8, eq_false c_9, c_10, eq_false (Int32.not_lt.mpr c_10)]
              exact gx_iret (pc := 121) hC dX5_spend_121 (Nat.zero_le _) (Nat.zero_le _) (⟨by rw [e1], by rw [f0, f1, f2]⟩)
            · refine gx_bipush (pc := 69) hB dX5_spend_69 (-2) (by decide) ?_
              have e1 : ((mSpend S (nI p) z).1) = (-2) := by simp [mSpend, mSpendH, mSpendS, kpP, kpn, c_1, s_p, c_2, Int32.not_le.mp c_3, eq_false c_3, c_8, eq_false c_9, Int32.not_le.mp c_10, eq_false c_10]
              have f0 : ((mSpend S (nI p) z).2.2) = S := by simp [mSpend, mSpendH, mSpendS, kpP, kpn, c_1, s_p, c_2, Int32.not_le.mp c_3, eq_false c_3, c_8, eq_false c_9, Int32.not_le.mp c_10, eq_false c_10]
              have f1 : (kpP (mSpend S (nI p) z).2.1 ru n P S) = P := by simp [mSpend, mSpendH, mSpendS, kpP, kpn, c_1, s_p, c_2, Int32.not_le.mp c_3, eq_false c_3, c_8, eq_false c_9, Int32.not_le.mp c_10, eq_false c_10]
              have f2 : (kpn (mSpend S (nI p) z).2.1 ru n) = n := by simp [mSpend, mSpendH, mSpendS, kpP, kpn, c_1, s_p, c_2, Int32.not_le.mp c_3, eq_false c_3, c_8, eq_false c_9, Int32.not_le.mp c_10, eq_false c_10]
              exact gx_iret (pc := 71) hC dX5_spend_71 (Nat.zero_le _) (Nat.zero_le _) (⟨by rw [e1], by rw [f0, f1, f2]⟩)
          · refine gx_iconst (pc := 56) hB dX5_spend_56 0 (by decide) ?_
            refine gx_goto (pc := 57) hB 66 dX5_spend_57 (by decide) ?_
            refine gx_icmp_le (pc := 66) hB 72 dX5_spend_66 (by decide) (fun c_11 => ?_) (fun c_11 => ?_)
            · refine gx_aload_n (pc := 72) hB dX5_spend_72 2 rfl ?_
              refine gx_dVv (pc := 73) (wr := []) hB (c_X5_changes l K m q1 q2 q3 q4 q5 q6 q7 q8 S P H T X Z n ru ty cl sp ca co (by first | assumption | omega | decide)) mX5_changes dX5_spend_73 tb_777 pX5_changes ⟨Nat.le_of_ble_eq_true rfl, Nat.le_of_ble_eq_true rfl⟩ ⟨rfl, rfl⟩ ⟨Nat.zero_le _, Nat.zero_le _⟩ rfl (Nat.le_of_ble_eq_true rfl) [0, 1, 2, 3, 4, 5, 6, 7, 8] [] rfl rfl (by decide) (by decide) (by decide) rfl rfl [0, 1, 2, 3, 4, 5, 6, 7, 8] (by decide) (wM K m q1 q2 q3 q4 q5 q6 q7 q8 S (chP ru n P S) H T X Z (chn ru n) ru ty cl sp ca co) rfl ?_
              refine gx_aload_n (pc := 76) hB dX5_spend_76 2 rfl ?_
              refine gx_iload_n (pc := 77) hB dX5_spend_77 3 rfl ?_
              refine gx_iconst (pc := 78) hB dX5_spend_78 0 (by decide) ?_
              refine gx_iload (pc := 79) hB dX5_spend_79 0 rfl ?_
              refine gx_iload_n (pc := 81) hB dX5_spend_81 4 rfl ?_
              refine gx_isub (pc := 82) hB dX5_spend_82 ?_
              refine gx_dVv (pc := 83) (wr := []) hB (c_X5_adds l K m q1 q2 q3 q4 q5 q6 q7 q8 S (chP ru n P S) H T X Z (chn ru n) ru ty cl sp ca co p 0 ((z - sP S p 0) - z) (by first | assumption | omega | decide) (by first | assumption | omega | decide)) mX5_adds dX5_spend_83 tb_824 pX5_adds ⟨Nat.le_of_ble_eq_true rfl, Nat.le_of_ble_eq_true rfl⟩ ⟨rfl, rfl⟩ ⟨Nat.zero_le _, Nat.zero_le _⟩ rfl (Nat.le_of_ble_eq_true rfl) [0, 1, 2, 3, 4, 5, 6, 7, 8] [] rfl rfl (by decide) (by decide) (by decide) rfl rfl [0, 1, 2, 3, 4, 5, 6, 7, 8] (by decide) (wM K m q1 q2 q3 q4 q5 q6 q7 q8 (aP S p 0 ((z - sP S p 0) - z)) (chP ru n P S) H T X Z (chn ru n) ru ty cl sp ca co) rfl ?_
              refine gx_aload_n (pc := 86) hB dX5_spend_86 2 rfl ?_
              refine gx_iload_n (pc := 87) hB dX5_spend_87 3 rfl ?_
              refine gx_iconst (pc := 88) hB dX5_spend_88 3 (by decide) ?_
              refine gx_iload_n (pc := 89) hB dX5_spend_89 4 rfl ?_
              refine gx_dVv (pc := 90) (wr := []) hB (c_X5_adds l K m q1 q2 q3 q4 q5 q6 q7 q8 (aP S p 0 ((z - sP S p 0) - z)) (chP ru n P S) H T X Z (chn ru n) ru ty cl sp ca co p 3 z (by first | assumption | omega | decide) (by first | assumption | omega | decide)) mX5_adds dX5_spend_90 tb_824 pX5_adds ⟨Nat.le_of_ble_eq_true rfl, Nat.le_of_ble_eq_true rfl⟩ ⟨rfl, rfl⟩ ⟨Nat.zero_le _, Nat.zero_le _⟩ rfl (Nat.le_of_ble_eq_true rfl) [0, 1, 2, 3, 4, 5, 6, 7, 8] [] rfl rfl (by decide) (by decide) (by decide) rfl rfl [0, 1, 2, 3, 4, 5, 6, 7, 8] (by decide) (wM K m q1 q2 q3 q4 q5 q6 q7 q8 (aP (aP S p 0 ((z - sP S p 0) - z)) p 3 z) (chP ru n P S) H T X Z (chn ru n) ru ty cl sp ca co) rfl ?_
              refine gx_aload_n (pc := 93) hB dX5_spend_93 2 rfl ?_
              refine gx_iload_n (pc := 94) hB dX5_spend_94 3 rfl ?_
              refine gx_iconst (pc := 95) hB dX5_spend_95 4 (by decide) ?_
              refine gx_iload (pc := 96) hB dX5_spend_96 0 rfl ?_
              refine gx_dVv (pc := 98) (wr := []) hB (c_X5_adds l K m q1 q2 q3 q4 q5 q6 q7 q8 (aP (aP S p 0 ((z - sP S p 0) - z)) p 3 z) (chP ru n P S) H T X Z (chn ru n) ru ty cl sp ca co p 4 (z - sP S p 0) (by first | assumption | omega | decide) (by first | assumption | omega | decide)) mX5_adds dX5_spend_98 tb_824 pX5_adds ⟨Nat.le_of_ble_eq_true rfl, Nat.le_of_ble_eq_true rfl⟩ ⟨rfl, rfl⟩ ⟨Nat.zero_le _, Nat.zero_le _⟩ rfl (Nat.le_of_ble_eq_true rfl) [0, 1, 2, 3, 4, 5, 6, 7, 8] [] rfl rfl (by decide) (by decide) (by decide) rfl rfl [0, 1, 2, 3, 4, 5, 6, 7, 8] (by decide) (wM K m q1 q2 q3 q4 q5 q6 q7 q8 (aP (aP (aP S p 0 ((z - sP S p 0) - z)) p 3 z) p 4 (z - sP S p 0)) (chP ru n P S) H T X Z (chn ru n) ru ty cl sp ca co) rfl ?_
              refine gx_aload_n (pc := 101) hB dX5_spend_101 2 rfl ?_
              refine gx_iconst (pc := 102) hB dX5_spend_102 0 (by decide) ?_
              refine gx_iconst (pc := 103) hB dX5_spend_103 0 (by decide) ?_
              refine gx_iload (pc := 104) hB dX5_spend_104 0 rfl ?_
              refine gx_ineg (pc := 106) hB dX5_spend_106 ?_
              refine gx_dVv (pc := 107) (wr := []) hB (c_X5_adds l K m q1 q2 q3 q4 q5 q6 q7 q8 (aP (aP (aP S p 0 ((z - sP S p 0) - z)) p 3 z) p 4 (z - sP S p 0)) (chP ru n P S) H T X Z (chn ru n) ru ty cl sp ca co 0 0 (-(z - sP S p 0)) (by first | assumption | omega | decide) (by first | assumption | omega | decide)) mX5_adds dX5_spend_107 tb_824 pX5_adds ⟨Nat.le_of_ble_eq_true rfl, Nat.le_of_ble_eq_true rfl⟩ ⟨rfl, rfl⟩ ⟨Nat.zero_le _, Nat.zero_le _⟩ rfl (Nat.le_of_ble_eq_true rfl) [0, 1, 2, 3, 4, 5, 6, 7, 8] [] rfl rfl (by decide) (by decide) (by decide) rfl rfl [0, 1, 2, 3, 4, 5, 6, 7, 8] (by decide) (wM K m q1 q2 q3 q4 q5 q6 q7 q8 (aP (aP (aP (aP S p 0 ((z - sP S p 0) - z)) p 3 z) p 4 (z - sP S p 0)) 0 0 (-(z - sP S p 0))) (chP ru n P S) H T X Z (chn ru n) ru ty cl sp ca co) rfl ?_
              refine gx_aload_n (pc := 110) hB dX5_spend_110 2 rfl ?_
              refine gx_iconst (pc := 111) hB dX5_spend_111 0 (by decide) ?_
              refine gx_bipush (pc := 112) hB dX5_spend_112 10 (by decide) ?_
              refine gx_iload (pc := 114) hB dX5_spend_114 0 rfl ?_
              refine gx_dVv (pc := 116) (wr := []) hB (c_X5_adds l K m q1 q2 q3 q4 q5 q6 q7 q8 (aP (aP (aP (aP S p 0 ((z - sP S p 0) - z)) p 3 z) p 4 (z - sP S p 0)) 0 0 (-(z - sP S p 0))) (chP ru n P S) H T X Z (chn ru n) ru ty cl sp ca co 0 10 (z - sP S p 0) (by first | assumption | omega | decide) (by first | assumption | omega | decide)) mX5_adds dX5_spend_116 tb_824 pX5_adds ⟨Nat.le_of_ble_eq_true rfl, Nat.le_of_ble_eq_true rfl⟩ ⟨rfl, rfl⟩ ⟨Nat.zero_le _, Nat.zero_le _⟩ rfl (Nat.le_of_ble_eq_true rfl) [0, 1, 2, 3, 4, 5, 6, 7, 8] [] rfl rfl (by decide) (by decide) (by decide) rfl rfl [0, 1, 2, 3, 4, 5, 6, 7, 8] (by decide) (wM K m q1 q2 q3 q4 q5 q6 q7 q8 (aP (aP (aP (aP (aP S p 0 ((z - sP S p 0) - z)) p 3 z) p 4 (z - sP S p 0)) 0 0 (-(z - sP S p 0))) 0 10 (z - sP S p 0)) (chP ru n P S) H T X Z (chn ru n) ru ty cl sp ca co) rfl ?_
              refine gx_iload (pc := 119) hB dX5_spend_119 0 rfl ?_
              have e1 : ((mSpend S (nI p) z).1) = (z - sP S p 0) := by simp [mSpend, mSpendH, mSpendS, kpP, kpn, c_1, s_p, c_2, Int32.not_le.mp c_3, eq_false c_3, c_8, eq_true c_9, c_11, eq_false (Int32.not_lt.mpr c_11)]
              have f0 : ((mSpend S (nI p) z).2.2) = (aP (aP (aP (aP (aP S p 0 ((z - sP S p 0) - z)) p 3 z) p 4 (z - sP S p 0)) 0 0 (-(z - sP S p 0))) 0 10 (z - sP S p 0)) := by simp [mSpend, mSpendH, mSpendS, kpP, kpn, c_1, s_p, c_2, Int32.not_le.mp c_3, eq_false c_3, c_8, eq_true c_9, c_11, eq_false (Int32.not_lt.mpr c_11)]
              have f1 : (kpP (mSpend S (nI p) z).2.1 ru n P S) = chP ru n P S := by simp [mSpend, mSpendH, mSpendS, kpP, kpn, c_1, s_p, c_2, Int32.not_le.mp c_3, eq_false c_3, c_8, eq_true c_9, c_11, eq_false (Int32.not_lt.mpr c_11)]
              have f2 : (kpn (mSpend S (nI p) z).2.1 ru n) = chn ru n := by simp [mSpend, mSpendH, mSpendS, kpP, kpn, c_1, s_p, c_2, Int32.not_le.mp c_3, eq_false c_3, c_8, eq_true c_9, c_11, eq_false (Int32.not_lt.mpr c_11)]
              exact gx_iret (pc := 121) hC dX5_spend_121 (Nat.zero_le _) (Nat.zero_le _) (⟨by rw [e1], by rw [f0, f1, f2]⟩)
            · refine gx_bipush (pc := 69) hB dX5_spend_69 (-2) (by decide) ?_
              have e1 : ((mSpend S (nI p) z).1) = (-2) := by simp [mSpend, mSpendH, mSpendS, kpP, kpn, c_1, s_p, c_2, Int32.not_le.mp c_3, eq_false c_3, c_8, eq_true c_9, Int32.not_le.mp c_11, eq_false c_11]
              have f0 : ((mSpend S (nI p) z).2.2) = S := by simp [mSpend, mSpendH, mSpendS, kpP, kpn, c_1, s_p, c_2, Int32.not_le.mp c_3, eq_false c_3, c_8, eq_true c_9, Int32.not_le.mp c_11, eq_false c_11]
              have f1 : (kpP (mSpend S (nI p) z).2.1 ru n P S) = P := by simp [mSpend, mSpendH, mSpendS, kpP, kpn, c_1, s_p, c_2, Int32.not_le.mp c_3, eq_false c_3, c_8, eq_true c_9, Int32.not_le.mp c_11, eq_false c_11]
              have f2 : (kpn (mSpend S (nI p) z).2.1 ru n) = n := by simp [mSpend, mSpendH, mSpendS, kpP, kpn, c_1, s_p, c_2, Int32.not_le.mp c_3, eq_false c_3, c_8, eq_true c_9, Int32.not_le.mp c_11, eq_false c_11]
              exact gx_iret (pc := 71) hC dX5_spend_71 (Nat.zero_le _) (Nat.zero_le _) (⟨by rw [e1], by rw [f0, f1, f2]⟩)
    · refine gx_iconst (pc := 19) hB dX5_spend_19 (-1) (by decide) ?_
      have e1 : ((mSpend S (nI p) z).1) = (-1) := by simp [mSpend, mSpendH, mSpendS, kpP, kpn, c_1, s_p, c_2]
      have f0 : ((mSpend S (nI p) z).2.2) = S := by simp [mSpend, mSpendH, mSpendS, kpP, kpn, c_1, s_p, c_2]
      have f1 : (kpP (mSpend S (nI p) z).2.1 ru n P S) = P := by simp [mSpend, mSpendH, mSpendS, kpP, kpn, c_1, s_p, c_2]
      have f2 : (kpn (mSpend S (nI p) z).2.1 ru n) = n := by simp [mSpend, mSpendH, mSpendS, kpP, kpn, c_1, s_p, c_2]
      exact gx_iret (pc := 20) hC dX5_spend_20 (Nat.zero_le _) (Nat.zero_le _) (⟨by rw [e1], by rw [f0, f1, f2]⟩)
theorem pX5_weight : (parseMethodDescriptor yX5_weight.desc).map (fun d => d.parameters.length) = some 2 := by decide +kernel
theorem mX5_weight : gx_M yX5_weight cX5_weight 6 (some .int) := ⟨tb_900, tb_53, tb_73, tb_901, by decide, by decide⟩
set_option maxHeartbeats 4000000 in
set_option maxRecDepth 100000 in
theorem c_X5_weight (l : Launch) (K : gx_K) (m q1 q2 q3 q4 q5 q6 q7 q8 : Nat) (S P H T X Z : Nat → Int32) (n : Nat) (ru : Bool) (ty : Nat) (cl : Int32) (sp : Nat) (ca : Int32) (co : Nat) (c : Nat) (x y : Int32) (h0 : S 4 = nI c) (h1 : c ≤ 24) : gx_Ctr l K yX5_weight cX5_weight 6 (some .int) (rmm 2 22) [.ref m, .int x, .int y] (wM K m q1 q2 q3 q4 q5 q6 q7 q8 S P H T X Z n ru ty cl sp ca co) (gx_D (some (.int (mWtN S x y c))) (wM K m q1 q2 q3 q4 q5 q6 q7 q8 S P H T X Z n ru ty cl sp ca co)) := by
  refine gx_of (by decide) (Nat.le_of_ble_eq_true rfl) (fun G hC => ?_)
  have hB := hC.b
  refine gx_lv (lv' := [(0, .ref m), (1, .int x), (2, .int y)]) rfl ?_
  refine gx_iconst (pc := 0) hB dX5_weight_0 0 (by decide) ?_
  refine gx_istore_n (pc := 1) hB dX5_weight_1 (by decide) [(3, .int 0), (0, .ref m), (1, .int x), (2, .int y)] rfl ?_
  refine gx_iconst (pc := 2) hB dX5_weight_2 0 (by decide) ?_
  refine gx_istore (pc := 3) hB dX5_weight_3 (by decide) [(4, .int 0), (3, .int 0), (0, .ref m), (1, .int x), (2, .int y)] rfl ?_
  have loop_5 : ∀ dq i : Nat, i + dq = c → G 0 0 (wM K m q1 q2 q3 q4 q5 q6 q7 q8 S P H T X Z n ru ty cl sp ca co) [(0, .ref m), (1, .int x), (2, .int y), (3, .int (mWtN S x y i)), (4, .int (nI i))] 5 [] := by
    intro dq
    induction dq with
    | zero =>
      intro i hi5
      obtain rfl : c = i := by omega
      refine gx_iload (pc := 5) hB dX5_weight_5 4 rfl ?_
      refine gx_aload_n (pc := 7) hB dX5_weight_7 0 rfl ?_
      refine gx_get (pc := 8) hB dX5_weight_8 inX5 rfl 0 rfl 0 (by decide) tb_726 rfl rfl ?_
      refine gx_iconst (pc := 11) hB dX5_weight_11 4 (by decide) ?_
      refine gx_iald (pc := 12) hB dX5_weight_12 1 1 rfl rfl 4 rfl (by decide) (by decide) ?_
      refine gx_top (show S 4 = nI c from h0) ?_
      refine gx_icmp_ge (pc := 13) hB 80 dX5_weight_13 (by decide) (fun c_1 => ?_) (fun c_1 => ?_)
      · refine gx_iload_n (pc := 80) hB dX5_weight_80 3 rfl ?_
        exact gx_iret (pc := 81) hC dX5_weight_81 (Nat.zero_le _) (Nat.zero_le _) (⟨rfl, rfl⟩)
      · exact absurd (lpTn (c := c) (by omega) hi5) c_1
    | succ dq ih5 =>
      intro i hi5
      refine gx_iload (pc := 5) hB dX5_weight_5 4 rfl ?_
      refine gx_aload_n (pc := 7) hB dX5_weight_7 0 rfl ?_
      refine gx_get (pc := 8) hB dX5_weight_8 inX5 rfl 0 rfl 0 (by decide) tb_726 rfl rfl ?_
      refine gx_iconst (pc := 11) hB dX5_weight_11 4 (by decide) ?_
      refine gx_iald (pc := 12) hB dX5_weight_12 1 1 rfl rfl 4 rfl (by decide) (by decide) ?_
      refine gx_top (show S 4 = nI c from h0) ?_
      refine gx_icmp_ge (pc := 13) hB 80 dX5_weight_13 (by decide) (fun c_2 => ?_) (fun c_2 => ?_)
      · exact absurd c_2 (lpFn (c := c) (by omega) hi5)
      · refine gx_aload_n (pc := 16) hB dX5_weight_16 0 rfl ?_
        refine gx_iload (pc := 17) hB dX5_weight_17 4 rfl ?_
        refine gx_iconst (pc := 19) hB dX5_weight_19 0 (by decide) ?_
        refine gx_dVi (pc := 20) (r := sG S i 0) (wr := []) hB (c_X5_ofGift l K m q1 q2 q3 q4 q5 q6 q7 q8 S P H T X Z n ru ty cl sp ca co i 0 (by first | assumption | omega | decide) (by first | assumption | omega | decide)) mX5_ofGift dX5_weight_20 tb_867 pX5_ofGift ⟨Nat.le_of_ble_eq_true rfl, Nat.le_of_ble_eq_true rfl⟩ ⟨rfl, rfl⟩ ⟨Nat.zero_le _, Nat.zero_le _⟩ rfl (Nat.le_of_ble_eq_true rfl) [0, 1, 2, 3, 4, 5, 6, 7, 8] [] rfl rfl (by decide) (by decide) (by decide) rfl rfl [0, 1, 2, 3, 4, 5, 6, 7, 8] (by decide) (wM K m q1 q2 q3 q4 q5 q6 q7 q8 S P H T X Z n ru ty cl sp ca co) rfl ?_
        refine gx_iload_n (pc := 23) hB dX5_weight_23 1 rfl ?_
        refine gx_icmp_ne (pc := 24) hB 52 dX5_weight_24 (by decide) (fun c_3 => ?_) (fun c_3 => ?_)
        · refine gx_iconst (pc := 52) hB dX5_weight_52 0 (by decide) ?_
          refine gx_istore (pc := 53) hB dX5_weight_53 (by decide) [(5, .int 0), (0, .ref m), (1, .int x), (2, .int y), (3, .int (mWtN S x y i)), (4, .int (nI i))] rfl ?_
          refine gx_iload_n (pc := 55) hB dX5_weight_55 4 rfl ?_
          refine gx_iload (pc := 56) hB dX5_weight_56 0 rfl ?_
          refine gx_if_eq (pc := 58) hB 71 dX5_weight_58 (by decide) (fun c_4 => ?_) (fun c_4 => ?_)
          · refine gx_iconst (pc := 71) hB dX5_weight_71 0 (by decide) ?_
            refine gx_iadd (pc := 72) hB dX5_weight_72 ?_
            refine gx_top (show mWtN S x y i + 0 = (mWtN S x y i) from Int32.add_zero _) ?_
            refine gx_istore_n (pc := 73) hB dX5_weight_73 (by decide) [(3, .int (mWtN S x y i)), (5, .int 0), (0, .ref m), (1, .int x), (2, .int y), (4, .int (nI i))] rfl ?_
            refine gx_iinc (pc := 74) hB dX5_weight_74 5 (by decide) rfl (nI (i + 1)) (nI_1 _) [(4, .int (nI (i + 1))), (3, .int (mWtN S x y i)), (5, .int 0), (0, .ref m), (1, .int x), (2, .int y)] rfl ?_
            refine gx_goto (pc := 77) hB 5 dX5_weight_77 (by decide) ?_
            have g3 : mWtN S x y i = mWtN S x y (i + 1) := by simp [mWtN, Int32.not_le.mp c_2, eq_false c_2, eq_false c_3]
            refine gx_sub hB (lv' := [(0, .ref m), (1, .int x), (2, .int y), (3, .int (mWtN S x y i)), (4, .int (nI (i + 1)))]) [3, 4, 5, 1, 0] rfl ?_
            refine gx_all (ws' := wM K m q1 q2 q3 q4 q5 q6 q7 q8 S P H T X Z n ru ty cl sp ca co) (lv' := [(0, .ref m), (1, .int x), (2, .int y), (3, .int (mWtN S x y (i + 1))), (4, .int (nI (i + 1)))]) (rfl) (by rw [← g3]) ?_
            exact ih5 (i + 1) (by omega)
          · exact absurd c_4 (by decide)
        · refine gx_aload_n (pc := 27) hB dX5_weight_27 0 rfl ?_
          refine gx_iload (pc := 28) hB dX5_weight_28 4 rfl ?_
          refine gx_iconst (pc := 30) hB dX5_weight_30 1 (by decide) ?_
          refine gx_dVi (pc := 31) (r := sG S i 1) (wr := []) hB (c_X5_ofGift l K m q1 q2 q3 q4 q5 q6 q7 q8 S P H T X Z n ru ty cl sp ca co i 1 (by first | assumption | omega | decide) (by first | assumption | omega | decide)) mX5_ofGift dX5_weight_31 tb_867 pX5_ofGift ⟨Nat.le_of_ble_eq_true rfl, Nat.le_of_ble_eq_true rfl⟩ ⟨rfl, rfl⟩ ⟨Nat.zero_le _, Nat.zero_le _⟩ rfl (Nat.le_of_ble_eq_true rfl) [0, 1, 2, 3, 4, 5, 6, 7, 8] [] rfl rfl (by decide) (by decide) (by decide) rfl rfl [0, 1, 2, 3, 4, 5, 6, 7, 8] (by decide) (wM K m q1 q2 q3 q4 q5 q6 q7 q8 S P H T X Z n ru ty cl sp ca co) rfl ?_
          refine gx_iload_n (pc := 34) hB dX5_weight_34 2 rfl ?_
          refine gx_icmp_ne (pc := 35) hB 52 dX5_weight_35 (by decide) (fun c_5 => ?_) (fun c_5 => ?_)
          · refine gx_iconst (pc := 52) hB dX5_weight_52 0 (by decide) ?_
            refine gx_istore (pc := 53) hB dX5_weight_53 (by decide) [(5, .int 0), (0, .ref m), (1, .int x), (2, .int y), (3, .int (mWtN S x y i)), (4, .int (nI i))] rfl ?_
            refine gx_iload_n (pc := 55) hB dX5_weight_55 4 rfl ?_
            refine gx_iload (pc := 56) hB dX5_weight_56 0 rfl ?_
            refine gx_if_eq (pc := 58) hB 71 dX5_weight_58 (by decide) (fun c_6 => ?_) (fun c_6 => ?_)
            · refine gx_iconst (pc := 71) hB dX5_weight_71 0 (by decide) ?_
              refine gx_iadd (pc := 72) hB dX5_weight_72 ?_
              refine gx_top (show mWtN S x y i + 0 = (mWtN S x y i) from Int32.add_zero _) ?_
              refine gx_istore_n (pc := 73) hB dX5_weight_73 (by decide) [(3, .int (mWtN S x y i)), (5, .int 0), (0, .ref m), (1, .int x), (2, .int y), (4, .int (nI i))] rfl ?_
              refine gx_iinc (pc := 74) hB dX5_weight_74 5 (by decide) rfl (nI (i + 1)) (nI_1 _) [(4, .int (nI (i + 1))), (3, .int (mWtN S x y i)), (5, .int 0), (0, .ref m), (1, .int x), (2, .int y)] rfl ?_
              refine gx_goto (pc := 77) hB 5 dX5_weight_77 (by decide) ?_
              have g3 : mWtN S x y i = mWtN S x y (i + 1) := by simp [mWtN, Int32.not_le.mp c_2, eq_false c_2, eq_true c_3, eq_false c_5]
              refine gx_sub hB (lv' := [(0, .ref m), (1, .int x), (2, .int y), (3, .int (mWtN S x y i)), (4, .int (nI (i + 1)))]) [3, 4, 5, 1, 0] rfl ?_
              refine gx_all (ws' := wM K m q1 q2 q3 q4 q5 q6 q7 q8 S P H T X Z n ru ty cl sp ca co) (lv' := [(0, .ref m), (1, .int x), (2, .int y), (3, .int (mWtN S x y (i + 1))), (4, .int (nI (i + 1)))]) (rfl) (by rw [← g3]) ?_
              exact ih5 (i + 1) (by omega)
            · exact absurd c_6 (by decide)
          · refine gx_aload_n (pc := 38) hB dX5_weight_38 0 rfl ?_
            refine gx_iload (pc := 39) hB dX5_weight_39 4 rfl ?_
            refine gx_iconst (pc := 41) hB dX5_weight_41 5 (by decide) ?_
            refine gx_dVi (pc := 42) (r := sG S i 5) (wr := []) hB (c_X5_ofGift l K m q1 q2 q3 q4 q5 q6 q7 q8 S P H T X Z n ru ty cl sp ca co i 5 (by first | assumption | omega | decide) (by first | assumption | omega | decide)) mX5_ofGift dX5_weight_42 tb_867 pX5_ofGift ⟨Nat.le_of_ble_eq_true rfl, Nat.le_of_ble_eq_true rfl⟩ ⟨rfl, rfl⟩ ⟨Nat.zero_le _, Nat.zero_le _⟩ rfl (Nat.le_of_ble_eq_true rfl) [0, 1, 2, 3, 4, 5, 6, 7, 8] [] rfl rfl (by decide) (by decide) (by decide) rfl rfl [0, 1, 2, 3, 4, 5, 6, 7, 8] (by decide) (wM K m q1 q2 q3 q4 q5 q6 q7 q8 S P H T X Z n ru ty cl sp ca co) rfl ?_
            refine gx_if_ne (pc := 45) hB 52 dX5_weight_45 (by decide) (fun c_7 => ?_) (fun c_7 => ?_)
            · refine gx_iconst (pc := 52) hB dX5_weight_52 0 (by decide) ?_
              refine gx_istore (pc := 53) hB dX5_weight_53 (by decide) [(5, .int 0), (0, .ref m), (1, .int x), (2, .int y), (3, .int (mWtN S x y i)), (4, .int (nI i))] rfl ?_
              refine gx_iload_n (pc := 55) hB dX5_weight_55 4 rfl ?_
              refine gx_iload (pc := 56) hB dX5_weight_56 0 rfl ?_
              refine gx_if_eq (pc := 58) hB 71 dX5_weight_58 (by decide) (fun c_8 => ?_) (fun c_8 => ?_)
              · refine gx_iconst (pc := 71) hB dX5_weight_71 0 (by decide) ?_
                refine gx_iadd (pc := 72) hB dX5_weight_72 ?_
                refine gx_top (show mWtN S x y i + 0 = (mWtN S x y i) from Int32.add_zero _) ?_
                refine gx_istore_n (pc := 73) hB dX5_weight_73 (by decide) [(3, .int (mWtN S x y i)), (5, .int 0), (0, .ref m), (1, .int x), (2, .int y), (4, .int (nI i))] rfl ?_
                refine gx_iinc (pc := 74) hB dX5_weight_74 5 (by decide) rfl (nI (i + 1)) (nI_1 _) [(4, .int (nI (i + 1))), (3, .int (mWtN S x y i)), (5, .int 0), (0, .ref m), (1, .int x), (2, .int y)] rfl ?_
                refine gx_goto (pc := 77) hB 5 dX5_weight_77 (by decide) ?_
                have g3 : mWtN S x y i = mWtN S x y (i + 1) := by simp [mWtN, Int32.not_le.mp c_2, eq_false c_2, eq_true c_3, eq_true c_5, eq_false c_7]
                refine gx_sub hB (lv' := [(0, .ref m), (1, .int x), (2, .int y), (3, .int (mWtN S x y i)), (4, .int (nI (i + 1)))]) [3, 4, 5, 1, 0] rfl ?_
                refine gx_all (ws' := wM K m q1 q2 q3 q4 q5 q6 q7 q8 S P H T X Z n ru ty cl sp ca co) (lv' := [(0, .ref m), (1, .int x), (2, .int y), (3, .int (mWtN S x y (i + 1))), (4, .int (nI (i + 1)))]) (rfl) (by rw [← g3]) ?_
                exact ih5 (i + 1) (by omega)
              · exact absurd c_8 (by decide)
            · refine gx_iconst (pc := 48) hB dX5_weight_48 1 (by decide) ?_
              refine gx_goto (pc := 49) hB 53 dX5_weight_49 (by decide) ?_
              refine gx_istore (pc := 53) hB dX5_weight_53 (by decide) [(5, .int 1), (0, .ref m), (1, .int x), (2, .int y), (3, .int (mWtN S x y i)), (4, .int (nI i))] rfl ?_
              refine gx_iload_n (pc := 55) hB dX5_weight_55 4 rfl ?_
              refine gx_iload (pc := 56) hB dX5_weight_56 0 rfl ?_
              refine gx_if_eq (pc := 58) hB 71 dX5_weight_58 (by decide) (fun c_9 => ?_) (fun c_9 => ?_)
              · exact absurd c_9 (by decide)
              · refine gx_aload_n (pc := 61) hB dX5_weight_61 1 rfl ?_
                refine gx_iload (pc := 62) hB dX5_weight_62 5 rfl ?_
                refine gx_iconst (pc := 64) hB dX5_weight_64 2 (by decide) ?_
                refine gx_dVi (pc := 65) (r := sG S i 2) (wr := []) hB (c_X5_ofGift l K m q1 q2 q3 q4 q5 q6 q7 q8 S P H T X Z n ru ty cl sp ca co i 2 (by first | assumption | omega | decide) (by first | assumption | omega | decide)) mX5_ofGift dX5_weight_65 tb_867 pX5_ofGift ⟨Nat.le_of_ble_eq_true rfl, Nat.le_of_ble_eq_true rfl⟩ ⟨rfl, rfl⟩ ⟨Nat.zero_le _, Nat.zero_le _⟩ rfl (Nat.le_of_ble_eq_true rfl) [0, 1, 2, 3, 4, 5, 6, 7, 8] [] rfl rfl (by decide) (by decide) (by decide) rfl rfl [0, 1, 2, 3, 4, 5, 6, 7, 8] (by decide) (wM K m q1 q2 q3 q4 q5 q6 q7 q8 S P H T X Z n ru ty cl sp ca co) rfl ?_
                refine gx_goto (pc := 68) hB 72 dX5_weight_68 (by decide) ?_
                refine gx_iadd (pc := 72) hB dX5_weight_72 ?_
                refine gx_istore_n (pc := 73) hB dX5_weight_73 (by decide) [(3, .int (mWtN S x y i + sG S i 2)), (5, .int 1), (0, .ref m), (1, .int x), (2, .int y), (4, .int (nI i))] rfl ?_
                refine gx_iinc (pc := 74) hB dX5_weight_74 5 (by decide) rfl (nI (i + 1)) (nI_1 _) [(4, .int (nI (i + 1))), (3, .int (mWtN S x y i + sG S i 2)), (5, .int 1), (0, .ref m), (1, .int x), (2, .int y)] rfl ?_
                refine gx_goto (pc := 77) hB 5 dX5_weight_77 (by decide) ?_
                have g3 : mWtN S x y i + sG S i 2 = mWtN S x y (i + 1) := by simp [mWtN, Int32.not_le.mp c_2, eq_false c_2, eq_true c_3, eq_true c_5, eq_true c_7]
                refine gx_sub hB (lv' := [(0, .ref m), (1, .int x), (2, .int y), (3, .int (mWtN S x y i + sG S i 2)), (4, .int (nI (i + 1)))]) [3, 4, 5, 1, 0] rfl ?_
                refine gx_all (ws' := wM K m q1 q2 q3 q4 q5 q6 q7 q8 S P H T X Z n ru ty cl sp ca co) (lv' := [(0, .ref m), (1, .int x), (2, .int y), (3, .int (mWtN S x y (i + 1))), (4, .int (nI (i + 1)))]) (rfl) (by rw [← g3]) ?_
                exact ih5 (i + 1) (by omega)
  refine gx_sub hB (lv' := [(0, .ref m), (1, .int x), (2, .int y), (3, .int 0), (4, .int 0)]) [2, 3, 4, 1, 0] rfl ?_
  refine gx_all (ws' := wM K m q1 q2 q3 q4 q5 q6 q7 q8 S P H T X Z n ru ty cl sp ca co) (lv' := [(0, .ref m), (1, .int x), (2, .int y), (3, .int (mWtN S x y 0)), (4, .int (nI 0))]) (rfl) (rfl) ?_
  exact loop_5 (c) 0 (by omega)
theorem pX5_weights : (parseMethodDescriptor yX5_weights.desc).map (fun d => d.parameters.length) = some 2 := by decide +kernel
theorem mX5_weights : gx_M yX5_weights cX5_weights 5 (some .int) := ⟨tb_908, tb_54, tb_73, tb_909, by decide, by decide⟩
set_option maxHeartbeats 4000000 in
set_option maxRecDepth 100000 in
theorem c_X5_weights (l : Launch) (K : gx_K) (m q1 q2 q3 q4 q5 q6 q7 q8 : Nat) (S P H T X Z : Nat → Int32) (n : Nat) (ru : Bool) (ty : Nat) (cl : Int32) (sp : Nat) (ca : Int32) (co : Nat) (b c p : Nat) (y : Int32) (h0 : S 4 = nI c) (h1 : c ≤ 24) (h2 : S 3 = nI b) (h3 : b ≤ 8) (h4 : p < 6) : gx_Ctr l K yX5_weights cX5_weights 5 (some .int) (rmm 3 47) [.ref m, .int (nI p), .int y] (wM K m q1 q2 q3 q4 q5 q6 q7 q8 S P H T X Z n ru ty cl sp ca co) (gx_D (some (.int (mWsN S c p y b))) (wM K m q1 q2 q3 q4 q5 q6 q7 q8 S P H T X Z n ru ty cl sp ca co)) := by
  refine gx_of (by decide) (Nat.le_of_ble_eq_true rfl) (fun G hC => ?_)
  have hB := hC.b
  refine gx_lv (lv' := [(0, .ref m), (1, .int (nI p)), (2, .int y)]) rfl ?_
  refine gx_iconst (pc := 0) hB dX5_weights_0 0 (by decide) ?_
  refine gx_istore_n (pc := 1) hB dX5_weights_1 (by decide) [(3, .int 0), (0, .ref m), (1, .int (nI p)), (2, .int y)] rfl ?_
  refine gx_iconst (pc := 2) hB dX5_weights_2 0 (by decide) ?_
  refine gx_istore (pc := 3) hB dX5_weights_3 (by decide) [(4, .int 0), (3, .int 0), (0, .ref m), (1, .int (nI p)), (2, .int y)] rfl ?_
  have loop_5 : ∀ dq i : Nat, i + dq = b → G 0 0 (wM K m q1 q2 q3 q4 q5 q6 q7 q8 S P H T X Z n ru ty cl sp ca co) [(0, .ref m), (1, .int (nI p)), (2, .int y), (3, .int (mWsN S c p y i)), (4, .int (nI i))] 5 [] := by
    intro dq
    induction dq with
    | zero =>
      intro i hi5
      obtain rfl : b = i := by omega
      refine gx_iload (pc := 5) hB dX5_weights_5 4 rfl ?_
      refine gx_aload_n (pc := 7) hB dX5_weights_7 0 rfl ?_
      refine gx_get (pc := 8) hB dX5_weights_8 inX5 rfl 0 rfl 0 (by decide) tb_726 rfl rfl ?_
      refine gx_iconst (pc := 11) hB dX5_weights_11 3 (by decide) ?_
      refine gx_iald (pc := 12) hB dX5_weights_12 1 1 rfl rfl 3 rfl (by decide) (by decide) ?_
      refine gx_top (show S 3 = nI b from h2) ?_
      refine gx_icmp_ge (pc := 13) hB 53 dX5_weights_13 (by decide) (fun c_1 => ?_) (fun c_1 => ?_)
      · refine gx_iload_n (pc := 53) hB dX5_weights_53 3 rfl ?_
        exact gx_iret (pc := 54) hC dX5_weights_54 (Nat.zero_le _) (Nat.zero_le _) (⟨rfl, rfl⟩)
      · exact absurd (lpTn (c := b) (by omega) hi5) c_1
    | succ dq ih5 =>
      intro i hi5
      refine gx_iload (pc := 5) hB dX5_weights_5 4 rfl ?_
      refine gx_aload_n (pc := 7) hB dX5_weights_7 0 rfl ?_
      refine gx_get (pc := 8) hB dX5_weights_8 inX5 rfl 0 rfl 0 (by decide) tb_726 rfl rfl ?_
      refine gx_iconst (pc := 11) hB dX5_weights_11 3 (by decide) ?_
      refine gx_iald (pc := 12) hB dX5_weights_12 1 1 rfl rfl 3 rfl (by decide) (by decide) ?_
      refine gx_top (show S 3 = nI b from h2) ?_
      refine gx_icmp_ge (pc := 13) hB 53 dX5_weights_13 (by decide) (fun c_2 => ?_) (fun c_2 => ?_)
      · exact absurd c_2 (lpFn (c := b) (by omega) hi5)
      · refine gx_iload_n (pc := 16) hB dX5_weights_16 3 rfl ?_
        refine gx_iload_n (pc := 17) hB dX5_weights_17 2 rfl ?_
        refine gx_if_lt (pc := 18) hB 34 dX5_weights_18 (by decide) (fun c_3 => ?_) (fun c_3 => ?_)
        · refine gx_aload_n (pc := 34) hB dX5_weights_34 0 rfl ?_
          refine gx_iload (pc := 35) hB dX5_weights_35 4 rfl ?_
          refine gx_iload_n (pc := 37) hB dX5_weights_37 1 rfl ?_
          refine gx_dVi (pc := 38) (r := mWtN S (nI i) (nI p) c) (wr := []) hB (c_X5_weight l K m q1 q2 q3 q4 q5 q6 q7 q8 S P H T X Z n ru ty cl sp ca co c (nI i) (nI p) (by first | assumption | omega | decide) (by first | assumption | omega | decide)) mX5_weight dX5_weights_38 tb_898 pX5_weight ⟨Nat.le_of_ble_eq_true rfl, Nat.le_of_ble_eq_true rfl⟩ ⟨rfl, rfl⟩ ⟨Nat.zero_le _, Nat.zero_le _⟩ rfl (Nat.le_of_ble_eq_true rfl) [0, 1, 2, 3, 4, 5, 6, 7, 8] [] rfl rfl (by decide) (by decide) (by decide) rfl rfl [0, 1, 2, 3, 4, 5, 6, 7, 8] (by decide) (wM K m q1 q2 q3 q4 q5 q6 q7 q8 S P H T X Z n ru ty cl sp ca co) rfl ?_
          refine gx_goto (pc := 41) hB 45 dX5_weights_41 (by decide) ?_
          refine gx_iadd (pc := 45) hB dX5_weights_45 ?_
          refine gx_istore_n (pc := 46) hB dX5_weights_46 (by decide) [(3, .int (mWsN S c p y i + (mWtN S (nI i) (nI p) c))), (0, .ref m), (1, .int (nI p)), (2, .int y), (4, .int (nI i))] rfl ?_
          refine gx_iinc (pc := 47) hB dX5_weights_47 4 (by decide) rfl (nI (i + 1)) (nI_1 _) [(4, .int (nI (i + 1))), (3, .int (mWsN S c p y i + (mWtN S (nI i) (nI p) c))), (0, .ref m), (1, .int (nI p)), (2, .int y)] rfl ?_
          refine gx_goto (pc := 50) hB 5 dX5_weights_50 (by decide) ?_
          have g3 : mWsN S c p y i + (mWtN S (nI i) (nI p) c) = mWsN S c p y (i + 1) := by simp [mWsN, Int32.not_le.mp c_2, eq_false c_2, c_3, eq_false (Int32.not_le.mpr c_3)]
          refine gx_sub hB (lv' := [(0, .ref m), (1, .int (nI p)), (2, .int y), (3, .int (mWsN S c p y i + (mWtN S (nI i) (nI p) c))), (4, .int (nI (i + 1)))]) [2, 3, 4, 1, 0] rfl ?_
          refine gx_all (ws' := wM K m q1 q2 q3 q4 q5 q6 q7 q8 S P H T X Z n ru ty cl sp ca co) (lv' := [(0, .ref m), (1, .int (nI p)), (2, .int y), (3, .int (mWsN S c p y (i + 1))), (4, .int (nI (i + 1)))]) (rfl) (by rw [← g3]) ?_
          exact ih5 (i + 1) (by omega)
        · refine gx_aload_n (pc := 21) hB dX5_weights_21 0 rfl ?_
          refine gx_iload (pc := 22) hB dX5_weights_22 4 rfl ?_
          refine gx_iconst (pc := 24) hB dX5_weights_24 1 (by decide) ?_
          refine gx_iload_n (pc := 25) hB dX5_weights_25 1 rfl ?_
          refine gx_iadd (pc := 26) hB dX5_weights_26 ?_
          refine gx_top (show 1 + nI p = nI (1 + p) from nI_add 1 p) ?_
          refine gx_dVi (pc := 27) (r := sD S i (1 + p)) (wr := []) hB (c_X5_ofDonor l K m q1 q2 q3 q4 q5 q6 q7 q8 S P H T X Z n ru ty cl sp ca co i (1 + p) (by first | assumption | omega | decide) (by first | assumption | omega | decide)) mX5_ofDonor dX5_weights_27 tb_800 pX5_ofDonor ⟨Nat.le_of_ble_eq_true rfl, Nat.le_of_ble_eq_true rfl⟩ ⟨rfl, rfl⟩ ⟨Nat.zero_le _, Nat.zero_le _⟩ rfl (Nat.le_of_ble_eq_true rfl) [0, 1, 2, 3, 4, 5, 6, 7, 8] [] rfl rfl (by decide) (by decide) (by decide) rfl rfl [0, 1, 2, 3, 4, 5, 6, 7, 8] (by decide) (wM K m q1 q2 q3 q4 q5 q6 q7 q8 S P H T X Z n ru ty cl sp ca co) rfl ?_
          refine gx_iload_n (pc := 30) hB dX5_weights_30 2 rfl ?_
          refine gx_icmp_ne (pc := 31) hB 44 dX5_weights_31 (by decide) (fun c_4 => ?_) (fun c_4 => ?_)
          · refine gx_iconst (pc := 44) hB dX5_weights_44 0 (by decide) ?_
            refine gx_iadd (pc := 45) hB dX5_weights_45 ?_
            refine gx_top (show mWsN S c p y i + 0 = (mWsN S c p y i) from Int32.add_zero _) ?_
            refine gx_istore_n (pc := 46) hB dX5_weights_46 (by decide) [(3, .int (mWsN S c p y i)), (0, .ref m), (1, .int (nI p)), (2, .int y), (4, .int (nI i))] rfl ?_
            refine gx_iinc (pc := 47) hB dX5_weights_47 4 (by decide) rfl (nI (i + 1)) (nI_1 _) [(4, .int (nI (i + 1))), (3, .int (mWsN S c p y i)), (0, .ref m), (1, .int (nI p)), (2, .int y)] rfl ?_
            refine gx_goto (pc := 50) hB 5 dX5_weights_50 (by decide) ?_
            have g3 : mWsN S c p y i = mWsN S c p y (i + 1) := by simp [mWsN, Int32.not_le.mp c_2, eq_false c_2, Int32.not_lt.mp c_3, eq_false c_3, eq_false c_4]
            refine gx_sub hB (lv' := [(0, .ref m), (1, .int (nI p)), (2, .int y), (3, .int (mWsN S c p y i)), (4, .int (nI (i + 1)))]) [2, 3, 4, 1, 0] rfl ?_
            refine gx_all (ws' := wM K m q1 q2 q3 q4 q5 q6 q7 q8 S P H T X Z n ru ty cl sp ca co) (lv' := [(0, .ref m), (1, .int (nI p)), (2, .int y), (3, .int (mWsN S c p y (i + 1))), (4, .int (nI (i + 1)))]) (rfl) (by rw [← g3]) ?_
            exact ih5 (i + 1) (by omega)
          · refine gx_aload_n (pc := 34) hB dX5_weights_34 0 rfl ?_
            refine gx_iload (pc := 35) hB dX5_weights_35 4 rfl ?_
            refine gx_iload_n (pc := 37) hB dX5_weights_37 1 rfl ?_
            refine gx_dVi (pc := 38) (r := mWtN S (nI i) (nI p) c) (wr := []) hB (c_X5_weight l K m q1 q2 q3 q4 q5 q6 q7 q8 S P H T X Z n ru ty cl sp ca co c (nI i) (nI p) (by first | assumption | omega | decide) (by first | assumption | omega | decide)) mX5_weight dX5_weights_38 tb_898 pX5_weight ⟨Nat.le_of_ble_eq_true rfl, Nat.le_of_ble_eq_true rfl⟩ ⟨rfl, rfl⟩ ⟨Nat.zero_le _, Nat.zero_le _⟩ rfl (Nat.le_of_ble_eq_true rfl) [0, 1, 2, 3, 4, 5, 6, 7, 8] [] rfl rfl (by decide) (by decide) (by decide) rfl rfl [0, 1, 2, 3, 4, 5, 6, 7, 8] (by decide) (wM K m q1 q2 q3 q4 q5 q6 q7 q8 S P H T X Z n ru ty cl sp ca co) rfl ?_
            refine gx_goto (pc := 41) hB 45 dX5_weights_41 (by decide) ?_
            refine gx_iadd (pc := 45) hB dX5_weights_45 ?_
            refine gx_istore_n (pc := 46) hB dX5_weights_46 (by decide) [(3, .int (mWsN S c p y i + (mWtN S (nI i) (nI p) c))), (0, .ref m), (1, .int (nI p)), (2, .int y), (4, .int (nI i))] rfl ?_
            refine gx_iinc (pc := 47) hB dX5_weights_47 4 (by decide) rfl (nI (i + 1)) (nI_1 _) [(4, .int (nI (i + 1))), (3, .int (mWsN S c p y i + (mWtN S (nI i) (nI p) c))), (0, .ref m), (1, .int (nI p)), (2, .int y)] rfl ?_
            refine gx_goto (pc := 50) hB 5 dX5_weights_50 (by decide) ?_
            have g3 : mWsN S c p y i + (mWtN S (nI i) (nI p) c) = mWsN S c p y (i + 1) := by simp [mWsN, Int32.not_le.mp c_2, eq_false c_2, Int32.not_lt.mp c_3, eq_false c_3, eq_true c_4]
            refine gx_sub hB (lv' := [(0, .ref m), (1, .int (nI p)), (2, .int y), (3, .int (mWsN S c p y i + (mWtN S (nI i) (nI p) c))), (4, .int (nI (i + 1)))]) [2, 3, 4, 1, 0] rfl ?_
            refine gx_all (ws' := wM K m q1 q2 q3 q4 q5 q6 q7 q8 S P H T X Z n ru ty cl sp ca co) (lv' := [(0, .ref m), (1, .int (nI p)), (2, .int y), (3, .int (mWsN S c p y (i + 1))), (4, .int (nI (i + 1)))]) (rfl) (by rw [← g3]) ?_
            exact ih5 (i + 1) (by omega)
  refine gx_sub hB (lv' := [(0, .ref m), (1, .int (nI p)), (2, .int y), (3, .int 0), (4, .int 0)]) [2, 3, 4, 1, 0] rfl ?_
  refine gx_all (ws' := wM K m q1 q2 q3 q4 q5 q6 q7 q8 S P H T X Z n ru ty cl sp ca co) (lv' := [(0, .ref m), (1, .int (nI p)), (2, .int y), (3, .int (mWsN S c p y 0)), (4, .int (nI 0))]) (rfl) (rfl) ?_
  exact loop_5 (b) 0 (by omega)
theorem pX5_agree : (parseMethodDescriptor yX5_agree.desc).map (fun d => d.parameters.length) = some 3 := by decide +kernel
theorem mX5_agree : gx_M yX5_agree cX5_agree 4 (some .int) := ⟨tb_891, tb_892, tb_73, tb_893, by decide, by decide⟩
set_option maxHeartbeats 4000000 in
set_option maxRecDepth 100000 in
theorem c_X5_agree (l : Launch) (K : gx_K) (m q1 q2 q3 q4 q5 q6 q7 q8 : Nat) (S P H T X Z : Nat → Int32) (n : Nat) (ru : Bool) (ty : Nat) (cl : Int32) (sp : Nat) (ca : Int32) (co : Nat) (a b c e : Nat) (x y z : Int32) (h0 : sOk S a b c e) (h1 : n ≤ 4) : gx_Ctr l K yX5_agree cX5_agree 4 (some .int) (rmm 3 47) [.ref m, .int x, .int y, .int z] (wM K m q1 q2 q3 q4 q5 q6 q7 q8 S P H T X Z n ru ty cl sp ca co) (gx_D (some (.int ((mAgree S c x y z).1))) (wM K m q1 q2 q3 q4 q5 q6 q7 q8 ((mAgree S c x y z).2.2) (kpP (mAgree S c x y z).2.1 ru n P S) H T X Z (kpn (mAgree S c x y z).2.1 ru n) ru ty cl sp ca co)) := by
  refine gx_of (by decide) (Nat.le_of_ble_eq_true rfl) (fun G hC => ?_)
  have hB := hC.b
  refine gx_lv (lv' := [(0, .ref m), (1, .int x), (2, .int y), (3, .int z)]) rfl ?_
  have hb0 := h0.1
  refine gx_aload_n (pc := 0) hB dX5_agree_0 0 rfl ?_
  refine gx_iload_n (pc := 1) hB dX5_agree_1 1 rfl ?_
  refine gx_dVi (pc := 2) (r := bI (sIsD S x)) (wr := []) hB (c_X5_isDonor l K m q1 q2 q3 q4 q5 q6 q7 q8 S P H T X Z n ru ty cl sp ca co x ) mX5_isDonor dX5_agree_2 tb_793 pX5_isDonor ⟨Nat.le_of_ble_eq_true rfl, Nat.le_of_ble_eq_true rfl⟩ ⟨rfl, rfl⟩ ⟨Nat.zero_le _, Nat.zero_le _⟩ rfl (Nat.le_of_ble_eq_true rfl) [0, 1, 2, 3, 4, 5, 6, 7, 8] [] rfl rfl (by decide) (by decide) (by decide) rfl rfl [0, 1, 2, 3, 4, 5, 6, 7, 8] (by decide) (wM K m q1 q2 q3 q4 q5 q6 q7 q8 S P H T X Z n ru ty cl sp ca co) rfl ?_
  refine gx_if_eq_b (pc := 5) hB 17 dX5_agree_5 (by decide) (fun c_1 => ?_) (fun c_1 => ?_)
  · refine gx_iconst (pc := 17) hB dX5_agree_17 (-1) (by decide) ?_
    have e1 : ((mAgree S c x y z).1) = (-1) := by simp [mAgree, kpP, kpn, c_1]
    have f0 : ((mAgree S c x y z).2.2) = S := by simp [mAgree, kpP, kpn, c_1]
    have f1 : (kpP (mAgree S c x y z).2.1 ru n P S) = P := by simp [mAgree, kpP, kpn, c_1]
    have f2 : (kpn (mAgree S c x y z).2.1 ru n) = n := by simp [mAgree, kpP, kpn, c_1]
    exact gx_iret (pc := 18) hC dX5_agree_18 (Nat.zero_le _) (Nat.zero_le _) (⟨by rw [e1], by rw [f0, f1, f2]⟩)
  · obtain ⟨d, h_d, rfl⟩ := isD_of h0 c_1
    have s_d : (nI d).toNatClampNeg = d := nI_clamp (by omega)
    refine gx_aload_n (pc := 8) hB dX5_agree_8 0 rfl ?_
    refine gx_iload_n (pc := 9) hB dX5_agree_9 2 rfl ?_
    refine gx_iload_n (pc := 10) hB dX5_agree_10 3 rfl ?_
    refine gx_dVi (pc := 11) (r := bI (sTwo S y z)) (wr := []) hB (c_X5_areTwo l K m q1 q2 q3 q4 q5 q6 q7 q8 S P H T X Z n ru ty cl sp ca co y z ) mX5_areTwo dX5_agree_11 tb_894 pX5_areTwo ⟨Nat.le_of_ble_eq_true rfl, Nat.le_of_ble_eq_true rfl⟩ ⟨rfl, rfl⟩ ⟨Nat.zero_le _, Nat.zero_le _⟩ rfl (Nat.le_of_ble_eq_true rfl) [0, 1, 2, 3, 4, 5, 6, 7, 8] [] rfl rfl (by decide) (by decide) (by decide) rfl rfl [0, 1, 2, 3, 4, 5, 6, 7, 8] (by decide) (wM K m q1 q2 q3 q4 q5 q6 q7 q8 S P H T X Z n ru ty cl sp ca co) rfl ?_
    refine gx_if_ne_b (pc := 14) hB 19 dX5_agree_14 (by decide) (fun c_2 => ?_) (fun c_2 => ?_)
    · obtain ⟨p, h_p, rfl⟩ := isP_of h0 (two_of c_2).1
      have s_p : (nI p).toNatClampNeg = p := nI_clamp (by omega)
      obtain ⟨q, h_q, rfl⟩ := isP_of h0 (two_of c_2).2
      have s_q : (nI q).toNatClampNeg = q := nI_clamp (by omega)
      refine gx_aload_n (pc := 19) hB dX5_agree_19 0 rfl ?_
      refine gx_iload_n (pc := 20) hB dX5_agree_20 2 rfl ?_
      refine gx_dVi (pc := 21) (r := bI (sClosed S p)) (wr := []) hB (c_X5_isClosed l K m q1 q2 q3 q4 q5 q6 q7 q8 S P H T X Z n ru ty cl sp ca co p (by first | assumption | omega | decide)) mX5_isClosed dX5_agree_21 tb_812 pX5_isClosed ⟨Nat.le_of_ble_eq_true rfl, Nat.le_of_ble_eq_true rfl⟩ ⟨rfl, rfl⟩ ⟨Nat.zero_le _, Nat.zero_le _⟩ rfl (Nat.le_of_ble_eq_true rfl) [0, 1, 2, 3, 4, 5, 6, 7, 8] [] rfl rfl (by decide) (by decide) (by decide) rfl rfl [0, 1, 2, 3, 4, 5, 6, 7, 8] (by decide) (wM K m q1 q2 q3 q4 q5 q6 q7 q8 S P H T X Z n ru ty cl sp ca co) rfl ?_
      refine gx_if_ne_b (pc := 24) hB 39 dX5_agree_24 (by decide) (fun c_3 => ?_) (fun c_3 => ?_)
      · refine gx_bipush (pc := 39) hB dX5_agree_39 (-2) (by decide) ?_
        have e1 : ((mAgree S c (nI d) (nI p) (nI q)).1) = (-2) := by simp [mAgree, kpP, kpn, c_1, s_d, c_2, s_p, s_q, c_3]
        have f0 : ((mAgree S c (nI d) (nI p) (nI q)).2.2) = S := by simp [mAgree, kpP, kpn, c_1, s_d, c_2, s_p, s_q, c_3]
        have f1 : (kpP (mAgree S c (nI d) (nI p) (nI q)).2.1 ru n P S) = P := by simp [mAgree, kpP, kpn, c_1, s_d, c_2, s_p, s_q, c_3]
        have f2 : (kpn (mAgree S c (nI d) (nI p) (nI q)).2.1 ru n) = n := by simp [mAgree, kpP, kpn, c_1, s_d, c_2, s_p, s_q, c_3]
        exact gx_iret (pc := 41) hC dX5_agree_41 (Nat.zero_le _) (Nat.zero_le _) (⟨by rw [e1], by rw [f0, f1, f2]⟩)
      · refine gx_aload_n (pc := 27) hB dX5_agree_27 0 rfl ?_
        refine gx_iload_n (pc := 28) hB dX5_agree_28 3 rfl ?_
        refine gx_dVi (pc := 29) (r := bI (sClosed S q)) (wr := []) hB (c_X5_isClosed l K m q1 q2 q3 q4 q5 q6 q7 q8 S P H T X Z n ru ty cl sp ca co q (by first | assumption | omega | decide)) mX5_isClosed dX5_agree_29 tb_812 pX5_isClosed ⟨Nat.le_of_ble_eq_true rfl, Nat.le_of_ble_eq_true rfl⟩ ⟨rfl, rfl⟩ ⟨Nat.zero_le _, Nat.zero_le _⟩ rfl (Nat.le_of_ble_eq_true rfl) [0, 1, 2, 3, 4, 5, 6, 7, 8] [] rfl rfl (by decide) (by decide) (by decide) rfl rfl [0, 1, 2, 3, 4, 5, 6, 7, 8] (by decide) (wM K m q1 q2 q3 q4 q5 q6 q7 q8 S P H T X Z n ru ty cl sp ca co) rfl ?_
        refine gx_if_ne_b (pc := 32) hB 39 dX5_agree_32 (by decide) (fun c_4 => ?_) (fun c_4 => ?_)
        · refine gx_bipush (pc := 39) hB dX5_agree_39 (-2) (by decide) ?_
          have e1 : ((mAgree S c (nI d) (nI p) (nI q)).1) = (-2) := by simp [mAgree, kpP, kpn, c_1, s_d, c_2, s_p, s_q, c_3, c_4]
          have f0 : ((mAgree S c (nI d) (nI p) (nI q)).2.2) = S := by simp [mAgree, kpP, kpn, c_1, s_d, c_2, s_p, s_q, c_3, c_4]
          have f1 : (kpP (mAgree S c (nI d) (nI p) (nI q)).2.1 ru n P S) = P := by simp [mAgree, kpP, kpn, c_1, s_d, c_2, s_p, s_q, c_3, c_4]
          have f2 : (kpn (mAgree S c (nI d) (nI p) (nI q)).2.1 ru n) = n := by simp [mAgree, kpP, kpn, c_1, s_d, c_2, s_p, s_q, c_3, c_4]
          exact gx_iret (pc := 41) hC dX5_agree_41 (Nat.zero_le _) (Nat.zero_le _) (⟨by rw [e1], by rw [f0, f1, f2]⟩)
        · refine gx_iload_n (pc := 35) hB dX5_agree_35 2 rfl ?_
          refine gx_if_ne (pc := 36) hB 42 dX5_agree_36 (by decide) (fun c_5 => ?_) (fun c_5 => ?_)
          · refine gx_aload_n (pc := 42) hB dX5_agree_42 0 rfl ?_
            refine gx_dVv (pc := 43) (wr := []) hB (c_X5_changes l K m q1 q2 q3 q4 q5 q6 q7 q8 S P H T X Z n ru ty cl sp ca co (by first | assumption | omega | decide)) mX5_changes dX5_agree_43 tb_777 pX5_changes ⟨Nat.le_of_ble_eq_true rfl, Nat.le_of_ble_eq_true rfl⟩ ⟨rfl, rfl⟩ ⟨Nat.zero_le _, Nat.zero_le _⟩ rfl (Nat.le_of_ble_eq_true rfl) [0, 1, 2, 3, 4, 5, 6, 7, 8] [] rfl rfl (by decide) (by decide) (by decide) rfl rfl [0, 1, 2, 3, 4, 5, 6, 7, 8] (by decide) (wM K m q1 q2 q3 q4 q5 q6 q7 q8 S (chP ru n P S) H T X Z (chn ru n) ru ty cl sp ca co) rfl ?_
            refine gx_aload_n (pc := 46) hB dX5_agree_46 0 rfl ?_
            refine gx_iload_n (pc := 47) hB dX5_agree_47 1 rfl ?_
            refine gx_iconst (pc := 48) hB dX5_agree_48 1 (by decide) ?_
            refine gx_iload_n (pc := 49) hB dX5_agree_49 2 rfl ?_
            refine gx_iadd (pc := 50) hB dX5_agree_50 ?_
            refine gx_top (show 1 + nI p = nI (1 + p) from nI_add 1 p) ?_
            refine gx_iload_n (pc := 51) hB dX5_agree_51 3 rfl ?_
            refine gx_dVv (pc := 52) (wr := []) hB (c_X5_putsDonor l K m q1 q2 q3 q4 q5 q6 q7 q8 S (chP ru n P S) H T X Z (chn ru n) ru ty cl sp ca co d (1 + p) (nI q) (by first | assumption | omega | decide) (by first | assumption | omega | decide)) mX5_putsDonor dX5_agree_52 tb_781 pX5_putsDonor ⟨Nat.le_of_ble_eq_true rfl, Nat.le_of_ble_eq_true rfl⟩ ⟨rfl, rfl⟩ ⟨Nat.zero_le _, Nat.zero_le _⟩ rfl (Nat.le_of_ble_eq_true rfl) [0, 1, 2, 3, 4, 5, 6, 7, 8] [] rfl rfl (by decide) (by decide) (by decide) rfl rfl [0, 1, 2, 3, 4, 5, 6, 7, 8] (by decide) (wM K m q1 q2 q3 q4 q5 q6 q7 q8 (uD S d (1 + p) (nI q)) (chP ru n P S) H T X Z (chn ru n) ru ty cl sp ca co) rfl ?_
            refine gx_aload_n (pc := 55) hB dX5_agree_55 0 rfl ?_
            refine gx_iload_n (pc := 56) hB dX5_agree_56 1 rfl ?_
            refine gx_iload_n (pc := 57) hB dX5_agree_57 2 rfl ?_
            refine gx_dVi (pc := 58) (r := mWtN (uD S d (1 + p) (nI q)) (nI d) (nI p) c) (wr := []) hB (c_X5_weight l K m q1 q2 q3 q4 q5 q6 q7 q8 (uD S d (1 + p) (nI q)) (chP ru n P S) H T X Z (chn ru n) ru ty cl sp ca co c (nI d) (nI p) (by rw [uD_lo (by omega)]; exact h0.1.2.2.1) (by first | assumption | omega | decide)) mX5_weight dX5_agree_58 tb_898 pX5_weight ⟨Nat.le_of_ble_eq_true rfl, Nat.le_of_ble_eq_true rfl⟩ ⟨rfl, rfl⟩ ⟨Nat.zero_le _, Nat.zero_le _⟩ rfl (Nat.le_of_ble_eq_true rfl) [0, 1, 2, 3, 4, 5, 6, 7, 8] [] rfl rfl (by decide) (by decide) (by decide) rfl rfl [0, 1, 2, 3, 4, 5, 6, 7, 8] (by decide) (wM K m q1 q2 q3 q4 q5 q6 q7 q8 (uD S d (1 + p) (nI q)) (chP ru n P S) H T X Z (chn ru n) ru ty cl sp ca co) rfl ?_
            have e1 : ((mAgree S c (nI d) (nI p) (nI q)).1) = (mWtN (uD S d (1 + p) (nI q)) (nI d) (nI p) c) := by simp [mAgree, kpP, kpn, c_1, s_d, c_2, s_p, s_q, c_3, c_4, eq_false c_5]
            have f0 : ((mAgree S c (nI d) (nI p) (nI q)).2.2) = (uD S d (1 + p) (nI q)) := by simp [mAgree, kpP, kpn, c_1, s_d, c_2, s_p, s_q, c_3, c_4, eq_false c_5]
            have f1 : (kpP (mAgree S c (nI d) (nI p) (nI q)).2.1 ru n P S) = chP ru n P S := by simp [mAgree, kpP, kpn, c_1, s_d, c_2, s_p, s_q, c_3, c_4, eq_false c_5]
            have f2 : (kpn (mAgree S c (nI d) (nI p) (nI q)).2.1 ru n) = chn ru n := by simp [mAgree, kpP, kpn, c_1, s_d, c_2, s_p, s_q, c_3, c_4, eq_false c_5]
            exact gx_iret (pc := 61) hC dX5_agree_61 (Nat.zero_le _) (Nat.zero_le _) (⟨by rw [e1], by rw [f0, f1, f2]⟩)
          · refine gx_bipush (pc := 39) hB dX5_agree_39 (-2) (by decide) ?_
            have e1 : ((mAgree S c (nI d) (nI p) (nI q)).1) = (-2) := by simp [mAgree, kpP, kpn, c_1, s_d, c_2, s_p, s_q, c_3, c_4, eq_true c_5]
            have f0 : ((mAgree S c (nI d) (nI p) (nI q)).2.2) = S := by simp [mAgree, kpP, kpn, c_1, s_d, c_2, s_p, s_q, c_3, c_4, eq_true c_5]
            have f1 : (kpP (mAgree S c (nI d) (nI p) (nI q)).2.1 ru n P S) = P := by simp [mAgree, kpP, kpn, c_1, s_d, c_2, s_p, s_q, c_3, c_4, eq_true c_5]
            have f2 : (kpn (mAgree S c (nI d) (nI p) (nI q)).2.1 ru n) = n := by simp [mAgree, kpP, kpn, c_1, s_d, c_2, s_p, s_q, c_3, c_4, eq_true c_5]
            exact gx_iret (pc := 41) hC dX5_agree_41 (Nat.zero_le _) (Nat.zero_le _) (⟨by rw [e1], by rw [f0, f1, f2]⟩)
    · refine gx_iconst (pc := 17) hB dX5_agree_17 (-1) (by decide) ?_
      have e1 : ((mAgree S c (nI d) y z).1) = (-1) := by simp [mAgree, kpP, kpn, c_1, s_d, c_2]
      have f0 : ((mAgree S c (nI d) y z).2.2) = S := by simp [mAgree, kpP, kpn, c_1, s_d, c_2]
      have f1 : (kpP (mAgree S c (nI d) y z).2.1 ru n P S) = P := by simp [mAgree, kpP, kpn, c_1, s_d, c_2]
      have f2 : (kpn (mAgree S c (nI d) y z).2.1 ru n) = n := by simp [mAgree, kpP, kpn, c_1, s_d, c_2]
      exact gx_iret (pc := 18) hC dX5_agree_18 (Nat.zero_le _) (Nat.zero_le _) (⟨by rw [e1], by rw [f0, f1, f2]⟩)
theorem pX5_merge : (parseMethodDescriptor yX5_merge.desc).map (fun d => d.parameters.length) = some 2 := by decide +kernel
theorem mX5_merge : gx_M yX5_merge cX5_merge 6 (some .int) := ⟨tb_903, tb_904, tb_73, tb_905, by decide, by decide⟩
set_option maxHeartbeats 4000000 in
set_option maxRecDepth 100000 in
theorem c_X5_merge (l : Launch) (K : gx_K) (m q1 q2 q3 q4 q5 q6 q7 q8 : Nat) (S P H T X Z : Nat → Int32) (n : Nat) (ru : Bool) (ty : Nat) (cl : Int32) (sp : Nat) (ca : Int32) (co : Nat) (a b c e : Nat) (x y : Int32) (h0 : sOk S a b c e) (h1 : n ≤ 4) : gx_Ctr l K yX5_merge cX5_merge 6 (some .int) (rmm 4 71) [.ref m, .int x, .int y] (wM K m q1 q2 q3 q4 q5 q6 q7 q8 S P H T X Z n ru ty cl sp ca co) (gx_D (some (.int ((mMerge S b c e x y).1))) (wM K m q1 q2 q3 q4 q5 q6 q7 q8 ((mMerge S b c e x y).2.2) (kpP (mMerge S b c e x y).2.1 ru n P S) H T X Z (kpn (mMerge S b c e x y).2.1 ru n) ru ty cl sp ca co)) := by
  refine gx_of (by decide) (Nat.le_of_ble_eq_true rfl) (fun G hC => ?_)
  have hB := hC.b
  refine gx_lv (lv' := [(0, .ref m), (1, .int x), (2, .int y)]) rfl ?_
  have hb0 := h0.1
  refine gx_aload_n (pc := 0) hB dX5_merge_0 0 rfl ?_
  refine gx_iload_n (pc := 1) hB dX5_merge_1 1 rfl ?_
  refine gx_iload_n (pc := 2) hB dX5_merge_2 2 rfl ?_
  refine gx_dVi (pc := 3) (r := bI (sTwo S x y)) (wr := []) hB (c_X5_areTwo l K m q1 q2 q3 q4 q5 q6 q7 q8 S P H T X Z n ru ty cl sp ca co x y ) mX5_areTwo dX5_merge_3 tb_894 pX5_areTwo ⟨Nat.le_of_ble_eq_true rfl, Nat.le_of_ble_eq_true rfl⟩ ⟨rfl, rfl⟩ ⟨Nat.zero_le _, Nat.zero_le _⟩ rfl (Nat.le_of_ble_eq_true rfl) [0, 1, 2, 3, 4, 5, 6, 7, 8] [] rfl rfl (by decide) (by decide) (by decide) rfl rfl [0, 1, 2, 3, 4, 5, 6, 7, 8] (by decide) (wM K m q1 q2 q3 q4 q5 q6 q7 q8 S P H T X Z n ru ty cl sp ca co) rfl ?_
  refine gx_if_ne_b (pc := 6) hB 11 dX5_merge_6 (by decide) (fun c_1 => ?_) (fun c_1 => ?_)
  · obtain ⟨p, h_p, rfl⟩ := isP_of h0 (two_of c_1).1
    have s_p : (nI p).toNatClampNeg = p := nI_clamp (by omega)
    obtain ⟨q, h_q, rfl⟩ := isP_of h0 (two_of c_1).2
    have s_q : (nI q).toNatClampNeg = q := nI_clamp (by omega)
    refine gx_aload_n (pc := 11) hB dX5_merge_11 0 rfl ?_
    refine gx_iload_n (pc := 12) hB dX5_merge_12 1 rfl ?_
    refine gx_iconst (pc := 13) hB dX5_merge_13 (-1) (by decide) ?_
    refine gx_dVi (pc := 14) (r := mWsN S c p (-1) b) (wr := []) hB (c_X5_weights l K m q1 q2 q3 q4 q5 q6 q7 q8 S P H T X Z n ru ty cl sp ca co b c p (-1) h0.1.2.2.1 (by first | assumption | omega | decide) h0.1.2.1 (by first | assumption | omega | decide) (by first | assumption | omega | decide)) mX5_weights dX5_merge_14 tb_906 pX5_weights ⟨Nat.le_of_ble_eq_true rfl, Nat.le_of_ble_eq_true rfl⟩ ⟨rfl, rfl⟩ ⟨Nat.zero_le _, Nat.zero_le _⟩ rfl (Nat.le_of_ble_eq_true rfl) [0, 1, 2, 3, 4, 5, 6, 7, 8] [] rfl rfl (by decide) (by decide) (by decide) rfl rfl [0, 1, 2, 3, 4, 5, 6, 7, 8] (by decide) (wM K m q1 q2 q3 q4 q5 q6 q7 q8 S P H T X Z n ru ty cl sp ca co) rfl ?_
    refine gx_istore_n (pc := 17) hB dX5_merge_17 (by decide) [(3, .int (mWsN S c p (-1) b)), (0, .ref m), (1, .int (nI p)), (2, .int (nI q))] rfl ?_
    refine gx_aload_n (pc := 18) hB dX5_merge_18 1 rfl ?_
    refine gx_iload_n (pc := 19) hB dX5_merge_19 2 rfl ?_
    refine gx_dVi (pc := 20) (r := bI (sClosed S p)) (wr := []) hB (c_X5_isClosed l K m q1 q2 q3 q4 q5 q6 q7 q8 S P H T X Z n ru ty cl sp ca co p (by first | assumption | omega | decide)) mX5_isClosed dX5_merge_20 tb_812 pX5_isClosed ⟨Nat.le_of_ble_eq_true rfl, Nat.le_of_ble_eq_true rfl⟩ ⟨rfl, rfl⟩ ⟨Nat.zero_le _, Nat.zero_le _⟩ rfl (Nat.le_of_ble_eq_true rfl) [0, 1, 2, 3, 4, 5, 6, 7, 8] [] rfl rfl (by decide) (by decide) (by decide) rfl rfl [0, 1, 2, 3, 4, 5, 6, 7, 8] (by decide) (wM K m q1 q2 q3 q4 q5 q6 q7 q8 S P H T X Z n ru ty cl sp ca co) rfl ?_
    refine gx_if_ne_b (pc := 23) hB 62 dX5_merge_23 (by decide) (fun c_2 => ?_) (fun c_2 => ?_)
    · refine gx_bipush (pc := 62) hB dX5_merge_62 (-2) (by decide) ?_
      have e1 : ((mMerge S b c e (nI p) (nI q)).1) = (-2) := by simp [mMerge, mHandN, mForgN, kpP, kpn, c_1, s_p, s_q, c_2]
      have f0 : ((mMerge S b c e (nI p) (nI q)).2.2) = S := by simp [mMerge, mHandN, mForgN, kpP, kpn, c_1, s_p, s_q, c_2]
      have f1 : (kpP (mMerge S b c e (nI p) (nI q)).2.1 ru n P S) = P := by simp [mMerge, mHandN, mForgN, kpP, kpn, c_1, s_p, s_q, c_2]
      have f2 : (kpn (mMerge S b c e (nI p) (nI q)).2.1 ru n) = n := by simp [mMerge, mHandN, mForgN, kpP, kpn, c_1, s_p, s_q, c_2]
      exact gx_iret (pc := 64) hC dX5_merge_64 (Nat.zero_le _) (Nat.zero_le _) (⟨by rw [e1], by rw [f0, f1, f2]⟩)
    · refine gx_aload_n (pc := 26) hB dX5_merge_26 1 rfl ?_
      refine gx_iload_n (pc := 27) hB dX5_merge_27 3 rfl ?_
      refine gx_dVi (pc := 28) (r := bI (sClosed S q)) (wr := []) hB (c_X5_isClosed l K m q1 q2 q3 q4 q5 q6 q7 q8 S P H T X Z n ru ty cl sp ca co q (by first | assumption | omega | decide)) mX5_isClosed dX5_merge_28 tb_812 pX5_isClosed ⟨Nat.le_of_ble_eq_true rfl, Nat.le_of_ble_eq_true rfl⟩ ⟨rfl, rfl⟩ ⟨Nat.zero_le _, Nat.zero_le _⟩ rfl (Nat.le_of_ble_eq_true rfl) [0, 1, 2, 3, 4, 5, 6, 7, 8] [] rfl rfl (by decide) (by decide) (by decide) rfl rfl [0, 1, 2, 3, 4, 5, 6, 7, 8] (by decide) (wM K m q1 q2 q3 q4 q5 q6 q7 q8 S P H T X Z n ru ty cl sp ca co) rfl ?_
      refine gx_if_ne_b (pc := 31) hB 62 dX5_merge_31 (by decide) (fun c_3 => ?_) (fun c_3 => ?_)
      · refine gx_bipush (pc := 62) hB dX5_merge_62 (-2) (by decide) ?_
        have e1 : ((mMerge S b c e (nI p) (nI q)).1) = (-2) := by simp [mMerge, mHandN, mForgN, kpP, kpn, c_1, s_p, s_q, c_2, c_3]
        have f0 : ((mMerge S b c e (nI p) (nI q)).2.2) = S := by simp [mMerge, mHandN, mForgN, kpP, kpn, c_1, s_p, s_q, c_2, c_3]
        have f1 : (kpP (mMerge S b c e (nI p) (nI q)).2.1 ru n P S) = P := by simp [mMerge, mHandN, mForgN, kpP, kpn, c_1, s_p, s_q, c_2, c_3]
        have f2 : (kpn (mMerge S b c e (nI p) (nI q)).2.1 ru n) = n := by simp [mMerge, mHandN, mForgN, kpP, kpn, c_1, s_p, s_q, c_2, c_3]
        exact gx_iret (pc := 64) hC dX5_merge_64 (Nat.zero_le _) (Nat.zero_le _) (⟨by rw [e1], by rw [f0, f1, f2]⟩)
      · refine gx_iload_n (pc := 34) hB dX5_merge_34 2 rfl ?_
        refine gx_if_eq (pc := 35) hB 62 dX5_merge_35 (by decide) (fun c_4 => ?_) (fun c_4 => ?_)
        · refine gx_bipush (pc := 62) hB dX5_merge_62 (-2) (by decide) ?_
          have e1 : ((mMerge S b c e (nI p) (nI q)).1) = (-2) := by simp [mMerge, mHandN, mForgN, kpP, kpn, c_1, s_p, s_q, c_2, c_3, eq_true c_4]
          have f0 : ((mMerge S b c e (nI p) (nI q)).2.2) = S := by simp [mMerge, mHandN, mForgN, kpP, kpn, c_1, s_p, s_q, c_2, c_3, eq_true c_4]
          have f1 : (kpP (mMerge S b c e (nI p) (nI q)).2.1 ru n P S) = P := by simp [mMerge, mHandN, mForgN, kpP, kpn, c_1, s_p, s_q, c_2, c_3, eq_true c_4]
          have f2 : (kpn (mMerge S b c e (nI p) (nI q)).2.1 ru n) = n := by simp [mMerge, mHandN, mForgN, kpP, kpn, c_1, s_p, s_q, c_2, c_3, eq_true c_4]
          exact gx_iret (pc := 64) hC dX5_merge_64 (Nat.zero_le _) (Nat.zero_le _) (⟨by rw [e1], by rw [f0, f1, f2]⟩)
        · refine gx_iload_n (pc := 38) hB dX5_merge_38 0 rfl ?_
          refine gx_if_eq (pc := 39) hB 62 dX5_merge_39 (by decide) (fun c_5 => ?_) (fun c_5 => ?_)
          · refine gx_bipush (pc := 62) hB dX5_merge_62 (-2) (by decide) ?_
            have e1 : ((mMerge S b c e (nI p) (nI q)).1) = (-2) := by simp [mMerge, mHandN, mForgN, kpP, kpn, c_1, s_p, s_q, c_2, c_3, eq_false c_4, eq_true c_5]
            have f0 : ((mMerge S b c e (nI p) (nI q)).2.2) = S := by simp [mMerge, mHandN, mForgN, kpP, kpn, c_1, s_p, s_q, c_2, c_3, eq_false c_4, eq_true c_5]
            have f1 : (kpP (mMerge S b c e (nI p) (nI q)).2.1 ru n P S) = P := by simp [mMerge, mHandN, mForgN, kpP, kpn, c_1, s_p, s_q, c_2, c_3, eq_false c_4, eq_true c_5]
            have f2 : (kpn (mMerge S b c e (nI p) (nI q)).2.1 ru n) = n := by simp [mMerge, mHandN, mForgN, kpP, kpn, c_1, s_p, s_q, c_2, c_3, eq_false c_4, eq_true c_5]
            exact gx_iret (pc := 64) hC dX5_merge_64 (Nat.zero_le _) (Nat.zero_le _) (⟨by rw [e1], by rw [f0, f1, f2]⟩)
          · refine gx_bipush (pc := 42) hB dX5_merge_42 100 (by decide) ?_
            refine gx_aload_n (pc := 44) hB dX5_merge_44 1 rfl ?_
            refine gx_iload_n (pc := 45) hB dX5_merge_45 2 rfl ?_
            refine gx_iload_n (pc := 46) hB dX5_merge_46 3 rfl ?_
            refine gx_dVi (pc := 47) (r := mWsN S c p (nI q) b) (wr := []) hB (c_X5_weights l K m q1 q2 q3 q4 q5 q6 q7 q8 S P H T X Z n ru ty cl sp ca co b c p (nI q) h0.1.2.2.1 (by first | assumption | omega | decide) h0.1.2.1 (by first | assumption | omega | decide) (by first | assumption | omega | decide)) mX5_weights dX5_merge_47 tb_906 pX5_weights ⟨Nat.le_of_ble_eq_true rfl, Nat.le_of_ble_eq_true rfl⟩ ⟨rfl, rfl⟩ ⟨Nat.zero_le _, Nat.zero_le _⟩ rfl (Nat.le_of_ble_eq_true rfl) [0, 1, 2, 3, 4, 5, 6, 7, 8] [] rfl rfl (by decide) (by decide) (by decide) rfl rfl [0, 1, 2, 3, 4, 5, 6, 7, 8] (by decide) (wM K m q1 q2 q3 q4 q5 q6 q7 q8 S P H T X Z n ru ty cl sp ca co) rfl ?_
            refine gx_imul (pc := 50) hB dX5_merge_50 ?_
            refine gx_aload_n (pc := 51) hB dX5_merge_51 1 rfl ?_
            refine gx_get (pc := 52) hB dX5_merge_52 inX5 rfl 0 rfl 0 (by decide) tb_726 rfl rfl ?_
            refine gx_iconst (pc := 55) hB dX5_merge_55 0 (by decide) ?_
            refine gx_iald (pc := 56) hB dX5_merge_56 1 1 rfl rfl 0 rfl (by decide) (by decide) ?_
            refine gx_iload_n (pc := 57) hB dX5_merge_57 0 rfl ?_
            refine gx_imul (pc := 58) hB dX5_merge_58 ?_
            refine gx_icmp_ge (pc := 59) hB 65 dX5_merge_59 (by decide) (fun c_6 => ?_) (fun c_6 => ?_)
            · refine gx_aload_n (pc := 65) hB dX5_merge_65 1 rfl ?_
              refine gx_dVv (pc := 66) (wr := []) hB (c_X5_changes l K m q1 q2 q3 q4 q5 q6 q7 q8 S P H T X Z n ru ty cl sp ca co (by first | assumption | omega | decide)) mX5_changes dX5_merge_66 tb_777 pX5_changes ⟨Nat.le_of_ble_eq_true rfl, Nat.le_of_ble_eq_true rfl⟩ ⟨rfl, rfl⟩ ⟨Nat.zero_le _, Nat.zero_le _⟩ rfl (Nat.le_of_ble_eq_true rfl) [0, 1, 2, 3, 4, 5, 6, 7, 8] [] rfl rfl (by decide) (by decide) (by decide) rfl rfl [0, 1, 2, 3, 4, 5, 6, 7, 8] (by decide) (wM K m q1 q2 q3 q4 q5 q6 q7 q8 S (chP ru n P S) H T X Z (chn ru n) ru ty cl sp ca co) rfl ?_
              refine gx_aload_n (pc := 69) hB dX5_merge_69 1 rfl ?_
              refine gx_iload_n (pc := 70) hB dX5_merge_70 2 rfl ?_
              refine gx_iconst (pc := 71) hB dX5_merge_71 0 (by decide) ?_
              refine gx_dVi (pc := 72) (r := sP S p 0) (wr := []) hB (c_X5_ofPurpose l K m q1 q2 q3 q4 q5 q6 q7 q8 S (chP ru n P S) H T X Z (chn ru n) ru ty cl sp ca co p 0 (by first | assumption | omega | decide) (by first | assumption | omega | decide)) mX5_ofPurpose dX5_merge_72 tb_816 pX5_ofPurpose ⟨Nat.le_of_ble_eq_true rfl, Nat.le_of_ble_eq_true rfl⟩ ⟨rfl, rfl⟩ ⟨Nat.zero_le _, Nat.zero_le _⟩ rfl (Nat.le_of_ble_eq_true rfl) [0, 1, 2, 3, 4, 5, 6, 7, 8] [] rfl rfl (by decide) (by decide) (by decide) rfl rfl [0, 1, 2, 3, 4, 5, 6, 7, 8] (by decide) (wM K m q1 q2 q3 q4 q5 q6 q7 q8 S (chP ru n P S) H T X Z (chn ru n) ru ty cl sp ca co) rfl ?_
              refine gx_istore (pc := 75) hB dX5_merge_75 (by decide) [(4, .int (sP S p 0)), (3, .int (mWsN S c p (-1) b)), (0, .ref m), (1, .int (nI p)), (2, .int (nI q))] rfl ?_
              refine gx_aload_n (pc := 77) hB dX5_merge_77 2 rfl ?_
              refine gx_iload_n (pc := 78) hB dX5_merge_78 3 rfl ?_
              refine gx_iconst (pc := 79) hB dX5_merge_79 0 (by decide) ?_
              refine gx_iconst (pc := 80) hB dX5_merge_80 0 (by decide) ?_
              refine gx_dVv (pc := 81) (wr := []) hB (c_X5_putsPurpose l K m q1 q2 q3 q4 q5 q6 q7 q8 S (chP ru n P S) H T X Z (chn ru n) ru ty cl sp ca co p 0 0 (by first | assumption | omega | decide) (by first | assumption | omega | decide)) mX5_putsPurpose dX5_merge_81 tb_713 pX5_putsPurpose ⟨Nat.le_of_ble_eq_true rfl, Nat.le_of_ble_eq_true rfl⟩ ⟨rfl, rfl⟩ ⟨Nat.zero_le _, Nat.zero_le _⟩ rfl (Nat.le_of_ble_eq_true rfl) [0, 1, 2, 3, 4, 5, 6, 7, 8] [] rfl rfl (by decide) (by decide) (by decide) rfl rfl [0, 1, 2, 3, 4, 5, 6, 7, 8] (by decide) (wM K m q1 q2 q3 q4 q5 q6 q7 q8 (uP S p 0 0) (chP ru n P S) H T X Z (chn ru n) ru ty cl sp ca co) rfl ?_
              refine gx_aload_n (pc := 84) hB dX5_merge_84 2 rfl ?_
              refine gx_iload_n (pc := 85) hB dX5_merge_85 3 rfl ?_
              refine gx_bipush (pc := 86) hB dX5_merge_86 9 (by decide) ?_
              refine gx_iload_n (pc := 88) hB dX5_merge_88 4 rfl ?_
              refine gx_dVv (pc := 89) (wr := []) hB (c_X5_putsPurpose l K m q1 q2 q3 q4 q5 q6 q7 q8 (uP S p 0 0) (chP ru n P S) H T X Z (chn ru n) ru ty cl sp ca co p 9 (nI q) (by first | assumption | omega | decide) (by first | assumption | omega | decide)) mX5_putsPurpose dX5_merge_89 tb_713 pX5_putsPurpose ⟨Nat.le_of_ble_eq_true rfl, Nat.le_of_ble_eq_true rfl⟩ ⟨rfl, rfl⟩ ⟨Nat.zero_le _, Nat.zero_le _⟩ rfl (Nat.le_of_ble_eq_true rfl) [0, 1, 2, 3, 4, 5, 6, 7, 8] [] rfl rfl (by decide) (by decide) (by decide) rfl rfl [0, 1, 2, 3, 4, 5, 6, 7, 8] (by decide) (wM K m q1 q2 q3 q4 q5 q6 q7 q8 (uP (uP S p 0 0) p 9 (nI q)) (chP ru n P S) H T X Z (chn ru n) ru ty cl sp ca co) rfl ?_
              refine gx_aload_n (pc := 92) hB dX5_merge_92 2 rfl ?_
              refine gx_iload_n (pc := 93) hB dX5_merge_93 3 rfl ?_
              refine gx_bipush (pc := 94) hB dX5_merge_94 8 (by decide) ?_
              refine gx_iload (pc := 96) hB dX5_merge_96 0 rfl ?_
              refine gx_dVv (pc := 98) (wr := []) hB (c_X5_adds l K m q1 q2 q3 q4 q5 q6 q7 q8 (uP (uP S p 0 0) p 9 (nI q)) (chP ru n P S) H T X Z (chn ru n) ru ty cl sp ca co p 8 (sP S p 0) (by first | assumption | omega | decide) (by first | assumption | omega | decide)) mX5_adds dX5_merge_98 tb_824 pX5_adds ⟨Nat.le_of_ble_eq_true rfl, Nat.le_of_ble_eq_true rfl⟩ ⟨rfl, rfl⟩ ⟨Nat.zero_le _, Nat.zero_le _⟩ rfl (Nat.le_of_ble_eq_true rfl) [0, 1, 2, 3, 4, 5, 6, 7, 8] [] rfl rfl (by decide) (by decide) (by decide) rfl rfl [0, 1, 2, 3, 4, 5, 6, 7, 8] (by decide) (wM K m q1 q2 q3 q4 q5 q6 q7 q8 (aP (uP (uP S p 0 0) p 9 (nI q)) p 8 (sP S p 0)) (chP ru n P S) H T X Z (chn ru n) ru ty cl sp ca co) rfl ?_
              refine gx_aload_n (pc := 101) hB dX5_merge_101 2 rfl ?_
              refine gx_iload_n (pc := 102) hB dX5_merge_102 4 rfl ?_
              refine gx_iconst (pc := 103) hB dX5_merge_103 0 (by decide) ?_
              refine gx_iload (pc := 104) hB dX5_merge_104 0 rfl ?_
              refine gx_dVv (pc := 106) (wr := []) hB (c_X5_adds l K m q1 q2 q3 q4 q5 q6 q7 q8 (aP (uP (uP S p 0 0) p 9 (nI q)) p 8 (sP S p 0)) (chP ru n P S) H T X Z (chn ru n) ru ty cl sp ca co q 0 (sP S p 0) (by first | assumption | omega | decide) (by first | assumption | omega | decide)) mX5_adds dX5_merge_106 tb_824 pX5_adds ⟨Nat.le_of_ble_eq_true rfl, Nat.le_of_ble_eq_true rfl⟩ ⟨rfl, rfl⟩ ⟨Nat.zero_le _, Nat.zero_le _⟩ rfl (Nat.le_of_ble_eq_true rfl) [0, 1, 2, 3, 4, 5, 6, 7, 8] [] rfl rfl (by decide) (by decide) (by decide) rfl rfl [0, 1, 2, 3, 4, 5, 6, 7, 8] (by decide) (wM K m q1 q2 q3 q4 q5 q6 q7 q8 (aP (aP (uP (uP S p 0 0) p 9 (nI q)) p 8 (sP S p 0)) q 0 (sP S p 0)) (chP ru n P S) H T X Z (chn ru n) ru ty cl sp ca co) rfl ?_
              refine gx_aload_n (pc := 109) hB dX5_merge_109 2 rfl ?_
              refine gx_iload_n (pc := 110) hB dX5_merge_110 4 rfl ?_
              refine gx_bipush (pc := 111) hB dX5_merge_111 7 (by decide) ?_
              refine gx_iload (pc := 113) hB dX5_merge_113 0 rfl ?_
              refine gx_dVv (pc := 115) (wr := []) hB (c_X5_adds l K m q1 q2 q3 q4 q5 q6 q7 q8 (aP (aP (uP (uP S p 0 0) p 9 (nI q)) p 8 (sP S p 0)) q 0 (sP S p 0)) (chP ru n P S) H T X Z (chn ru n) ru ty cl sp ca co q 7 (sP S p 0) (by first | assumption | omega | decide) (by first | assumption | omega | decide)) mX5_adds dX5_merge_115 tb_824 pX5_adds ⟨Nat.le_of_ble_eq_true rfl, Nat.le_of_ble_eq_true rfl⟩ ⟨rfl, rfl⟩ ⟨Nat.zero_le _, Nat.zero_le _⟩ rfl (Nat.le_of_ble_eq_true rfl) [0, 1, 2, 3, 4, 5, 6, 7, 8] [] rfl rfl (by decide) (by decide) (by decide) rfl rfl [0, 1, 2, 3, 4, 5, 6, 7, 8] (by decide) (wM K m q1 q2 q3 q4 q5 q6 q7 q8 (aP (aP (aP (uP (uP S p 0 0) p 9 (nI q)) p 8 (sP S p 0)) q 0 (sP S p 0)) q 7 (sP S p 0)) (chP ru n P S) H T X Z (chn ru n) ru ty cl sp ca co) rfl ?_
              refine gx_ws (show wM K m q1 q2 q3 q4 q5 q6 q7 q8 (aP (aP (aP (uP (uP S p 0 0) p 9 (nI q)) p 8 (sP S p 0)) q 0 (sP S p 0)) q 7 (sP S p 0)) (chP ru n P S) H T X Z (chn ru n) ru ty cl sp ca co = wM K m q1 q2 q3 q4 q5 q6 q7 q8 (mMerge1 S p q) (chP ru n P S) H T X Z (chn ru n) ru ty cl sp ca co from rfl) ?_
              refine gx_iconst (pc := 118) hB dX5_merge_118 0 (by decide) ?_
              refine gx_istore (pc := 119) hB dX5_merge_119 (by decide) [(5, .int 0), (4, .int (sP S p 0)), (3, .int (mWsN S c p (-1) b)), (0, .ref m), (1, .int (nI p)), (2, .int (nI q))] rfl ?_
              have loop_121 : ∀ dq i : Nat, i + dq = e → G 0 0 (wM K m q1 q2 q3 q4 q5 q6 q7 q8 (mHandN (mMerge1 S p q) p (nI q) i) (chP ru n P S) H T X Z (chn ru n) ru ty cl sp ca co) [(0, .ref m), (1, .int (nI p)), (2, .int (nI q)), (3, .int (mWsN S c p (-1) b)), (4, .int (sP S p 0)), (5, .int (nI i))] 121 [] := by
                intro dq
                induction dq with
                | zero =>
                  intro i hi121
                  obtain rfl : e = i := by omega
                  refine gx_iload (pc := 121) hB dX5_merge_121 5 rfl ?_
                  refine gx_aload_n (pc := 123) hB dX5_merge_123 0 rfl ?_
                  refine gx_get (pc := 124) hB dX5_merge_124 inX5 rfl 0 rfl 0 (by decide) tb_726 rfl rfl ?_
                  refine gx_iconst (pc := 127) hB dX5_merge_127 5 (by decide) ?_
                  refine gx_iald (pc := 128) hB dX5_merge_128 1 1 rfl rfl 5 rfl (by decide) (by decide) ?_
                  refine gx_top (show (mHandN (mMerge1 S p q) p (nI q) e) 5 = nI e from (by rw [mHandN_lo (by omega), mMerge1_lo (by omega)]; exact h0.1.2.2.2.1)) ?_
                  refine gx_icmp_ge (pc := 129) hB 195 dX5_merge_129 (by decide) (fun c_7 => ?_) (fun c_7 => ?_)
                  · refine gx_iconst (pc := 195) hB dX5_merge_195 0 (by decide) ?_
                    refine gx_istore (pc := 196) hB dX5_merge_196 (by decide) [(5, .int 0), (0, .ref m), (1, .int (nI p)), (2, .int (nI q)), (3, .int (mWsN S c p (-1) b)), (4, .int (sP S p 0))] rfl ?_
                    have loop_198 : ∀ dq i : Nat, i + dq = b → G 0 0 (wM K m q1 q2 q3 q4 q5 q6 q7 q8 (mForgN (mHandN (mMerge1 S p q) p (nI q) e) p i) (chP ru n P S) H T X Z (chn ru n) ru ty cl sp ca co) [(0, .ref m), (1, .int (nI p)), (2, .int (nI q)), (3, .int (mWsN S c p (-1) b)), (4, .int (sP S p 0)), (5, .int (nI i))] 198 [] := by
                      intro dq
                      induction dq with
                      | zero =>
                        intro i hi198
                        obtain rfl : b = i := by omega
                        refine gx_iload (pc := 198) hB dX5_merge_198 5 rfl ?_
                        refine gx_aload_n (pc := 200) hB dX5_merge_200 0 rfl ?_
                        refine gx_get (pc := 201) hB dX5_merge_201 inX5 rfl 0 rfl 0 (by decide) tb_726 rfl rfl ?_
                        refine gx_iconst (pc := 204) hB dX5_merge_204 3 (by decide) ?_
                        refine gx_iald (pc := 205) hB dX5_merge_205 1 1 rfl rfl 3 rfl (by decide) (by decide) ?_
                        refine gx_top (show (mForgN (mHandN (mMerge1 S p q) p (nI q) e) p b) 3 = nI b from (by rw [mForgN_lo (by omega), mHandN_lo (by omega), mMerge1_lo (by omega)]; exact h0.1.2.1)) ?_
                        refine gx_icmp_ge (pc := 206) hB 226 dX5_merge_206 (by decide) (fun c_8 => ?_) (fun c_8 => ?_)
                        · refine gx_iload (pc := 226) hB dX5_merge_226 4 rfl ?_
                          have e1 : ((mMerge S b c e (nI p) (nI q)).1) = sP S p 0 := by simp [mMerge, kpP, kpn, c_1, s_p, s_q, c_2, c_3, eq_false c_4, eq_false c_5, c_6, eq_false (Int32.not_lt.mpr c_6), c_7, eq_false (Int32.not_lt.mpr c_7), c_8, eq_false (Int32.not_lt.mpr c_8)]
                          have f0 : ((mMerge S b c e (nI p) (nI q)).2.2) = (mForgN (mHandN (mMerge1 S p q) p (nI q) e) p b) := by simp [mMerge, kpP, kpn, c_1, s_p, s_q, c_2, c_3, eq_false c_4, eq_false c_5, c_6, eq_false (Int32.not_lt.mpr c_6), c_7, eq_false (Int32.not_lt.mpr c_7), c_8, eq_false (Int32.not_lt.mpr c_8)]
                          have f1 : (kpP (mMerge S b c e (nI p) (nI q)).2.1 ru n P S) = chP ru n P S := by simp [mMerge, kpP, kpn, c_1, s_p, s_q, c_2, c_3, eq_false c_4, eq_false c_5, c_6, eq_false (Int32.not_lt.mpr c_6), c_7, eq_false (Int32.not_lt.mpr c_7), c_8, eq_false (Int32.not_lt.mpr c_8)]
                          have f2 : (kpn (mMerge S b c e (nI p) (nI q)).2.1 ru n) = chn ru n := by simp [mMerge, kpP, kpn, c_1, s_p, s_q, c_2, c_3, eq_false c_4, eq_false c_5, c_6, eq_false (Int32.not_lt.mpr c_6), c_7, eq_false (Int32.not_lt.mpr c_7), c_8, eq_false (Int32.not_lt.mpr c_8)]
                          exact gx_iret (pc := 228) hC dX5_merge_228 (Nat.zero_le _) (Nat.zero_le _) (⟨by rw [e1], by rw [f0, f1, f2]⟩)
                        · exact absurd (lpTn (c := b) (by omega) hi198) c_8
                      | succ dq ih198 =>
                        intro i hi198
                        refine gx_iload (pc := 198) hB dX5_merge_198 5 rfl ?_
                        refine gx_aload_n (pc := 200) hB dX5_merge_200 0 rfl ?_
                        refine gx_get (pc := 201) hB dX5_merge_201 inX5 rfl 0 rfl 0 (by decide) tb_726 rfl rfl ?_
                        refine gx_iconst (pc := 204) hB dX5_merge_204 3 (by decide) ?_
                        refine gx_iald (pc := 205) hB dX5_merge_205 1 1 rfl rfl 3 rfl (by decide) (by decide) ?_
                        refine gx_top (show (mForgN (mHandN (mMerge1 S p q) p (nI q) e) p i) 3 = nI b from (by rw [mForgN_lo (by omega), mHandN_lo (by omega), mMerge1_lo (by omega)]; exact h0.1.2.1)) ?_
                        refine gx_icmp_ge (pc := 206) hB 226 dX5_merge_206 (by decide) (fun c_9 => ?_) (fun c_9 => ?_)
                        · exact absurd c_9 (lpFn (c := b) (by omega) hi198)
                        · refine gx_aload_n (pc := 209) hB dX5_merge_209 0 rfl ?_
                          refine gx_iload (pc := 210) hB dX5_merge_210 5 rfl ?_
                          refine gx_iconst (pc := 212) hB dX5_merge_212 1 (by decide) ?_
                          refine gx_iload_n (pc := 213) hB dX5_merge_213 1 rfl ?_
                          refine gx_iadd (pc := 214) hB dX5_merge_214 ?_
                          refine gx_top (show 1 + nI p = nI (1 + p) from nI_add 1 p) ?_
                          refine gx_bipush (pc := 215) hB dX5_merge_215 (-4) (by decide) ?_
                          refine gx_dVv (pc := 217) (wr := []) hB (c_X5_putsDonor l K m q1 q2 q3 q4 q5 q6 q7 q8 (mForgN (mHandN (mMerge1 S p q) p (nI q) e) p i) (chP ru n P S) H T X Z (chn ru n) ru ty cl sp ca co i (1 + p) (-4) (by first | assumption | omega | decide) (by first | assumption | omega | decide)) mX5_putsDonor dX5_merge_217 tb_781 pX5_putsDonor ⟨Nat.le_of_ble_eq_true rfl, Nat.le_of_ble_eq_true rfl⟩ ⟨rfl, rfl⟩ ⟨Nat.zero_le _, Nat.zero_le _⟩ rfl (Nat.le_of_ble_eq_true rfl) [0, 1, 2, 3, 4, 5, 6, 7, 8] [] rfl rfl (by decide) (by decide) (by decide) rfl rfl [0, 1, 2, 3, 4, 5, 6, 7, 8] (by decide) (wM K m q1 q2 q3 q4 q5 q6 q7 q8 (uD (mForgN (mHandN (mMerge1 S p q) p (nI q) e) p i) i (1 + p) (-4)) (chP ru n P S) H T X Z (chn ru n) ru ty cl sp ca co) rfl ?_
                          refine gx_iinc (pc := 220) hB dX5_merge_220 5 (by decide) rfl (nI (i + 1)) (nI_1 _) [(5, .int (nI (i + 1))), (0, .ref m), (1, .int (nI p)), (2, .int (nI q)), (3, .int (mWsN S c p (-1) b)), (4, .int (sP S p 0))] rfl ?_
                          refine gx_goto (pc := 223) hB 198 dX5_merge_223 (by decide) ?_
                          have w0 : uD (mForgN (mHandN (mMerge1 S p q) p (nI q) e) p i) i (1 + p) (-4) = mForgN (mHandN (mMerge1 S p q) p (nI q) e) p (i + 1) := by simp [mMerge, mHandN, mForgN, kpP, kpn, c_1, s_p, s_q, c_2, c_3, eq_false c_4, eq_false c_5, c_6, eq_false (Int32.not_lt.mpr c_6), c_7, eq_false (Int32.not_lt.mpr c_7), Int32.not_le.mp c_9, eq_false c_9]
                          refine gx_sub hB (lv' := [(0, .ref m), (1, .int (nI p)), (2, .int (nI q)), (3, .int (mWsN S c p (-1) b)), (4, .int (sP S p 0)), (5, .int (nI (i + 1)))]) [1, 2, 3, 4, 5, 0] rfl ?_
                          refine gx_all (ws' := wM K m q1 q2 q3 q4 q5 q6 q7 q8 (mForgN (mHandN (mMerge1 S p q) p (nI q) e) p (i + 1)) (chP ru n P S) H T X Z (chn ru n) ru ty cl sp ca co) (lv' := [(0, .ref m), (1, .int (nI p)), (2, .int (nI q)), (3, .int (mWsN S c p (-1) b)), (4, .int (sP S p 0)), (5, .int (nI (i + 1)))]) (by rw [← w0]) (rfl) ?_
                          exact ih198 (i + 1) (by omega)
                    refine gx_sub hB (lv' := [(0, .ref m), (1, .int (nI p)), (2, .int (nI q)), (3, .int (mWsN S c p (-1) b)), (4, .int (sP S p 0)), (5, .int 0)]) [1, 2, 3, 4, 5, 0] rfl ?_
                    refine gx_all (ws' := wM K m q1 q2 q3 q4 q5 q6 q7 q8 (mForgN (mHandN (mMerge1 S p q) p (nI q) e) p 0) (chP ru n P S) H T X Z (chn ru n) ru ty cl sp ca co) (lv' := [(0, .ref m), (1, .int (nI p)), (2, .int (nI q)), (3, .int (mWsN S c p (-1) b)), (4, .int (sP S p 0)), (5, .int (nI 0))]) (rfl) (rfl) ?_
                    exact loop_198 (b) 0 (by omega)
                  · exact absurd (lpTn (c := e) (by omega) hi121) c_7
                | succ dq ih121 =>
                  intro i hi121
                  refine gx_iload (pc := 121) hB dX5_merge_121 5 rfl ?_
                  refine gx_aload_n (pc := 123) hB dX5_merge_123 0 rfl ?_
                  refine gx_get (pc := 124) hB dX5_merge_124 inX5 rfl 0 rfl 0 (by decide) tb_726 rfl rfl ?_
                  refine gx_iconst (pc := 127) hB dX5_merge_127 5 (by decide) ?_
                  refine gx_iald (pc := 128) hB dX5_merge_128 1 1 rfl rfl 5 rfl (by decide) (by decide) ?_
                  refine gx_top (show (mHandN (mMerge1 S p q) p (nI q) i) 5 = nI e from (by rw [mHandN_lo (by omega), mMerge1_lo (by omega)]; exact h0.1.2.2.2.1)) ?_
                  refine gx_icmp_ge (pc := 129) hB 195 dX5_merge_129 (by decide) (fun c_10 => ?_) (fun c_10 => ?_)
                  · exact absurd c_10 (lpFn (c := e) (by omega) hi121)
                  · refine gx_aload_n (pc := 132) hB dX5_merge_132 0 rfl ?_
                    refine gx_iload (pc := 133) hB dX5_merge_133 5 rfl ?_
                    refine gx_iconst (pc := 135) hB dX5_merge_135 5 (by decide) ?_
                    refine gx_dVi (pc := 136) (r := sK (mHandN (mMerge1 S p q) p (nI q) i) i 5) (wr := []) hB (c_X5_ofPledge l K m q1 q2 q3 q4 q5 q6 q7 q8 (mHandN (mMerge1 S p q) p (nI q) i) (chP ru n P S) H T X Z (chn ru n) ru ty cl sp ca co i 5 (by first | assumption | omega | decide) (by first | assumption | omega | decide)) mX5_ofPledge dX5_merge_136 tb_844 pX5_ofPledge ⟨Nat.le_of_ble_eq_true rfl, Nat.le_of_ble_eq_true rfl⟩ ⟨rfl, rfl⟩ ⟨Nat.zero_le _, Nat.zero_le _⟩ rfl (Nat.le_of_ble_eq_true rfl) [0, 1, 2, 3, 4, 5, 6, 7, 8] [] rfl rfl (by decide) (by decide) (by decide) rfl rfl [0, 1, 2, 3, 4, 5, 6, 7, 8] (by decide) (wM K m q1 q2 q3 q4 q5 q6 q7 q8 (mHandN (mMerge1 S p q) p (nI q) i) (chP ru n P S) H T X Z (chn ru n) ru ty cl sp ca co) rfl ?_
                    refine gx_if_ne (pc := 139) hB 189 dX5_merge_139 (by decide) (fun c_11 => ?_) (fun c_11 => ?_)
                    · refine gx_iinc (pc := 189) hB dX5_merge_189 5 (by decide) rfl (nI (i + 1)) (nI_1 _) [(5, .int (nI (i + 1))), (0, .ref m), (1, .int (nI p)), (2, .int (nI q)), (3, .int (mWsN S c p (-1) b)), (4, .int (sP S p 0))] rfl ?_
                      refine gx_goto (pc := 192) hB 121 dX5_merge_192 (by decide) ?_
                      have w0 : mHandN (mMerge1 S p q) p (nI q) i = mHandN (mMerge1 S p q) p (nI q) (i + 1) := by simp [mMerge, mHandN, mForgN, kpP, kpn, c_1, s_p, s_q, c_2, c_3, eq_false c_4, eq_false c_5, c_6, eq_false (Int32.not_lt.mpr c_6), Int32.not_le.mp c_10, eq_false c_10, eq_false c_11]
                      refine gx_sub hB (lv' := [(0, .ref m), (1, .int (nI p)), (2, .int (nI q)), (3, .int (mWsN S c p (-1) b)), (4, .int (sP S p 0)), (5, .int (nI (i + 1)))]) [1, 2, 3, 4, 5, 0] rfl ?_
                      refine gx_all (ws' := wM K m q1 q2 q3 q4 q5 q6 q7 q8 (mHandN (mMerge1 S p q) p (nI q) (i + 1)) (chP ru n P S) H T X Z (chn ru n) ru ty cl sp ca co) (lv' := [(0, .ref m), (1, .int (nI p)), (2, .int (nI q)), (3, .int (mWsN S c p (-1) b)), (4, .int (sP S p 0)), (5, .int (nI (i + 1)))]) (by rw [← w0]) (rfl) ?_
                      exact ih121 (i + 1) (by omega)
                    · refine gx_aload_n (pc := 142) hB dX5_merge_142 0 rfl ?_
                      refine gx_iload (pc := 143) hB dX5_merge_143 5 rfl ?_
                      refine gx_iconst (pc := 145) hB dX5_merge_145 1 (by decide) ?_
                      refine gx_dVi (pc := 146) (r := sK (mHandN (mMerge1 S p q) p (nI q) i) i 1) (wr := []) hB (c_X5_ofPledge l K m q1 q2 q3 q4 q5 q6 q7 q8 (mHandN (mMerge1 S p q) p (nI q) i) (chP ru n P S) H T X Z (chn ru n) ru ty cl sp ca co i 1 (by first | assumption | omega | decide) (by first | assumption | omega | decide)) mX5_ofPledge dX5_merge_146 tb_844 pX5_ofPledge ⟨Nat.le_of_ble_eq_true rfl, Nat.le_of_ble_eq_true rfl⟩ ⟨rfl, rfl⟩ ⟨Nat.zero_le _, Nat.zero_le _⟩ rfl (Nat.le_of_ble_eq_true rfl) [0, 1, 2, 3, 4, 5, 6, 7, 8] [] rfl rfl (by decide) (by decide) (by decide) rfl rfl [0, 1, 2, 3, 4, 5, 6, 7, 8] (by decide) (wM K m q1 q2 q3 q4 q5 q6 q7 q8 (mHandN (mMerge1 S p q) p (nI q) i) (chP ru n P S) H T X Z (chn ru n) ru ty cl sp ca co) rfl ?_
                      refine gx_iload_n (pc := 149) hB dX5_merge_149 1 rfl ?_
                      refine gx_icmp_ne (pc := 150) hB 189 dX5_merge_150 (by decide) (fun c_12 => ?_) (fun c_12 => ?_)
                      · refine gx_iinc (pc := 189) hB dX5_merge_189 5 (by decide) rfl (nI (i + 1)) (nI_1 _) [(5, .int (nI (i + 1))), (0, .ref m), (1, .int (nI p)), (2, .int (nI q)), (3, .int (mWsN S c p (-1) b)), (4, .int (sP S p 0))] rfl ?_
                        refine gx_goto (pc := 192) hB 121 dX5_merge_192 (by decide) ?_
                        have w0 : mHandN (mMerge1 S p q) p (nI q) i = mHandN (mMerge1 S p q) p (nI q) (i + 1) := by simp [mMerge, mHandN, mForgN, kpP, kpn, c_1, s_p, s_q, c_2, c_3, eq_false c_4, eq_false c_5, c_6, eq_false (Int32.not_lt.mpr c_6), Int32.not_le.mp c_10, eq_false c_10, eq_true c_11, eq_false c_12]
                        refine gx_sub hB (lv' := [(0, .ref m), (1, .int (nI p)), (2, .int (nI q)), (3, .int (mWsN S c p (-1) b)), (4, .int (sP S p 0)), (5, .int (nI (i + 1)))]) [1, 2, 3, 4, 5, 0] rfl ?_
                        refine gx_all (ws' := wM K m q1 q2 q3 q4 q5 q6 q7 q8 (mHandN (mMerge1 S p q) p (nI q) (i + 1)) (chP ru n P S) H T X Z (chn ru n) ru ty cl sp ca co) (lv' := [(0, .ref m), (1, .int (nI p)), (2, .int (nI q)), (3, .int (mWsN S c p (-1) b)), (4, .int (sP S p 0)), (5, .int (nI (i + 1)))]) (by rw [← w0]) (rfl) ?_
                        exact ih121 (i + 1) (by omega)
                      · refine gx_aload_n (pc := 153) hB dX5_merge_153 0 rfl ?_
                        refine gx_aload_n (pc := 154) hB dX5_merge_154 0 rfl ?_
                        refine gx_iload (pc := 155) hB dX5_merge_155 5 rfl ?_
                        refine gx_iconst (pc := 157) hB dX5_merge_157 0 (by decide) ?_
                        refine gx_dVi (pc := 158) (r := sK (mHandN (mMerge1 S p q) p (nI q) i) i 0) (wr := []) hB (c_X5_ofPledge l K m q1 q2 q3 q4 q5 q6 q7 q8 (mHandN (mMerge1 S p q) p (nI q) i) (chP ru n P S) H T X Z (chn ru n) ru ty cl sp ca co i 0 (by first | assumption | omega | decide) (by first | assumption | omega | decide)) mX5_ofPledge dX5_merge_158 tb_844 pX5_ofPledge ⟨Nat.le_of_ble_eq_true rfl, Nat.le_of_ble_eq_true rfl⟩ ⟨rfl, rfl⟩ ⟨Nat.zero_le _, Nat.zero_le _⟩ rfl (Nat.le_of_ble_eq_true rfl) [0, 1, 2, 3, 4, 5, 6, 7, 8] [] rfl rfl (by decide) (by decide) (by decide) rfl rfl [0, 1, 2, 3, 4, 5, 6, 7, 8] (by decide) (wM K m q1 q2 q3 q4 q5 q6 q7 q8 (mHandN (mMerge1 S p q) p (nI q) i) (chP ru n P S) H T X Z (chn ru n) ru ty cl sp ca co) rfl ?_
                        obtain ⟨z_1, y_1⟩ := num_of (x := sK (mHandN (mMerge1 S p q) p (nI q) i) i 0) (N := b) (by rw [mHandN_by, show sK (mMerge1 S p q) i 0 = sK S i 0 from mMerge1_hi (by omega) (by omega) (by omega)]; exact (h0.2.2.1 i (by omega)).1) (by omega)
                        refine gx_top (show sK (mHandN (mMerge1 S p q) p (nI q) i) i 0 = nI ((sK (mHandN (mMerge1 S p q) p (nI q) i) i 0).toNatClampNeg) from z_1) ?_
                        refine gx_iconst (pc := 161) hB dX5_merge_161 1 (by decide) ?_
                        refine gx_iload_n (pc := 162) hB dX5_merge_162 1 rfl ?_
                        refine gx_iadd (pc := 163) hB dX5_merge_163 ?_
                        refine gx_top (show 1 + nI p = nI (1 + p) from nI_add 1 p) ?_
                        refine gx_dVi (pc := 164) (r := sD (mHandN (mMerge1 S p q) p (nI q) i) ((sK (mHandN (mMerge1 S p q) p (nI q) i) i 0).toNatClampNeg) (1 + p)) (wr := []) hB (c_X5_ofDonor l K m q1 q2 q3 q4 q5 q6 q7 q8 (mHandN (mMerge1 S p q) p (nI q) i) (chP ru n P S) H T X Z (chn ru n) ru ty cl sp ca co ((sK (mHandN (mMerge1 S p q) p (nI q) i) i 0).toNatClampNeg) (1 + p) (by first | assumption | omega | decide) (by first | assumption | omega | decide)) mX5_ofDonor dX5_merge_164 tb_800 pX5_ofDonor ⟨Nat.le_of_ble_eq_true rfl, Nat.le_of_ble_eq_true rfl⟩ ⟨rfl, rfl⟩ ⟨Nat.zero_le _, Nat.zero_le _⟩ rfl (Nat.le_of_ble_eq_true rfl) [0, 1, 2, 3, 4, 5, 6, 7, 8] [] rfl rfl (by decide) (by decide) (by decide) rfl rfl [0, 1, 2, 3, 4, 5, 6, 7, 8] (by decide) (wM K m q1 q2 q3 q4 q5 q6 q7 q8 (mHandN (mMerge1 S p q) p (nI q) i) (chP ru n P S) H T X Z (chn ru n) ru ty cl sp ca co) rfl ?_
                        refine gx_iload_n (pc := 167) hB dX5_merge_167 2 rfl ?_
                        refine gx_icmp_ne (pc := 168) hB 182 dX5_merge_168 (by decide) (fun c_13 => ?_) (fun c_13 => ?_)
                        · refine gx_aload_n (pc := 182) hB dX5_merge_182 0 rfl ?_
                          refine gx_iload (pc := 183) hB dX5_merge_183 5 rfl ?_
                          refine gx_iconst (pc := 185) hB dX5_merge_185 2 (by decide) ?_
                          refine gx_dVv (pc := 186) (wr := []) hB (c_X5_ends l K m q1 q2 q3 q4 q5 q6 q7 q8 (mHandN (mMerge1 S p q) p (nI q) i) (chP ru n P S) H T X Z (chn ru n) ru ty cl sp ca co i 2 (by first | assumption | omega | decide)) mX5_ends dX5_merge_186 tb_852 pX5_ends ⟨Nat.le_of_ble_eq_true rfl, Nat.le_of_ble_eq_true rfl⟩ ⟨rfl, rfl⟩ ⟨Nat.zero_le _, Nat.zero_le _⟩ rfl (Nat.le_of_ble_eq_true rfl) [0, 1, 2, 3, 4, 5, 6, 7, 8] [] rfl rfl (by decide) (by decide) (by decide) rfl rfl [0, 1, 2, 3, 4, 5, 6, 7, 8] (by decide) (wM K m q1 q2 q3 q4 q5 q6 q7 q8 (mEnds (mHandN (mMerge1 S p q) p (nI q) i) i 2) (chP ru n P S) H T X Z (chn ru n) ru ty cl sp ca co) rfl ?_
                          refine gx_iinc (pc := 189) hB dX5_merge_189 5 (by decide) rfl (nI (i + 1)) (nI_1 _) [(5, .int (nI (i + 1))), (0, .ref m), (1, .int (nI p)), (2, .int (nI q)), (3, .int (mWsN S c p (-1) b)), (4, .int (sP S p 0))] rfl ?_
                          refine gx_goto (pc := 192) hB 121 dX5_merge_192 (by decide) ?_
                          have w0 : mEnds (mHandN (mMerge1 S p q) p (nI q) i) i 2 = mHandN (mMerge1 S p q) p (nI q) (i + 1) := by simp [mMerge, mHandN, mForgN, kpP, kpn, c_1, s_p, s_q, c_2, c_3, eq_false c_4, eq_false c_5, c_6, eq_false (Int32.not_lt.mpr c_6), Int32.not_le.mp c_10, eq_false c_10, eq_true c_11, eq_true c_12, eq_false c_13]
                          refine gx_sub hB (lv' := [(0, .ref m), (1, .int (nI p)), (2, .int (nI q)), (3, .int (mWsN S c p (-1) b)), (4, .int (sP S p 0)), (5, .int (nI (i + 1)))]) [1, 2, 3, 4, 5, 0] rfl ?_
                          refine gx_all (ws' := wM K m q1 q2 q3 q4 q5 q6 q7 q8 (mHandN (mMerge1 S p q) p (nI q) (i + 1)) (chP ru n P S) H T X Z (chn ru n) ru ty cl sp ca co) (lv' := [(0, .ref m), (1, .int (nI p)), (2, .int (nI q)), (3, .int (mWsN S c p (-1) b)), (4, .int (sP S p 0)), (5, .int (nI (i + 1)))]) (by rw [← w0]) (rfl) ?_
                          exact ih121 (i + 1) (by omega)
                        · refine gx_aload_n (pc := 171) hB dX5_merge_171 0 rfl ?_
                          refine gx_iload (pc := 172) hB dX5_merge_172 5 rfl ?_
                          refine gx_iconst (pc := 174) hB dX5_merge_174 1 (by decide) ?_
                          refine gx_iload_n (pc := 175) hB dX5_merge_175 2 rfl ?_
                          refine gx_dVv (pc := 176) (wr := []) hB (c_X5_putsPledge l K m q1 q2 q3 q4 q5 q6 q7 q8 (mHandN (mMerge1 S p q) p (nI q) i) (chP ru n P S) H T X Z (chn ru n) ru ty cl sp ca co i 1 (nI q) (by first | assumption | omega | decide) (by first | assumption | omega | decide)) mX5_putsPledge dX5_merge_176 tb_832 pX5_putsPledge ⟨Nat.le_of_ble_eq_true rfl, Nat.le_of_ble_eq_true rfl⟩ ⟨rfl, rfl⟩ ⟨Nat.zero_le _, Nat.zero_le _⟩ rfl (Nat.le_of_ble_eq_true rfl) [0, 1, 2, 3, 4, 5, 6, 7, 8] [] rfl rfl (by decide) (by decide) (by decide) rfl rfl [0, 1, 2, 3, 4, 5, 6, 7, 8] (by decide) (wM K m q1 q2 q3 q4 q5 q6 q7 q8 (uK (mHandN (mMerge1 S p q) p (nI q) i) i 1 (nI q)) (chP ru n P S) H T X Z (chn ru n) ru ty cl sp ca co) rfl ?_
                          refine gx_goto (pc := 179) hB 189 dX5_merge_179 (by decide) ?_
                          refine gx_iinc (pc := 189) hB dX5_merge_189 5 (by decide) rfl (nI (i + 1)) (nI_1 _) [(5, .int (nI (i + 1))), (0, .ref m), (1, .int (nI p)), (2, .int (nI q)), (3, .int (mWsN S c p (-1) b)), (4, .int (sP S p 0))] rfl ?_
                          refine gx_goto (pc := 192) hB 121 dX5_merge_192 (by decide) ?_
                          have w0 : uK (mHandN (mMerge1 S p q) p (nI q) i) i 1 (nI q) = mHandN (mMerge1 S p q) p (nI q) (i + 1) := by simp [mMerge, mHandN, mForgN, kpP, kpn, c_1, s_p, s_q, c_2, c_3, eq_false c_4, eq_false c_5, c_6, eq_false (Int32.not_lt.mpr c_6), Int32.not_le.mp c_10, eq_false c_10, eq_true c_11, eq_true c_12, eq_true c_13]
                          refine gx_sub hB (lv' := [(0, .ref m), (1, .int (nI p)), (2, .int (nI q)), (3, .int (mWsN S c p (-1) b)), (4, .int (sP S p 0)), (5, .int (nI (i + 1)))]) [1, 2, 3, 4, 5, 0] rfl ?_
                          refine gx_all (ws' := wM K m q1 q2 q3 q4 q5 q6 q7 q8 (mHandN (mMerge1 S p q) p (nI q) (i + 1)) (chP ru n P S) H T X Z (chn ru n) ru ty cl sp ca co) (lv' := [(0, .ref m), (1, .int (nI p)), (2, .int (nI q)), (3, .int (mWsN S c p (-1) b)), (4, .int (sP S p 0)), (5, .int (nI (i + 1)))]) (by rw [← w0]) (rfl) ?_
                          exact ih121 (i + 1) (by omega)
              refine gx_sub hB (lv' := [(0, .ref m), (1, .int (nI p)), (2, .int (nI q)), (3, .int (mWsN S c p (-1) b)), (4, .int (sP S p 0)), (5, .int 0)]) [3, 4, 5, 2, 1, 0] rfl ?_
              refine gx_all (ws' := wM K m q1 q2 q3 q4 q5 q6 q7 q8 (mHandN (mMerge1 S p q) p (nI q) 0) (chP ru n P S) H T X Z (chn ru n) ru ty cl sp ca co) (lv' := [(0, .ref m), (1, .int (nI p)), (2, .int (nI q)), (3, .int (mWsN S c p (-1) b)), (4, .int (sP S p 0)), (5, .int (nI 0))]) (rfl) (rfl) ?_
              exact loop_121 (e) 0 (by omega)
            · refine gx_bipush (pc := 62) hB dX5_merge_62 (-2) (by decide) ?_
              have e1 : ((mMerge S b c e (nI p) (nI q)).1) = (-2) := by simp [mMerge, mHandN, mForgN, kpP, kpn, c_1, s_p, s_q, c_2, c_3, eq_false c_4, eq_false c_5, Int32.not_le.mp c_6, eq_false c_6]
              have f0 : ((mMerge S b c e (nI p) (nI q)).2.2) = S := by simp [mMerge, mHandN, mForgN, kpP, kpn, c_1, s_p, s_q, c_2, c_3, eq_false c_4, eq_false c_5, Int32.not_le.mp c_6, eq_false c_6]
              have f1 : (kpP (mMerge S b c e (nI p) (nI q)).2.1 ru n P S) = P := by simp [mMerge, mHandN, mForgN, kpP, kpn, c_1, s_p, s_q, c_2, c_3, eq_false c_4, eq_false c_5, Int32.not_le.mp c_6, eq_false c_6]
              have f2 : (kpn (mMerge S b c e (nI p) (nI q)).2.1 ru n) = n := by simp [mMerge, mHandN, mForgN, kpP, kpn, c_1, s_p, s_q, c_2, c_3, eq_false c_4, eq_false c_5, Int32.not_le.mp c_6, eq_false c_6]
              exact gx_iret (pc := 64) hC dX5_merge_64 (Nat.zero_le _) (Nat.zero_le _) (⟨by rw [e1], by rw [f0, f1, f2]⟩)
  · refine gx_iconst (pc := 9) hB dX5_merge_9 (-1) (by decide) ?_
    have e1 : ((mMerge S b c e x y).1) = (-1) := by simp [mMerge, mHandN, mForgN, kpP, kpn, c_1]
    have f0 : ((mMerge S b c e x y).2.2) = S := by simp [mMerge, mHandN, mForgN, kpP, kpn, c_1]
    have f1 : (kpP (mMerge S b c e x y).2.1 ru n P S) = P := by simp [mMerge, mHandN, mForgN, kpP, kpn, c_1]
    have f2 : (kpn (mMerge S b c e x y).2.1 ru n) = n := by simp [mMerge, mHandN, mForgN, kpP, kpn, c_1]
    exact gx_iret (pc := 10) hC dX5_merge_10 (Nat.zero_le _) (Nat.zero_le _) (⟨by rw [e1], by rw [f0, f1, f2]⟩)
theorem pX5_refund : (parseMethodDescriptor yX5_refund.desc).map (fun d => d.parameters.length) = some 1 := by decide +kernel
theorem mX5_refund : gx_M yX5_refund cX5_refund 5 (some .int) := ⟨tb_911, tb_912, tb_73, tb_913, by decide, by decide⟩
set_option maxHeartbeats 4000000 in
set_option maxRecDepth 100000 in
theorem c_X5_refund (l : Launch) (K : gx_K) (m q1 q2 q3 q4 q5 q6 q7 q8 : Nat) (S P H T X Z : Nat → Int32) (n : Nat) (ru : Bool) (ty : Nat) (cl : Int32) (sp : Nat) (ca : Int32) (co : Nat) (a b c e : Nat) (x : Int32) (h0 : sOk S a b c e) (h1 : n ≤ 4) : gx_Ctr l K yX5_refund cX5_refund 5 (some .int) (rmm 4 65) [.ref m, .int x] (wM K m q1 q2 q3 q4 q5 q6 q7 q8 S P H T X Z n ru ty cl sp ca co) (gx_D (some (.int ((mRefund S x).1))) (wM K m q1 q2 q3 q4 q5 q6 q7 q8 ((mRefund S x).2.2) (kpP (mRefund S x).2.1 ru n P S) H T X Z (kpn (mRefund S x).2.1 ru n) ru ty cl sp ca co)) := by
  refine gx_of (by decide) (Nat.le_of_ble_eq_true rfl) (fun G hC => ?_)
  have hB := hC.b
  refine gx_lv (lv' := [(0, .ref m), (1, .int x)]) rfl ?_
  have hb0 := h0.1
  refine gx_iload_n (pc := 0) hB dX5_refund_0 1 rfl ?_
  refine gx_if_lt (pc := 1) hB 14 dX5_refund_1 (by decide) (fun c_1 => ?_) (fun c_1 => ?_)
  · refine gx_iconst (pc := 14) hB dX5_refund_14 (-1) (by decide) ?_
    have e1 : ((mRefund S x).1) = (-1) := by simp [mRefund, mRefT, mRefS, kpP, kpn, c_1, eq_false (Int32.not_le.mpr c_1)]
    have f0 : ((mRefund S x).2.2) = S := by simp [mRefund, mRefT, mRefS, kpP, kpn, c_1, eq_false (Int32.not_le.mpr c_1)]
    have f1 : (kpP (mRefund S x).2.1 ru n P S) = P := by simp [mRefund, mRefT, mRefS, kpP, kpn, c_1, eq_false (Int32.not_le.mpr c_1)]
    have f2 : (kpn (mRefund S x).2.1 ru n) = n := by simp [mRefund, mRefT, mRefS, kpP, kpn, c_1, eq_false (Int32.not_le.mpr c_1)]
    exact gx_iret (pc := 15) hC dX5_refund_15 (Nat.zero_le _) (Nat.zero_le _) (⟨by rw [e1], by rw [f0, f1, f2]⟩)
  · refine gx_iload_n (pc := 4) hB dX5_refund_4 1 rfl ?_
    refine gx_aload_n (pc := 5) hB dX5_refund_5 0 rfl ?_
    refine gx_get (pc := 6) hB dX5_refund_6 inX5 rfl 0 rfl 0 (by decide) tb_726 rfl rfl ?_
    refine gx_iconst (pc := 9) hB dX5_refund_9 4 (by decide) ?_
    refine gx_iald (pc := 10) hB dX5_refund_10 1 1 rfl rfl 4 rfl (by decide) (by decide) ?_
    refine gx_icmp_lt (pc := 11) hB 16 dX5_refund_11 (by decide) (fun c_2 => ?_) (fun c_2 => ?_)
    · obtain ⟨g, h_g, rfl⟩ := isG_of h0 c_1 c_2
      have s_g : (nI g).toNatClampNeg = g := nI_clamp (by omega)
      obtain ⟨z_1, y_1⟩ := num_of (x := sG S g 1) (N := a) (h0.2.1 g h_g).2 (by omega)
      have hh := sOk_home h0 y_1
      refine gx_aload_n (pc := 16) hB dX5_refund_16 0 rfl ?_
      refine gx_iload_n (pc := 17) hB dX5_refund_17 1 rfl ?_
      refine gx_iconst (pc := 18) hB dX5_refund_18 2 (by decide) ?_
      refine gx_dVi (pc := 19) (r := sG S g 2) (wr := []) hB (c_X5_ofGift l K m q1 q2 q3 q4 q5 q6 q7 q8 S P H T X Z n ru ty cl sp ca co g 2 (by first | assumption | omega | decide) (by first | assumption | omega | decide)) mX5_ofGift dX5_refund_19 tb_867 pX5_ofGift ⟨Nat.le_of_ble_eq_true rfl, Nat.le_of_ble_eq_true rfl⟩ ⟨rfl, rfl⟩ ⟨Nat.zero_le _, Nat.zero_le _⟩ rfl (Nat.le_of_ble_eq_true rfl) [0, 1, 2, 3, 4, 5, 6, 7, 8] [] rfl rfl (by decide) (by decide) (by decide) rfl rfl [0, 1, 2, 3, 4, 5, 6, 7, 8] (by decide) (wM K m q1 q2 q3 q4 q5 q6 q7 q8 S P H T X Z n ru ty cl sp ca co) rfl ?_
      refine gx_istore_n (pc := 22) hB dX5_refund_22 (by decide) [(2, .int (sG S g 2)), (0, .ref m), (1, .int (nI g))] rfl ?_
      refine gx_aload_n (pc := 23) hB dX5_refund_23 1 rfl ?_
      refine gx_iload_n (pc := 24) hB dX5_refund_24 2 rfl ?_
      refine gx_iconst (pc := 25) hB dX5_refund_25 4 (by decide) ?_
      refine gx_dVi (pc := 26) (r := sG S g 4) (wr := []) hB (c_X5_ofGift l K m q1 q2 q3 q4 q5 q6 q7 q8 S P H T X Z n ru ty cl sp ca co g 4 (by first | assumption | omega | decide) (by first | assumption | omega | decide)) mX5_ofGift dX5_refund_26 tb_867 pX5_ofGift ⟨Nat.le_of_ble_eq_true rfl, Nat.le_of_ble_eq_true rfl⟩ ⟨rfl, rfl⟩ ⟨Nat.zero_le _, Nat.zero_le _⟩ rfl (Nat.le_of_ble_eq_true rfl) [0, 1, 2, 3, 4, 5, 6, 7, 8] [] rfl rfl (by decide) (by decide) (by decide) rfl rfl [0, 1, 2, 3, 4, 5, 6, 7, 8] (by decide) (wM K m q1 q2 q3 q4 q5 q6 q7 q8 S P H T X Z n ru ty cl sp ca co) rfl ?_
      refine gx_iconst (pc := 29) hB dX5_refund_29 1 (by decide) ?_
      refine gx_icmp_ne (pc := 30) hB 40 dX5_refund_30 (by decide) (fun c_3 => ?_) (fun c_3 => ?_)
      · refine gx_iconst (pc := 40) hB dX5_refund_40 0 (by decide) ?_
        refine gx_istore_n (pc := 41) hB dX5_refund_41 (by decide) [(3, .int 0), (2, .int (sG S g 2)), (0, .ref m), (1, .int (nI g))] rfl ?_
        refine gx_aload_n (pc := 42) hB dX5_refund_42 2 rfl ?_
        refine gx_aload_n (pc := 43) hB dX5_refund_43 2 rfl ?_
        refine gx_iload_n (pc := 44) hB dX5_refund_44 3 rfl ?_
        refine gx_iconst (pc := 45) hB dX5_refund_45 1 (by decide) ?_
        refine gx_dVi (pc := 46) (r := sG S g 1) (wr := []) hB (c_X5_ofGift l K m q1 q2 q3 q4 q5 q6 q7 q8 S P H T X Z n ru ty cl sp ca co g 1 (by first | assumption | omega | decide) (by first | assumption | omega | decide)) mX5_ofGift dX5_refund_46 tb_867 pX5_ofGift ⟨Nat.le_of_ble_eq_true rfl, Nat.le_of_ble_eq_true rfl⟩ ⟨rfl, rfl⟩ ⟨Nat.zero_le _, Nat.zero_le _⟩ rfl (Nat.le_of_ble_eq_true rfl) [0, 1, 2, 3, 4, 5, 6, 7, 8] [] rfl rfl (by decide) (by decide) (by decide) rfl rfl [0, 1, 2, 3, 4, 5, 6, 7, 8] (by decide) (wM K m q1 q2 q3 q4 q5 q6 q7 q8 S P H T X Z n ru ty cl sp ca co) rfl ?_
        refine gx_top (show sG S g 1 = nI ((sG S g 1).toNatClampNeg) from z_1) ?_
        refine gx_dVi (pc := 49) (r := nI (sHome S ((sG S g 1).toNatClampNeg))) (wr := []) hB (c_X5_home l K m q1 q2 q3 q4 q5 q6 q7 q8 S P H T X Z n ru ty cl sp ca co a b c e ((sG S g 1).toNatClampNeg) (by first | assumption | omega | decide) y_1) mX5_home dX5_refund_49 tb_878 pX5_home ⟨Nat.le_of_ble_eq_true rfl, Nat.le_of_ble_eq_true rfl⟩ ⟨rfl, rfl⟩ ⟨Nat.zero_le _, Nat.zero_le _⟩ rfl (Nat.le_of_ble_eq_true rfl) [0, 1, 2, 3, 4, 5, 6, 7, 8] [] rfl rfl (by decide) (by decide) (by decide) rfl rfl [0, 1, 2, 3, 4, 5, 6, 7, 8] (by decide) (wM K m q1 q2 q3 q4 q5 q6 q7 q8 S P H T X Z n ru ty cl sp ca co) rfl ?_
        refine gx_istore (pc := 52) hB dX5_refund_52 (by decide) [(4, .int (nI (sHome S ((sG S g 1).toNatClampNeg)))), (3, .int 0), (2, .int (sG S g 2)), (0, .ref m), (1, .int (nI g))] rfl ?_
        refine gx_aload_n (pc := 54) hB dX5_refund_54 3 rfl ?_
        refine gx_iload_n (pc := 55) hB dX5_refund_55 4 rfl ?_
        refine gx_iconst (pc := 56) hB dX5_refund_56 5 (by decide) ?_
        refine gx_dVi (pc := 57) (r := sG S g 5) (wr := []) hB (c_X5_ofGift l K m q1 q2 q3 q4 q5 q6 q7 q8 S P H T X Z n ru ty cl sp ca co g 5 (by first | assumption | omega | decide) (by first | assumption | omega | decide)) mX5_ofGift dX5_refund_57 tb_867 pX5_ofGift ⟨Nat.le_of_ble_eq_true rfl, Nat.le_of_ble_eq_true rfl⟩ ⟨rfl, rfl⟩ ⟨Nat.zero_le _, Nat.zero_le _⟩ rfl (Nat.le_of_ble_eq_true rfl) [0, 1, 2, 3, 4, 5, 6, 7, 8] [] rfl rfl (by decide) (by decide) (by decide) rfl rfl [0, 1, 2, 3, 4, 5, 6, 7, 8] (by decide) (wM K m q1 q2 q3 q4 q5 q6 q7 q8 S P H T X Z n ru ty cl sp ca co) rfl ?_
        refine gx_iconst (pc := 60) hB dX5_refund_60 1 (by decide) ?_
        refine gx_icmp_eq (pc := 61) hB 77 dX5_refund_61 (by decide) (fun c_4 => ?_) (fun c_4 => ?_)
        · refine gx_bipush (pc := 77) hB dX5_refund_77 (-2) (by decide) ?_
          have e1 : ((mRefund S (nI g)).1) = (-2) := by simp [mRefund, mRefT, mRefS, kpP, kpn, Int32.not_lt.mp c_1, eq_false c_1, c_2, eq_false (Int32.not_le.mpr c_2), s_g, eq_false c_3, eq_true c_4]
          have f0 : ((mRefund S (nI g)).2.2) = S := by simp [mRefund, mRefT, mRefS, kpP, kpn, Int32.not_lt.mp c_1, eq_false c_1, c_2, eq_false (Int32.not_le.mpr c_2), s_g, eq_false c_3, eq_true c_4]
          have f1 : (kpP (mRefund S (nI g)).2.1 ru n P S) = P := by simp [mRefund, mRefT, mRefS, kpP, kpn, Int32.not_lt.mp c_1, eq_false c_1, c_2, eq_false (Int32.not_le.mpr c_2), s_g, eq_false c_3, eq_true c_4]
          have f2 : (kpn (mRefund S (nI g)).2.1 ru n) = n := by simp [mRefund, mRefT, mRefS, kpP, kpn, Int32.not_lt.mp c_1, eq_false c_1, c_2, eq_false (Int32.not_le.mpr c_2), s_g, eq_false c_3, eq_true c_4]
          exact gx_iret (pc := 79) hC dX5_refund_79 (Nat.zero_le _) (Nat.zero_le _) (⟨by rw [e1], by rw [f0, f1, f2]⟩)
        · refine gx_aload_n (pc := 64) hB dX5_refund_64 3 rfl ?_
          refine gx_iload (pc := 65) hB dX5_refund_65 0 rfl ?_
          refine gx_iconst (pc := 67) hB dX5_refund_67 0 (by decide) ?_
          refine gx_dVi (pc := 68) (r := sP S (sHome S ((sG S g 1).toNatClampNeg)) 0) (wr := []) hB (c_X5_ofPurpose l K m q1 q2 q3 q4 q5 q6 q7 q8 S P H T X Z n ru ty cl sp ca co (sHome S ((sG S g 1).toNatClampNeg)) 0 (by first | assumption | omega | decide) (by first | assumption | omega | decide)) mX5_ofPurpose dX5_refund_68 tb_816 pX5_ofPurpose ⟨Nat.le_of_ble_eq_true rfl, Nat.le_of_ble_eq_true rfl⟩ ⟨rfl, rfl⟩ ⟨Nat.zero_le _, Nat.zero_le _⟩ rfl (Nat.le_of_ble_eq_true rfl) [0, 1, 2, 3, 4, 5, 6, 7, 8] [] rfl rfl (by decide) (by decide) (by decide) rfl rfl [0, 1, 2, 3, 4, 5, 6, 7, 8] (by decide) (wM K m q1 q2 q3 q4 q5 q6 q7 q8 S P H T X Z n ru ty cl sp ca co) rfl ?_
          refine gx_iload_n (pc := 71) hB dX5_refund_71 2 rfl ?_
          refine gx_iload_n (pc := 72) hB dX5_refund_72 1 rfl ?_
          refine gx_iadd (pc := 73) hB dX5_refund_73 ?_
          refine gx_top (show sG S g 2 + 0 = (sG S g 2) from Int32.add_zero _) ?_
          refine gx_icmp_ge (pc := 74) hB 80 dX5_refund_74 (by decide) (fun c_5 => ?_) (fun c_5 => ?_)
          · refine gx_aload_n (pc := 80) hB dX5_refund_80 3 rfl ?_
            refine gx_dVv (pc := 81) (wr := []) hB (c_X5_changes l K m q1 q2 q3 q4 q5 q6 q7 q8 S P H T X Z n ru ty cl sp ca co (by first | assumption | omega | decide)) mX5_changes dX5_refund_81 tb_777 pX5_changes ⟨Nat.le_of_ble_eq_true rfl, Nat.le_of_ble_eq_true rfl⟩ ⟨rfl, rfl⟩ ⟨Nat.zero_le _, Nat.zero_le _⟩ rfl (Nat.le_of_ble_eq_true rfl) [0, 1, 2, 3, 4, 5, 6, 7, 8] [] rfl rfl (by decide) (by decide) (by decide) rfl rfl [0, 1, 2, 3, 4, 5, 6, 7, 8] (by decide) (wM K m q1 q2 q3 q4 q5 q6 q7 q8 S (chP ru n P S) H T X Z (chn ru n) ru ty cl sp ca co) rfl ?_
            refine gx_aload_n (pc := 84) hB dX5_refund_84 3 rfl ?_
            refine gx_iload (pc := 85) hB dX5_refund_85 0 rfl ?_
            refine gx_iconst (pc := 87) hB dX5_refund_87 0 (by decide) ?_
            refine gx_iload_n (pc := 88) hB dX5_refund_88 2 rfl ?_
            refine gx_ineg (pc := 89) hB dX5_refund_89 ?_
            refine gx_iload_n (pc := 90) hB dX5_refund_90 1 rfl ?_
            refine gx_isub (pc := 91) hB dX5_refund_91 ?_
            refine gx_top (show (-(sG S g 2)) - 0 = (-(sG S g 2)) from Int32.sub_zero _) ?_
            refine gx_dVv (pc := 92) (wr := []) hB (c_X5_adds l K m q1 q2 q3 q4 q5 q6 q7 q8 S (chP ru n P S) H T X Z (chn ru n) ru ty cl sp ca co (sHome S ((sG S g 1).toNatClampNeg)) 0 (-(sG S g 2)) (by first | assumption | omega | decide) (by first | assumption | omega | decide)) mX5_adds dX5_refund_92 tb_824 pX5_adds ⟨Nat.le_of_ble_eq_true rfl, Nat.le_of_ble_eq_true rfl⟩ ⟨rfl, rfl⟩ ⟨Nat.zero_le _, Nat.zero_le _⟩ rfl (Nat.le_of_ble_eq_true rfl) [0, 1, 2, 3, 4, 5, 6, 7, 8] [] rfl rfl (by decide) (by decide) (by decide) rfl rfl [0, 1, 2, 3, 4, 5, 6, 7, 8] (by decide) (wM K m q1 q2 q3 q4 q5 q6 q7 q8 (aP S (sHome S ((sG S g 1).toNatClampNeg)) 0 (-(sG S g 2))) (chP ru n P S) H T X Z (chn ru n) ru ty cl sp ca co) rfl ?_
            refine gx_aload_n (pc := 95) hB dX5_refund_95 3 rfl ?_
            refine gx_iload (pc := 96) hB dX5_refund_96 0 rfl ?_
            refine gx_iconst (pc := 98) hB dX5_refund_98 5 (by decide) ?_
            refine gx_iload_n (pc := 99) hB dX5_refund_99 2 rfl ?_
            refine gx_dVv (pc := 100) (wr := []) hB (c_X5_adds l K m q1 q2 q3 q4 q5 q6 q7 q8 (aP S (sHome S ((sG S g 1).toNatClampNeg)) 0 (-(sG S g 2))) (chP ru n P S) H T X Z (chn ru n) ru ty cl sp ca co (sHome S ((sG S g 1).toNatClampNeg)) 5 (sG S g 2) (by first | assumption | omega | decide) (by first | assumption | omega | decide)) mX5_adds dX5_refund_100 tb_824 pX5_adds ⟨Nat.le_of_ble_eq_true rfl, Nat.le_of_ble_eq_true rfl⟩ ⟨rfl, rfl⟩ ⟨Nat.zero_le _, Nat.zero_le _⟩ rfl (Nat.le_of_ble_eq_true rfl) [0, 1, 2, 3, 4, 5, 6, 7, 8] [] rfl rfl (by decide) (by decide) (by decide) rfl rfl [0, 1, 2, 3, 4, 5, 6, 7, 8] (by decide) (wM K m q1 q2 q3 q4 q5 q6 q7 q8 (aP (aP S (sHome S ((sG S g 1).toNatClampNeg)) 0 (-(sG S g 2))) (sHome S ((sG S g 1).toNatClampNeg)) 5 (sG S g 2)) (chP ru n P S) H T X Z (chn ru n) ru ty cl sp ca co) rfl ?_
            refine gx_aload_n (pc := 103) hB dX5_refund_103 3 rfl ?_
            refine gx_iload (pc := 104) hB dX5_refund_104 0 rfl ?_
            refine gx_bipush (pc := 106) hB dX5_refund_106 6 (by decide) ?_
            refine gx_iload_n (pc := 108) hB dX5_refund_108 1 rfl ?_
            refine gx_dVv (pc := 109) (wr := []) hB (c_X5_adds l K m q1 q2 q3 q4 q5 q6 q7 q8 (aP (aP S (sHome S ((sG S g 1).toNatClampNeg)) 0 (-(sG S g 2))) (sHome S ((sG S g 1).toNatClampNeg)) 5 (sG S g 2)) (chP ru n P S) H T X Z (chn ru n) ru ty cl sp ca co (sHome S ((sG S g 1).toNatClampNeg)) 6 0 (by first | assumption | omega | decide) (by first | assumption | omega | decide)) mX5_adds dX5_refund_109 tb_824 pX5_adds ⟨Nat.le_of_ble_eq_true rfl, Nat.le_of_ble_eq_true rfl⟩ ⟨rfl, rfl⟩ ⟨Nat.zero_le _, Nat.zero_le _⟩ rfl (Nat.le_of_ble_eq_true rfl) [0, 1, 2, 3, 4, 5, 6, 7, 8] [] rfl rfl (by decide) (by decide) (by decide) rfl rfl [0, 1, 2, 3, 4, 5, 6, 7, 8] (by decide) (wM K m q1 q2 q3 q4 q5 q6 q7 q8 (aP (aP (aP S (sHome S ((sG S g 1).toNatClampNeg)) 0 (-(sG S g 2))) (sHome S ((sG S g 1).toNatClampNeg)) 5 (sG S g 2)) (sHome S ((sG S g 1).toNatClampNeg)) 6 0) (chP ru n P S) H T X Z (chn ru n) ru ty cl sp ca co) rfl ?_
            refine gx_aload_n (pc := 112) hB dX5_refund_112 3 rfl ?_
            refine gx_get (pc := 113) hB dX5_refund_113 inX5 rfl 0 rfl 0 (by decide) tb_726 rfl rfl ?_
            refine gx_sipush (pc := 116) hB dX5_refund_116 129 (by decide) ?_
            refine gx_bipush (pc := 119) hB dX5_refund_119 7 (by decide) ?_
            refine gx_iload_n (pc := 121) hB dX5_refund_121 4 rfl ?_
            refine gx_imul (pc := 122) hB dX5_refund_122 ?_
            refine gx_top (show 7 * nI g = nI (7 * g) from pk_mul 7 g) ?_
            refine gx_iadd (pc := 123) hB dX5_refund_123 ?_
            refine gx_top (show 129 + (nI (7 * g)) = nI (129 + (7 * g)) from nI_add 129 (7 * g)) ?_
            refine gx_iconst (pc := 124) hB dX5_refund_124 5 (by decide) ?_
            refine gx_iadd (pc := 125) hB dX5_refund_125 ?_
            refine gx_top (show (nI (129 + (7 * g))) + 5 = nI (129 + (7 * g) + 5) from nI_add (129 + (7 * g)) 5) ?_
            refine gx_iconst (pc := 126) hB dX5_refund_126 1 (by decide) ?_
            refine gx_iast (pc := 127) hB dX5_refund_127 1 1 rfl rfl (129 + (7 * g) + 5) rfl (by omega) (by decide) (wM K m q1 q2 q3 q4 q5 q6 q7 q8 (upd (aP (aP (aP S (sHome S ((sG S g 1).toNatClampNeg)) 0 (-(sG S g 2))) (sHome S ((sG S g 1).toNatClampNeg)) 5 (sG S g 2)) (sHome S ((sG S g 1).toNatClampNeg)) 6 0) (129 + (7 * g) + 5) 1) (chP ru n P S) H T X Z (chn ru n) ru ty cl sp ca co) rfl ?_
            refine gx_iload_n (pc := 128) hB dX5_refund_128 1 rfl ?_
            have e1 : ((mRefund S (nI g)).1) = 0 := by simp [mRefund, mRefT, mRefS, kpP, kpn, Int32.not_lt.mp c_1, eq_false c_1, c_2, eq_false (Int32.not_le.mpr c_2), s_g, eq_false c_3, eq_false c_4, c_5, eq_false (Int32.not_lt.mpr c_5)]
            have f0 : ((mRefund S (nI g)).2.2) = (upd (aP (aP (aP S (sHome S ((sG S g 1).toNatClampNeg)) 0 (-(sG S g 2))) (sHome S ((sG S g 1).toNatClampNeg)) 5 (sG S g 2)) (sHome S ((sG S g 1).toNatClampNeg)) 6 0) (129 + (7 * g) + 5) 1) := by simp [mRefund, mRefT, mRefS, kpP, kpn, Int32.not_lt.mp c_1, eq_false c_1, c_2, eq_false (Int32.not_le.mpr c_2), s_g, eq_false c_3, eq_false c_4, c_5, eq_false (Int32.not_lt.mpr c_5)]
            have f1 : (kpP (mRefund S (nI g)).2.1 ru n P S) = chP ru n P S := by simp [mRefund, mRefT, mRefS, kpP, kpn, Int32.not_lt.mp c_1, eq_false c_1, c_2, eq_false (Int32.not_le.mpr c_2), s_g, eq_false c_3, eq_false c_4, c_5, eq_false (Int32.not_lt.mpr c_5)]
            have f2 : (kpn (mRefund S (nI g)).2.1 ru n) = chn ru n := by simp [mRefund, mRefT, mRefS, kpP, kpn, Int32.not_lt.mp c_1, eq_false c_1, c_2, eq_false (Int32.not_le.mpr c_2), s_g, eq_false c_3, eq_false c_4, c_5, eq_false (Int32.not_lt.mpr c_5)]
            exact gx_iret (pc := 129) hC dX5_refund_129 (Nat.zero_le _) (Nat.zero_le _) (⟨by rw [e1], by rw [f0, f1, f2]⟩)
          · refine gx_bipush (pc := 77) hB dX5_refund_77 (-2) (by decide) ?_
            have e1 : ((mRefund S (nI g)).1) = (-2) := by simp [mRefund, mRefT, mRefS, kpP, kpn, Int32.not_lt.mp c_1, eq_false c_1, c_2, eq_false (Int32.not_le.mpr c_2), s_g, eq_false c_3, eq_false c_4, Int32.not_le.mp c_5, eq_false c_5]
            have f0 : ((mRefund S (nI g)).2.2) = S := by simp [mRefund, mRefT, mRefS, kpP, kpn, Int32.not_lt.mp c_1, eq_false c_1, c_2, eq_false (Int32.not_le.mpr c_2), s_g, eq_false c_3, eq_false c_4, Int32.not_le.mp c_5, eq_false c_5]
            have f1 : (kpP (mRefund S (nI g)).2.1 ru n P S) = P := by simp [mRefund, mRefT, mRefS, kpP, kpn, Int32.not_lt.mp c_1, eq_false c_1, c_2, eq_false (Int32.not_le.mpr c_2), s_g, eq_false c_3, eq_false c_4, Int32.not_le.mp c_5, eq_false c_5]
            have f2 : (kpn (mRefund S (nI g)).2.1 ru n) = n := by simp [mRefund, mRefT, mRefS, kpP, kpn, Int32.not_lt.mp c_1, eq_false c_1, c_2, eq_false (Int32.not_le.mpr c_2), s_g, eq_false c_3, eq_false c_4, Int32.not_le.mp c_5, eq_false c_5]
            exact gx_iret (pc := 79) hC dX5_refund_79 (Nat.zero_le _) (Nat.zero_le _) (⟨by rw [e1], by rw [f0, f1, f2]⟩)
      · refine gx_iload_n (pc := 33) hB dX5_refund_33 0 rfl ?_
        refine gx_dSi (pc := 34) (r := (sG S g 2) / 4) (wr := [(m, .inr (5, [.ref q1, .ref q2, .ref q3, .ref q4, .int (nI n), .int (bI ru), .ref q5, .int (nI ty), .ref q6, .ref q7, .int cl, .int (nI sp), .int ca, .int (nI co), .ref q8])), (q1, .inl (K.2.1.2.1, 345, .inl S)), (q2, .inl (K.2.1.2.1, 1380, .inl P)), (q3, .inl (K.2.1.2.1, 345, .inl H)), (q4, .inl (K.2.1.2.1, 345, .inl T)), (q5, .inl (K.2.1.2.1, 80, .inl X)), (q6, .inl (K.2.1.2.2.1, 9, .inr (.inl mW))), (q7, .inl (K.2.1.2.1, 9, .inl mN)), (q8, .inl (K.2.1.2.1, 4, .inl Z))]) hB (c_X5_tax l K (sG S g 2) ) mX5_tax dX5_refund_34 tb_875 pX5_tax ⟨Nat.le_of_ble_eq_true rfl, Nat.le_of_ble_eq_true rfl⟩ ⟨rfl, rfl⟩ ⟨Nat.zero_le _, Nat.zero_le _⟩ rfl (Nat.le_of_ble_eq_true rfl) [] [0, 1, 2, 3, 4, 5, 6, 7, 8] rfl rfl (by decide) (by decide) (by decide) [0, 1, 2, 3, 4, 5, 6, 7, 8] (by decide) (wM K m q1 q2 q3 q4 q5 q6 q7 q8 S P H T X Z n ru ty cl sp ca co) rfl ?_
        refine gx_goto (pc := 37) hB 41 dX5_refund_37 (by decide) ?_
        refine gx_istore_n (pc := 41) hB dX5_refund_41 (by decide) [(3, .int ((sG S g 2) / 4)), (2, .int (sG S g 2)), (0, .ref m), (1, .int (nI g))] rfl ?_
        refine gx_aload_n (pc := 42) hB dX5_refund_42 2 rfl ?_
        refine gx_aload_n (pc := 43) hB dX5_refund_43 2 rfl ?_
        refine gx_iload_n (pc := 44) hB dX5_refund_44 3 rfl ?_
        refine gx_iconst (pc := 45) hB dX5_refund_45 1 (by decide) ?_
        refine gx_dVi (pc := 46) (r := sG S g 1) (wr := []) hB (c_X5_ofGift l K m q1 q2 q3 q4 q5 q6 q7 q8 S P H T X Z n ru ty cl sp ca co g 1 (by first | assumption | omega | decide) (by first | assumption | omega | decide)) mX5_ofGift dX5_refund_46 tb_867 pX5_ofGift ⟨Nat.le_of_ble_eq_true rfl, Nat.le_of_ble_eq_true rfl⟩ ⟨rfl, rfl⟩ ⟨Nat.zero_le _, Nat.zero_le _⟩ rfl (Nat.le_of_ble_eq_true rfl) [0, 1, 2, 3, 4, 5, 6, 7, 8] [] rfl rfl (by decide) (by decide) (by decide) rfl rfl [0, 1, 2, 3, 4, 5, 6, 7, 8] (by decide) (wM K m q1 q2 q3 q4 q5 q6 q7 q8 S P H T X Z n ru ty cl sp ca co) rfl ?_
        refine gx_top (show sG S g 1 = nI ((sG S g 1).toNatClampNeg) from z_1) ?_
        refine gx_dVi (pc := 49) (r := nI (sHome S ((sG S g 1).toNatClampNeg))) (wr := []) hB (c_X5_home l K m q1 q2 q3 q4 q5 q6 q7 q8 S P H T X Z n ru ty cl sp ca co a b c e ((sG S g 1).toNatClampNeg) (by first | assumption | omega | decide) y_1) mX5_home dX5_refund_49 tb_878 pX5_home ⟨Nat.le_of_ble_eq_true rfl, Nat.le_of_ble_eq_true rfl⟩ ⟨rfl, rfl⟩ ⟨Nat.zero_le _, Nat.zero_le _⟩ rfl (Nat.le_of_ble_eq_true rfl) [0, 1, 2, 3, 4, 5, 6, 7, 8] [] rfl rfl (by decide) (by decide) (by decide) rfl rfl [0, 1, 2, 3, 4, 5, 6, 7, 8] (by decide) (wM K m q1 q2 q3 q4 q5 q6 q7 q8 S P H T X Z n ru ty cl sp ca co) rfl ?_
        refine gx_istore (pc := 52) hB dX5_refund_52 (by decide) [(4, .int (nI (sHome S ((sG S g 1).toNatClampNeg)))), (3, .int ((sG S g 2) / 4)), (2, .int (sG S g 2)), (0, .ref m), (1, .int (nI g))] rfl ?_
        refine gx_aload_n (pc := 54) hB dX5_refund_54 3 rfl ?_
        refine gx_iload_n (pc := 55) hB dX5_refund_55 4 rfl ?_
        refine gx_iconst (pc := 56) hB dX5_refund_56 5 (by decide) ?_
        refine gx_dVi (pc := 57) (r := sG S g 5) (wr := []) hB (c_X5_ofGift l K m q1 q2 q3 q4 q5 q6 q7 q8 S P H T X Z n ru ty cl sp ca co g 5 (by first | assumption | omega | decide) (by first | assumption | omega | decide)) mX5_ofGift dX5_refund_57 tb_867 pX5_ofGift ⟨Nat.le_of_ble_eq_true rfl, Nat.le_of_ble_eq_true rfl⟩ ⟨rfl, rfl⟩ ⟨Nat.zero_le _, Nat.zero_le _⟩ rfl (Nat.le_of_ble_eq_true rfl) [0, 1, 2, 3, 4, 5, 6, 7, 8] [] rfl rfl (by decide) (by decide) (by decide) rfl rfl [0, 1, 2, 3, 4, 5, 6, 7, 8] (by decide) (wM K m q1 q2 q3 q4 q5 q6 q7 q8 S P H T X Z n ru ty cl sp ca co) rfl ?_
        refine gx_iconst (pc := 60) hB dX5_refund_60 1 (by decide) ?_
        refine gx_icmp_eq (pc := 61) hB 77 dX5_refund_61 (by decide) (fun c_6 => ?_) (fun c_6 => ?_)
        · refine gx_bipush (pc := 77) hB dX5_refund_77 (-2) (by decide) ?_
          have e1 : ((mRefund S (nI g)).1) = (-2) := by simp [mRefund, mRefT, mRefS, kpP, kpn, Int32.not_lt.mp c_1, eq_false c_1, c_2, eq_false (Int32.not_le.mpr c_2), s_g, eq_true c_3, eq_true c_6]
          have f0 : ((mRefund S (nI g)).2.2) = S := by simp [mRefund, mRefT, mRefS, kpP, kpn, Int32.not_lt.mp c_1, eq_false c_1, c_2, eq_false (Int32.not_le.mpr c_2), s_g, eq_true c_3, eq_true c_6]
          have f1 : (kpP (mRefund S (nI g)).2.1 ru n P S) = P := by simp [mRefund, mRefT, mRefS, kpP, kpn, Int32.not_lt.mp c_1, eq_false c_1, c_2, eq_false (Int32.not_le.mpr c_2), s_g, eq_true c_3, eq_true c_6]
          have f2 : (kpn (mRefund S (nI g)).2.1 ru n) = n := by simp [mRefund, mRefT, mRefS, kpP, kpn, Int32.not_lt.mp c_1, eq_false c_1, c_2, eq_false (Int32.not_le.mpr c_2), s_g, eq_true c_3, eq_true c_6]
          exact gx_iret (pc := 79) hC dX5_refund_79 (Nat.zero_le _) (Nat.zero_le _) (⟨by rw [e1], by rw [f0, f1, f2]⟩)
        · refine gx_aload_n (pc := 64) hB dX5_refund_64 3 rfl ?_
          refine gx_iload (pc := 65) hB dX5_refund_65 0 rfl ?_
          refine gx_iconst (pc := 67) hB dX5_refund_67 0 (by decide) ?_
          refine gx_dVi (pc := 68) (r := sP S (sHome S ((sG S g 1).toNatClampNeg)) 0) (wr := []) hB (c_X5_ofPurpose l K m q1 q2 q3 q4 q5 q6 q7 q8 S P H T X Z n ru ty cl sp ca co (sHome S ((sG S g 1).toNatClampNeg)) 0 (by first | assumption | omega | decide) (by first | assumption | omega | decide)) mX5_ofPurpose dX5_refund_68 tb_816 pX5_ofPurpose ⟨Nat.le_of_ble_eq_true rfl, Nat.le_of_ble_eq_true rfl⟩ ⟨rfl, rfl⟩ ⟨Nat.zero_le _, Nat.zero_le _⟩ rfl (Nat.le_of_ble_eq_true rfl) [0, 1, 2, 3, 4, 5, 6, 7, 8] [] rfl rfl (by decide) (by decide) (by decide) rfl rfl [0, 1, 2, 3, 4, 5, 6, 7, 8] (by decide) (wM K m q1 q2 q3 q4 q5 q6 q7 q8 S P H T X Z n ru ty cl sp ca co) rfl ?_
          refine gx_iload_n (pc := 71) hB dX5_refund_71 2 rfl ?_
          refine gx_iload_n (pc := 72) hB dX5_refund_72 1 rfl ?_
          refine gx_iadd (pc := 73) hB dX5_refund_73 ?_
          refine gx_icmp_ge (pc := 74) hB 80 dX5_refund_74 (by decide) (fun c_7 => ?_) (fun c_7 => ?_)
          · refine gx_aload_n (pc := 80) hB dX5_refund_80 3 rfl ?_
            refine gx_dVv (pc := 81) (wr := []) hB (c_X5_changes l K m q1 q2 q3 q4 q5 q6 q7 q8 S P H T X Z n ru ty cl sp ca co (by first | assumption | omega | decide)) mX5_changes dX5_refund_81 tb_777 pX5_changes ⟨Nat.le_of_ble_eq_true rfl, Nat.le_of_ble_eq_true rfl⟩ ⟨rfl, rfl⟩ ⟨Nat.zero_le _, Nat.zero_le _⟩ rfl (Nat.le_of_ble_eq_true rfl) [0, 1, 2, 3, 4, 5, 6, 7, 8] [] rfl rfl (by decide) (by decide) (by decide) rfl rfl [0, 1, 2, 3, 4, 5, 6, 7, 8] (by decide) (wM K m q1 q2 q3 q4 q5 q6 q7 q8 S (chP ru n P S) H T X Z (chn ru n) ru ty cl sp ca co) rfl ?_
            refine gx_aload_n (pc := 84) hB dX5_refund_84 3 rfl ?_
            refine gx_iload (pc := 85) hB dX5_refund_85 0 rfl ?_
            refine gx_iconst (pc := 87) hB dX5_refund_87 0 (by decide) ?_
            refine gx_iload_n (pc := 88) hB dX5_refund_88 2 rfl ?_
            refine gx_ineg (pc := 89) hB dX5_refund_89 ?_
            refine gx_iload_n (pc := 90) hB dX5_refund_90 1 rfl ?_
            refine gx_isub (pc := 91) hB dX5_refund_91 ?_
            refine gx_dVv (pc := 92) (wr := []) hB (c_X5_adds l K m q1 q2 q3 q4 q5 q6 q7 q8 S (chP ru n P S) H T X Z (chn ru n) ru ty cl sp ca co (sHome S ((sG S g 1).toNatClampNeg)) 0 ((-(sG S g 2)) - ((sG S g 2) / 4)) (by first | assumption | omega | decide) (by first | assumption | omega | decide)) mX5_adds dX5_refund_92 tb_824 pX5_adds ⟨Nat.le_of_ble_eq_true rfl, Nat.le_of_ble_eq_true rfl⟩ ⟨rfl, rfl⟩ ⟨Nat.zero_le _, Nat.zero_le _⟩ rfl (Nat.le_of_ble_eq_true rfl) [0, 1, 2, 3, 4, 5, 6, 7, 8] [] rfl rfl (by decide) (by decide) (by decide) rfl rfl [0, 1, 2, 3, 4, 5, 6, 7, 8] (by decide) (wM K m q1 q2 q3 q4 q5 q6 q7 q8 (aP S (sHome S ((sG S g 1).toNatClampNeg)) 0 ((-(sG S g 2)) - ((sG S g 2) / 4))) (chP ru n P S) H T X Z (chn ru n) ru ty cl sp ca co) rfl ?_
            refine gx_aload_n (pc := 95) hB dX5_refund_95 3 rfl ?_
            refine gx_iload (pc := 96) hB dX5_refund_96 0 rfl ?_
            refine gx_iconst (pc := 98) hB dX5_refund_98 5 (by decide) ?_
            refine gx_iload_n (pc := 99) hB dX5_refund_99 2 rfl ?_
            refine gx_dVv (pc := 100) (wr := []) hB (c_X5_adds l K m q1 q2 q3 q4 q5 q6 q7 q8 (aP S (sHome S ((sG S g 1).toNatClampNeg)) 0 ((-(sG S g 2)) - ((sG S g 2) / 4))) (chP ru n P S) H T X Z (chn ru n) ru ty cl sp ca co (sHome S ((sG S g 1).toNatClampNeg)) 5 (sG S g 2) (by first | assumption | omega | decide) (by first | assumption | omega | decide)) mX5_adds dX5_refund_100 tb_824 pX5_adds ⟨Nat.le_of_ble_eq_true rfl, Nat.le_of_ble_eq_true rfl⟩ ⟨rfl, rfl⟩ ⟨Nat.zero_le _, Nat.zero_le _⟩ rfl (Nat.le_of_ble_eq_true rfl) [0, 1, 2, 3, 4, 5, 6, 7, 8] [] rfl rfl (by decide) (by decide) (by decide) rfl rfl [0, 1, 2, 3, 4, 5, 6, 7, 8] (by decide) (wM K m q1 q2 q3 q4 q5 q6 q7 q8 (aP (aP S (sHome S ((sG S g 1).toNatClampNeg)) 0 ((-(sG S g 2)) - ((sG S g 2) / 4))) (sHome S ((sG S g 1).toNatClampNeg)) 5 (sG S g 2)) (chP ru n P S) H T X Z (chn ru n) ru ty cl sp ca co) rfl ?_
            refine gx_aload_n (pc := 103) hB dX5_refund_103 3 rfl ?_
            refine gx_iload (pc := 104) hB dX5_refund_104 0 rfl ?_
            refine gx_bipush (pc := 106) hB dX5_refund_106 6 (by decide) ?_
            refine gx_iload_n (pc := 108) hB dX5_refund_108 1 rfl ?_
            refine gx_dVv (pc := 109) (wr := []) hB (c_X5_adds l K m q1 q2 q3 q4 q5 q6 q7 q8 (aP (aP S (sHome S ((sG S g 1).toNatClampNeg)) 0 ((-(sG S g 2)) - ((sG S g 2) / 4))) (sHome S ((sG S g 1).toNatClampNeg)) 5 (sG S g 2)) (chP ru n P S) H T X Z (chn ru n) ru ty cl sp ca co (sHome S ((sG S g 1).toNatClampNeg)) 6 ((sG S g 2) / 4) (by first | assumption | omega | decide) (by first | assumption | omega | decide)) mX5_adds dX5_refund_109 tb_824 pX5_adds ⟨Nat.le_of_ble_eq_true rfl, Nat.le_of_ble_eq_true rfl⟩ ⟨rfl, rfl⟩ ⟨Nat.zero_le _, Nat.zero_le _⟩ rfl (Nat.le_of_ble_eq_true rfl) [0, 1, 2, 3, 4, 5, 6, 7, 8] [] rfl rfl (by decide) (by decide) (by decide) rfl rfl [0, 1, 2, 3, 4, 5, 6, 7, 8] (by decide) (wM K m q1 q2 q3 q4 q5 q6 q7 q8 (aP (aP (aP S (sHome S ((sG S g 1).toNatClampNeg)) 0 ((-(sG S g 2)) - ((sG S g 2) / 4))) (sHome S ((sG S g 1).toNatClampNeg)) 5 (sG S g 2)) (sHome S ((sG S g 1).toNatClampNeg)) 6 ((sG S g 2) / 4)) (chP ru n P S) H T X Z (chn ru n) ru ty cl sp ca co) rfl ?_
            refine gx_aload_n (pc := 112) hB dX5_refund_112 3 rfl ?_
            refine gx_get (pc := 113) hB dX5_refund_113 inX5 rfl 0 rfl 0 (by decide) tb_726 rfl rfl ?_
            refine gx_sipush (pc := 116) hB dX5_refund_116 129 (by decide) ?_
            refine gx_bipush (pc := 119) hB dX5_refund_119 7 (by decide) ?_
            refine gx_iload_n (pc := 121) hB dX5_refund_121 4 rfl ?_
            refine gx_imul (pc := 122) hB dX5_refund_122 ?_
            refine gx_top (show 7 * nI g = nI (7 * g) from pk_mul 7 g) ?_
            refine gx_iadd (pc := 123) hB dX5_refund_123 ?_
            refine gx_top (show 129 + (nI (7 * g)) = nI (129 + (7 * g)) from nI_add 129 (7 * g)) ?_
            refine gx_iconst (pc := 124) hB dX5_refund_124 5 (by decide) ?_
            refine gx_iadd (pc := 125) hB dX5_refund_125 ?_
            refine gx_top (show (nI (129 + (7 * g))) + 5 = nI (129 + (7 * g) + 5) from nI_add (129 + (7 * g)) 5) ?_
            refine gx_iconst (pc := 126) hB dX5_refund_126 1 (by decide) ?_
            refine gx_iast (pc := 127) hB dX5_refund_127 1 1 rfl rfl (129 + (7 * g) + 5) rfl (by omega) (by decide) (wM K m q1 q2 q3 q4 q5 q6 q7 q8 (upd (aP (aP (aP S (sHome S ((sG S g 1).toNatClampNeg)) 0 ((-(sG S g 2)) - ((sG S g 2) / 4))) (sHome S ((sG S g 1).toNatClampNeg)) 5 (sG S g 2)) (sHome S ((sG S g 1).toNatClampNeg)) 6 ((sG S g 2) / 4)) (129 + (7 * g) + 5) 1) (chP ru n P S) H T X Z (chn ru n) ru ty cl sp ca co) rfl ?_
            refine gx_iload_n (pc := 128) hB dX5_refund_128 1 rfl ?_
            have e1 : ((mRefund S (nI g)).1) = ((sG S g 2) / 4) := by simp [mRefund, mRefT, mRefS, kpP, kpn, Int32.not_lt.mp c_1, eq_false c_1, c_2, eq_false (Int32.not_le.mpr c_2), s_g, eq_true c_3, eq_false c_6, c_7, eq_false (Int32.not_lt.mpr c_7)]
            have f0 : ((mRefund S (nI g)).2.2) = (upd (aP (aP (aP S (sHome S ((sG S g 1).toNatClampNeg)) 0 ((-(sG S g 2)) - ((sG S g 2) / 4))) (sHome S ((sG S g 1).toNatClampNeg)) 5 (sG S g 2)) (sHome S ((sG S g 1).toNatClampNeg)) 6 ((sG S g 2) / 4)) (129 + (7 * g) + 5) 1) := by simp [mRefund, mRefT, mRefS, kpP, kpn, Int32.not_lt.mp c_1, eq_false c_1, c_2, eq_false (Int32.not_le.mpr c_2), s_g, eq_true c_3, eq_false c_6, c_7, eq_false (Int32.not_lt.mpr c_7)]
            have f1 : (kpP (mRefund S (nI g)).2.1 ru n P S) = chP ru n P S := by simp [mRefund, mRefT, mRefS, kpP, kpn, Int32.not_lt.mp c_1, eq_false c_1, c_2, eq_false (Int32.not_le.mpr c_2), s_g, eq_true c_3, eq_false c_6, c_7, eq_false (Int32.not_lt.mpr c_7)]
            have f2 : (kpn (mRefund S (nI g)).2.1 ru n) = chn ru n := by simp [mRefund, mRefT, mRefS, kpP, kpn, Int32.not_lt.mp c_1, eq_false c_1, c_2, eq_false (Int32.not_le.mpr c_2), s_g, eq_true c_3, eq_false c_6, c_7, eq_false (Int32.not_lt.mpr c_7)]
            exact gx_iret (pc := 129) hC dX5_refund_129 (Nat.zero_le _) (Nat.zero_le _) (⟨by rw [e1], by rw [f0, f1, f2]⟩)
          · refine gx_bipush (pc := 77) hB dX5_refund_77 (-2) (by decide) ?_
            have e1 : ((mRefund S (nI g)).1) = (-2) := by simp [mRefund, mRefT, mRefS, kpP, kpn, Int32.not_lt.mp c_1, eq_false c_1, c_2, eq_false (Int32.not_le.mpr c_2), s_g, eq_true c_3, eq_false c_6, Int32.not_le.mp c_7, eq_false c_7]
            have f0 : ((mRefund S (nI g)).2.2) = S := by simp [mRefund, mRefT, mRefS, kpP, kpn, Int32.not_lt.mp c_1, eq_false c_1, c_2, eq_false (Int32.not_le.mpr c_2), s_g, eq_true c_3, eq_false c_6, Int32.not_le.mp c_7, eq_false c_7]
            have f1 : (kpP (mRefund S (nI g)).2.1 ru n P S) = P := by simp [mRefund, mRefT, mRefS, kpP, kpn, Int32.not_lt.mp c_1, eq_false c_1, c_2, eq_false (Int32.not_le.mpr c_2), s_g, eq_true c_3, eq_false c_6, Int32.not_le.mp c_7, eq_false c_7]
            have f2 : (kpn (mRefund S (nI g)).2.1 ru n) = n := by simp [mRefund, mRefT, mRefS, kpP, kpn, Int32.not_lt.mp c_1, eq_false c_1, c_2, eq_false (Int32.not_le.mpr c_2), s_g, eq_true c_3, eq_false c_6, Int32.not_le.mp c_7, eq_false c_7]
            exact gx_iret (pc := 79) hC dX5_refund_79 (Nat.zero_le _) (Nat.zero_le _) (⟨by rw [e1], by rw [f0, f1, f2]⟩)
    · refine gx_iconst (pc := 14) hB dX5_refund_14 (-1) (by decide) ?_
      have e1 : ((mRefund S x).1) = (-1) := by simp [mRefund, mRefT, mRefS, kpP, kpn, Int32.not_lt.mp c_1, eq_false c_1, Int32.not_lt.mp c_2, eq_false c_2]
      have f0 : ((mRefund S x).2.2) = S := by simp [mRefund, mRefT, mRefS, kpP, kpn, Int32.not_lt.mp c_1, eq_false c_1, Int32.not_lt.mp c_2, eq_false c_2]
      have f1 : (kpP (mRefund S x).2.1 ru n P S) = P := by simp [mRefund, mRefT, mRefS, kpP, kpn, Int32.not_lt.mp c_1, eq_false c_1, Int32.not_lt.mp c_2, eq_false c_2]
      have f2 : (kpn (mRefund S x).2.1 ru n) = n := by simp [mRefund, mRefT, mRefS, kpP, kpn, Int32.not_lt.mp c_1, eq_false c_1, Int32.not_lt.mp c_2, eq_false c_2]
      exact gx_iret (pc := 15) hC dX5_refund_15 (Nat.zero_le _) (Nat.zero_le _) (⟨by rw [e1], by rw [f0, f1, f2]⟩)
theorem pX5_month : (parseMethodDescriptor yX5_month.desc).map (fun d => d.parameters.length) = some 1 := by decide +kernel
theorem mX5_month : gx_M yX5_month cX5_month 2 (some .int) := ⟨tb_924, tb_56, tb_73, tb_925, by decide, by decide⟩
set_option maxHeartbeats 4000000 in
set_option maxRecDepth 100000 in
theorem c_X5_month (l : Launch) (K : gx_K) (m q1 q2 q3 q4 q5 q6 q7 q8 : Nat) (S P H T X Z : Nat → Int32) (n : Nat) (ru : Bool) (ty : Nat) (cl : Int32) (sp : Nat) (ca : Int32) (co : Nat) (a b c e : Nat) (k : Nat) (h0 : sOk S a b c e) (h1 : k < e) : gx_Ctr l K yX5_month cX5_month 2 (some .int) (rmm 3 49) [.ref m, .int (nI k)] (wM K m q1 q2 q3 q4 q5 q6 q7 q8 S P H T X Z n ru ty cl sp ca co) (gx_D (some (.int ((mMonth S c k).1))) (wM K m q1 q2 q3 q4 q5 q6 q7 q8 ((mMonth S c k).2) P H T X Z n ru ty cl sp ca co)) := by
  refine gx_of (by decide) (Nat.le_of_ble_eq_true rfl) (fun G hC => ?_)
  have hB := hC.b
  refine gx_lv (lv' := [(0, .ref m), (1, .int (nI k))]) rfl ?_
  have hb0 := h0.1
  refine gx_aload_n (pc := 0) hB dX5_month_0 0 rfl ?_
  refine gx_iload_n (pc := 1) hB dX5_month_1 1 rfl ?_
  refine gx_bipush (pc := 2) hB dX5_month_2 7 (by decide) ?_
  refine gx_dVi (pc := 4) (r := sK S k 7) (wr := []) hB (c_X5_ofPledge l K m q1 q2 q3 q4 q5 q6 q7 q8 S P H T X Z n ru ty cl sp ca co k 7 (by first | assumption | omega | decide) (by first | assumption | omega | decide)) mX5_ofPledge dX5_month_4 tb_844 pX5_ofPledge ⟨Nat.le_of_ble_eq_true rfl, Nat.le_of_ble_eq_true rfl⟩ ⟨rfl, rfl⟩ ⟨Nat.zero_le _, Nat.zero_le _⟩ rfl (Nat.le_of_ble_eq_true rfl) [0, 1, 2, 3, 4, 5, 6, 7, 8] [] rfl rfl (by decide) (by decide) (by decide) rfl rfl [0, 1, 2, 3, 4, 5, 6, 7, 8] (by decide) (wM K m q1 q2 q3 q4 q5 q6 q7 q8 S P H T X Z n ru ty cl sp ca co) rfl ?_
  refine gx_iconst (pc := 7) hB dX5_month_7 1 (by decide) ?_
  refine gx_icmp_ne (pc := 8) hB 83 dX5_month_8 (by decide) (fun c_1 => ?_) (fun c_1 => ?_)
  · refine gx_aload_n (pc := 83) hB dX5_month_83 0 rfl ?_
    refine gx_get (pc := 84) hB dX5_month_84 inX5 rfl 0 rfl 0 (by decide) tb_726 rfl rfl ?_
    refine gx_iconst (pc := 87) hB dX5_month_87 4 (by decide) ?_
    refine gx_iald (pc := 88) hB dX5_month_88 1 1 rfl rfl 4 rfl (by decide) (by decide) ?_
    refine gx_top (show S 4 = nI c from h0.1.2.2.1) ?_
    refine gx_bipush (pc := 89) hB dX5_month_89 24 (by decide) ?_
    refine gx_icmp_ne (pc := 91) hB 116 dX5_month_91 (by decide) (fun c_2 => ?_) (fun c_2 => ?_)
    · have hcl : c < 24 := nI_ne (n := 24) c_2 (by omega)
      obtain ⟨z_1, y_1⟩ := num_of (x := sK S k 1) (N := a) (h0.2.2.1 k h1).2 (by omega)
      refine gx_aload_n (pc := 116) hB dX5_month_116 0 rfl ?_
      refine gx_aload_n (pc := 117) hB dX5_month_117 0 rfl ?_
      refine gx_iload_n (pc := 118) hB dX5_month_118 1 rfl ?_
      refine gx_iconst (pc := 119) hB dX5_month_119 0 (by decide) ?_
      refine gx_dVi (pc := 120) (r := sK S k 0) (wr := []) hB (c_X5_ofPledge l K m q1 q2 q3 q4 q5 q6 q7 q8 S P H T X Z n ru ty cl sp ca co k 0 (by first | assumption | omega | decide) (by first | assumption | omega | decide)) mX5_ofPledge dX5_month_120 tb_844 pX5_ofPledge ⟨Nat.le_of_ble_eq_true rfl, Nat.le_of_ble_eq_true rfl⟩ ⟨rfl, rfl⟩ ⟨Nat.zero_le _, Nat.zero_le _⟩ rfl (Nat.le_of_ble_eq_true rfl) [0, 1, 2, 3, 4, 5, 6, 7, 8] [] rfl rfl (by decide) (by decide) (by decide) rfl rfl [0, 1, 2, 3, 4, 5, 6, 7, 8] (by decide) (wM K m q1 q2 q3 q4 q5 q6 q7 q8 S P H T X Z n ru ty cl sp ca co) rfl ?_
      refine gx_aload_n (pc := 123) hB dX5_month_123 0 rfl ?_
      refine gx_iload_n (pc := 124) hB dX5_month_124 1 rfl ?_
      refine gx_iconst (pc := 125) hB dX5_month_125 1 (by decide) ?_
      refine gx_dVi (pc := 126) (r := sK S k 1) (wr := []) hB (c_X5_ofPledge l K m q1 q2 q3 q4 q5 q6 q7 q8 S P H T X Z n ru ty cl sp ca co k 1 (by first | assumption | omega | decide) (by first | assumption | omega | decide)) mX5_ofPledge dX5_month_126 tb_844 pX5_ofPledge ⟨Nat.le_of_ble_eq_true rfl, Nat.le_of_ble_eq_true rfl⟩ ⟨rfl, rfl⟩ ⟨Nat.zero_le _, Nat.zero_le _⟩ rfl (Nat.le_of_ble_eq_true rfl) [0, 1, 2, 3, 4, 5, 6, 7, 8] [] rfl rfl (by decide) (by decide) (by decide) rfl rfl [0, 1, 2, 3, 4, 5, 6, 7, 8] (by decide) (wM K m q1 q2 q3 q4 q5 q6 q7 q8 S P H T X Z n ru ty cl sp ca co) rfl ?_
      refine gx_top (show sK S k 1 = nI ((sK S k 1).toNatClampNeg) from z_1) ?_
      refine gx_aload_n (pc := 129) hB dX5_month_129 0 rfl ?_
      refine gx_iload_n (pc := 130) hB dX5_month_130 1 rfl ?_
      refine gx_iconst (pc := 131) hB dX5_month_131 2 (by decide) ?_
      refine gx_dVi (pc := 132) (r := sK S k 2) (wr := []) hB (c_X5_ofPledge l K m q1 q2 q3 q4 q5 q6 q7 q8 S P H T X Z n ru ty cl sp ca co k 2 (by first | assumption | omega | decide) (by first | assumption | omega | decide)) mX5_ofPledge dX5_month_132 tb_844 pX5_ofPledge ⟨Nat.le_of_ble_eq_true rfl, Nat.le_of_ble_eq_true rfl⟩ ⟨rfl, rfl⟩ ⟨Nat.zero_le _, Nat.zero_le _⟩ rfl (Nat.le_of_ble_eq_true rfl) [0, 1, 2, 3, 4, 5, 6, 7, 8] [] rfl rfl (by decide) (by decide) (by decide) rfl rfl [0, 1, 2, 3, 4, 5, 6, 7, 8] (by decide) (wM K m q1 q2 q3 q4 q5 q6 q7 q8 S P H T X Z n ru ty cl sp ca co) rfl ?_
      refine gx_iload_n (pc := 135) hB dX5_month_135 1 rfl ?_
      refine gx_dVi (pc := 136) (r := nI c) (wr := []) hB (c_X5_gives l K m q1 q2 q3 q4 q5 q6 q7 q8 S P H T X Z n ru ty cl sp ca co c (sK S k 0) ((sK S k 1).toNatClampNeg) (sK S k 2) (nI k) h0.1.2.2.1 (by first | assumption | omega | decide) (by first | assumption | omega | decide)) mX5_gives dX5_month_136 tb_820 pX5_gives ⟨Nat.le_of_ble_eq_true rfl, Nat.le_of_ble_eq_true rfl⟩ ⟨rfl, rfl⟩ ⟨Nat.zero_le _, Nat.zero_le _⟩ rfl (Nat.le_of_ble_eq_true rfl) [0, 1, 2, 3, 4, 5, 6, 7, 8] [] rfl rfl (by decide) (by decide) (by decide) rfl rfl [0, 1, 2, 3, 4, 5, 6, 7, 8] (by decide) (wM K m q1 q2 q3 q4 q5 q6 q7 q8 (mGives S c (sK S k 0) ((sK S k 1).toNatClampNeg) (sK S k 2) (nI k)) P H T X Z n ru ty cl sp ca co) rfl ?_
      refine gx_pop (pc := 139) hB dX5_month_139 rfl ?_
      refine gx_aload_n (pc := 140) hB dX5_month_140 0 rfl ?_
      refine gx_iload_n (pc := 141) hB dX5_month_141 1 rfl ?_
      refine gx_bipush (pc := 142) hB dX5_month_142 6 (by decide) ?_
      refine gx_aload_n (pc := 144) hB dX5_month_144 0 rfl ?_
      refine gx_iload_n (pc := 145) hB dX5_month_145 1 rfl ?_
      refine gx_bipush (pc := 146) hB dX5_month_146 6 (by decide) ?_
      refine gx_dVi (pc := 148) (r := sK (mGives S c (sK S k 0) ((sK S k 1).toNatClampNeg) (sK S k 2) (nI k)) k 6) (wr := []) hB (c_X5_ofPledge l K m q1 q2 q3 q4 q5 q6 q7 q8 (mGives S c (sK S k 0) ((sK S k 1).toNatClampNeg) (sK S k 2) (nI k)) P H T X Z n ru ty cl sp ca co k 6 (by first | assumption | omega | decide) (by first | assumption | omega | decide)) mX5_ofPledge dX5_month_148 tb_844 pX5_ofPledge ⟨Nat.le_of_ble_eq_true rfl, Nat.le_of_ble_eq_true rfl⟩ ⟨rfl, rfl⟩ ⟨Nat.zero_le _, Nat.zero_le _⟩ rfl (Nat.le_of_ble_eq_true rfl) [0, 1, 2, 3, 4, 5, 6, 7, 8] [] rfl rfl (by decide) (by decide) (by decide) rfl rfl [0, 1, 2, 3, 4, 5, 6, 7, 8] (by decide) (wM K m q1 q2 q3 q4 q5 q6 q7 q8 (mGives S c (sK S k 0) ((sK S k 1).toNatClampNeg) (sK S k 2) (nI k)) P H T X Z n ru ty cl sp ca co) rfl ?_
      refine gx_iconst (pc := 151) hB dX5_month_151 1 (by decide) ?_
      refine gx_iadd (pc := 152) hB dX5_month_152 ?_
      refine gx_dVv (pc := 153) (wr := []) hB (c_X5_putsPledge l K m q1 q2 q3 q4 q5 q6 q7 q8 (mGives S c (sK S k 0) ((sK S k 1).toNatClampNeg) (sK S k 2) (nI k)) P H T X Z n ru ty cl sp ca co k 6 ((sK (mGives S c (sK S k 0) ((sK S k 1).toNatClampNeg) (sK S k 2) (nI k)) k 6) + 1) (by first | assumption | omega | decide) (by first | assumption | omega | decide)) mX5_putsPledge dX5_month_153 tb_832 pX5_putsPledge ⟨Nat.le_of_ble_eq_true rfl, Nat.le_of_ble_eq_true rfl⟩ ⟨rfl, rfl⟩ ⟨Nat.zero_le _, Nat.zero_le _⟩ rfl (Nat.le_of_ble_eq_true rfl) [0, 1, 2, 3, 4, 5, 6, 7, 8] [] rfl rfl (by decide) (by decide) (by decide) rfl rfl [0, 1, 2, 3, 4, 5, 6, 7, 8] (by decide) (wM K m q1 q2 q3 q4 q5 q6 q7 q8 (uK (mGives S c (sK S k 0) ((sK S k 1).toNatClampNeg) (sK S k 2) (nI k)) k 6 ((sK (mGives S c (sK S k 0) ((sK S k 1).toNatClampNeg) (sK S k 2) (nI k)) k 6) + 1)) P H T X Z n ru ty cl sp ca co) rfl ?_
      refine gx_aload_n (pc := 156) hB dX5_month_156 0 rfl ?_
      refine gx_iload_n (pc := 157) hB dX5_month_157 1 rfl ?_
      refine gx_iconst (pc := 158) hB dX5_month_158 3 (by decide) ?_
      refine gx_aload_n (pc := 159) hB dX5_month_159 0 rfl ?_
      refine gx_iload_n (pc := 160) hB dX5_month_160 1 rfl ?_
      refine gx_iconst (pc := 161) hB dX5_month_161 3 (by decide) ?_
      refine gx_dVi (pc := 162) (r := sK (uK (mGives S c (sK S k 0) ((sK S k 1).toNatClampNeg) (sK S k 2) (nI k)) k 6 ((sK (mGives S c (sK S k 0) ((sK S k 1).toNatClampNeg) (sK S k 2) (nI k)) k 6) + 1)) k 3) (wr := []) hB (c_X5_ofPledge l K m q1 q2 q3 q4 q5 q6 q7 q8 (uK (mGives S c (sK S k 0) ((sK S k 1).toNatClampNeg) (sK S k 2) (nI k)) k 6 ((sK (mGives S c (sK S k 0) ((sK S k 1).toNatClampNeg) (sK S k 2) (nI k)) k 6) + 1)) P H T X Z n ru ty cl sp ca co k 3 (by first | assumption | omega | decide) (by first | assumption | omega | decide)) mX5_ofPledge dX5_month_162 tb_844 pX5_ofPledge ⟨Nat.le_of_ble_eq_true rfl, Nat.le_of_ble_eq_true rfl⟩ ⟨rfl, rfl⟩ ⟨Nat.zero_le _, Nat.zero_le _⟩ rfl (Nat.le_of_ble_eq_true rfl) [0, 1, 2, 3, 4, 5, 6, 7, 8] [] rfl rfl (by decide) (by decide) (by decide) rfl rfl [0, 1, 2, 3, 4, 5, 6, 7, 8] (by decide) (wM K m q1 q2 q3 q4 q5 q6 q7 q8 (uK (mGives S c (sK S k 0) ((sK S k 1).toNatClampNeg) (sK S k 2) (nI k)) k 6 ((sK (mGives S c (sK S k 0) ((sK S k 1).toNatClampNeg) (sK S k 2) (nI k)) k 6) + 1)) P H T X Z n ru ty cl sp ca co) rfl ?_
      refine gx_iconst (pc := 165) hB dX5_month_165 1 (by decide) ?_
      refine gx_isub (pc := 166) hB dX5_month_166 ?_
      refine gx_dVv (pc := 167) (wr := []) hB (c_X5_putsPledge l K m q1 q2 q3 q4 q5 q6 q7 q8 (uK (mGives S c (sK S k 0) ((sK S k 1).toNatClampNeg) (sK S k 2) (nI k)) k 6 ((sK (mGives S c (sK S k 0) ((sK S k 1).toNatClampNeg) (sK S k 2) (nI k)) k 6) + 1)) P H T X Z n ru ty cl sp ca co k 3 ((sK (uK (mGives S c (sK S k 0) ((sK S k 1).toNatClampNeg) (sK S k 2) (nI k)) k 6 ((sK (mGives S c (sK S k 0) ((sK S k 1).toNatClampNeg) (sK S k 2) (nI k)) k 6) + 1)) k 3) - 1) (by first | assumption | omega | decide) (by first | assumption | omega | decide)) mX5_putsPledge dX5_month_167 tb_832 pX5_putsPledge ⟨Nat.le_of_ble_eq_true rfl, Nat.le_of_ble_eq_true rfl⟩ ⟨rfl, rfl⟩ ⟨Nat.zero_le _, Nat.zero_le _⟩ rfl (Nat.le_of_ble_eq_true rfl) [0, 1, 2, 3, 4, 5, 6, 7, 8] [] rfl rfl (by decide) (by decide) (by decide) rfl rfl [0, 1, 2, 3, 4, 5, 6, 7, 8] (by decide) (wM K m q1 q2 q3 q4 q5 q6 q7 q8 (uK (uK (mGives S c (sK S k 0) ((sK S k 1).toNatClampNeg) (sK S k 2) (nI k)) k 6 ((sK (mGives S c (sK S k 0) ((sK S k 1).toNatClampNeg) (sK S k 2) (nI k)) k 6) + 1)) k 3 ((sK (uK (mGives S c (sK S k 0) ((sK S k 1).toNatClampNeg) (sK S k 2) (nI k)) k 6 ((sK (mGives S c (sK S k 0) ((sK S k 1).toNatClampNeg) (sK S k 2) (nI k)) k 6) + 1)) k 3) - 1)) P H T X Z n ru ty cl sp ca co) rfl ?_
      refine gx_aload_n (pc := 170) hB dX5_month_170 0 rfl ?_
      refine gx_iload_n (pc := 171) hB dX5_month_171 1 rfl ?_
      refine gx_iconst (pc := 172) hB dX5_month_172 3 (by decide) ?_
      refine gx_dVi (pc := 173) (r := sK (uK (uK (mGives S c (sK S k 0) ((sK S k 1).toNatClampNeg) (sK S k 2) (nI k)) k 6 ((sK (mGives S c (sK S k 0) ((sK S k 1).toNatClampNeg) (sK S k 2) (nI k)) k 6) + 1)) k 3 ((sK (uK (mGives S c (sK S k 0) ((sK S k 1).toNatClampNeg) (sK S k 2) (nI k)) k 6 ((sK (mGives S c (sK S k 0) ((sK S k 1).toNatClampNeg) (sK S k 2) (nI k)) k 6) + 1)) k 3) - 1)) k 3) (wr := []) hB (c_X5_ofPledge l K m q1 q2 q3 q4 q5 q6 q7 q8 (uK (uK (mGives S c (sK S k 0) ((sK S k 1).toNatClampNeg) (sK S k 2) (nI k)) k 6 ((sK (mGives S c (sK S k 0) ((sK S k 1).toNatClampNeg) (sK S k 2) (nI k)) k 6) + 1)) k 3 ((sK (uK (mGives S c (sK S k 0) ((sK S k 1).toNatClampNeg) (sK S k 2) (nI k)) k 6 ((sK (mGives S c (sK S k 0) ((sK S k 1).toNatClampNeg) (sK S k 2) (nI k)) k 6) + 1)) k 3) - 1)) P H T X Z n ru ty cl sp ca co k 3 (by first | assumption | omega | decide) (by first | assumption | omega | decide)) mX5_ofPledge dX5_month_173 tb_844 pX5_ofPledge ⟨Nat.le_of_ble_eq_true rfl, Nat.le_of_ble_eq_true rfl⟩ ⟨rfl, rfl⟩ ⟨Nat.zero_le _, Nat.zero_le _⟩ rfl (Nat.le_of_ble_eq_true rfl) [0, 1, 2, 3, 4, 5, 6, 7, 8] [] rfl rfl (by decide) (by decide) (by decide) rfl rfl [0, 1, 2, 3, 4, 5, 6, 7, 8] (by decide) (wM K m q1 q2 q3 q4 q5 q6 q7 q8 (uK (uK (mGives S c (sK S k 0) ((sK S k 1).toNatClampNeg) (sK S k 2) (nI k)) k 6 ((sK (mGives S c (sK S k 0) ((sK S k 1).toNatClampNeg) (sK S k 2) (nI k)) k 6) + 1)) k 3 ((sK (uK (mGives S c (sK S k 0) ((sK S k 1).toNatClampNeg) (sK S k 2) (nI k)) k 6 ((sK (mGives S c (sK S k 0) ((sK S k 1).toNatClampNeg) (sK S k 2) (nI k)) k 6) + 1)) k 3) - 1)) P H T X Z n ru ty cl sp ca co) rfl ?_
      refine gx_if_ne (pc := 176) hB 185 dX5_month_176 (by decide) (fun c_3 => ?_) (fun c_3 => ?_)
      · refine gx_iconst (pc := 185) hB dX5_month_185 1 (by decide) ?_
        have e1 : ((mMonth S c k).1) = 1 := by simp [mMonth, mDec, mInc, eq_false c_1, eq_false c_2, eq_false c_3]
        have f0 : ((mMonth S c k).2) = (uK (uK (mGives S c (sK S k 0) ((sK S k 1).toNatClampNeg) (sK S k 2) (nI k)) k 6 ((sK (mGives S c (sK S k 0) ((sK S k 1).toNatClampNeg) (sK S k 2) (nI k)) k 6) + 1)) k 3 ((sK (uK (mGives S c (sK S k 0) ((sK S k 1).toNatClampNeg) (sK S k 2) (nI k)) k 6 ((sK (mGives S c (sK S k 0) ((sK S k 1).toNatClampNeg) (sK S k 2) (nI k)) k 6) + 1)) k 3) - 1)) := by simp [mMonth, mDec, mInc, eq_false c_1, eq_false c_2, eq_false c_3]
        exact gx_iret (pc := 186) hC dX5_month_186 (Nat.zero_le _) (Nat.zero_le _) (⟨by rw [e1], by rw [f0]⟩)
      · refine gx_aload_n (pc := 179) hB dX5_month_179 0 rfl ?_
        refine gx_iload_n (pc := 180) hB dX5_month_180 1 rfl ?_
        refine gx_iconst (pc := 181) hB dX5_month_181 1 (by decide) ?_
        refine gx_dVv (pc := 182) (wr := []) hB (c_X5_ends l K m q1 q2 q3 q4 q5 q6 q7 q8 (uK (uK (mGives S c (sK S k 0) ((sK S k 1).toNatClampNeg) (sK S k 2) (nI k)) k 6 ((sK (mGives S c (sK S k 0) ((sK S k 1).toNatClampNeg) (sK S k 2) (nI k)) k 6) + 1)) k 3 ((sK (uK (mGives S c (sK S k 0) ((sK S k 1).toNatClampNeg) (sK S k 2) (nI k)) k 6 ((sK (mGives S c (sK S k 0) ((sK S k 1).toNatClampNeg) (sK S k 2) (nI k)) k 6) + 1)) k 3) - 1)) P H T X Z n ru ty cl sp ca co k 1 (by first | assumption | omega | decide)) mX5_ends dX5_month_182 tb_852 pX5_ends ⟨Nat.le_of_ble_eq_true rfl, Nat.le_of_ble_eq_true rfl⟩ ⟨rfl, rfl⟩ ⟨Nat.zero_le _, Nat.zero_le _⟩ rfl (Nat.le_of_ble_eq_true rfl) [0, 1, 2, 3, 4, 5, 6, 7, 8] [] rfl rfl (by decide) (by decide) (by decide) rfl rfl [0, 1, 2, 3, 4, 5, 6, 7, 8] (by decide) (wM K m q1 q2 q3 q4 q5 q6 q7 q8 (mEnds (uK (uK (mGives S c (sK S k 0) ((sK S k 1).toNatClampNeg) (sK S k 2) (nI k)) k 6 ((sK (mGives S c (sK S k 0) ((sK S k 1).toNatClampNeg) (sK S k 2) (nI k)) k 6) + 1)) k 3 ((sK (uK (mGives S c (sK S k 0) ((sK S k 1).toNatClampNeg) (sK S k 2) (nI k)) k 6 ((sK (mGives S c (sK S k 0) ((sK S k 1).toNatClampNeg) (sK S k 2) (nI k)) k 6) + 1)) k 3) - 1)) k 1) P H T X Z n ru ty cl sp ca co) rfl ?_
        refine gx_iconst (pc := 185) hB dX5_month_185 1 (by decide) ?_
        have e1 : ((mMonth S c k).1) = 1 := by simp [mMonth, mDec, mInc, eq_false c_1, eq_false c_2, eq_true c_3]
        have f0 : ((mMonth S c k).2) = (mEnds (uK (uK (mGives S c (sK S k 0) ((sK S k 1).toNatClampNeg) (sK S k 2) (nI k)) k 6 ((sK (mGives S c (sK S k 0) ((sK S k 1).toNatClampNeg) (sK S k 2) (nI k)) k 6) + 1)) k 3 ((sK (uK (mGives S c (sK S k 0) ((sK S k 1).toNatClampNeg) (sK S k 2) (nI k)) k 6 ((sK (mGives S c (sK S k 0) ((sK S k 1).toNatClampNeg) (sK S k 2) (nI k)) k 6) + 1)) k 3) - 1)) k 1) := by simp [mMonth, mDec, mInc, eq_false c_1, eq_false c_2, eq_true c_3]
        exact gx_iret (pc := 186) hC dX5_month_186 (Nat.zero_le _) (Nat.zero_le _) (⟨by rw [e1], by rw [f0]⟩)
    · refine gx_aload_n (pc := 94) hB dX5_month_94 0 rfl ?_
      refine gx_iload_n (pc := 95) hB dX5_month_95 1 rfl ?_
      refine gx_iconst (pc := 96) hB dX5_month_96 3 (by decide) ?_
      refine gx_aload_n (pc := 97) hB dX5_month_97 0 rfl ?_
      refine gx_iload_n (pc := 98) hB dX5_month_98 1 rfl ?_
      refine gx_iconst (pc := 99) hB dX5_month_99 3 (by decide) ?_
      refine gx_dVi (pc := 100) (r := sK S k 3) (wr := []) hB (c_X5_ofPledge l K m q1 q2 q3 q4 q5 q6 q7 q8 S P H T X Z n ru ty cl sp ca co k 3 (by first | assumption | omega | decide) (by first | assumption | omega | decide)) mX5_ofPledge dX5_month_100 tb_844 pX5_ofPledge ⟨Nat.le_of_ble_eq_true rfl, Nat.le_of_ble_eq_true rfl⟩ ⟨rfl, rfl⟩ ⟨Nat.zero_le _, Nat.zero_le _⟩ rfl (Nat.le_of_ble_eq_true rfl) [0, 1, 2, 3, 4, 5, 6, 7, 8] [] rfl rfl (by decide) (by decide) (by decide) rfl rfl [0, 1, 2, 3, 4, 5, 6, 7, 8] (by decide) (wM K m q1 q2 q3 q4 q5 q6 q7 q8 S P H T X Z n ru ty cl sp ca co) rfl ?_
      refine gx_iconst (pc := 103) hB dX5_month_103 1 (by decide) ?_
      refine gx_isub (pc := 104) hB dX5_month_104 ?_
      refine gx_dVv (pc := 105) (wr := []) hB (c_X5_putsPledge l K m q1 q2 q3 q4 q5 q6 q7 q8 S P H T X Z n ru ty cl sp ca co k 3 (sK S k 3 - 1) (by first | assumption | omega | decide) (by first | assumption | omega | decide)) mX5_putsPledge dX5_month_105 tb_832 pX5_putsPledge ⟨Nat.le_of_ble_eq_true rfl, Nat.le_of_ble_eq_true rfl⟩ ⟨rfl, rfl⟩ ⟨Nat.zero_le _, Nat.zero_le _⟩ rfl (Nat.le_of_ble_eq_true rfl) [0, 1, 2, 3, 4, 5, 6, 7, 8] [] rfl rfl (by decide) (by decide) (by decide) rfl rfl [0, 1, 2, 3, 4, 5, 6, 7, 8] (by decide) (wM K m q1 q2 q3 q4 q5 q6 q7 q8 (uK S k 3 (sK S k 3 - 1)) P H T X Z n ru ty cl sp ca co) rfl ?_
      refine gx_aload_n (pc := 108) hB dX5_month_108 0 rfl ?_
      refine gx_iload_n (pc := 109) hB dX5_month_109 1 rfl ?_
      refine gx_iconst (pc := 110) hB dX5_month_110 3 (by decide) ?_
      refine gx_dVv (pc := 111) (wr := []) hB (c_X5_ends l K m q1 q2 q3 q4 q5 q6 q7 q8 (uK S k 3 (sK S k 3 - 1)) P H T X Z n ru ty cl sp ca co k 3 (by first | assumption | omega | decide)) mX5_ends dX5_month_111 tb_852 pX5_ends ⟨Nat.le_of_ble_eq_true rfl, Nat.le_of_ble_eq_true rfl⟩ ⟨rfl, rfl⟩ ⟨Nat.zero_le _, Nat.zero_le _⟩ rfl (Nat.le_of_ble_eq_true rfl) [0, 1, 2, 3, 4, 5, 6, 7, 8] [] rfl rfl (by decide) (by decide) (by decide) rfl rfl [0, 1, 2, 3, 4, 5, 6, 7, 8] (by decide) (wM K m q1 q2 q3 q4 q5 q6 q7 q8 (mEnds (uK S k 3 (sK S k 3 - 1)) k 3) P H T X Z n ru ty cl sp ca co) rfl ?_
      refine gx_iconst (pc := 114) hB dX5_month_114 0 (by decide) ?_
      have e1 : ((mMonth S c k).1) = 0 := by simp [mMonth, mDec, mInc, eq_false c_1, eq_true c_2]
      have f0 : ((mMonth S c k).2) = (mEnds (uK S k 3 (sK S k 3 - 1)) k 3) := by simp [mMonth, mDec, mInc, eq_false c_1, eq_true c_2]
      exact gx_iret (pc := 115) hC dX5_month_115 (Nat.zero_le _) (Nat.zero_le _) (⟨by rw [e1], by rw [f0]⟩)
  · refine gx_aload_n (pc := 11) hB dX5_month_11 0 rfl ?_
    refine gx_iload_n (pc := 12) hB dX5_month_12 1 rfl ?_
    refine gx_bipush (pc := 13) hB dX5_month_13 7 (by decide) ?_
    refine gx_iconst (pc := 15) hB dX5_month_15 0 (by decide) ?_
    refine gx_dVv (pc := 16) (wr := []) hB (c_X5_putsPledge l K m q1 q2 q3 q4 q5 q6 q7 q8 S P H T X Z n ru ty cl sp ca co k 7 0 (by first | assumption | omega | decide) (by first | assumption | omega | decide)) mX5_putsPledge dX5_month_16 tb_832 pX5_putsPledge ⟨Nat.le_of_ble_eq_true rfl, Nat.le_of_ble_eq_true rfl⟩ ⟨rfl, rfl⟩ ⟨Nat.zero_le _, Nat.zero_le _⟩ rfl (Nat.le_of_ble_eq_true rfl) [0, 1, 2, 3, 4, 5, 6, 7, 8] [] rfl rfl (by decide) (by decide) (by decide) rfl rfl [0, 1, 2, 3, 4, 5, 6, 7, 8] (by decide) (wM K m q1 q2 q3 q4 q5 q6 q7 q8 (uK S k 7 0) P H T X Z n ru ty cl sp ca co) rfl ?_
    refine gx_aload_n (pc := 19) hB dX5_month_19 0 rfl ?_
    refine gx_iload_n (pc := 20) hB dX5_month_20 1 rfl ?_
    refine gx_iconst (pc := 21) hB dX5_month_21 4 (by decide) ?_
    refine gx_aload_n (pc := 22) hB dX5_month_22 0 rfl ?_
    refine gx_iload_n (pc := 23) hB dX5_month_23 1 rfl ?_
    refine gx_iconst (pc := 24) hB dX5_month_24 4 (by decide) ?_
    refine gx_dVi (pc := 25) (r := sK (uK S k 7 0) k 4) (wr := []) hB (c_X5_ofPledge l K m q1 q2 q3 q4 q5 q6 q7 q8 (uK S k 7 0) P H T X Z n ru ty cl sp ca co k 4 (by first | assumption | omega | decide) (by first | assumption | omega | decide)) mX5_ofPledge dX5_month_25 tb_844 pX5_ofPledge ⟨Nat.le_of_ble_eq_true rfl, Nat.le_of_ble_eq_true rfl⟩ ⟨rfl, rfl⟩ ⟨Nat.zero_le _, Nat.zero_le _⟩ rfl (Nat.le_of_ble_eq_true rfl) [0, 1, 2, 3, 4, 5, 6, 7, 8] [] rfl rfl (by decide) (by decide) (by decide) rfl rfl [0, 1, 2, 3, 4, 5, 6, 7, 8] (by decide) (wM K m q1 q2 q3 q4 q5 q6 q7 q8 (uK S k 7 0) P H T X Z n ru ty cl sp ca co) rfl ?_
    refine gx_iconst (pc := 28) hB dX5_month_28 1 (by decide) ?_
    refine gx_iadd (pc := 29) hB dX5_month_29 ?_
    refine gx_dVv (pc := 30) (wr := []) hB (c_X5_putsPledge l K m q1 q2 q3 q4 q5 q6 q7 q8 (uK S k 7 0) P H T X Z n ru ty cl sp ca co k 4 ((sK (uK S k 7 0) k 4) + 1) (by first | assumption | omega | decide) (by first | assumption | omega | decide)) mX5_putsPledge dX5_month_30 tb_832 pX5_putsPledge ⟨Nat.le_of_ble_eq_true rfl, Nat.le_of_ble_eq_true rfl⟩ ⟨rfl, rfl⟩ ⟨Nat.zero_le _, Nat.zero_le _⟩ rfl (Nat.le_of_ble_eq_true rfl) [0, 1, 2, 3, 4, 5, 6, 7, 8] [] rfl rfl (by decide) (by decide) (by decide) rfl rfl [0, 1, 2, 3, 4, 5, 6, 7, 8] (by decide) (wM K m q1 q2 q3 q4 q5 q6 q7 q8 (uK (uK S k 7 0) k 4 ((sK (uK S k 7 0) k 4) + 1)) P H T X Z n ru ty cl sp ca co) rfl ?_
    refine gx_aload_n (pc := 33) hB dX5_month_33 0 rfl ?_
    refine gx_iload_n (pc := 34) hB dX5_month_34 1 rfl ?_
    refine gx_iconst (pc := 35) hB dX5_month_35 3 (by decide) ?_
    refine gx_aload_n (pc := 36) hB dX5_month_36 0 rfl ?_
    refine gx_iload_n (pc := 37) hB dX5_month_37 1 rfl ?_
    refine gx_iconst (pc := 38) hB dX5_month_38 3 (by decide) ?_
    refine gx_dVi (pc := 39) (r := sK (uK (uK S k 7 0) k 4 ((sK (uK S k 7 0) k 4) + 1)) k 3) (wr := []) hB (c_X5_ofPledge l K m q1 q2 q3 q4 q5 q6 q7 q8 (uK (uK S k 7 0) k 4 ((sK (uK S k 7 0) k 4) + 1)) P H T X Z n ru ty cl sp ca co k 3 (by first | assumption | omega | decide) (by first | assumption | omega | decide)) mX5_ofPledge dX5_month_39 tb_844 pX5_ofPledge ⟨Nat.le_of_ble_eq_true rfl, Nat.le_of_ble_eq_true rfl⟩ ⟨rfl, rfl⟩ ⟨Nat.zero_le _, Nat.zero_le _⟩ rfl (Nat.le_of_ble_eq_true rfl) [0, 1, 2, 3, 4, 5, 6, 7, 8] [] rfl rfl (by decide) (by decide) (by decide) rfl rfl [0, 1, 2, 3, 4, 5, 6, 7, 8] (by decide) (wM K m q1 q2 q3 q4 q5 q6 q7 q8 (uK (uK S k 7 0) k 4 ((sK (uK S k 7 0) k 4) + 1)) P H T X Z n ru ty cl sp ca co) rfl ?_
    refine gx_iconst (pc := 42) hB dX5_month_42 1 (by decide) ?_
    refine gx_isub (pc := 43) hB dX5_month_43 ?_
    refine gx_dVv (pc := 44) (wr := []) hB (c_X5_putsPledge l K m q1 q2 q3 q4 q5 q6 q7 q8 (uK (uK S k 7 0) k 4 ((sK (uK S k 7 0) k 4) + 1)) P H T X Z n ru ty cl sp ca co k 3 ((sK (uK (uK S k 7 0) k 4 ((sK (uK S k 7 0) k 4) + 1)) k 3) - 1) (by first | assumption | omega | decide) (by first | assumption | omega | decide)) mX5_putsPledge dX5_month_44 tb_832 pX5_putsPledge ⟨Nat.le_of_ble_eq_true rfl, Nat.le_of_ble_eq_true rfl⟩ ⟨rfl, rfl⟩ ⟨Nat.zero_le _, Nat.zero_le _⟩ rfl (Nat.le_of_ble_eq_true rfl) [0, 1, 2, 3, 4, 5, 6, 7, 8] [] rfl rfl (by decide) (by decide) (by decide) rfl rfl [0, 1, 2, 3, 4, 5, 6, 7, 8] (by decide) (wM K m q1 q2 q3 q4 q5 q6 q7 q8 (uK (uK (uK S k 7 0) k 4 ((sK (uK S k 7 0) k 4) + 1)) k 3 ((sK (uK (uK S k 7 0) k 4 ((sK (uK S k 7 0) k 4) + 1)) k 3) - 1)) P H T X Z n ru ty cl sp ca co) rfl ?_
    refine gx_aload_n (pc := 47) hB dX5_month_47 0 rfl ?_
    refine gx_iload_n (pc := 48) hB dX5_month_48 1 rfl ?_
    refine gx_iconst (pc := 49) hB dX5_month_49 4 (by decide) ?_
    refine gx_dVi (pc := 50) (r := sK (uK (uK (uK S k 7 0) k 4 ((sK (uK S k 7 0) k 4) + 1)) k 3 ((sK (uK (uK S k 7 0) k 4 ((sK (uK S k 7 0) k 4) + 1)) k 3) - 1)) k 4) (wr := []) hB (c_X5_ofPledge l K m q1 q2 q3 q4 q5 q6 q7 q8 (uK (uK (uK S k 7 0) k 4 ((sK (uK S k 7 0) k 4) + 1)) k 3 ((sK (uK (uK S k 7 0) k 4 ((sK (uK S k 7 0) k 4) + 1)) k 3) - 1)) P H T X Z n ru ty cl sp ca co k 4 (by first | assumption | omega | decide) (by first | assumption | omega | decide)) mX5_ofPledge dX5_month_50 tb_844 pX5_ofPledge ⟨Nat.le_of_ble_eq_true rfl, Nat.le_of_ble_eq_true rfl⟩ ⟨rfl, rfl⟩ ⟨Nat.zero_le _, Nat.zero_le _⟩ rfl (Nat.le_of_ble_eq_true rfl) [0, 1, 2, 3, 4, 5, 6, 7, 8] [] rfl rfl (by decide) (by decide) (by decide) rfl rfl [0, 1, 2, 3, 4, 5, 6, 7, 8] (by decide) (wM K m q1 q2 q3 q4 q5 q6 q7 q8 (uK (uK (uK S k 7 0) k 4 ((sK (uK S k 7 0) k 4) + 1)) k 3 ((sK (uK (uK S k 7 0) k 4 ((sK (uK S k 7 0) k 4) + 1)) k 3) - 1)) P H T X Z n ru ty cl sp ca co) rfl ?_
    refine gx_iconst (pc := 53) hB dX5_month_53 3 (by decide) ?_
    refine gx_icmp_ne (pc := 54) hB 66 dX5_month_54 (by decide) (fun c_4 => ?_) (fun c_4 => ?_)
    · refine gx_aload_n (pc := 66) hB dX5_month_66 0 rfl ?_
      refine gx_iload_n (pc := 67) hB dX5_month_67 1 rfl ?_
      refine gx_iconst (pc := 68) hB dX5_month_68 3 (by decide) ?_
      refine gx_dVi (pc := 69) (r := sK (uK (uK (uK S k 7 0) k 4 ((sK (uK S k 7 0) k 4) + 1)) k 3 ((sK (uK (uK S k 7 0) k 4 ((sK (uK S k 7 0) k 4) + 1)) k 3) - 1)) k 3) (wr := []) hB (c_X5_ofPledge l K m q1 q2 q3 q4 q5 q6 q7 q8 (uK (uK (uK S k 7 0) k 4 ((sK (uK S k 7 0) k 4) + 1)) k 3 ((sK (uK (uK S k 7 0) k 4 ((sK (uK S k 7 0) k 4) + 1)) k 3) - 1)) P H T X Z n ru ty cl sp ca co k 3 (by first | assumption | omega | decide) (by first | assumption | omega | decide)) mX5_ofPledge dX5_month_69 tb_844 pX5_ofPledge ⟨Nat.le_of_ble_eq_true rfl, Nat.le_of_ble_eq_true rfl⟩ ⟨rfl, rfl⟩ ⟨Nat.zero_le _, Nat.zero_le _⟩ rfl (Nat.le_of_ble_eq_true rfl) [0, 1, 2, 3, 4, 5, 6, 7, 8] [] rfl rfl (by decide) (by decide) (by decide) rfl rfl [0, 1, 2, 3, 4, 5, 6, 7, 8] (by decide) (wM K m q1 q2 q3 q4 q5 q6 q7 q8 (uK (uK (uK S k 7 0) k 4 ((sK (uK S k 7 0) k 4) + 1)) k 3 ((sK (uK (uK S k 7 0) k 4 ((sK (uK S k 7 0) k 4) + 1)) k 3) - 1)) P H T X Z n ru ty cl sp ca co) rfl ?_
      refine gx_if_ne (pc := 72) hB 81 dX5_month_72 (by decide) (fun c_5 => ?_) (fun c_5 => ?_)
      · refine gx_iconst (pc := 81) hB dX5_month_81 0 (by decide) ?_
        have e1 : ((mMonth S c k).1) = 0 := by simp [mMonth, mDec, mInc, eq_true c_1, eq_false c_4, eq_false c_5]
        have f0 : ((mMonth S c k).2) = (uK (uK (uK S k 7 0) k 4 ((sK (uK S k 7 0) k 4) + 1)) k 3 ((sK (uK (uK S k 7 0) k 4 ((sK (uK S k 7 0) k 4) + 1)) k 3) - 1)) := by simp [mMonth, mDec, mInc, eq_true c_1, eq_false c_4, eq_false c_5]
        exact gx_iret (pc := 82) hC dX5_month_82 (Nat.zero_le _) (Nat.zero_le _) (⟨by rw [e1], by rw [f0]⟩)
      · refine gx_aload_n (pc := 75) hB dX5_month_75 0 rfl ?_
        refine gx_iload_n (pc := 76) hB dX5_month_76 1 rfl ?_
        refine gx_iconst (pc := 77) hB dX5_month_77 1 (by decide) ?_
        refine gx_dVv (pc := 78) (wr := []) hB (c_X5_ends l K m q1 q2 q3 q4 q5 q6 q7 q8 (uK (uK (uK S k 7 0) k 4 ((sK (uK S k 7 0) k 4) + 1)) k 3 ((sK (uK (uK S k 7 0) k 4 ((sK (uK S k 7 0) k 4) + 1)) k 3) - 1)) P H T X Z n ru ty cl sp ca co k 1 (by first | assumption | omega | decide)) mX5_ends dX5_month_78 tb_852 pX5_ends ⟨Nat.le_of_ble_eq_true rfl, Nat.le_of_ble_eq_true rfl⟩ ⟨rfl, rfl⟩ ⟨Nat.zero_le _, Nat.zero_le _⟩ rfl (Nat.le_of_ble_eq_true rfl) [0, 1, 2, 3, 4, 5, 6, 7, 8] [] rfl rfl (by decide) (by decide) (by decide) rfl rfl [0, 1, 2, 3, 4, 5, 6, 7, 8] (by decide) (wM K m q1 q2 q3 q4 q5 q6 q7 q8 (mEnds (uK (uK (uK S k 7 0) k 4 ((sK (uK S k 7 0) k 4) + 1)) k 3 ((sK (uK (uK S k 7 0) k 4 ((sK (uK S k 7 0) k 4) + 1)) k 3) - 1)) k 1) P H T X Z n ru ty cl sp ca co) rfl ?_
        refine gx_iconst (pc := 81) hB dX5_month_81 0 (by decide) ?_
        have e1 : ((mMonth S c k).1) = 0 := by simp [mMonth, mDec, mInc, eq_true c_1, eq_false c_4, eq_true c_5]
        have f0 : ((mMonth S c k).2) = (mEnds (uK (uK (uK S k 7 0) k 4 ((sK (uK S k 7 0) k 4) + 1)) k 3 ((sK (uK (uK S k 7 0) k 4 ((sK (uK S k 7 0) k 4) + 1)) k 3) - 1)) k 1) := by simp [mMonth, mDec, mInc, eq_true c_1, eq_false c_4, eq_true c_5]
        exact gx_iret (pc := 82) hC dX5_month_82 (Nat.zero_le _) (Nat.zero_le _) (⟨by rw [e1], by rw [f0]⟩)
    · refine gx_aload_n (pc := 57) hB dX5_month_57 0 rfl ?_
      refine gx_iload_n (pc := 58) hB dX5_month_58 1 rfl ?_
      refine gx_iconst (pc := 59) hB dX5_month_59 3 (by decide) ?_
      refine gx_dVv (pc := 60) (wr := []) hB (c_X5_ends l K m q1 q2 q3 q4 q5 q6 q7 q8 (uK (uK (uK S k 7 0) k 4 ((sK (uK S k 7 0) k 4) + 1)) k 3 ((sK (uK (uK S k 7 0) k 4 ((sK (uK S k 7 0) k 4) + 1)) k 3) - 1)) P H T X Z n ru ty cl sp ca co k 3 (by first | assumption | omega | decide)) mX5_ends dX5_month_60 tb_852 pX5_ends ⟨Nat.le_of_ble_eq_true rfl, Nat.le_of_ble_eq_true rfl⟩ ⟨rfl, rfl⟩ ⟨Nat.zero_le _, Nat.zero_le _⟩ rfl (Nat.le_of_ble_eq_true rfl) [0, 1, 2, 3, 4, 5, 6, 7, 8] [] rfl rfl (by decide) (by decide) (by decide) rfl rfl [0, 1, 2, 3, 4, 5, 6, 7, 8] (by decide) (wM K m q1 q2 q3 q4 q5 q6 q7 q8 (mEnds (uK (uK (uK S k 7 0) k 4 ((sK (uK S k 7 0) k 4) + 1)) k 3 ((sK (uK (uK S k 7 0) k 4 ((sK (uK S k 7 0) k 4) + 1)) k 3) - 1)) k 3) P H T X Z n ru ty cl sp ca co) rfl ?_
      refine gx_goto (pc := 63) hB 81 dX5_month_63 (by decide) ?_
      refine gx_iconst (pc := 81) hB dX5_month_81 0 (by decide) ?_
      have e1 : ((mMonth S c k).1) = 0 := by simp [mMonth, mDec, mInc, eq_true c_1, eq_true c_4]
      have f0 : ((mMonth S c k).2) = (mEnds (uK (uK (uK S k 7 0) k 4 ((sK (uK S k 7 0) k 4) + 1)) k 3 ((sK (uK (uK S k 7 0) k 4 ((sK (uK S k 7 0) k 4) + 1)) k 3) - 1)) k 3) := by simp [mMonth, mDec, mInc, eq_true c_1, eq_true c_4]
      exact gx_iret (pc := 82) hC dX5_month_82 (Nat.zero_le _) (Nat.zero_le _) (⟨by rw [e1], by rw [f0]⟩)
theorem pX5_goes : (parseMethodDescriptor yX5_goes.desc).map (fun d => d.parameters.length) = some 1 := by decide +kernel
theorem mX5_goes : gx_M yX5_goes cX5_goes 5 (some .int) := ⟨tb_920, tb_55, tb_73, tb_921, by decide, by decide⟩
set_option maxHeartbeats 4000000 in
set_option maxRecDepth 100000 in
theorem c_X5_goes (l : Launch) (K : gx_K) (m q1 q2 q3 q4 q5 q6 q7 q8 : Nat) (S P H T X Z : Nat → Int32) (n : Nat) (ru : Bool) (ty : Nat) (cl : Int32) (sp : Nat) (ca : Int32) (co : Nat) (a b c e : Nat) (u : Nat) (h0 : sOk S a b c e) (h1 : u ≤ 60) : gx_Ctr l K yX5_goes cX5_goes 5 (some .int) (rmm 4 70) [.ref m, .int (nI u)] (wM K m q1 q2 q3 q4 q5 q6 q7 q8 S P H T X Z n ru ty cl sp ca co) (gx_D (some (.int ((mGoM S c e u).1))) (wM K m q1 q2 q3 q4 q5 q6 q7 q8 ((mGoM S c e u).2.2) P H T X Z n ru ty cl sp ca co)) := by
  refine gx_of (by decide) (Nat.le_of_ble_eq_true rfl) (fun G hC => ?_)
  have hB := hC.b
  refine gx_lv (lv' := [(0, .ref m), (1, .int (nI u))]) rfl ?_
  have hb0 := h0.1
  refine gx_iconst (pc := 0) hB dX5_goes_0 0 (by decide) ?_
  refine gx_istore_n (pc := 1) hB dX5_goes_1 (by decide) [(2, .int 0), (0, .ref m), (1, .int (nI u))] rfl ?_
  refine gx_iconst (pc := 2) hB dX5_goes_2 0 (by decide) ?_
  refine gx_istore_n (pc := 3) hB dX5_goes_3 (by decide) [(3, .int 0), (2, .int 0), (0, .ref m), (1, .int (nI u))] rfl ?_
  have loop_4 : ∀ dq j : Nat, j + dq = u → G 0 0 (wM K m q1 q2 q3 q4 q5 q6 q7 q8 ((mGoM S c e j).2.2) P H T X Z n ru ty cl sp ca co) [(0, .ref m), (1, .int (nI u)), (2, .int ((mGoM S c e j).1)), (3, .int (nI j))] 4 [] := by
    intro dq
    induction dq with
    | zero =>
      intro j hi4
      have hOj := mGoM_ok h0 j
      obtain rfl : u = j := by omega
      refine gx_iload_n (pc := 4) hB dX5_goes_4 3 rfl ?_
      refine gx_iload_n (pc := 5) hB dX5_goes_5 1 rfl ?_
      refine gx_icmp_ge (pc := 6) hB 69 dX5_goes_6 (by decide) (fun c_1 => ?_) (fun c_1 => ?_)
      · refine gx_iload_n (pc := 69) hB dX5_goes_69 2 rfl ?_
        exact gx_iret (pc := 70) hC dX5_goes_70 (Nat.zero_le _) (Nat.zero_le _) (⟨rfl, rfl⟩)
      · exact absurd (lpTn (c := u) (by omega) hi4) c_1
    | succ dq ih4 =>
      intro j hi4
      have hOj := mGoM_ok h0 j
      refine gx_iload_n (pc := 4) hB dX5_goes_4 3 rfl ?_
      refine gx_iload_n (pc := 5) hB dX5_goes_5 1 rfl ?_
      refine gx_icmp_ge (pc := 6) hB 69 dX5_goes_6 (by decide) (fun c_2 => ?_) (fun c_2 => ?_)
      · exact absurd c_2 (lpFn (c := u) (by omega) hi4)
      · refine gx_aload_n (pc := 9) hB dX5_goes_9 0 rfl ?_
        refine gx_get (pc := 10) hB dX5_goes_10 inX5 rfl 0 rfl 0 (by decide) tb_726 rfl rfl ?_
        refine gx_bipush (pc := 13) hB dX5_goes_13 6 (by decide) ?_
        refine gx_dup2 (pc := 15) hB dX5_goes_15 rfl rfl ?_
        refine gx_iald (pc := 16) hB dX5_goes_16 1 1 rfl rfl 6 rfl (by decide) (by decide) ?_
        refine gx_iconst (pc := 17) hB dX5_goes_17 1 (by decide) ?_
        refine gx_iadd (pc := 18) hB dX5_goes_18 ?_
        refine gx_iast (pc := 19) hB dX5_goes_19 1 1 rfl rfl 6 rfl (by decide) (by decide) (wM K m q1 q2 q3 q4 q5 q6 q7 q8 (upd ((mGoM S c e j).2.2) 6 ((((mGoM S c e j).2.2) 6) + 1)) P H T X Z n ru ty cl sp ca co) rfl ?_
        refine gx_iconst (pc := 20) hB dX5_goes_20 0 (by decide) ?_
        refine gx_istore (pc := 21) hB dX5_goes_21 (by decide) [(4, .int 0), (0, .ref m), (1, .int (nI u)), (2, .int ((mGoM S c e j).1)), (3, .int (nI j))] rfl ?_
        have loop_23 : ∀ dq i : Nat, i + dq = e → G 0 0 (wM K m q1 q2 q3 q4 q5 q6 q7 q8 ((mGoK (upd (mGoM S c e j).2.2 6 ((mGoM S c e j).2.2 6 + 1)) (mGoM S c e j).2.1 i).2.2) P H T X Z n ru ty cl sp ca co) [(0, .ref m), (1, .int (nI u)), (2, .int ((mGoM S c e j).1 + (mGoK (upd (mGoM S c e j).2.2 6 ((mGoM S c e j).2.2 6 + 1)) (mGoM S c e j).2.1 i).1)), (3, .int (nI j)), (4, .int (nI i))] 23 [] := by
          intro dq
          induction dq with
          | zero =>
            intro i hi23
            have hOi := mGoK_ok (mTime_ok (v := (mGoM S c e j).2.2 6 + 1) hOj) i (by omega)
            obtain rfl : e = i := by omega
            refine gx_iload (pc := 23) hB dX5_goes_23 4 rfl ?_
            refine gx_aload_n (pc := 25) hB dX5_goes_25 0 rfl ?_
            refine gx_get (pc := 26) hB dX5_goes_26 inX5 rfl 0 rfl 0 (by decide) tb_726 rfl rfl ?_
            refine gx_iconst (pc := 29) hB dX5_goes_29 5 (by decide) ?_
            refine gx_iald (pc := 30) hB dX5_goes_30 1 1 rfl rfl 5 rfl (by decide) (by decide) ?_
            refine gx_top (show ((mGoK (upd (mGoM S c e j).2.2 6 ((mGoM S c e j).2.2 6 + 1)) (mGoM S c e j).2.1 e).2.2) 5 = nI e from hOi.1.2.2.2.1) ?_
            refine gx_icmp_ge (pc := 31) hB 63 dX5_goes_31 (by decide) (fun c_3 => ?_) (fun c_3 => ?_)
            · refine gx_iinc (pc := 63) hB dX5_goes_63 3 (by decide) rfl (nI (j + 1)) (nI_1 _) [(3, .int (nI (j + 1))), (0, .ref m), (1, .int (nI u)), (2, .int ((mGoM S c e j).1 + (mGoK (upd (mGoM S c e j).2.2 6 ((mGoM S c e j).2.2 6 + 1)) (mGoM S c e j).2.1 e).1)), (4, .int (nI e))] rfl ?_
              refine gx_goto (pc := 66) hB 4 dX5_goes_66 (by decide) ?_
              have g2 : ((mGoM S c e j).1 + (mGoK (upd (mGoM S c e j).2.2 6 ((mGoM S c e j).2.2 6 + 1)) (mGoM S c e j).2.1 e).1) = (mGoM S c e (j + 1)).1 := by simp [mGoM, mGoK, Int32.not_le.mp c_2, eq_false c_2, c_3, eq_false (Int32.not_lt.mpr c_3)]
              have w0 : (mGoK (upd (mGoM S c e j).2.2 6 ((mGoM S c e j).2.2 6 + 1)) (mGoM S c e j).2.1 e).2.2 = (mGoM S c e (j + 1)).2.2 := by simp [mGoM, mGoK, Int32.not_le.mp c_2, eq_false c_2, c_3, eq_false (Int32.not_lt.mpr c_3)]
              refine gx_sub hB (lv' := [(0, .ref m), (1, .int (nI u)), (2, .int ((mGoM S c e j).1 + (mGoK (upd (mGoM S c e j).2.2 6 ((mGoM S c e j).2.2 6 + 1)) (mGoM S c e j).2.1 e).1)), (3, .int (nI (j + 1)))]) [1, 2, 3, 0] rfl ?_
              refine gx_all (ws' := wM K m q1 q2 q3 q4 q5 q6 q7 q8 ((mGoM S c e (j + 1)).2.2) P H T X Z n ru ty cl sp ca co) (lv' := [(0, .ref m), (1, .int (nI u)), (2, .int ((mGoM S c e (j + 1)).1)), (3, .int (nI (j + 1)))]) (by rw [← w0]) (by rw [← g2]) ?_
              exact ih4 (j + 1) (by omega)
            · exact absurd (lpTn (c := e) (by omega) hi23) c_3
          | succ dq ih23 =>
            intro i hi23
            have hOi := mGoK_ok (mTime_ok (v := (mGoM S c e j).2.2 6 + 1) hOj) i (by omega)
            refine gx_iload (pc := 23) hB dX5_goes_23 4 rfl ?_
            refine gx_aload_n (pc := 25) hB dX5_goes_25 0 rfl ?_
            refine gx_get (pc := 26) hB dX5_goes_26 inX5 rfl 0 rfl 0 (by decide) tb_726 rfl rfl ?_
            refine gx_iconst (pc := 29) hB dX5_goes_29 5 (by decide) ?_
            refine gx_iald (pc := 30) hB dX5_goes_30 1 1 rfl rfl 5 rfl (by decide) (by decide) ?_
            refine gx_top (show ((mGoK (upd (mGoM S c e j).2.2 6 ((mGoM S c e j).2.2 6 + 1)) (mGoM S c e j).2.1 i).2.2) 5 = nI e from hOi.1.2.2.2.1) ?_
            refine gx_icmp_ge (pc := 31) hB 63 dX5_goes_31 (by decide) (fun c_4 => ?_) (fun c_4 => ?_)
            · exact absurd c_4 (lpFn (c := e) (by omega) hi23)
            · refine gx_iload_n (pc := 34) hB dX5_goes_34 2 rfl ?_
              refine gx_aload_n (pc := 35) hB dX5_goes_35 0 rfl ?_
              refine gx_iload (pc := 36) hB dX5_goes_36 4 rfl ?_
              refine gx_iconst (pc := 38) hB dX5_goes_38 5 (by decide) ?_
              refine gx_dVi (pc := 39) (r := sK ((mGoK (upd (mGoM S c e j).2.2 6 ((mGoM S c e j).2.2 6 + 1)) (mGoM S c e j).2.1 i).2.2) i 5) (wr := []) hB (c_X5_ofPledge l K m q1 q2 q3 q4 q5 q6 q7 q8 ((mGoK (upd (mGoM S c e j).2.2 6 ((mGoM S c e j).2.2 6 + 1)) (mGoM S c e j).2.1 i).2.2) P H T X Z n ru ty cl sp ca co i 5 (by first | assumption | omega | decide) (by first | assumption | omega | decide)) mX5_ofPledge dX5_goes_39 tb_844 pX5_ofPledge ⟨Nat.le_of_ble_eq_true rfl, Nat.le_of_ble_eq_true rfl⟩ ⟨rfl, rfl⟩ ⟨Nat.zero_le _, Nat.zero_le _⟩ rfl (Nat.le_of_ble_eq_true rfl) [0, 1, 2, 3, 4, 5, 6, 7, 8] [] rfl rfl (by decide) (by decide) (by decide) rfl rfl [0, 1, 2, 3, 4, 5, 6, 7, 8] (by decide) (wM K m q1 q2 q3 q4 q5 q6 q7 q8 ((mGoK (upd (mGoM S c e j).2.2 6 ((mGoM S c e j).2.2 6 + 1)) (mGoM S c e j).2.1 i).2.2) P H T X Z n ru ty cl sp ca co) rfl ?_
              refine gx_if_ne (pc := 42) hB 54 dX5_goes_42 (by decide) (fun c_5 => ?_) (fun c_5 => ?_)
              · refine gx_iconst (pc := 54) hB dX5_goes_54 0 (by decide) ?_
                refine gx_iadd (pc := 55) hB dX5_goes_55 ?_
                refine gx_top (show ((mGoM S c e j).1 + (mGoK (upd (mGoM S c e j).2.2 6 ((mGoM S c e j).2.2 6 + 1)) (mGoM S c e j).2.1 i).1) + 0 = ((mGoM S c e j).1 + (mGoK (upd (mGoM S c e j).2.2 6 ((mGoM S c e j).2.2 6 + 1)) (mGoM S c e j).2.1 i).1) from Int32.add_zero _) ?_
                refine gx_istore_n (pc := 56) hB dX5_goes_56 (by decide) [(2, .int ((mGoM S c e j).1 + (mGoK (upd (mGoM S c e j).2.2 6 ((mGoM S c e j).2.2 6 + 1)) (mGoM S c e j).2.1 i).1)), (0, .ref m), (1, .int (nI u)), (3, .int (nI j)), (4, .int (nI i))] rfl ?_
                refine gx_iinc (pc := 57) hB dX5_goes_57 4 (by decide) rfl (nI (i + 1)) (nI_1 _) [(4, .int (nI (i + 1))), (2, .int ((mGoM S c e j).1 + (mGoK (upd (mGoM S c e j).2.2 6 ((mGoM S c e j).2.2 6 + 1)) (mGoM S c e j).2.1 i).1)), (0, .ref m), (1, .int (nI u)), (3, .int (nI j))] rfl ?_
                refine gx_goto (pc := 60) hB 23 dX5_goes_60 (by decide) ?_
                have g2 : ((mGoM S c e j).1 + (mGoK (upd (mGoM S c e j).2.2 6 ((mGoM S c e j).2.2 6 + 1)) (mGoM S c e j).2.1 i).1) = ((mGoM S c e j).1 + (mGoK (upd (mGoM S c e j).2.2 6 ((mGoM S c e j).2.2 6 + 1)) (mGoM S c e j).2.1 (i + 1)).1) := by simp [mGoM, mGoK, Int32.not_le.mp c_2, eq_false c_2, Int32.not_le.mp c_4, eq_false c_4, eq_false c_5, Int32.add_assoc]
                have w0 : (mGoK (upd (mGoM S c e j).2.2 6 ((mGoM S c e j).2.2 6 + 1)) (mGoM S c e j).2.1 i).2.2 = (mGoK (upd (mGoM S c e j).2.2 6 ((mGoM S c e j).2.2 6 + 1)) (mGoM S c e j).2.1 (i + 1)).2.2 := by simp [mGoM, mGoK, Int32.not_le.mp c_2, eq_false c_2, Int32.not_le.mp c_4, eq_false c_4, eq_false c_5, Int32.add_assoc]
                refine gx_sub hB (lv' := [(0, .ref m), (1, .int (nI u)), (2, .int ((mGoM S c e j).1 + (mGoK (upd (mGoM S c e j).2.2 6 ((mGoM S c e j).2.2 6 + 1)) (mGoM S c e j).2.1 i).1)), (3, .int (nI j)), (4, .int (nI (i + 1)))]) [2, 3, 1, 4, 0] rfl ?_
                refine gx_all (ws' := wM K m q1 q2 q3 q4 q5 q6 q7 q8 ((mGoK (upd (mGoM S c e j).2.2 6 ((mGoM S c e j).2.2 6 + 1)) (mGoM S c e j).2.1 (i + 1)).2.2) P H T X Z n ru ty cl sp ca co) (lv' := [(0, .ref m), (1, .int (nI u)), (2, .int ((mGoM S c e j).1 + (mGoK (upd (mGoM S c e j).2.2 6 ((mGoM S c e j).2.2 6 + 1)) (mGoM S c e j).2.1 (i + 1)).1)), (3, .int (nI j)), (4, .int (nI (i + 1)))]) (by rw [← w0]) (by rw [← g2]) ?_
                exact ih23 (i + 1) (by omega)
              · refine gx_aload_n (pc := 45) hB dX5_goes_45 0 rfl ?_
                refine gx_iload (pc := 46) hB dX5_goes_46 4 rfl ?_
                refine gx_dVi (pc := 48) (r := (mMonth ((mGoK (upd (mGoM S c e j).2.2 6 ((mGoM S c e j).2.2 6 + 1)) (mGoM S c e j).2.1 i).2.2) ((mGoK (upd (mGoM S c e j).2.2 6 ((mGoM S c e j).2.2 6 + 1)) (mGoM S c e j).2.1 i).2.1) i).1) (wr := []) hB (c_X5_month l K m q1 q2 q3 q4 q5 q6 q7 q8 ((mGoK (upd (mGoM S c e j).2.2 6 ((mGoM S c e j).2.2 6 + 1)) (mGoM S c e j).2.1 i).2.2) P H T X Z n ru ty cl sp ca co a b ((mGoK (upd (mGoM S c e j).2.2 6 ((mGoM S c e j).2.2 6 + 1)) (mGoM S c e j).2.1 i).2.1) e i hOi (by first | assumption | omega | decide)) mX5_month dX5_goes_48 tb_922 pX5_month ⟨Nat.le_of_ble_eq_true rfl, Nat.le_of_ble_eq_true rfl⟩ ⟨rfl, rfl⟩ ⟨Nat.zero_le _, Nat.zero_le _⟩ rfl (Nat.le_of_ble_eq_true rfl) [0, 1, 2, 3, 4, 5, 6, 7, 8] [] rfl rfl (by decide) (by decide) (by decide) rfl rfl [0, 1, 2, 3, 4, 5, 6, 7, 8] (by decide) (wM K m q1 q2 q3 q4 q5 q6 q7 q8 ((mMonth ((mGoK (upd (mGoM S c e j).2.2 6 ((mGoM S c e j).2.2 6 + 1)) (mGoM S c e j).2.1 i).2.2) ((mGoK (upd (mGoM S c e j).2.2 6 ((mGoM S c e j).2.2 6 + 1)) (mGoM S c e j).2.1 i).2.1) i).2) P H T X Z n ru ty cl sp ca co) rfl ?_
                refine gx_goto (pc := 51) hB 55 dX5_goes_51 (by decide) ?_
                refine gx_iadd (pc := 55) hB dX5_goes_55 ?_
                refine gx_istore_n (pc := 56) hB dX5_goes_56 (by decide) [(2, .int (((mGoM S c e j).1 + (mGoK (upd (mGoM S c e j).2.2 6 ((mGoM S c e j).2.2 6 + 1)) (mGoM S c e j).2.1 i).1) + ((mMonth ((mGoK (upd (mGoM S c e j).2.2 6 ((mGoM S c e j).2.2 6 + 1)) (mGoM S c e j).2.1 i).2.2) ((mGoK (upd (mGoM S c e j).2.2 6 ((mGoM S c e j).2.2 6 + 1)) (mGoM S c e j).2.1 i).2.1) i).1))), (0, .ref m), (1, .int (nI u)), (3, .int (nI j)), (4, .int (nI i))] rfl ?_
                refine gx_iinc (pc := 57) hB dX5_goes_57 4 (by decide) rfl (nI (i + 1)) (nI_1 _) [(4, .int (nI (i + 1))), (2, .int (((mGoM S c e j).1 + (mGoK (upd (mGoM S c e j).2.2 6 ((mGoM S c e j).2.2 6 + 1)) (mGoM S c e j).2.1 i).1) + ((mMonth ((mGoK (upd (mGoM S c e j).2.2 6 ((mGoM S c e j).2.2 6 + 1)) (mGoM S c e j).2.1 i).2.2) ((mGoK (upd (mGoM S c e j).2.2 6 ((mGoM S c e j).2.2 6 + 1)) (mGoM S c e j).2.1 i).2.1) i).1))), (0, .ref m), (1, .int (nI u)), (3, .int (nI j))] rfl ?_
                refine gx_goto (pc := 60) hB 23 dX5_goes_60 (by decide) ?_
                have g2 : ((mGoM S c e j).1 + (mGoK (upd (mGoM S c e j).2.2 6 ((mGoM S c e j).2.2 6 + 1)) (mGoM S c e j).2.1 i).1) + ((mMonth ((mGoK (upd (mGoM S c e j).2.2 6 ((mGoM S c e j).2.2 6 + 1)) (mGoM S c e j).2.1 i).2.2) ((mGoK (upd (mGoM S c e j).2.2 6 ((mGoM S c e j).2.2 6 + 1)) (mGoM S c e j).2.1 i).2.1) i).1) = ((mGoM S c e j).1 + (mGoK (upd (mGoM S c e j).2.2 6 ((mGoM S c e j).2.2 6 + 1)) (mGoM S c e j).2.1 (i + 1)).1) := by simp [mGoM, mGoK, Int32.not_le.mp c_2, eq_false c_2, Int32.not_le.mp c_4, eq_false c_4, eq_true c_5, Int32.add_assoc]
                have w0 : (mMonth ((mGoK (upd (mGoM S c e j).2.2 6 ((mGoM S c e j).2.2 6 + 1)) (mGoM S c e j).2.1 i).2.2) ((mGoK (upd (mGoM S c e j).2.2 6 ((mGoM S c e j).2.2 6 + 1)) (mGoM S c e j).2.1 i).2.1) i).2 = (mGoK (upd (mGoM S c e j).2.2 6 ((mGoM S c e j).2.2 6 + 1)) (mGoM S c e j).2.1 (i + 1)).2.2 := by simp [mGoM, mGoK, Int32.not_le.mp c_2, eq_false c_2, Int32.not_le.mp c_4, eq_false c_4, eq_true c_5, Int32.add_assoc]
                refine gx_sub hB (lv' := [(0, .ref m), (1, .int (nI u)), (2, .int (((mGoM S c e j).1 + (mGoK (upd (mGoM S c e j).2.2 6 ((mGoM S c e j).2.2 6 + 1)) (mGoM S c e j).2.1 i).1) + ((mMonth ((mGoK (upd (mGoM S c e j).2.2 6 ((mGoM S c e j).2.2 6 + 1)) (mGoM S c e j).2.1 i).2.2) ((mGoK (upd (mGoM S c e j).2.2 6 ((mGoM S c e j).2.2 6 + 1)) (mGoM S c e j).2.1 i).2.1) i).1))), (3, .int (nI j)), (4, .int (nI (i + 1)))]) [2, 3, 1, 4, 0] rfl ?_
                refine gx_all (ws' := wM K m q1 q2 q3 q4 q5 q6 q7 q8 ((mGoK (upd (mGoM S c e j).2.2 6 ((mGoM S c e j).2.2 6 + 1)) (mGoM S c e j).2.1 (i + 1)).2.2) P H T X Z n ru ty cl sp ca co) (lv' := [(0, .ref m), (1, .int (nI u)), (2, .int ((mGoM S c e j).1 + (mGoK (upd (mGoM S c e j).2.2 6 ((mGoM S c e j).2.2 6 + 1)) (mGoM S c e j).2.1 (i + 1)).1)), (3, .int (nI j)), (4, .int (nI (i + 1)))]) (by rw [← w0]) (by rw [← g2]) ?_
                exact ih23 (i + 1) (by omega)
        refine gx_sub hB (lv' := [(0, .ref m), (1, .int (nI u)), (2, .int ((mGoM S c e j).1)), (3, .int (nI j)), (4, .int 0)]) [1, 2, 3, 4, 0] rfl ?_
        refine gx_all (ws' := wM K m q1 q2 q3 q4 q5 q6 q7 q8 ((mGoK (upd (mGoM S c e j).2.2 6 ((mGoM S c e j).2.2 6 + 1)) (mGoM S c e j).2.1 0).2.2) P H T X Z n ru ty cl sp ca co) (lv' := [(0, .ref m), (1, .int (nI u)), (2, .int ((mGoM S c e j).1 + (mGoK (upd (mGoM S c e j).2.2 6 ((mGoM S c e j).2.2 6 + 1)) (mGoM S c e j).2.1 0).1)), (3, .int (nI j)), (4, .int (nI 0))]) (rfl) (by simp [mGoK, nI_0]) ?_
        exact loop_23 (e) 0 (by omega)
  refine gx_sub hB (lv' := [(0, .ref m), (1, .int (nI u)), (2, .int 0), (3, .int 0)]) [2, 3, 1, 0] rfl ?_
  refine gx_all (ws' := wM K m q1 q2 q3 q4 q5 q6 q7 q8 ((mGoM S c e 0).2.2) P H T X Z n ru ty cl sp ca co) (lv' := [(0, .ref m), (1, .int (nI u)), (2, .int ((mGoM S c e 0).1)), (3, .int (nI 0))]) (rfl) (rfl) ?_
  exact loop_4 (u) 0 (by omega)
theorem pX5_pass : (parseMethodDescriptor yX5_pass.desc).map (fun d => d.parameters.length) = some 1 := by decide +kernel
theorem mX5_pass : gx_M yX5_pass cX5_pass 2 (some .int) := ⟨tb_915, tb_916, tb_73, tb_917, by decide, by decide⟩
set_option maxHeartbeats 4000000 in
set_option maxRecDepth 100000 in
theorem c_X5_pass (l : Launch) (K : gx_K) (m q1 q2 q3 q4 q5 q6 q7 q8 : Nat) (S P H T X Z : Nat → Int32) (n : Nat) (ru : Bool) (ty : Nat) (cl : Int32) (sp : Nat) (ca : Int32) (co : Nat) (a b c e : Nat) (x : Int32) (h0 : sOk S a b c e) (h1 : n ≤ 4) : gx_Ctr l K yX5_pass cX5_pass 2 (some .int) (rmm 5 94) [.ref m, .int x] (wM K m q1 q2 q3 q4 q5 q6 q7 q8 S P H T X Z n ru ty cl sp ca co) (gx_D (some (.int ((mPass S c e x).1))) (wM K m q1 q2 q3 q4 q5 q6 q7 q8 ((mPass S c e x).2.2) (kpP (mPass S c e x).2.1 ru n P S) H T X Z (kpn (mPass S c e x).2.1 ru n) ru ty cl sp ca co)) := by
  refine gx_of (by decide) (Nat.le_of_ble_eq_true rfl) (fun G hC => ?_)
  have hB := hC.b
  refine gx_lv (lv' := [(0, .ref m), (1, .int x)]) rfl ?_
  have hb0 := h0.1
  refine gx_iload_n (pc := 0) hB dX5_pass_0 1 rfl ?_
  refine gx_iconst (pc := 1) hB dX5_pass_1 1 (by decide) ?_
  refine gx_bipush (pc := 2) hB dX5_pass_2 60 (by decide) ?_
  refine gx_dSi (pc := 4) (r := bI (bIn x 1 60)) (wr := [(m, .inr (5, [.ref q1, .ref q2, .ref q3, .ref q4, .int (nI n), .int (bI ru), .ref q5, .int (nI ty), .ref q6, .ref q7, .int cl, .int (nI sp), .int ca, .int (nI co), .ref q8])), (q1, .inl (K.2.1.2.1, 345, .inl S)), (q2, .inl (K.2.1.2.1, 1380, .inl P)), (q3, .inl (K.2.1.2.1, 345, .inl H)), (q4, .inl (K.2.1.2.1, 345, .inl T)), (q5, .inl (K.2.1.2.1, 80, .inl X)), (q6, .inl (K.2.1.2.2.1, 9, .inr (.inl mW))), (q7, .inl (K.2.1.2.1, 9, .inl mN)), (q8, .inl (K.2.1.2.1, 4, .inl Z))]) hB (c_X5_in l K x 1 60 ) mX5_in dX5_pass_4 tb_797 pX5_in ⟨Nat.le_of_ble_eq_true rfl, Nat.le_of_ble_eq_true rfl⟩ ⟨rfl, rfl⟩ ⟨Nat.zero_le _, Nat.zero_le _⟩ rfl (Nat.le_of_ble_eq_true rfl) [] [0, 1, 2, 3, 4, 5, 6, 7, 8] rfl rfl (by decide) (by decide) (by decide) [0, 1, 2, 3, 4, 5, 6, 7, 8] (by decide) (wM K m q1 q2 q3 q4 q5 q6 q7 q8 S P H T X Z n ru ty cl sp ca co) rfl ?_
  refine gx_if_ne_b (pc := 7) hB 12 dX5_pass_7 (by decide) (fun c_1 => ?_) (fun c_1 => ?_)
  · refine gx_aload_n (pc := 12) hB dX5_pass_12 0 rfl ?_
    refine gx_get (pc := 13) hB dX5_pass_13 inX5 rfl 0 rfl 0 (by decide) tb_726 rfl rfl ?_
    refine gx_bipush (pc := 16) hB dX5_pass_16 6 (by decide) ?_
    refine gx_iald (pc := 18) hB dX5_pass_18 1 1 rfl rfl 6 rfl (by decide) (by decide) ?_
    refine gx_iload_n (pc := 19) hB dX5_pass_19 1 rfl ?_
    refine gx_iadd (pc := 20) hB dX5_pass_20 ?_
    refine gx_sipush (pc := 21) hB dX5_pass_21 999 (by decide) ?_
    refine gx_icmp_le (pc := 24) hB 30 dX5_pass_24 (by decide) (fun c_2 => ?_) (fun c_2 => ?_)
    · obtain ⟨u, h_u, rfl⟩ := bIn1_of c_1
      have s_u : (nI u).toNatClampNeg = u := nI_clamp (by omega)
      refine gx_aload_n (pc := 30) hB dX5_pass_30 0 rfl ?_
      refine gx_dVv (pc := 31) (wr := []) hB (c_X5_changes l K m q1 q2 q3 q4 q5 q6 q7 q8 S P H T X Z n ru ty cl sp ca co (by first | assumption | omega | decide)) mX5_changes dX5_pass_31 tb_777 pX5_changes ⟨Nat.le_of_ble_eq_true rfl, Nat.le_of_ble_eq_true rfl⟩ ⟨rfl, rfl⟩ ⟨Nat.zero_le _, Nat.zero_le _⟩ rfl (Nat.le_of_ble_eq_true rfl) [0, 1, 2, 3, 4, 5, 6, 7, 8] [] rfl rfl (by decide) (by decide) (by decide) rfl rfl [0, 1, 2, 3, 4, 5, 6, 7, 8] (by decide) (wM K m q1 q2 q3 q4 q5 q6 q7 q8 S (chP ru n P S) H T X Z (chn ru n) ru ty cl sp ca co) rfl ?_
      refine gx_aload_n (pc := 34) hB dX5_pass_34 0 rfl ?_
      refine gx_iload_n (pc := 35) hB dX5_pass_35 1 rfl ?_
      refine gx_dVi (pc := 36) (r := (mGoM S c e u).1) (wr := []) hB (c_X5_goes l K m q1 q2 q3 q4 q5 q6 q7 q8 S (chP ru n P S) H T X Z (chn ru n) ru ty cl sp ca co a b c e u (by first | assumption | omega | decide) (by first | assumption | omega | decide)) mX5_goes dX5_pass_36 tb_918 pX5_goes ⟨Nat.le_of_ble_eq_true rfl, Nat.le_of_ble_eq_true rfl⟩ ⟨rfl, rfl⟩ ⟨Nat.zero_le _, Nat.zero_le _⟩ rfl (Nat.le_of_ble_eq_true rfl) [0, 1, 2, 3, 4, 5, 6, 7, 8] [] rfl rfl (by decide) (by decide) (by decide) rfl rfl [0, 1, 2, 3, 4, 5, 6, 7, 8] (by decide) (wM K m q1 q2 q3 q4 q5 q6 q7 q8 ((mGoM S c e u).2.2) (chP ru n P S) H T X Z (chn ru n) ru ty cl sp ca co) rfl ?_
      have e1 : ((mPass S c e (nI u)).1) = ((mGoM S c e u).1) := by simp [mPass, kpP, kpn, c_1, c_2, eq_false (Int32.not_lt.mpr c_2), s_u]
      have f0 : ((mPass S c e (nI u)).2.2) = ((mGoM S c e u).2.2) := by simp [mPass, kpP, kpn, c_1, c_2, eq_false (Int32.not_lt.mpr c_2), s_u]
      have f1 : (kpP (mPass S c e (nI u)).2.1 ru n P S) = chP ru n P S := by simp [mPass, kpP, kpn, c_1, c_2, eq_false (Int32.not_lt.mpr c_2), s_u]
      have f2 : (kpn (mPass S c e (nI u)).2.1 ru n) = chn ru n := by simp [mPass, kpP, kpn, c_1, c_2, eq_false (Int32.not_lt.mpr c_2), s_u]
      exact gx_iret (pc := 39) hC dX5_pass_39 (Nat.zero_le _) (Nat.zero_le _) (⟨by rw [e1], by rw [f0, f1, f2]⟩)
    · refine gx_bipush (pc := 27) hB dX5_pass_27 (-3) (by decide) ?_
      have e1 : ((mPass S c e x).1) = (-3) := by simp [mPass, kpP, kpn, c_1, Int32.not_le.mp c_2, eq_false c_2]
      have f0 : ((mPass S c e x).2.2) = S := by simp [mPass, kpP, kpn, c_1, Int32.not_le.mp c_2, eq_false c_2]
      have f1 : (kpP (mPass S c e x).2.1 ru n P S) = P := by simp [mPass, kpP, kpn, c_1, Int32.not_le.mp c_2, eq_false c_2]
      have f2 : (kpn (mPass S c e x).2.1 ru n) = n := by simp [mPass, kpP, kpn, c_1, Int32.not_le.mp c_2, eq_false c_2]
      exact gx_iret (pc := 29) hC dX5_pass_29 (Nat.zero_le _) (Nat.zero_le _) (⟨by rw [e1], by rw [f0, f1, f2]⟩)
  · refine gx_iconst (pc := 10) hB dX5_pass_10 (-1) (by decide) ?_
    have e1 : ((mPass S c e x).1) = (-1) := by simp [mPass, kpP, kpn, c_1]
    have f0 : ((mPass S c e x).2.2) = S := by simp [mPass, kpP, kpn, c_1]
    have f1 : (kpP (mPass S c e x).2.1 ru n P S) = P := by simp [mPass, kpP, kpn, c_1]
    have f2 : (kpn (mPass S c e x).2.1 ru n) = n := by simp [mPass, kpP, kpn, c_1]
    exact gx_iret (pc := 11) hC dX5_pass_11 (Nat.zero_le _) (Nat.zero_le _) (⟨by rw [e1], by rw [f0, f1, f2]⟩)
theorem pX5_set : (parseMethodDescriptor yX5_set.desc).map (fun d => d.parameters.length) = some 2 := by decide +kernel
theorem mX5_set : gx_M yX5_set cX5_set 4 (some .int) := ⟨tb_927, tb_928, tb_73, tb_929, by decide, by decide⟩
set_option maxHeartbeats 4000000 in
set_option maxRecDepth 100000 in
theorem c_X5_set (l : Launch) (K : gx_K) (m q1 q2 q3 q4 q5 q6 q7 q8 : Nat) (S P H T X Z : Nat → Int32) (n : Nat) (ru : Bool) (ty : Nat) (cl : Int32) (sp : Nat) (ca : Int32) (co : Nat) (a b c e : Nat) (x y : Int32) (h0 : sOk S a b c e) (h1 : n ≤ 4) : gx_Ctr l K yX5_set cX5_set 4 (some .int) (rmm 2 22) [.ref m, .int x, .int y] (wM K m q1 q2 q3 q4 q5 q6 q7 q8 S P H T X Z n ru ty cl sp ca co) (gx_D (some (.int ((mSet S x y).1))) (wM K m q1 q2 q3 q4 q5 q6 q7 q8 ((mSet S x y).2.2) (kpP (mSet S x y).2.1 ru n P S) H T X Z (kpn (mSet S x y).2.1 ru n) ru ty cl sp ca co)) := by
  refine gx_of (by decide) (Nat.le_of_ble_eq_true rfl) (fun G hC => ?_)
  have hB := hC.b
  refine gx_lv (lv' := [(0, .ref m), (1, .int x), (2, .int y)]) rfl ?_
  have hb0 := h0.1
  refine gx_iload_n (pc := 0) hB dX5_set_0 1 rfl ?_
  refine gx_iconst (pc := 1) hB dX5_set_1 0 (by decide) ?_
  refine gx_iconst (pc := 2) hB dX5_set_2 1 (by decide) ?_
  refine gx_dSi (pc := 3) (r := bI (bIn x 0 1)) (wr := [(m, .inr (5, [.ref q1, .ref q2, .ref q3, .ref q4, .int (nI n), .int (bI ru), .ref q5, .int (nI ty), .ref q6, .ref q7, .int cl, .int (nI sp), .int ca, .int (nI co), .ref q8])), (q1, .inl (K.2.1.2.1, 345, .inl S)), (q2, .inl (K.2.1.2.1, 1380, .inl P)), (q3, .inl (K.2.1.2.1, 345, .inl H)), (q4, .inl (K.2.1.2.1, 345, .inl T)), (q5, .inl (K.2.1.2.1, 80, .inl X)), (q6, .inl (K.2.1.2.2.1, 9, .inr (.inl mW))), (q7, .inl (K.2.1.2.1, 9, .inl mN)), (q8, .inl (K.2.1.2.1, 4, .inl Z))]) hB (c_X5_in l K x 0 1 ) mX5_in dX5_set_3 tb_797 pX5_in ⟨Nat.le_of_ble_eq_true rfl, Nat.le_of_ble_eq_true rfl⟩ ⟨rfl, rfl⟩ ⟨Nat.zero_le _, Nat.zero_le _⟩ rfl (Nat.le_of_ble_eq_true rfl) [] [0, 1, 2, 3, 4, 5, 6, 7, 8] rfl rfl (by decide) (by decide) (by decide) [0, 1, 2, 3, 4, 5, 6, 7, 8] (by decide) (wM K m q1 q2 q3 q4 q5 q6 q7 q8 S P H T X Z n ru ty cl sp ca co) rfl ?_
  refine gx_if_eq_b (pc := 6) hB 36 dX5_set_6 (by decide) (fun c_1 => ?_) (fun c_1 => ?_)
  · refine gx_iconst (pc := 36) hB dX5_set_36 (-1) (by decide) ?_
    have e1 : ((mSet S x y).1) = (-1) := by simp [mSet, kpP, kpn, c_1]
    have f0 : ((mSet S x y).2.2) = S := by simp [mSet, kpP, kpn, c_1]
    have f1 : (kpP (mSet S x y).2.1 ru n P S) = P := by simp [mSet, kpP, kpn, c_1]
    have f2 : (kpn (mSet S x y).2.1 ru n) = n := by simp [mSet, kpP, kpn, c_1]
    exact gx_iret (pc := 37) hC dX5_set_37 (Nat.zero_le _) (Nat.zero_le _) (⟨by rw [e1], by rw [f0, f1, f2]⟩)
  · refine gx_iload_n (pc := 9) hB dX5_set_9 2 rfl ?_
    refine gx_iload_n (pc := 10) hB dX5_set_10 1 rfl ?_
    refine gx_if_ne (pc := 11) hB 18 dX5_set_11 (by decide) (fun c_2 => ?_) (fun c_2 => ?_)
    · refine gx_iconst (pc := 18) hB dX5_set_18 0 (by decide) ?_
      refine gx_iload_n (pc := 19) hB dX5_set_19 1 rfl ?_
      refine gx_if_ne (pc := 20) hB 28 dX5_set_20 (by decide) (fun c_3 => ?_) (fun c_3 => ?_)
      · refine gx_ldc (pc := 28) hB dX5_set_28 tb_930 ?_
        refine gx_dSi (pc := 30) (r := bI (bIn y 0 99999)) (wr := [(m, .inr (5, [.ref q1, .ref q2, .ref q3, .ref q4, .int (nI n), .int (bI ru), .ref q5, .int (nI ty), .ref q6, .ref q7, .int cl, .int (nI sp), .int ca, .int (nI co), .ref q8])), (q1, .inl (K.2.1.2.1, 345, .inl S)), (q2, .inl (K.2.1.2.1, 1380, .inl P)), (q3, .inl (K.2.1.2.1, 345, .inl H)), (q4, .inl (K.2.1.2.1, 345, .inl T)), (q5, .inl (K.2.1.2.1, 80, .inl X)), (q6, .inl (K.2.1.2.2.1, 9, .inr (.inl mW))), (q7, .inl (K.2.1.2.1, 9, .inl mN)), (q8, .inl (K.2.1.2.1, 4, .inl Z))]) hB (c_X5_in l K y 0 99999 ) mX5_in dX5_set_30 tb_797 pX5_in ⟨Nat.le_of_ble_eq_true rfl, Nat.le_of_ble_eq_true rfl⟩ ⟨rfl, rfl⟩ ⟨Nat.zero_le _, Nat.zero_le _⟩ rfl (Nat.le_of_ble_eq_true rfl) [] [0, 1, 2, 3, 4, 5, 6, 7, 8] rfl rfl (by decide) (by decide) (by decide) [0, 1, 2, 3, 4, 5, 6, 7, 8] (by decide) (wM K m q1 q2 q3 q4 q5 q6 q7 q8 S P H T X Z n ru ty cl sp ca co) rfl ?_
        refine gx_if_ne_b (pc := 33) hB 38 dX5_set_33 (by decide) (fun c_4 => ?_) (fun c_4 => ?_)
        · obtain ⟨w, h_w, rfl⟩ := bIn_of (n := 1) (by decide) c_1
          have s_w : (nI w).toNatClampNeg = w := nI_clamp (by omega)
          refine gx_aload_n (pc := 38) hB dX5_set_38 0 rfl ?_
          refine gx_dVv (pc := 39) (wr := []) hB (c_X5_changes l K m q1 q2 q3 q4 q5 q6 q7 q8 S P H T X Z n ru ty cl sp ca co (by first | assumption | omega | decide)) mX5_changes dX5_set_39 tb_777 pX5_changes ⟨Nat.le_of_ble_eq_true rfl, Nat.le_of_ble_eq_true rfl⟩ ⟨rfl, rfl⟩ ⟨Nat.zero_le _, Nat.zero_le _⟩ rfl (Nat.le_of_ble_eq_true rfl) [0, 1, 2, 3, 4, 5, 6, 7, 8] [] rfl rfl (by decide) (by decide) (by decide) rfl rfl [0, 1, 2, 3, 4, 5, 6, 7, 8] (by decide) (wM K m q1 q2 q3 q4 q5 q6 q7 q8 S (chP ru n P S) H T X Z (chn ru n) ru ty cl sp ca co) rfl ?_
          refine gx_aload_n (pc := 42) hB dX5_set_42 0 rfl ?_
          refine gx_get (pc := 43) hB dX5_set_43 inX5 rfl 0 rfl 0 (by decide) tb_726 rfl rfl ?_
          refine gx_iload_n (pc := 46) hB dX5_set_46 1 rfl ?_
          refine gx_iald (pc := 47) hB dX5_set_47 1 1 rfl rfl w rfl (by omega) (by decide) ?_
          refine gx_istore_n (pc := 48) hB dX5_set_48 (by decide) [(3, .int (S w)), (0, .ref m), (1, .int (nI w)), (2, .int y)] rfl ?_
          refine gx_aload_n (pc := 49) hB dX5_set_49 1 rfl ?_
          refine gx_get (pc := 50) hB dX5_set_50 inX5 rfl 0 rfl 0 (by decide) tb_726 rfl rfl ?_
          refine gx_iload_n (pc := 53) hB dX5_set_53 2 rfl ?_
          refine gx_iload_n (pc := 54) hB dX5_set_54 3 rfl ?_
          refine gx_iast (pc := 55) hB dX5_set_55 1 1 rfl rfl w rfl (by omega) (by decide) (wM K m q1 q2 q3 q4 q5 q6 q7 q8 (upd S w y) (chP ru n P S) H T X Z (chn ru n) ru ty cl sp ca co) rfl ?_
          refine gx_iload_n (pc := 56) hB dX5_set_56 0 rfl ?_
          have e1 : ((mSet S (nI w) y).1) = S w := by simp [mSet, kpP, kpn, c_1, eq_false c_2, eq_false c_3, c_4, s_w]
          have f0 : ((mSet S (nI w) y).2.2) = upd S w y := by simp [mSet, kpP, kpn, c_1, eq_false c_2, eq_false c_3, c_4, s_w]
          have f1 : (kpP (mSet S (nI w) y).2.1 ru n P S) = chP ru n P S := by simp [mSet, kpP, kpn, c_1, eq_false c_2, eq_false c_3, c_4, s_w]
          have f2 : (kpn (mSet S (nI w) y).2.1 ru n) = chn ru n := by simp [mSet, kpP, kpn, c_1, eq_false c_2, eq_false c_3, c_4, s_w]
          exact gx_iret (pc := 57) hC dX5_set_57 (Nat.zero_le _) (Nat.zero_le _) (⟨by rw [e1], by rw [f0, f1, f2]⟩)
        · refine gx_iconst (pc := 36) hB dX5_set_36 (-1) (by decide) ?_
          have e1 : ((mSet S x y).1) = (-1) := by simp [mSet, kpP, kpn, c_1, eq_false c_2, eq_false c_3, c_4]
          have f0 : ((mSet S x y).2.2) = S := by simp [mSet, kpP, kpn, c_1, eq_false c_2, eq_false c_3, c_4]
          have f1 : (kpP (mSet S x y).2.1 ru n P S) = P := by simp [mSet, kpP, kpn, c_1, eq_false c_2, eq_false c_3, c_4]
          have f2 : (kpn (mSet S x y).2.1 ru n) = n := by simp [mSet, kpP, kpn, c_1, eq_false c_2, eq_false c_3, c_4]
          exact gx_iret (pc := 37) hC dX5_set_37 (Nat.zero_le _) (Nat.zero_le _) (⟨by rw [e1], by rw [f0, f1, f2]⟩)
      · exact (by first | exact absurd c_2 c_3 | exact absurd c_3 c_2 | exact absurd c_2 (Int32.not_le.mpr c_3) | exact absurd c_2 (Int32.not_lt.mpr c_3))
    · refine gx_iconst (pc := 14) hB dX5_set_14 1 (by decide) ?_
      refine gx_goto (pc := 15) hB 19 dX5_set_15 (by decide) ?_
      refine gx_iload_n (pc := 19) hB dX5_set_19 1 rfl ?_
      refine gx_if_ne (pc := 20) hB 28 dX5_set_20 (by decide) (fun c_5 => ?_) (fun c_5 => ?_)
      · exact (by first | exact absurd c_2 c_5 | exact absurd c_5 c_2 | exact absurd c_2 (Int32.not_le.mpr c_5) | exact absurd c_2 (Int32.not_lt.mpr c_5))
      · refine gx_bipush (pc := 23) hB dX5_set_23 100 (by decide) ?_
        refine gx_goto (pc := 25) hB 30 dX5_set_25 (by decide) ?_
        refine gx_dSi (pc := 30) (r := bI (bIn y 1 100)) (wr := [(m, .inr (5, [.ref q1, .ref q2, .ref q3, .ref q4, .int (nI n), .int (bI ru), .ref q5, .int (nI ty), .ref q6, .ref q7, .int cl, .int (nI sp), .int ca, .int (nI co), .ref q8])), (q1, .inl (K.2.1.2.1, 345, .inl S)), (q2, .inl (K.2.1.2.1, 1380, .inl P)), (q3, .inl (K.2.1.2.1, 345, .inl H)), (q4, .inl (K.2.1.2.1, 345, .inl T)), (q5, .inl (K.2.1.2.1, 80, .inl X)), (q6, .inl (K.2.1.2.2.1, 9, .inr (.inl mW))), (q7, .inl (K.2.1.2.1, 9, .inl mN)), (q8, .inl (K.2.1.2.1, 4, .inl Z))]) hB (c_X5_in l K y 1 100 ) mX5_in dX5_set_30 tb_797 pX5_in ⟨Nat.le_of_ble_eq_true rfl, Nat.le_of_ble_eq_true rfl⟩ ⟨rfl, rfl⟩ ⟨Nat.zero_le _, Nat.zero_le _⟩ rfl (Nat.le_of_ble_eq_true rfl) [] [0, 1, 2, 3, 4, 5, 6, 7, 8] rfl rfl (by decide) (by decide) (by decide) [0, 1, 2, 3, 4, 5, 6, 7, 8] (by decide) (wM K m q1 q2 q3 q4 q5 q6 q7 q8 S P H T X Z n ru ty cl sp ca co) rfl ?_
        refine gx_if_ne_b (pc := 33) hB 38 dX5_set_33 (by decide) (fun c_6 => ?_) (fun c_6 => ?_)
        · obtain ⟨w, h_w, rfl⟩ := bIn_of (n := 1) (by decide) c_1
          have s_w : (nI w).toNatClampNeg = w := nI_clamp (by omega)
          refine gx_aload_n (pc := 38) hB dX5_set_38 0 rfl ?_
          refine gx_dVv (pc := 39) (wr := []) hB (c_X5_changes l K m q1 q2 q3 q4 q5 q6 q7 q8 S P H T X Z n ru ty cl sp ca co (by first | assumption | omega | decide)) mX5_changes dX5_set_39 tb_777 pX5_changes ⟨Nat.le_of_ble_eq_true rfl, Nat.le_of_ble_eq_true rfl⟩ ⟨rfl, rfl⟩ ⟨Nat.zero_le _, Nat.zero_le _⟩ rfl (Nat.le_of_ble_eq_true rfl) [0, 1, 2, 3, 4, 5, 6, 7, 8] [] rfl rfl (by decide) (by decide) (by decide) rfl rfl [0, 1, 2, 3, 4, 5, 6, 7, 8] (by decide) (wM K m q1 q2 q3 q4 q5 q6 q7 q8 S (chP ru n P S) H T X Z (chn ru n) ru ty cl sp ca co) rfl ?_
          refine gx_aload_n (pc := 42) hB dX5_set_42 0 rfl ?_
          refine gx_get (pc := 43) hB dX5_set_43 inX5 rfl 0 rfl 0 (by decide) tb_726 rfl rfl ?_
          refine gx_iload_n (pc := 46) hB dX5_set_46 1 rfl ?_
          refine gx_iald (pc := 47) hB dX5_set_47 1 1 rfl rfl w rfl (by omega) (by decide) ?_
          refine gx_istore_n (pc := 48) hB dX5_set_48 (by decide) [(3, .int (S w)), (0, .ref m), (1, .int (nI w)), (2, .int y)] rfl ?_
          refine gx_aload_n (pc := 49) hB dX5_set_49 1 rfl ?_
          refine gx_get (pc := 50) hB dX5_set_50 inX5 rfl 0 rfl 0 (by decide) tb_726 rfl rfl ?_
          refine gx_iload_n (pc := 53) hB dX5_set_53 2 rfl ?_
          refine gx_iload_n (pc := 54) hB dX5_set_54 3 rfl ?_
          refine gx_iast (pc := 55) hB dX5_set_55 1 1 rfl rfl w rfl (by omega) (by decide) (wM K m q1 q2 q3 q4 q5 q6 q7 q8 (upd S w y) (chP ru n P S) H T X Z (chn ru n) ru ty cl sp ca co) rfl ?_
          refine gx_iload_n (pc := 56) hB dX5_set_56 0 rfl ?_
          have e1 : ((mSet S (nI w) y).1) = S w := by simp [mSet, kpP, kpn, c_1, eq_true c_2, eq_true c_5, c_6, s_w]
          have f0 : ((mSet S (nI w) y).2.2) = upd S w y := by simp [mSet, kpP, kpn, c_1, eq_true c_2, eq_true c_5, c_6, s_w]
          have f1 : (kpP (mSet S (nI w) y).2.1 ru n P S) = chP ru n P S := by simp [mSet, kpP, kpn, c_1, eq_true c_2, eq_true c_5, c_6, s_w]
          have f2 : (kpn (mSet S (nI w) y).2.1 ru n) = chn ru n := by simp [mSet, kpP, kpn, c_1, eq_true c_2, eq_true c_5, c_6, s_w]
          exact gx_iret (pc := 57) hC dX5_set_57 (Nat.zero_le _) (Nat.zero_le _) (⟨by rw [e1], by rw [f0, f1, f2]⟩)
        · refine gx_iconst (pc := 36) hB dX5_set_36 (-1) (by decide) ?_
          have e1 : ((mSet S x y).1) = (-1) := by simp [mSet, kpP, kpn, c_1, eq_true c_2, eq_true c_5, c_6]
          have f0 : ((mSet S x y).2.2) = S := by simp [mSet, kpP, kpn, c_1, eq_true c_2, eq_true c_5, c_6]
          have f1 : (kpP (mSet S x y).2.1 ru n P S) = P := by simp [mSet, kpP, kpn, c_1, eq_true c_2, eq_true c_5, c_6]
          have f2 : (kpn (mSet S x y).2.1 ru n) = n := by simp [mSet, kpP, kpn, c_1, eq_true c_2, eq_true c_5, c_6]
          exact gx_iret (pc := 37) hC dX5_set_37 (Nat.zero_le _) (Nat.zero_le _) (⟨by rw [e1], by rw [f0, f1, f2]⟩)
theorem pX5_purposeOf : (parseMethodDescriptor yX5_purposeOf.desc).map (fun d => d.parameters.length) = some 2 := by decide +kernel
theorem mX5_purposeOf : gx_M yX5_purposeOf cX5_purposeOf 3 (some .int) := ⟨tb_932, tb_933, tb_73, tb_934, by decide, by decide⟩
set_option maxHeartbeats 4000000 in
set_option maxRecDepth 100000 in
theorem c_X5_purposeOf (l : Launch) (K : gx_K) (m q1 q2 q3 q4 q5 q6 q7 q8 : Nat) (S P H T X Z : Nat → Int32) (n : Nat) (ru : Bool) (ty : Nat) (cl : Int32) (sp : Nat) (ca : Int32) (co : Nat) (a b c e : Nat) (x y : Int32) (h0 : sOk S a b c e) : gx_Ctr l K yX5_purposeOf cX5_purposeOf 3 (some .int) (rmm 4 65) [.ref m, .int x, .int y] (wM K m q1 q2 q3 q4 q5 q6 q7 q8 S P H T X Z n ru ty cl sp ca co) (gx_D (some (.int (mTellP S x y))) (wM K m q1 q2 q3 q4 q5 q6 q7 q8 S P H T X Z n ru ty cl sp ca co)) := by
  refine gx_of (by decide) (Nat.le_of_ble_eq_true rfl) (fun G hC => ?_)
  have hB := hC.b
  refine gx_lv (lv' := [(0, .ref m), (1, .int x), (2, .int y)]) rfl ?_
  have hb0 := h0.1
  refine gx_aload_n (pc := 0) hB dX5_purposeOf_0 0 rfl ?_
  refine gx_iload_n (pc := 1) hB dX5_purposeOf_1 1 rfl ?_
  refine gx_dVi (pc := 2) (r := bI (sIsP S x)) (wr := []) hB (c_X5_isPurpose l K m q1 q2 q3 q4 q5 q6 q7 q8 S P H T X Z n ru ty cl sp ca co x ) mX5_isPurpose dX5_purposeOf_2 tb_808 pX5_isPurpose ⟨Nat.le_of_ble_eq_true rfl, Nat.le_of_ble_eq_true rfl⟩ ⟨rfl, rfl⟩ ⟨Nat.zero_le _, Nat.zero_le _⟩ rfl (Nat.le_of_ble_eq_true rfl) [0, 1, 2, 3, 4, 5, 6, 7, 8] [] rfl rfl (by decide) (by decide) (by decide) rfl rfl [0, 1, 2, 3, 4, 5, 6, 7, 8] (by decide) (wM K m q1 q2 q3 q4 q5 q6 q7 q8 S P H T X Z n ru ty cl sp ca co) rfl ?_
  refine gx_if_eq_b (pc := 5) hB 18 dX5_purposeOf_5 (by decide) (fun c_1 => ?_) (fun c_1 => ?_)
  · refine gx_iconst (pc := 18) hB dX5_purposeOf_18 (-1) (by decide) ?_
    have e1 : mTellP S x y = (-1) := by simp [mTellP, c_1]
    exact gx_iret (pc := 19) hC dX5_purposeOf_19 (Nat.zero_le _) (Nat.zero_le _) (⟨by rw [e1], rfl⟩)
  · obtain ⟨p, h_p, rfl⟩ := isP_of h0 c_1
    have s_p : (nI p).toNatClampNeg = p := nI_clamp (by omega)
    refine gx_iload_n (pc := 8) hB dX5_purposeOf_8 2 rfl ?_
    refine gx_iconst (pc := 9) hB dX5_purposeOf_9 0 (by decide) ?_
    refine gx_bipush (pc := 10) hB dX5_purposeOf_10 11 (by decide) ?_
    refine gx_dSi (pc := 12) (r := bI (bIn y 0 11)) (wr := [(m, .inr (5, [.ref q1, .ref q2, .ref q3, .ref q4, .int (nI n), .int (bI ru), .ref q5, .int (nI ty), .ref q6, .ref q7, .int cl, .int (nI sp), .int ca, .int (nI co), .ref q8])), (q1, .inl (K.2.1.2.1, 345, .inl S)), (q2, .inl (K.2.1.2.1, 1380, .inl P)), (q3, .inl (K.2.1.2.1, 345, .inl H)), (q4, .inl (K.2.1.2.1, 345, .inl T)), (q5, .inl (K.2.1.2.1, 80, .inl X)), (q6, .inl (K.2.1.2.2.1, 9, .inr (.inl mW))), (q7, .inl (K.2.1.2.1, 9, .inl mN)), (q8, .inl (K.2.1.2.1, 4, .inl Z))]) hB (c_X5_in l K y 0 11 ) mX5_in dX5_purposeOf_12 tb_797 pX5_in ⟨Nat.le_of_ble_eq_true rfl, Nat.le_of_ble_eq_true rfl⟩ ⟨rfl, rfl⟩ ⟨Nat.zero_le _, Nat.zero_le _⟩ rfl (Nat.le_of_ble_eq_true rfl) [] [0, 1, 2, 3, 4, 5, 6, 7, 8] rfl rfl (by decide) (by decide) (by decide) [0, 1, 2, 3, 4, 5, 6, 7, 8] (by decide) (wM K m q1 q2 q3 q4 q5 q6 q7 q8 S P H T X Z n ru ty cl sp ca co) rfl ?_
    refine gx_if_ne_b (pc := 15) hB 20 dX5_purposeOf_15 (by decide) (fun c_2 => ?_) (fun c_2 => ?_)
    · refine gx_iload_n (pc := 20) hB dX5_purposeOf_20 2 rfl ?_
      refine gx_bipush (pc := 21) hB dX5_purposeOf_21 10 (by decide) ?_
      refine gx_icmp_ne (pc := 23) hB 34 dX5_purposeOf_23 (by decide) (fun c_3 => ?_) (fun c_3 => ?_)
      · refine gx_aload_n (pc := 34) hB dX5_purposeOf_34 0 rfl ?_
        refine gx_iload_n (pc := 35) hB dX5_purposeOf_35 1 rfl ?_
        refine gx_iload_n (pc := 36) hB dX5_purposeOf_36 2 rfl ?_
        refine gx_bipush (pc := 37) hB dX5_purposeOf_37 11 (by decide) ?_
        refine gx_icmp_ne (pc := 39) hB 47 dX5_purposeOf_39 (by decide) (fun c_4 => ?_) (fun c_4 => ?_)
        · obtain ⟨k, h_k, rfl⟩ := bIn_of (n := 11) (by decide) c_2
          have s_k : (nI k).toNatClampNeg = k := nI_clamp (by omega)
          have hk11 : k < 11 := nI_ne (n := 11) c_4 (by omega)
          refine gx_iload_n (pc := 47) hB dX5_purposeOf_47 2 rfl ?_
          refine gx_dVi (pc := 48) (r := sP S p k) (wr := []) hB (c_X5_ofPurpose l K m q1 q2 q3 q4 q5 q6 q7 q8 S P H T X Z n ru ty cl sp ca co p k (by first | assumption | omega | decide) (by first | assumption | omega | decide)) mX5_ofPurpose dX5_purposeOf_48 tb_816 pX5_ofPurpose ⟨Nat.le_of_ble_eq_true rfl, Nat.le_of_ble_eq_true rfl⟩ ⟨rfl, rfl⟩ ⟨Nat.zero_le _, Nat.zero_le _⟩ rfl (Nat.le_of_ble_eq_true rfl) [0, 1, 2, 3, 4, 5, 6, 7, 8] [] rfl rfl (by decide) (by decide) (by decide) rfl rfl [0, 1, 2, 3, 4, 5, 6, 7, 8] (by decide) (wM K m q1 q2 q3 q4 q5 q6 q7 q8 S P H T X Z n ru ty cl sp ca co) rfl ?_
          have e1 : (mTellP S (nI p) (nI k)) = sP S p k := by simp [mTellP, c_1, s_p, c_2, eq_false c_3, eq_false c_4, s_k]
          exact gx_iret (pc := 51) hC dX5_purposeOf_51 (Nat.zero_le _) (Nat.zero_le _) (⟨by rw [e1], rfl⟩)
        · refine gx_bipush (pc := 42) hB dX5_purposeOf_42 10 (by decide) ?_
          refine gx_goto (pc := 44) hB 48 dX5_purposeOf_44 (by decide) ?_
          refine gx_dVi (pc := 48) (r := sP S p 10) (wr := []) hB (c_X5_ofPurpose l K m q1 q2 q3 q4 q5 q6 q7 q8 S P H T X Z n ru ty cl sp ca co p 10 (by first | assumption | omega | decide) (by first | assumption | omega | decide)) mX5_ofPurpose dX5_purposeOf_48 tb_816 pX5_ofPurpose ⟨Nat.le_of_ble_eq_true rfl, Nat.le_of_ble_eq_true rfl⟩ ⟨rfl, rfl⟩ ⟨Nat.zero_le _, Nat.zero_le _⟩ rfl (Nat.le_of_ble_eq_true rfl) [0, 1, 2, 3, 4, 5, 6, 7, 8] [] rfl rfl (by decide) (by decide) (by decide) rfl rfl [0, 1, 2, 3, 4, 5, 6, 7, 8] (by decide) (wM K m q1 q2 q3 q4 q5 q6 q7 q8 S P H T X Z n ru ty cl sp ca co) rfl ?_
          have e1 : (mTellP S (nI p) y) = sP S p 10 := by simp [mTellP, c_1, s_p, c_2, eq_false c_3, eq_true c_4]
          exact gx_iret (pc := 51) hC dX5_purposeOf_51 (Nat.zero_le _) (Nat.zero_le _) (⟨by rw [e1], rfl⟩)
      · refine gx_aload_n (pc := 26) hB dX5_purposeOf_26 0 rfl ?_
        refine gx_iload_n (pc := 27) hB dX5_purposeOf_27 1 rfl ?_
        refine gx_dVi (pc := 28) (r := nI (sHome S p)) (wr := []) hB (c_X5_home l K m q1 q2 q3 q4 q5 q6 q7 q8 S P H T X Z n ru ty cl sp ca co a b c e p (by first | assumption | omega | decide) (by first | assumption | omega | decide)) mX5_home dX5_purposeOf_28 tb_878 pX5_home ⟨Nat.le_of_ble_eq_true rfl, Nat.le_of_ble_eq_true rfl⟩ ⟨rfl, rfl⟩ ⟨Nat.zero_le _, Nat.zero_le _⟩ rfl (Nat.le_of_ble_eq_true rfl) [0, 1, 2, 3, 4, 5, 6, 7, 8] [] rfl rfl (by decide) (by decide) (by decide) rfl rfl [0, 1, 2, 3, 4, 5, 6, 7, 8] (by decide) (wM K m q1 q2 q3 q4 q5 q6 q7 q8 S P H T X Z n ru ty cl sp ca co) rfl ?_
        refine gx_goto (pc := 31) hB 51 dX5_purposeOf_31 (by decide) ?_
        have e1 : (mTellP S (nI p) y) = (nI (sHome S p)) := by simp [mTellP, c_1, s_p, c_2, eq_true c_3]
        exact gx_iret (pc := 51) hC dX5_purposeOf_51 (Nat.zero_le _) (Nat.zero_le _) (⟨by rw [e1], rfl⟩)
    · refine gx_iconst (pc := 18) hB dX5_purposeOf_18 (-1) (by decide) ?_
      have e1 : (mTellP S (nI p) y) = (-1) := by simp [mTellP, c_1, s_p, c_2]
      exact gx_iret (pc := 19) hC dX5_purposeOf_19 (Nat.zero_le _) (Nat.zero_le _) (⟨by rw [e1], rfl⟩)
theorem pX5_given : (parseMethodDescriptor yX5_given.desc).map (fun d => d.parameters.length) = some 2 := by decide +kernel
theorem mX5_given : gx_M yX5_given cX5_given 6 (some .int) := ⟨tb_941, tb_57, tb_73, tb_942, by decide, by decide⟩
set_option maxHeartbeats 4000000 in
set_option maxRecDepth 100000 in
theorem c_X5_given (l : Launch) (K : gx_K) (m q1 q2 q3 q4 q5 q6 q7 q8 : Nat) (S P H T X Z : Nat → Int32) (n : Nat) (ru : Bool) (ty : Nat) (cl : Int32) (sp : Nat) (ca : Int32) (co : Nat) (c : Nat) (x y : Int32) (h0 : S 4 = nI c) (h1 : c ≤ 24) : gx_Ctr l K yX5_given cX5_given 6 (some .int) (rmm 2 22) [.ref m, .int x, .int y] (wM K m q1 q2 q3 q4 q5 q6 q7 q8 S P H T X Z n ru ty cl sp ca co) (gx_D (some (.int (mAmtN S x y c))) (wM K m q1 q2 q3 q4 q5 q6 q7 q8 S P H T X Z n ru ty cl sp ca co)) := by
  refine gx_of (by decide) (Nat.le_of_ble_eq_true rfl) (fun G hC => ?_)
  have hB := hC.b
  refine gx_lv (lv' := [(0, .ref m), (1, .int x), (2, .int y)]) rfl ?_
  refine gx_iconst (pc := 0) hB dX5_given_0 0 (by decide) ?_
  refine gx_istore_n (pc := 1) hB dX5_given_1 (by decide) [(3, .int 0), (0, .ref m), (1, .int x), (2, .int y)] rfl ?_
  refine gx_iconst (pc := 2) hB dX5_given_2 0 (by decide) ?_
  refine gx_istore (pc := 3) hB dX5_given_3 (by decide) [(4, .int 0), (3, .int 0), (0, .ref m), (1, .int x), (2, .int y)] rfl ?_
  have loop_5 : ∀ dq i : Nat, i + dq = c → G 0 0 (wM K m q1 q2 q3 q4 q5 q6 q7 q8 S P H T X Z n ru ty cl sp ca co) [(0, .ref m), (1, .int x), (2, .int y), (3, .int (mAmtN S x y i)), (4, .int (nI i))] 5 [] := by
    intro dq
    induction dq with
    | zero =>
      intro i hi5
      obtain rfl : c = i := by omega
      refine gx_iload (pc := 5) hB dX5_given_5 4 rfl ?_
      refine gx_aload_n (pc := 7) hB dX5_given_7 0 rfl ?_
      refine gx_get (pc := 8) hB dX5_given_8 inX5 rfl 0 rfl 0 (by decide) tb_726 rfl rfl ?_
      refine gx_iconst (pc := 11) hB dX5_given_11 4 (by decide) ?_
      refine gx_iald (pc := 12) hB dX5_given_12 1 1 rfl rfl 4 rfl (by decide) (by decide) ?_
      refine gx_top (show S 4 = nI c from h0) ?_
      refine gx_icmp_ge (pc := 13) hB 105 dX5_given_13 (by decide) (fun c_1 => ?_) (fun c_1 => ?_)
      · refine gx_iload_n (pc := 105) hB dX5_given_105 3 rfl ?_
        exact gx_iret (pc := 106) hC dX5_given_106 (Nat.zero_le _) (Nat.zero_le _) (⟨rfl, rfl⟩)
      · exact absurd (lpTn (c := c) (by omega) hi5) c_1
    | succ dq ih5 =>
      intro i hi5
      refine gx_iload (pc := 5) hB dX5_given_5 4 rfl ?_
      refine gx_aload_n (pc := 7) hB dX5_given_7 0 rfl ?_
      refine gx_get (pc := 8) hB dX5_given_8 inX5 rfl 0 rfl 0 (by decide) tb_726 rfl rfl ?_
      refine gx_iconst (pc := 11) hB dX5_given_11 4 (by decide) ?_
      refine gx_iald (pc := 12) hB dX5_given_12 1 1 rfl rfl 4 rfl (by decide) (by decide) ?_
      refine gx_top (show S 4 = nI c from h0) ?_
      refine gx_icmp_ge (pc := 13) hB 105 dX5_given_13 (by decide) (fun c_2 => ?_) (fun c_2 => ?_)
      · exact absurd c_2 (lpFn (c := c) (by omega) hi5)
      · refine gx_iload_n (pc := 16) hB dX5_given_16 2 rfl ?_
        refine gx_if_eq (pc := 17) hB 62 dX5_given_17 (by decide) (fun c_3 => ?_) (fun c_3 => ?_)
        · refine gx_iconst (pc := 62) hB dX5_given_62 1 (by decide) ?_
          refine gx_goto (pc := 63) hB 67 dX5_given_63 (by decide) ?_
          refine gx_istore (pc := 67) hB dX5_given_67 (by decide) [(5, .int 1), (0, .ref m), (1, .int x), (2, .int y), (3, .int (mAmtN S x y i)), (4, .int (nI i))] rfl ?_
          refine gx_iload_n (pc := 69) hB dX5_given_69 4 rfl ?_
          refine gx_iload (pc := 70) hB dX5_given_70 0 rfl ?_
          refine gx_if_eq (pc := 72) hB 96 dX5_given_72 (by decide) (fun c_4 => ?_) (fun c_4 => ?_)
          · exact absurd c_4 (by decide)
          · refine gx_aload_n (pc := 75) hB dX5_given_75 1 rfl ?_
            refine gx_iload (pc := 76) hB dX5_given_76 5 rfl ?_
            refine gx_iconst (pc := 78) hB dX5_given_78 0 (by decide) ?_
            refine gx_dVi (pc := 79) (r := sG S i 0) (wr := []) hB (c_X5_ofGift l K m q1 q2 q3 q4 q5 q6 q7 q8 S P H T X Z n ru ty cl sp ca co i 0 (by first | assumption | omega | decide) (by first | assumption | omega | decide)) mX5_ofGift dX5_given_79 tb_867 pX5_ofGift ⟨Nat.le_of_ble_eq_true rfl, Nat.le_of_ble_eq_true rfl⟩ ⟨rfl, rfl⟩ ⟨Nat.zero_le _, Nat.zero_le _⟩ rfl (Nat.le_of_ble_eq_true rfl) [0, 1, 2, 3, 4, 5, 6, 7, 8] [] rfl rfl (by decide) (by decide) (by decide) rfl rfl [0, 1, 2, 3, 4, 5, 6, 7, 8] (by decide) (wM K m q1 q2 q3 q4 q5 q6 q7 q8 S P H T X Z n ru ty cl sp ca co) rfl ?_
            refine gx_iload_n (pc := 82) hB dX5_given_82 2 rfl ?_
            refine gx_icmp_ne (pc := 83) hB 96 dX5_given_83 (by decide) (fun c_5 => ?_) (fun c_5 => ?_)
            · refine gx_iconst (pc := 96) hB dX5_given_96 0 (by decide) ?_
              refine gx_iadd (pc := 97) hB dX5_given_97 ?_
              refine gx_top (show mAmtN S x y i + 0 = (mAmtN S x y i) from Int32.add_zero _) ?_
              refine gx_istore_n (pc := 98) hB dX5_given_98 (by decide) [(3, .int (mAmtN S x y i)), (5, .int 1), (0, .ref m), (1, .int x), (2, .int y), (4, .int (nI i))] rfl ?_
              refine gx_iinc (pc := 99) hB dX5_given_99 5 (by decide) rfl (nI (i + 1)) (nI_1 _) [(4, .int (nI (i + 1))), (3, .int (mAmtN S x y i)), (5, .int 1), (0, .ref m), (1, .int x), (2, .int y)] rfl ?_
              refine gx_goto (pc := 102) hB 5 dX5_given_102 (by decide) ?_
              have g3 : mAmtN S x y i = mAmtN S x y (i + 1) := by simp [mAmtN, Int32.not_le.mp c_2, eq_false c_2, eq_true c_3, eq_false c_5]
              refine gx_sub hB (lv' := [(0, .ref m), (1, .int x), (2, .int y), (3, .int (mAmtN S x y i)), (4, .int (nI (i + 1)))]) [3, 4, 5, 1, 0] rfl ?_
              refine gx_all (ws' := wM K m q1 q2 q3 q4 q5 q6 q7 q8 S P H T X Z n ru ty cl sp ca co) (lv' := [(0, .ref m), (1, .int x), (2, .int y), (3, .int (mAmtN S x y (i + 1))), (4, .int (nI (i + 1)))]) (rfl) (by rw [← g3]) ?_
              exact ih5 (i + 1) (by omega)
            · refine gx_aload_n (pc := 86) hB dX5_given_86 1 rfl ?_
              refine gx_iload (pc := 87) hB dX5_given_87 5 rfl ?_
              refine gx_iconst (pc := 89) hB dX5_given_89 2 (by decide) ?_
              refine gx_dVi (pc := 90) (r := sG S i 2) (wr := []) hB (c_X5_ofGift l K m q1 q2 q3 q4 q5 q6 q7 q8 S P H T X Z n ru ty cl sp ca co i 2 (by first | assumption | omega | decide) (by first | assumption | omega | decide)) mX5_ofGift dX5_given_90 tb_867 pX5_ofGift ⟨Nat.le_of_ble_eq_true rfl, Nat.le_of_ble_eq_true rfl⟩ ⟨rfl, rfl⟩ ⟨Nat.zero_le _, Nat.zero_le _⟩ rfl (Nat.le_of_ble_eq_true rfl) [0, 1, 2, 3, 4, 5, 6, 7, 8] [] rfl rfl (by decide) (by decide) (by decide) rfl rfl [0, 1, 2, 3, 4, 5, 6, 7, 8] (by decide) (wM K m q1 q2 q3 q4 q5 q6 q7 q8 S P H T X Z n ru ty cl sp ca co) rfl ?_
              refine gx_goto (pc := 93) hB 97 dX5_given_93 (by decide) ?_
              refine gx_iadd (pc := 97) hB dX5_given_97 ?_
              refine gx_istore_n (pc := 98) hB dX5_given_98 (by decide) [(3, .int (mAmtN S x y i + sG S i 2)), (5, .int 1), (0, .ref m), (1, .int x), (2, .int y), (4, .int (nI i))] rfl ?_
              refine gx_iinc (pc := 99) hB dX5_given_99 5 (by decide) rfl (nI (i + 1)) (nI_1 _) [(4, .int (nI (i + 1))), (3, .int (mAmtN S x y i + sG S i 2)), (5, .int 1), (0, .ref m), (1, .int x), (2, .int y)] rfl ?_
              refine gx_goto (pc := 102) hB 5 dX5_given_102 (by decide) ?_
              have g3 : mAmtN S x y i + sG S i 2 = mAmtN S x y (i + 1) := by simp [mAmtN, Int32.not_le.mp c_2, eq_false c_2, eq_true c_3, eq_true c_5]
              refine gx_sub hB (lv' := [(0, .ref m), (1, .int x), (2, .int y), (3, .int (mAmtN S x y i + sG S i 2)), (4, .int (nI (i + 1)))]) [3, 4, 5, 1, 0] rfl ?_
              refine gx_all (ws' := wM K m q1 q2 q3 q4 q5 q6 q7 q8 S P H T X Z n ru ty cl sp ca co) (lv' := [(0, .ref m), (1, .int x), (2, .int y), (3, .int (mAmtN S x y (i + 1))), (4, .int (nI (i + 1)))]) (rfl) (by rw [← g3]) ?_
              exact ih5 (i + 1) (by omega)
        · refine gx_iload_n (pc := 20) hB dX5_given_20 2 rfl ?_
          refine gx_iconst (pc := 21) hB dX5_given_21 1 (by decide) ?_
          refine gx_icmp_ne (pc := 22) hB 36 dX5_given_22 (by decide) (fun c_6 => ?_) (fun c_6 => ?_)
          · refine gx_iload_n (pc := 36) hB dX5_given_36 2 rfl ?_
            refine gx_iconst (pc := 37) hB dX5_given_37 2 (by decide) ?_
            refine gx_icmp_ne (pc := 38) hB 66 dX5_given_38 (by decide) (fun c_7 => ?_) (fun c_7 => ?_)
            · refine gx_iconst (pc := 66) hB dX5_given_66 0 (by decide) ?_
              refine gx_istore (pc := 67) hB dX5_given_67 (by decide) [(5, .int 0), (0, .ref m), (1, .int x), (2, .int y), (3, .int (mAmtN S x y i)), (4, .int (nI i))] rfl ?_
              refine gx_iload_n (pc := 69) hB dX5_given_69 4 rfl ?_
              refine gx_iload (pc := 70) hB dX5_given_70 0 rfl ?_
              refine gx_if_eq (pc := 72) hB 96 dX5_given_72 (by decide) (fun c_8 => ?_) (fun c_8 => ?_)
              · refine gx_iconst (pc := 96) hB dX5_given_96 0 (by decide) ?_
                refine gx_iadd (pc := 97) hB dX5_given_97 ?_
                refine gx_top (show mAmtN S x y i + 0 = (mAmtN S x y i) from Int32.add_zero _) ?_
                refine gx_istore_n (pc := 98) hB dX5_given_98 (by decide) [(3, .int (mAmtN S x y i)), (5, .int 0), (0, .ref m), (1, .int x), (2, .int y), (4, .int (nI i))] rfl ?_
                refine gx_iinc (pc := 99) hB dX5_given_99 5 (by decide) rfl (nI (i + 1)) (nI_1 _) [(4, .int (nI (i + 1))), (3, .int (mAmtN S x y i)), (5, .int 0), (0, .ref m), (1, .int x), (2, .int y)] rfl ?_
                refine gx_goto (pc := 102) hB 5 dX5_given_102 (by decide) ?_
                have g3 : mAmtN S x y i = mAmtN S x y (i + 1) := by simp [mAmtN, Int32.not_le.mp c_2, eq_false c_2, eq_false c_3, eq_false c_6, eq_false c_7]
                refine gx_sub hB (lv' := [(0, .ref m), (1, .int x), (2, .int y), (3, .int (mAmtN S x y i)), (4, .int (nI (i + 1)))]) [3, 4, 5, 1, 0] rfl ?_
                refine gx_all (ws' := wM K m q1 q2 q3 q4 q5 q6 q7 q8 S P H T X Z n ru ty cl sp ca co) (lv' := [(0, .ref m), (1, .int x), (2, .int y), (3, .int (mAmtN S x y (i + 1))), (4, .int (nI (i + 1)))]) (rfl) (by rw [← g3]) ?_
                exact ih5 (i + 1) (by omega)
              · exact absurd c_8 (by decide)
            · refine gx_aload_n (pc := 41) hB dX5_given_41 0 rfl ?_
              refine gx_iload (pc := 42) hB dX5_given_42 4 rfl ?_
              refine gx_iconst (pc := 44) hB dX5_given_44 4 (by decide) ?_
              refine gx_dVi (pc := 45) (r := sG S i 4) (wr := []) hB (c_X5_ofGift l K m q1 q2 q3 q4 q5 q6 q7 q8 S P H T X Z n ru ty cl sp ca co i 4 (by first | assumption | omega | decide) (by first | assumption | omega | decide)) mX5_ofGift dX5_given_45 tb_867 pX5_ofGift ⟨Nat.le_of_ble_eq_true rfl, Nat.le_of_ble_eq_true rfl⟩ ⟨rfl, rfl⟩ ⟨Nat.zero_le _, Nat.zero_le _⟩ rfl (Nat.le_of_ble_eq_true rfl) [0, 1, 2, 3, 4, 5, 6, 7, 8] [] rfl rfl (by decide) (by decide) (by decide) rfl rfl [0, 1, 2, 3, 4, 5, 6, 7, 8] (by decide) (wM K m q1 q2 q3 q4 q5 q6 q7 q8 S P H T X Z n ru ty cl sp ca co) rfl ?_
              refine gx_iconst (pc := 48) hB dX5_given_48 1 (by decide) ?_
              refine gx_icmp_ne (pc := 49) hB 66 dX5_given_49 (by decide) (fun c_9 => ?_) (fun c_9 => ?_)
              · refine gx_iconst (pc := 66) hB dX5_given_66 0 (by decide) ?_
                refine gx_istore (pc := 67) hB dX5_given_67 (by decide) [(5, .int 0), (0, .ref m), (1, .int x), (2, .int y), (3, .int (mAmtN S x y i)), (4, .int (nI i))] rfl ?_
                refine gx_iload_n (pc := 69) hB dX5_given_69 4 rfl ?_
                refine gx_iload (pc := 70) hB dX5_given_70 0 rfl ?_
                refine gx_if_eq (pc := 72) hB 96 dX5_given_72 (by decide) (fun c_10 => ?_) (fun c_10 => ?_)
                · refine gx_iconst (pc := 96) hB dX5_given_96 0 (by decide) ?_
                  refine gx_iadd (pc := 97) hB dX5_given_97 ?_
                  refine gx_top (show mAmtN S x y i + 0 = (mAmtN S x y i) from Int32.add_zero _) ?_
                  refine gx_istore_n (pc := 98) hB dX5_given_98 (by decide) [(3, .int (mAmtN S x y i)), (5, .int 0), (0, .ref m), (1, .int x), (2, .int y), (4, .int (nI i))] rfl ?_
                  refine gx_iinc (pc := 99) hB dX5_given_99 5 (by decide) rfl (nI (i + 1)) (nI_1 _) [(4, .int (nI (i + 1))), (3, .int (mAmtN S x y i)), (5, .int 0), (0, .ref m), (1, .int x), (2, .int y)] rfl ?_
                  refine gx_goto (pc := 102) hB 5 dX5_given_102 (by decide) ?_
                  have g3 : mAmtN S x y i = mAmtN S x y (i + 1) := by simp [mAmtN, Int32.not_le.mp c_2, eq_false c_2, eq_false c_3, eq_false c_6, eq_true c_7, eq_false c_9]
                  refine gx_sub hB (lv' := [(0, .ref m), (1, .int x), (2, .int y), (3, .int (mAmtN S x y i)), (4, .int (nI (i + 1)))]) [3, 4, 5, 1, 0] rfl ?_
                  refine gx_all (ws' := wM K m q1 q2 q3 q4 q5 q6 q7 q8 S P H T X Z n ru ty cl sp ca co) (lv' := [(0, .ref m), (1, .int x), (2, .int y), (3, .int (mAmtN S x y (i + 1))), (4, .int (nI (i + 1)))]) (rfl) (by rw [← g3]) ?_
                  exact ih5 (i + 1) (by omega)
                · exact absurd c_10 (by decide)
              · refine gx_aload_n (pc := 52) hB dX5_given_52 0 rfl ?_
                refine gx_iload (pc := 53) hB dX5_given_53 4 rfl ?_
                refine gx_iconst (pc := 55) hB dX5_given_55 5 (by decide) ?_
                refine gx_dVi (pc := 56) (r := sG S i 5) (wr := []) hB (c_X5_ofGift l K m q1 q2 q3 q4 q5 q6 q7 q8 S P H T X Z n ru ty cl sp ca co i 5 (by first | assumption | omega | decide) (by first | assumption | omega | decide)) mX5_ofGift dX5_given_56 tb_867 pX5_ofGift ⟨Nat.le_of_ble_eq_true rfl, Nat.le_of_ble_eq_true rfl⟩ ⟨rfl, rfl⟩ ⟨Nat.zero_le _, Nat.zero_le _⟩ rfl (Nat.le_of_ble_eq_true rfl) [0, 1, 2, 3, 4, 5, 6, 7, 8] [] rfl rfl (by decide) (by decide) (by decide) rfl rfl [0, 1, 2, 3, 4, 5, 6, 7, 8] (by decide) (wM K m q1 q2 q3 q4 q5 q6 q7 q8 S P H T X Z n ru ty cl sp ca co) rfl ?_
                refine gx_if_ne (pc := 59) hB 66 dX5_given_59 (by decide) (fun c_11 => ?_) (fun c_11 => ?_)
                · refine gx_iconst (pc := 66) hB dX5_given_66 0 (by decide) ?_
                  refine gx_istore (pc := 67) hB dX5_given_67 (by decide) [(5, .int 0), (0, .ref m), (1, .int x), (2, .int y), (3, .int (mAmtN S x y i)), (4, .int (nI i))] rfl ?_
                  refine gx_iload_n (pc := 69) hB dX5_given_69 4 rfl ?_
                  refine gx_iload (pc := 70) hB dX5_given_70 0 rfl ?_
                  refine gx_if_eq (pc := 72) hB 96 dX5_given_72 (by decide) (fun c_12 => ?_) (fun c_12 => ?_)
                  · refine gx_iconst (pc := 96) hB dX5_given_96 0 (by decide) ?_
                    refine gx_iadd (pc := 97) hB dX5_given_97 ?_
                    refine gx_top (show mAmtN S x y i + 0 = (mAmtN S x y i) from Int32.add_zero _) ?_
                    refine gx_istore_n (pc := 98) hB dX5_given_98 (by decide) [(3, .int (mAmtN S x y i)), (5, .int 0), (0, .ref m), (1, .int x), (2, .int y), (4, .int (nI i))] rfl ?_
                    refine gx_iinc (pc := 99) hB dX5_given_99 5 (by decide) rfl (nI (i + 1)) (nI_1 _) [(4, .int (nI (i + 1))), (3, .int (mAmtN S x y i)), (5, .int 0), (0, .ref m), (1, .int x), (2, .int y)] rfl ?_
                    refine gx_goto (pc := 102) hB 5 dX5_given_102 (by decide) ?_
                    have g3 : mAmtN S x y i = mAmtN S x y (i + 1) := by simp [mAmtN, Int32.not_le.mp c_2, eq_false c_2, eq_false c_3, eq_false c_6, eq_true c_7, eq_true c_9, eq_false c_11]
                    refine gx_sub hB (lv' := [(0, .ref m), (1, .int x), (2, .int y), (3, .int (mAmtN S x y i)), (4, .int (nI (i + 1)))]) [3, 4, 5, 1, 0] rfl ?_
                    refine gx_all (ws' := wM K m q1 q2 q3 q4 q5 q6 q7 q8 S P H T X Z n ru ty cl sp ca co) (lv' := [(0, .ref m), (1, .int x), (2, .int y), (3, .int (mAmtN S x y (i + 1))), (4, .int (nI (i + 1)))]) (rfl) (by rw [← g3]) ?_
                    exact ih5 (i + 1) (by omega)
                  · exact absurd c_12 (by decide)
                · refine gx_iconst (pc := 62) hB dX5_given_62 1 (by decide) ?_
                  refine gx_goto (pc := 63) hB 67 dX5_given_63 (by decide) ?_
                  refine gx_istore (pc := 67) hB dX5_given_67 (by decide) [(5, .int 1), (0, .ref m), (1, .int x), (2, .int y), (3, .int (mAmtN S x y i)), (4, .int (nI i))] rfl ?_
                  refine gx_iload_n (pc := 69) hB dX5_given_69 4 rfl ?_
                  refine gx_iload (pc := 70) hB dX5_given_70 0 rfl ?_
                  refine gx_if_eq (pc := 72) hB 96 dX5_given_72 (by decide) (fun c_13 => ?_) (fun c_13 => ?_)
                  · exact absurd c_13 (by decide)
                  · refine gx_aload_n (pc := 75) hB dX5_given_75 1 rfl ?_
                    refine gx_iload (pc := 76) hB dX5_given_76 5 rfl ?_
                    refine gx_iconst (pc := 78) hB dX5_given_78 0 (by decide) ?_
                    refine gx_dVi (pc := 79) (r := sG S i 0) (wr := []) hB (c_X5_ofGift l K m q1 q2 q3 q4 q5 q6 q7 q8 S P H T X Z n ru ty cl sp ca co i 0 (by first | assumption | omega | decide) (by first | assumption | omega | decide)) mX5_ofGift dX5_given_79 tb_867 pX5_ofGift ⟨Nat.le_of_ble_eq_true rfl, Nat.le_of_ble_eq_true rfl⟩ ⟨rfl, rfl⟩ ⟨Nat.zero_le _, Nat.zero_le _⟩ rfl (Nat.le_of_ble_eq_true rfl) [0, 1, 2, 3, 4, 5, 6, 7, 8] [] rfl rfl (by decide) (by decide) (by decide) rfl rfl [0, 1, 2, 3, 4, 5, 6, 7, 8] (by decide) (wM K m q1 q2 q3 q4 q5 q6 q7 q8 S P H T X Z n ru ty cl sp ca co) rfl ?_
                    refine gx_iload_n (pc := 82) hB dX5_given_82 2 rfl ?_
                    refine gx_icmp_ne (pc := 83) hB 96 dX5_given_83 (by decide) (fun c_14 => ?_) (fun c_14 => ?_)
                    · refine gx_iconst (pc := 96) hB dX5_given_96 0 (by decide) ?_
                      refine gx_iadd (pc := 97) hB dX5_given_97 ?_
                      refine gx_top (show mAmtN S x y i + 0 = (mAmtN S x y i) from Int32.add_zero _) ?_
                      refine gx_istore_n (pc := 98) hB dX5_given_98 (by decide) [(3, .int (mAmtN S x y i)), (5, .int 1), (0, .ref m), (1, .int x), (2, .int y), (4, .int (nI i))] rfl ?_
                      refine gx_iinc (pc := 99) hB dX5_given_99 5 (by decide) rfl (nI (i + 1)) (nI_1 _) [(4, .int (nI (i + 1))), (3, .int (mAmtN S x y i)), (5, .int 1), (0, .ref m), (1, .int x), (2, .int y)] rfl ?_
                      refine gx_goto (pc := 102) hB 5 dX5_given_102 (by decide) ?_
                      have g3 : mAmtN S x y i = mAmtN S x y (i + 1) := by simp [mAmtN, Int32.not_le.mp c_2, eq_false c_2, eq_false c_3, eq_false c_6, eq_true c_7, eq_true c_9, eq_true c_11, eq_false c_14]
                      refine gx_sub hB (lv' := [(0, .ref m), (1, .int x), (2, .int y), (3, .int (mAmtN S x y i)), (4, .int (nI (i + 1)))]) [3, 4, 5, 1, 0] rfl ?_
                      refine gx_all (ws' := wM K m q1 q2 q3 q4 q5 q6 q7 q8 S P H T X Z n ru ty cl sp ca co) (lv' := [(0, .ref m), (1, .int x), (2, .int y), (3, .int (mAmtN S x y (i + 1))), (4, .int (nI (i + 1)))]) (rfl) (by rw [← g3]) ?_
                      exact ih5 (i + 1) (by omega)
                    · refine gx_aload_n (pc := 86) hB dX5_given_86 1 rfl ?_
                      refine gx_iload (pc := 87) hB dX5_given_87 5 rfl ?_
                      refine gx_iconst (pc := 89) hB dX5_given_89 2 (by decide) ?_
                      refine gx_dVi (pc := 90) (r := sG S i 2) (wr := []) hB (c_X5_ofGift l K m q1 q2 q3 q4 q5 q6 q7 q8 S P H T X Z n ru ty cl sp ca co i 2 (by first | assumption | omega | decide) (by first | assumption | omega | decide)) mX5_ofGift dX5_given_90 tb_867 pX5_ofGift ⟨Nat.le_of_ble_eq_true rfl, Nat.le_of_ble_eq_true rfl⟩ ⟨rfl, rfl⟩ ⟨Nat.zero_le _, Nat.zero_le _⟩ rfl (Nat.le_of_ble_eq_true rfl) [0, 1, 2, 3, 4, 5, 6, 7, 8] [] rfl rfl (by decide) (by decide) (by decide) rfl rfl [0, 1, 2, 3, 4, 5, 6, 7, 8] (by decide) (wM K m q1 q2 q3 q4 q5 q6 q7 q8 S P H T X Z n ru ty cl sp ca co) rfl ?_
                      refine gx_goto (pc := 93) hB 97 dX5_given_93 (by decide) ?_
                      refine gx_iadd (pc := 97) hB dX5_given_97 ?_
                      refine gx_istore_n (pc := 98) hB dX5_given_98 (by decide) [(3, .int (mAmtN S x y i + sG S i 2)), (5, .int 1), (0, .ref m), (1, .int x), (2, .int y), (4, .int (nI i))] rfl ?_
                      refine gx_iinc (pc := 99) hB dX5_given_99 5 (by decide) rfl (nI (i + 1)) (nI_1 _) [(4, .int (nI (i + 1))), (3, .int (mAmtN S x y i + sG S i 2)), (5, .int 1), (0, .ref m), (1, .int x), (2, .int y)] rfl ?_
                      refine gx_goto (pc := 102) hB 5 dX5_given_102 (by decide) ?_
                      have g3 : mAmtN S x y i + sG S i 2 = mAmtN S x y (i + 1) := by simp [mAmtN, Int32.not_le.mp c_2, eq_false c_2, eq_false c_3, eq_false c_6, eq_true c_7, eq_true c_9, eq_true c_11, eq_true c_14]
                      refine gx_sub hB (lv' := [(0, .ref m), (1, .int x), (2, .int y), (3, .int (mAmtN S x y i + sG S i 2)), (4, .int (nI (i + 1)))]) [3, 4, 5, 1, 0] rfl ?_
                      refine gx_all (ws' := wM K m q1 q2 q3 q4 q5 q6 q7 q8 S P H T X Z n ru ty cl sp ca co) (lv' := [(0, .ref m), (1, .int x), (2, .int y), (3, .int (mAmtN S x y (i + 1))), (4, .int (nI (i + 1)))]) (rfl) (by rw [← g3]) ?_
                      exact ih5 (i + 1) (by omega)
          · refine gx_aload_n (pc := 25) hB dX5_given_25 0 rfl ?_
            refine gx_iload (pc := 26) hB dX5_given_26 4 rfl ?_
            refine gx_iconst (pc := 28) hB dX5_given_28 5 (by decide) ?_
            refine gx_dVi (pc := 29) (r := sG S i 5) (wr := []) hB (c_X5_ofGift l K m q1 q2 q3 q4 q5 q6 q7 q8 S P H T X Z n ru ty cl sp ca co i 5 (by first | assumption | omega | decide) (by first | assumption | omega | decide)) mX5_ofGift dX5_given_29 tb_867 pX5_ofGift ⟨Nat.le_of_ble_eq_true rfl, Nat.le_of_ble_eq_true rfl⟩ ⟨rfl, rfl⟩ ⟨Nat.zero_le _, Nat.zero_le _⟩ rfl (Nat.le_of_ble_eq_true rfl) [0, 1, 2, 3, 4, 5, 6, 7, 8] [] rfl rfl (by decide) (by decide) (by decide) rfl rfl [0, 1, 2, 3, 4, 5, 6, 7, 8] (by decide) (wM K m q1 q2 q3 q4 q5 q6 q7 q8 S P H T X Z n ru ty cl sp ca co) rfl ?_
            refine gx_iconst (pc := 32) hB dX5_given_32 1 (by decide) ?_
            refine gx_icmp_eq (pc := 33) hB 62 dX5_given_33 (by decide) (fun c_15 => ?_) (fun c_15 => ?_)
            · refine gx_iconst (pc := 62) hB dX5_given_62 1 (by decide) ?_
              refine gx_goto (pc := 63) hB 67 dX5_given_63 (by decide) ?_
              refine gx_istore (pc := 67) hB dX5_given_67 (by decide) [(5, .int 1), (0, .ref m), (1, .int x), (2, .int y), (3, .int (mAmtN S x y i)), (4, .int (nI i))] rfl ?_
              refine gx_iload_n (pc := 69) hB dX5_given_69 4 rfl ?_
              refine gx_iload (pc := 70) hB dX5_given_70 0 rfl ?_
              refine gx_if_eq (pc := 72) hB 96 dX5_given_72 (by decide) (fun c_16 => ?_) (fun c_16 => ?_)
              · exact absurd c_16 (by decide)
              · refine gx_aload_n (pc := 75) hB dX5_given_75 1 rfl ?_
                refine gx_iload (pc := 76) hB dX5_given_76 5 rfl ?_
                refine gx_iconst (pc := 78) hB dX5_given_78 0 (by decide) ?_
                refine gx_dVi (pc := 79) (r := sG S i 0) (wr := []) hB (c_X5_ofGift l K m q1 q2 q3 q4 q5 q6 q7 q8 S P H T X Z n ru ty cl sp ca co i 0 (by first | assumption | omega | decide) (by first | assumption | omega | decide)) mX5_ofGift dX5_given_79 tb_867 pX5_ofGift ⟨Nat.le_of_ble_eq_true rfl, Nat.le_of_ble_eq_true rfl⟩ ⟨rfl, rfl⟩ ⟨Nat.zero_le _, Nat.zero_le _⟩ rfl (Nat.le_of_ble_eq_true rfl) [0, 1, 2, 3, 4, 5, 6, 7, 8] [] rfl rfl (by decide) (by decide) (by decide) rfl rfl [0, 1, 2, 3, 4, 5, 6, 7, 8] (by decide) (wM K m q1 q2 q3 q4 q5 q6 q7 q8 S P H T X Z n ru ty cl sp ca co) rfl ?_
                refine gx_iload_n (pc := 82) hB dX5_given_82 2 rfl ?_
                refine gx_icmp_ne (pc := 83) hB 96 dX5_given_83 (by decide) (fun c_17 => ?_) (fun c_17 => ?_)
                · refine gx_iconst (pc := 96) hB dX5_given_96 0 (by decide) ?_
                  refine gx_iadd (pc := 97) hB dX5_given_97 ?_
                  refine gx_top (show mAmtN S x y i + 0 = (mAmtN S x y i) from Int32.add_zero _) ?_
                  refine gx_istore_n (pc := 98) hB dX5_given_98 (by decide) [(3, .int (mAmtN S x y i)), (5, .int 1), (0, .ref m), (1, .int x), (2, .int y), (4, .int (nI i))] rfl ?_
                  refine gx_iinc (pc := 99) hB dX5_given_99 5 (by decide) rfl (nI (i + 1)) (nI_1 _) [(4, .int (nI (i + 1))), (3, .int (mAmtN S x y i)), (5, .int 1), (0, .ref m), (1, .int x), (2, .int y)] rfl ?_
                  refine gx_goto (pc := 102) hB 5 dX5_given_102 (by decide) ?_
                  have g3 : mAmtN S x y i = mAmtN S x y (i + 1) := by simp [mAmtN, Int32.not_le.mp c_2, eq_false c_2, eq_false c_3, eq_true c_6, eq_true c_15, eq_false c_17]
                  refine gx_sub hB (lv' := [(0, .ref m), (1, .int x), (2, .int y), (3, .int (mAmtN S x y i)), (4, .int (nI (i + 1)))]) [3, 4, 5, 1, 0] rfl ?_
                  refine gx_all (ws' := wM K m q1 q2 q3 q4 q5 q6 q7 q8 S P H T X Z n ru ty cl sp ca co) (lv' := [(0, .ref m), (1, .int x), (2, .int y), (3, .int (mAmtN S x y (i + 1))), (4, .int (nI (i + 1)))]) (rfl) (by rw [← g3]) ?_
                  exact ih5 (i + 1) (by omega)
                · refine gx_aload_n (pc := 86) hB dX5_given_86 1 rfl ?_
                  refine gx_iload (pc := 87) hB dX5_given_87 5 rfl ?_
                  refine gx_iconst (pc := 89) hB dX5_given_89 2 (by decide) ?_
                  refine gx_dVi (pc := 90) (r := sG S i 2) (wr := []) hB (c_X5_ofGift l K m q1 q2 q3 q4 q5 q6 q7 q8 S P H T X Z n ru ty cl sp ca co i 2 (by first | assumption | omega | decide) (by first | assumption | omega | decide)) mX5_ofGift dX5_given_90 tb_867 pX5_ofGift ⟨Nat.le_of_ble_eq_true rfl, Nat.le_of_ble_eq_true rfl⟩ ⟨rfl, rfl⟩ ⟨Nat.zero_le _, Nat.zero_le _⟩ rfl (Nat.le_of_ble_eq_true rfl) [0, 1, 2, 3, 4, 5, 6, 7, 8] [] rfl rfl (by decide) (by decide) (by decide) rfl rfl [0, 1, 2, 3, 4, 5, 6, 7, 8] (by decide) (wM K m q1 q2 q3 q4 q5 q6 q7 q8 S P H T X Z n ru ty cl sp ca co) rfl ?_
                  refine gx_goto (pc := 93) hB 97 dX5_given_93 (by decide) ?_
                  refine gx_iadd (pc := 97) hB dX5_given_97 ?_
                  refine gx_istore_n (pc := 98) hB dX5_given_98 (by decide) [(3, .int (mAmtN S x y i + sG S i 2)), (5, .int 1), (0, .ref m), (1, .int x), (2, .int y), (4, .int (nI i))] rfl ?_
                  refine gx_iinc (pc := 99) hB dX5_given_99 5 (by decide) rfl (nI (i + 1)) (nI_1 _) [(4, .int (nI (i + 1))), (3, .int (mAmtN S x y i + sG S i 2)), (5, .int 1), (0, .ref m), (1, .int x), (2, .int y)] rfl ?_
                  refine gx_goto (pc := 102) hB 5 dX5_given_102 (by decide) ?_
                  have g3 : mAmtN S x y i + sG S i 2 = mAmtN S x y (i + 1) := by simp [mAmtN, Int32.not_le.mp c_2, eq_false c_2, eq_false c_3, eq_true c_6, eq_true c_15, eq_true c_17]
                  refine gx_sub hB (lv' := [(0, .ref m), (1, .int x), (2, .int y), (3, .int (mAmtN S x y i + sG S i 2)), (4, .int (nI (i + 1)))]) [3, 4, 5, 1, 0] rfl ?_
                  refine gx_all (ws' := wM K m q1 q2 q3 q4 q5 q6 q7 q8 S P H T X Z n ru ty cl sp ca co) (lv' := [(0, .ref m), (1, .int x), (2, .int y), (3, .int (mAmtN S x y (i + 1))), (4, .int (nI (i + 1)))]) (rfl) (by rw [← g3]) ?_
                  exact ih5 (i + 1) (by omega)
            · refine gx_iload_n (pc := 36) hB dX5_given_36 2 rfl ?_
              refine gx_iconst (pc := 37) hB dX5_given_37 2 (by decide) ?_
              refine gx_icmp_ne (pc := 38) hB 66 dX5_given_38 (by decide) (fun c_18 => ?_) (fun c_18 => ?_)
              · refine gx_iconst (pc := 66) hB dX5_given_66 0 (by decide) ?_
                refine gx_istore (pc := 67) hB dX5_given_67 (by decide) [(5, .int 0), (0, .ref m), (1, .int x), (2, .int y), (3, .int (mAmtN S x y i)), (4, .int (nI i))] rfl ?_
                refine gx_iload_n (pc := 69) hB dX5_given_69 4 rfl ?_
                refine gx_iload (pc := 70) hB dX5_given_70 0 rfl ?_
                refine gx_if_eq (pc := 72) hB 96 dX5_given_72 (by decide) (fun c_19 => ?_) (fun c_19 => ?_)
                · refine gx_iconst (pc := 96) hB dX5_given_96 0 (by decide) ?_
                  refine gx_iadd (pc := 97) hB dX5_given_97 ?_
                  refine gx_top (show mAmtN S x y i + 0 = (mAmtN S x y i) from Int32.add_zero _) ?_
                  refine gx_istore_n (pc := 98) hB dX5_given_98 (by decide) [(3, .int (mAmtN S x y i)), (5, .int 0), (0, .ref m), (1, .int x), (2, .int y), (4, .int (nI i))] rfl ?_
                  refine gx_iinc (pc := 99) hB dX5_given_99 5 (by decide) rfl (nI (i + 1)) (nI_1 _) [(4, .int (nI (i + 1))), (3, .int (mAmtN S x y i)), (5, .int 0), (0, .ref m), (1, .int x), (2, .int y)] rfl ?_
                  refine gx_goto (pc := 102) hB 5 dX5_given_102 (by decide) ?_
                  have g3 : mAmtN S x y i = mAmtN S x y (i + 1) := by simp [mAmtN, Int32.not_le.mp c_2, eq_false c_2, eq_false c_3, eq_true c_6, eq_false c_15, eq_false c_18]
                  refine gx_sub hB (lv' := [(0, .ref m), (1, .int x), (2, .int y), (3, .int (mAmtN S x y i)), (4, .int (nI (i + 1)))]) [3, 4, 5, 1, 0] rfl ?_
                  refine gx_all (ws' := wM K m q1 q2 q3 q4 q5 q6 q7 q8 S P H T X Z n ru ty cl sp ca co) (lv' := [(0, .ref m), (1, .int x), (2, .int y), (3, .int (mAmtN S x y (i + 1))), (4, .int (nI (i + 1)))]) (rfl) (by rw [← g3]) ?_
                  exact ih5 (i + 1) (by omega)
                · exact absurd c_19 (by decide)
              · refine gx_aload_n (pc := 41) hB dX5_given_41 0 rfl ?_
                refine gx_iload (pc := 42) hB dX5_given_42 4 rfl ?_
                refine gx_iconst (pc := 44) hB dX5_given_44 4 (by decide) ?_
                refine gx_dVi (pc := 45) (r := sG S i 4) (wr := []) hB (c_X5_ofGift l K m q1 q2 q3 q4 q5 q6 q7 q8 S P H T X Z n ru ty cl sp ca co i 4 (by first | assumption | omega | decide) (by first | assumption | omega | decide)) mX5_ofGift dX5_given_45 tb_867 pX5_ofGift ⟨Nat.le_of_ble_eq_true rfl, Nat.le_of_ble_eq_true rfl⟩ ⟨rfl, rfl⟩ ⟨Nat.zero_le _, Nat.zero_le _⟩ rfl (Nat.le_of_ble_eq_true rfl) [0, 1, 2, 3, 4, 5, 6, 7, 8] [] rfl rfl (by decide) (by decide) (by decide) rfl rfl [0, 1, 2, 3, 4, 5, 6, 7, 8] (by decide) (wM K m q1 q2 q3 q4 q5 q6 q7 q8 S P H T X Z n ru ty cl sp ca co) rfl ?_
                refine gx_iconst (pc := 48) hB dX5_given_48 1 (by decide) ?_
                refine gx_icmp_ne (pc := 49) hB 66 dX5_given_49 (by decide) (fun c_20 => ?_) (fun c_20 => ?_)
                · refine gx_iconst (pc := 66) hB dX5_given_66 0 (by decide) ?_
                  refine gx_istore (pc := 67) hB dX5_given_67 (by decide) [(5, .int 0), (0, .ref m), (1, .int x), (2, .int y), (3, .int (mAmtN S x y i)), (4, .int (nI i))] rfl ?_
                  refine gx_iload_n (pc := 69) hB dX5_given_69 4 rfl ?_
                  refine gx_iload (pc := 70) hB dX5_given_70 0 rfl ?_
                  refine gx_if_eq (pc := 72) hB 96 dX5_given_72 (by decide) (fun c_21 => ?_) (fun c_21 => ?_)
                  · refine gx_iconst (pc := 96) hB dX5_given_96 0 (by decide) ?_
                    refine gx_iadd (pc := 97) hB dX5_given_97 ?_
                    refine gx_top (show mAmtN S x y i + 0 = (mAmtN S x y i) from Int32.add_zero _) ?_
                    refine gx_istore_n (pc := 98) hB dX5_given_98 (by decide) [(3, .int (mAmtN S x y i)), (5, .int 0), (0, .ref m), (1, .int x), (2, .int y), (4, .int (nI i))] rfl ?_
                    refine gx_iinc (pc := 99) hB dX5_given_99 5 (by decide) rfl (nI (i + 1)) (nI_1 _) [(4, .int (nI (i + 1))), (3, .int (mAmtN S x y i)), (5, .int 0), (0, .ref m), (1, .int x), (2, .int y)] rfl ?_
                    refine gx_goto (pc := 102) hB 5 dX5_given_102 (by decide) ?_
                    have g3 : mAmtN S x y i = mAmtN S x y (i + 1) := by simp [mAmtN, Int32.not_le.mp c_2, eq_false c_2, eq_false c_3, eq_true c_6, eq_false c_15, eq_true c_18, eq_false c_20]
                    refine gx_sub hB (lv' := [(0, .ref m), (1, .int x), (2, .int y), (3, .int (mAmtN S x y i)), (4, .int (nI (i + 1)))]) [3, 4, 5, 1, 0] rfl ?_
                    refine gx_all (ws' := wM K m q1 q2 q3 q4 q5 q6 q7 q8 S P H T X Z n ru ty cl sp ca co) (lv' := [(0, .ref m), (1, .int x), (2, .int y), (3, .int (mAmtN S x y (i + 1))), (4, .int (nI (i + 1)))]) (rfl) (by rw [← g3]) ?_
                    exact ih5 (i + 1) (by omega)
                  · exact absurd c_21 (by decide)
                · refine gx_aload_n (pc := 52) hB dX5_given_52 0 rfl ?_
                  refine gx_iload (pc := 53) hB dX5_given_53 4 rfl ?_
                  refine gx_iconst (pc := 55) hB dX5_given_55 5 (by decide) ?_
                  refine gx_dVi (pc := 56) (r := sG S i 5) (wr := []) hB (c_X5_ofGift l K m q1 q2 q3 q4 q5 q6 q7 q8 S P H T X Z n ru ty cl sp ca co i 5 (by first | assumption | omega | decide) (by first | assumption | omega | decide)) mX5_ofGift dX5_given_56 tb_867 pX5_ofGift ⟨Nat.le_of_ble_eq_true rfl, Nat.le_of_ble_eq_true rfl⟩ ⟨rfl, rfl⟩ ⟨Nat.zero_le _, Nat.zero_le _⟩ rfl (Nat.le_of_ble_eq_true rfl) [0, 1, 2, 3, 4, 5, 6, 7, 8] [] rfl rfl (by decide) (by decide) (by decide) rfl rfl [0, 1, 2, 3, 4, 5, 6, 7, 8] (by decide) (wM K m q1 q2 q3 q4 q5 q6 q7 q8 S P H T X Z n ru ty cl sp ca co) rfl ?_
                  refine gx_if_ne (pc := 59) hB 66 dX5_given_59 (by decide) (fun c_22 => ?_) (fun c_22 => ?_)
                  · refine gx_iconst (pc := 66) hB dX5_given_66 0 (by decide) ?_
                    refine gx_istore (pc := 67) hB dX5_given_67 (by decide) [(5, .int 0), (0, .ref m), (1, .int x), (2, .int y), (3, .int (mAmtN S x y i)), (4, .int (nI i))] rfl ?_
                    refine gx_iload_n (pc := 69) hB dX5_given_69 4 rfl ?_
                    refine gx_iload (pc := 70) hB dX5_given_70 0 rfl ?_
                    refine gx_if_eq (pc := 72) hB 96 dX5_given_72 (by decide) (fun c_23 => ?_) (fun c_23 => ?_)
                    · refine gx_iconst (pc := 96) hB dX5_given_96 0 (by decide) ?_
                      refine gx_iadd (pc := 97) hB dX5_given_97 ?_
                      refine gx_top (show mAmtN S x y i + 0 = (mAmtN S x y i) from Int32.add_zero _) ?_
                      refine gx_istore_n (pc := 98) hB dX5_given_98 (by decide) [(3, .int (mAmtN S x y i)), (5, .int 0), (0, .ref m), (1, .int x), (2, .int y), (4, .int (nI i))] rfl ?_
                      refine gx_iinc (pc := 99) hB dX5_given_99 5 (by decide) rfl (nI (i + 1)) (nI_1 _) [(4, .int (nI (i + 1))), (3, .int (mAmtN S x y i)), (5, .int 0), (0, .ref m), (1, .int x), (2, .int y)] rfl ?_
                      refine gx_goto (pc := 102) hB 5 dX5_given_102 (by decide) ?_
                      have g3 : mAmtN S x y i = mAmtN S x y (i + 1) := by simp [mAmtN, Int32.not_le.mp c_2, eq_false c_2, eq_false c_3, eq_true c_6, eq_false c_15, eq_true c_18, eq_true c_20, eq_false c_22]
                      refine gx_sub hB (lv' := [(0, .ref m), (1, .int x), (2, .int y), (3, .int (mAmtN S x y i)), (4, .int (nI (i + 1)))]) [3, 4, 5, 1, 0] rfl ?_
                      refine gx_all (ws' := wM K m q1 q2 q3 q4 q5 q6 q7 q8 S P H T X Z n ru ty cl sp ca co) (lv' := [(0, .ref m), (1, .int x), (2, .int y), (3, .int (mAmtN S x y (i + 1))), (4, .int (nI (i + 1)))]) (rfl) (by rw [← g3]) ?_
                      exact ih5 (i + 1) (by omega)
                    · exact absurd c_23 (by decide)
                  · refine gx_iconst (pc := 62) hB dX5_given_62 1 (by decide) ?_
                    refine gx_goto (pc := 63) hB 67 dX5_given_63 (by decide) ?_
                    refine gx_istore (pc := 67) hB dX5_given_67 (by decide) [(5, .int 1), (0, .ref m), (1, .int x), (2, .int y), (3, .int (mAmtN S x y i)), (4, .int (nI i))] rfl ?_
                    refine gx_iload_n (pc := 69) hB dX5_given_69 4 rfl ?_
                    refine gx_iload (pc := 70) hB dX5_given_70 0 rfl ?_
                    refine gx_if_eq (pc := 72) hB 96 dX5_given_72 (by decide) (fun c_24 => ?_) (fun c_24 => ?_)
                    · exact absurd c_24 (by decide)
                    · refine gx_aload_n (pc := 75) hB dX5_given_75 1 rfl ?_
                      refine gx_iload (pc := 76) hB dX5_given_76 5 rfl ?_
                      refine gx_iconst (pc := 78) hB dX5_given_78 0 (by decide) ?_
                      refine gx_dVi (pc := 79) (r := sG S i 0) (wr := []) hB (c_X5_ofGift l K m q1 q2 q3 q4 q5 q6 q7 q8 S P H T X Z n ru ty cl sp ca co i 0 (by first | assumption | omega | decide) (by first | assumption | omega | decide)) mX5_ofGift dX5_given_79 tb_867 pX5_ofGift ⟨Nat.le_of_ble_eq_true rfl, Nat.le_of_ble_eq_true rfl⟩ ⟨rfl, rfl⟩ ⟨Nat.zero_le _, Nat.zero_le _⟩ rfl (Nat.le_of_ble_eq_true rfl) [0, 1, 2, 3, 4, 5, 6, 7, 8] [] rfl rfl (by decide) (by decide) (by decide) rfl rfl [0, 1, 2, 3, 4, 5, 6, 7, 8] (by decide) (wM K m q1 q2 q3 q4 q5 q6 q7 q8 S P H T X Z n ru ty cl sp ca co) rfl ?_
                      refine gx_iload_n (pc := 82) hB dX5_given_82 2 rfl ?_
                      refine gx_icmp_ne (pc := 83) hB 96 dX5_given_83 (by decide) (fun c_25 => ?_) (fun c_25 => ?_)
                      · refine gx_iconst (pc := 96) hB dX5_given_96 0 (by decide) ?_
                        refine gx_iadd (pc := 97) hB dX5_given_97 ?_
                        refine gx_top (show mAmtN S x y i + 0 = (mAmtN S x y i) from Int32.add_zero _) ?_
                        refine gx_istore_n (pc := 98) hB dX5_given_98 (by decide) [(3, .int (mAmtN S x y i)), (5, .int 1), (0, .ref m), (1, .int x), (2, .int y), (4, .int (nI i))] rfl ?_
                        refine gx_iinc (pc := 99) hB dX5_given_99 5 (by decide) rfl (nI (i + 1)) (nI_1 _) [(4, .int (nI (i + 1))), (3, .int (mAmtN S x y i)), (5, .int 1), (0, .ref m), (1, .int x), (2, .int y)] rfl ?_
                        refine gx_goto (pc := 102) hB 5 dX5_given_102 (by decide) ?_
                        have g3 : mAmtN S x y i = mAmtN S x y (i + 1) := by simp [mAmtN, Int32.not_le.mp c_2, eq_false c_2, eq_false c_3, eq_true c_6, eq_false c_15, eq_true c_18, eq_true c_20, eq_true c_22, eq_false c_25]
                        refine gx_sub hB (lv' := [(0, .ref m), (1, .int x), (2, .int y), (3, .int (mAmtN S x y i)), (4, .int (nI (i + 1)))]) [3, 4, 5, 1, 0] rfl ?_
                        refine gx_all (ws' := wM K m q1 q2 q3 q4 q5 q6 q7 q8 S P H T X Z n ru ty cl sp ca co) (lv' := [(0, .ref m), (1, .int x), (2, .int y), (3, .int (mAmtN S x y (i + 1))), (4, .int (nI (i + 1)))]) (rfl) (by rw [← g3]) ?_
                        exact ih5 (i + 1) (by omega)
                      · refine gx_aload_n (pc := 86) hB dX5_given_86 1 rfl ?_
                        refine gx_iload (pc := 87) hB dX5_given_87 5 rfl ?_
                        refine gx_iconst (pc := 89) hB dX5_given_89 2 (by decide) ?_
                        refine gx_dVi (pc := 90) (r := sG S i 2) (wr := []) hB (c_X5_ofGift l K m q1 q2 q3 q4 q5 q6 q7 q8 S P H T X Z n ru ty cl sp ca co i 2 (by first | assumption | omega | decide) (by first | assumption | omega | decide)) mX5_ofGift dX5_given_90 tb_867 pX5_ofGift ⟨Nat.le_of_ble_eq_true rfl, Nat.le_of_ble_eq_true rfl⟩ ⟨rfl, rfl⟩ ⟨Nat.zero_le _, Nat.zero_le _⟩ rfl (Nat.le_of_ble_eq_true rfl) [0, 1, 2, 3, 4, 5, 6, 7, 8] [] rfl rfl (by decide) (by decide) (by decide) rfl rfl [0, 1, 2, 3, 4, 5, 6, 7, 8] (by decide) (wM K m q1 q2 q3 q4 q5 q6 q7 q8 S P H T X Z n ru ty cl sp ca co) rfl ?_
                        refine gx_goto (pc := 93) hB 97 dX5_given_93 (by decide) ?_
                        refine gx_iadd (pc := 97) hB dX5_given_97 ?_
                        refine gx_istore_n (pc := 98) hB dX5_given_98 (by decide) [(3, .int (mAmtN S x y i + sG S i 2)), (5, .int 1), (0, .ref m), (1, .int x), (2, .int y), (4, .int (nI i))] rfl ?_
                        refine gx_iinc (pc := 99) hB dX5_given_99 5 (by decide) rfl (nI (i + 1)) (nI_1 _) [(4, .int (nI (i + 1))), (3, .int (mAmtN S x y i + sG S i 2)), (5, .int 1), (0, .ref m), (1, .int x), (2, .int y)] rfl ?_
                        refine gx_goto (pc := 102) hB 5 dX5_given_102 (by decide) ?_
                        have g3 : mAmtN S x y i + sG S i 2 = mAmtN S x y (i + 1) := by simp [mAmtN, Int32.not_le.mp c_2, eq_false c_2, eq_false c_3, eq_true c_6, eq_false c_15, eq_true c_18, eq_true c_20, eq_true c_22, eq_true c_25]
                        refine gx_sub hB (lv' := [(0, .ref m), (1, .int x), (2, .int y), (3, .int (mAmtN S x y i + sG S i 2)), (4, .int (nI (i + 1)))]) [3, 4, 5, 1, 0] rfl ?_
                        refine gx_all (ws' := wM K m q1 q2 q3 q4 q5 q6 q7 q8 S P H T X Z n ru ty cl sp ca co) (lv' := [(0, .ref m), (1, .int x), (2, .int y), (3, .int (mAmtN S x y (i + 1))), (4, .int (nI (i + 1)))]) (rfl) (by rw [← g3]) ?_
                        exact ih5 (i + 1) (by omega)
  refine gx_sub hB (lv' := [(0, .ref m), (1, .int x), (2, .int y), (3, .int 0), (4, .int 0)]) [2, 3, 4, 1, 0] rfl ?_
  refine gx_all (ws' := wM K m q1 q2 q3 q4 q5 q6 q7 q8 S P H T X Z n ru ty cl sp ca co) (lv' := [(0, .ref m), (1, .int x), (2, .int y), (3, .int (mAmtN S x y 0)), (4, .int (nI 0))]) (rfl) (rfl) ?_
  exact loop_5 (c) 0 (by omega)
theorem pX5_running : (parseMethodDescriptor yX5_running.desc).map (fun d => d.parameters.length) = some 1 := by decide +kernel
theorem mX5_running : gx_M yX5_running cX5_running 4 (some .int) := ⟨tb_945, tb_58, tb_73, tb_946, by decide, by decide⟩
set_option maxHeartbeats 4000000 in
set_option maxRecDepth 100000 in
theorem c_X5_running (l : Launch) (K : gx_K) (m q1 q2 q3 q4 q5 q6 q7 q8 : Nat) (S P H T X Z : Nat → Int32) (n : Nat) (ru : Bool) (ty : Nat) (cl : Int32) (sp : Nat) (ca : Int32) (co : Nat) (e : Nat) (x : Int32) (h0 : S 5 = nI e) (h1 : e ≤ 6) : gx_Ctr l K yX5_running cX5_running 4 (some .int) (rmm 2 22) [.ref m, .int x] (wM K m q1 q2 q3 q4 q5 q6 q7 q8 S P H T X Z n ru ty cl sp ca co) (gx_D (some (.int (mRunN S x e))) (wM K m q1 q2 q3 q4 q5 q6 q7 q8 S P H T X Z n ru ty cl sp ca co)) := by
  refine gx_of (by decide) (Nat.le_of_ble_eq_true rfl) (fun G hC => ?_)
  have hB := hC.b
  refine gx_lv (lv' := [(0, .ref m), (1, .int x)]) rfl ?_
  refine gx_iconst (pc := 0) hB dX5_running_0 0 (by decide) ?_
  refine gx_istore_n (pc := 1) hB dX5_running_1 (by decide) [(2, .int 0), (0, .ref m), (1, .int x)] rfl ?_
  refine gx_iconst (pc := 2) hB dX5_running_2 0 (by decide) ?_
  refine gx_istore_n (pc := 3) hB dX5_running_3 (by decide) [(3, .int 0), (2, .int 0), (0, .ref m), (1, .int x)] rfl ?_
  have loop_4 : ∀ dq i : Nat, i + dq = e → G 0 0 (wM K m q1 q2 q3 q4 q5 q6 q7 q8 S P H T X Z n ru ty cl sp ca co) [(0, .ref m), (1, .int x), (2, .int (mRunN S x i)), (3, .int (nI i))] 4 [] := by
    intro dq
    induction dq with
    | zero =>
      intro i hi4
      obtain rfl : e = i := by omega
      refine gx_iload_n (pc := 4) hB dX5_running_4 3 rfl ?_
      refine gx_aload_n (pc := 5) hB dX5_running_5 0 rfl ?_
      refine gx_get (pc := 6) hB dX5_running_6 inX5 rfl 0 rfl 0 (by decide) tb_726 rfl rfl ?_
      refine gx_iconst (pc := 9) hB dX5_running_9 5 (by decide) ?_
      refine gx_iald (pc := 10) hB dX5_running_10 1 1 rfl rfl 5 rfl (by decide) (by decide) ?_
      refine gx_top (show S 5 = nI e from h0) ?_
      refine gx_icmp_ge (pc := 11) hB 49 dX5_running_11 (by decide) (fun c_1 => ?_) (fun c_1 => ?_)
      · refine gx_iload_n (pc := 49) hB dX5_running_49 2 rfl ?_
        exact gx_iret (pc := 50) hC dX5_running_50 (Nat.zero_le _) (Nat.zero_le _) (⟨rfl, rfl⟩)
      · exact absurd (lpTn (c := e) (by omega) hi4) c_1
    | succ dq ih4 =>
      intro i hi4
      refine gx_iload_n (pc := 4) hB dX5_running_4 3 rfl ?_
      refine gx_aload_n (pc := 5) hB dX5_running_5 0 rfl ?_
      refine gx_get (pc := 6) hB dX5_running_6 inX5 rfl 0 rfl 0 (by decide) tb_726 rfl rfl ?_
      refine gx_iconst (pc := 9) hB dX5_running_9 5 (by decide) ?_
      refine gx_iald (pc := 10) hB dX5_running_10 1 1 rfl rfl 5 rfl (by decide) (by decide) ?_
      refine gx_top (show S 5 = nI e from h0) ?_
      refine gx_icmp_ge (pc := 11) hB 49 dX5_running_11 (by decide) (fun c_2 => ?_) (fun c_2 => ?_)
      · exact absurd c_2 (lpFn (c := e) (by omega) hi4)
      · refine gx_iload_n (pc := 14) hB dX5_running_14 2 rfl ?_
        refine gx_aload_n (pc := 15) hB dX5_running_15 0 rfl ?_
        refine gx_iload_n (pc := 16) hB dX5_running_16 3 rfl ?_
        refine gx_iconst (pc := 17) hB dX5_running_17 0 (by decide) ?_
        refine gx_dVi (pc := 18) (r := sK S i 0) (wr := []) hB (c_X5_ofPledge l K m q1 q2 q3 q4 q5 q6 q7 q8 S P H T X Z n ru ty cl sp ca co i 0 (by first | assumption | omega | decide) (by first | assumption | omega | decide)) mX5_ofPledge dX5_running_18 tb_844 pX5_ofPledge ⟨Nat.le_of_ble_eq_true rfl, Nat.le_of_ble_eq_true rfl⟩ ⟨rfl, rfl⟩ ⟨Nat.zero_le _, Nat.zero_le _⟩ rfl (Nat.le_of_ble_eq_true rfl) [0, 1, 2, 3, 4, 5, 6, 7, 8] [] rfl rfl (by decide) (by decide) (by decide) rfl rfl [0, 1, 2, 3, 4, 5, 6, 7, 8] (by decide) (wM K m q1 q2 q3 q4 q5 q6 q7 q8 S P H T X Z n ru ty cl sp ca co) rfl ?_
        refine gx_iload_n (pc := 21) hB dX5_running_21 1 rfl ?_
        refine gx_icmp_ne (pc := 22) hB 40 dX5_running_22 (by decide) (fun c_3 => ?_) (fun c_3 => ?_)
        · refine gx_iconst (pc := 40) hB dX5_running_40 0 (by decide) ?_
          refine gx_ior (pc := 41) hB dX5_running_41 ?_
          refine gx_istore_n (pc := 42) hB dX5_running_42 (by decide) [(2, .int (mRunN S x i ||| 0)), (0, .ref m), (1, .int x), (3, .int (nI i))] rfl ?_
          refine gx_iinc (pc := 43) hB dX5_running_43 3 (by decide) rfl (nI (i + 1)) (nI_1 _) [(3, .int (nI (i + 1))), (2, .int (mRunN S x i ||| 0)), (0, .ref m), (1, .int x)] rfl ?_
          refine gx_goto (pc := 46) hB 4 dX5_running_46 (by decide) ?_
          have g2 : mRunN S x i ||| 0 = mRunN S x (i + 1) := by simp [mRunN, Int32.not_le.mp c_2, eq_false c_2, eq_false c_3]
          refine gx_sub hB (lv' := [(0, .ref m), (1, .int x), (2, .int (mRunN S x i ||| 0)), (3, .int (nI (i + 1)))]) [2, 3, 1, 0] rfl ?_
          refine gx_all (ws' := wM K m q1 q2 q3 q4 q5 q6 q7 q8 S P H T X Z n ru ty cl sp ca co) (lv' := [(0, .ref m), (1, .int x), (2, .int (mRunN S x (i + 1))), (3, .int (nI (i + 1)))]) (rfl) (by rw [← g2]) ?_
          exact ih4 (i + 1) (by omega)
        · refine gx_aload_n (pc := 25) hB dX5_running_25 0 rfl ?_
          refine gx_iload_n (pc := 26) hB dX5_running_26 3 rfl ?_
          refine gx_iconst (pc := 27) hB dX5_running_27 5 (by decide) ?_
          refine gx_dVi (pc := 28) (r := sK S i 5) (wr := []) hB (c_X5_ofPledge l K m q1 q2 q3 q4 q5 q6 q7 q8 S P H T X Z n ru ty cl sp ca co i 5 (by first | assumption | omega | decide) (by first | assumption | omega | decide)) mX5_ofPledge dX5_running_28 tb_844 pX5_ofPledge ⟨Nat.le_of_ble_eq_true rfl, Nat.le_of_ble_eq_true rfl⟩ ⟨rfl, rfl⟩ ⟨Nat.zero_le _, Nat.zero_le _⟩ rfl (Nat.le_of_ble_eq_true rfl) [0, 1, 2, 3, 4, 5, 6, 7, 8] [] rfl rfl (by decide) (by decide) (by decide) rfl rfl [0, 1, 2, 3, 4, 5, 6, 7, 8] (by decide) (wM K m q1 q2 q3 q4 q5 q6 q7 q8 S P H T X Z n ru ty cl sp ca co) rfl ?_
          refine gx_if_ne (pc := 31) hB 40 dX5_running_31 (by decide) (fun c_4 => ?_) (fun c_4 => ?_)
          · refine gx_iconst (pc := 40) hB dX5_running_40 0 (by decide) ?_
            refine gx_ior (pc := 41) hB dX5_running_41 ?_
            refine gx_istore_n (pc := 42) hB dX5_running_42 (by decide) [(2, .int (mRunN S x i ||| 0)), (0, .ref m), (1, .int x), (3, .int (nI i))] rfl ?_
            refine gx_iinc (pc := 43) hB dX5_running_43 3 (by decide) rfl (nI (i + 1)) (nI_1 _) [(3, .int (nI (i + 1))), (2, .int (mRunN S x i ||| 0)), (0, .ref m), (1, .int x)] rfl ?_
            refine gx_goto (pc := 46) hB 4 dX5_running_46 (by decide) ?_
            have g2 : mRunN S x i ||| 0 = mRunN S x (i + 1) := by simp [mRunN, Int32.not_le.mp c_2, eq_false c_2, eq_true c_3, eq_false c_4]
            refine gx_sub hB (lv' := [(0, .ref m), (1, .int x), (2, .int (mRunN S x i ||| 0)), (3, .int (nI (i + 1)))]) [2, 3, 1, 0] rfl ?_
            refine gx_all (ws' := wM K m q1 q2 q3 q4 q5 q6 q7 q8 S P H T X Z n ru ty cl sp ca co) (lv' := [(0, .ref m), (1, .int x), (2, .int (mRunN S x (i + 1))), (3, .int (nI (i + 1)))]) (rfl) (by rw [← g2]) ?_
            exact ih4 (i + 1) (by omega)
          · refine gx_iconst (pc := 34) hB dX5_running_34 1 (by decide) ?_
            refine gx_iload_n (pc := 35) hB dX5_running_35 3 rfl ?_
            refine gx_ishl (pc := 36) hB dX5_running_36 ?_
            refine gx_goto (pc := 37) hB 41 dX5_running_37 (by decide) ?_
            refine gx_ior (pc := 41) hB dX5_running_41 ?_
            refine gx_istore_n (pc := 42) hB dX5_running_42 (by decide) [(2, .int (mRunN S x i ||| (1 <<< (nI i &&& 31)))), (0, .ref m), (1, .int x), (3, .int (nI i))] rfl ?_
            refine gx_iinc (pc := 43) hB dX5_running_43 3 (by decide) rfl (nI (i + 1)) (nI_1 _) [(3, .int (nI (i + 1))), (2, .int (mRunN S x i ||| (1 <<< (nI i &&& 31)))), (0, .ref m), (1, .int x)] rfl ?_
            refine gx_goto (pc := 46) hB 4 dX5_running_46 (by decide) ?_
            have g2 : mRunN S x i ||| (1 <<< (nI i &&& 31)) = mRunN S x (i + 1) := by simp [mRunN, Int32.not_le.mp c_2, eq_false c_2, eq_true c_3, eq_true c_4]
            refine gx_sub hB (lv' := [(0, .ref m), (1, .int x), (2, .int (mRunN S x i ||| (1 <<< (nI i &&& 31)))), (3, .int (nI (i + 1)))]) [2, 3, 1, 0] rfl ?_
            refine gx_all (ws' := wM K m q1 q2 q3 q4 q5 q6 q7 q8 S P H T X Z n ru ty cl sp ca co) (lv' := [(0, .ref m), (1, .int x), (2, .int (mRunN S x (i + 1))), (3, .int (nI (i + 1)))]) (rfl) (by rw [← g2]) ?_
            exact ih4 (i + 1) (by omega)
  refine gx_sub hB (lv' := [(0, .ref m), (1, .int x), (2, .int 0), (3, .int 0)]) [2, 3, 1, 0] rfl ?_
  refine gx_all (ws' := wM K m q1 q2 q3 q4 q5 q6 q7 q8 S P H T X Z n ru ty cl sp ca co) (lv' := [(0, .ref m), (1, .int x), (2, .int (mRunN S x 0)), (3, .int (nI 0))]) (rfl) (rfl) ?_
  exact loop_4 (e) 0 (by omega)
theorem pX5_donorOf : (parseMethodDescriptor yX5_donorOf.desc).map (fun d => d.parameters.length) = some 2 := by decide +kernel
theorem mX5_donorOf : gx_M yX5_donorOf cX5_donorOf 3 (some .int) := ⟨tb_936, tb_937, tb_73, tb_938, by decide, by decide⟩
set_option maxHeartbeats 4000000 in
set_option maxRecDepth 100000 in
theorem c_X5_donorOf (l : Launch) (K : gx_K) (m q1 q2 q3 q4 q5 q6 q7 q8 : Nat) (S P H T X Z : Nat → Int32) (n : Nat) (ru : Bool) (ty : Nat) (cl : Int32) (sp : Nat) (ca : Int32) (co : Nat) (a b c e : Nat) (x y : Int32) (h0 : sOk S a b c e) : gx_Ctr l K yX5_donorOf cX5_donorOf 3 (some .int) (rmm 3 47) [.ref m, .int x, .int y] (wM K m q1 q2 q3 q4 q5 q6 q7 q8 S P H T X Z n ru ty cl sp ca co) (gx_D (some (.int (mTellD S c e x y))) (wM K m q1 q2 q3 q4 q5 q6 q7 q8 S P H T X Z n ru ty cl sp ca co)) := by
  refine gx_of (by decide) (Nat.le_of_ble_eq_true rfl) (fun G hC => ?_)
  have hB := hC.b
  refine gx_lv (lv' := [(0, .ref m), (1, .int x), (2, .int y)]) rfl ?_
  have hb0 := h0.1
  refine gx_aload_n (pc := 0) hB dX5_donorOf_0 0 rfl ?_
  refine gx_iload_n (pc := 1) hB dX5_donorOf_1 1 rfl ?_
  refine gx_dVi (pc := 2) (r := bI (sIsD S x)) (wr := []) hB (c_X5_isDonor l K m q1 q2 q3 q4 q5 q6 q7 q8 S P H T X Z n ru ty cl sp ca co x ) mX5_isDonor dX5_donorOf_2 tb_793 pX5_isDonor ⟨Nat.le_of_ble_eq_true rfl, Nat.le_of_ble_eq_true rfl⟩ ⟨rfl, rfl⟩ ⟨Nat.zero_le _, Nat.zero_le _⟩ rfl (Nat.le_of_ble_eq_true rfl) [0, 1, 2, 3, 4, 5, 6, 7, 8] [] rfl rfl (by decide) (by decide) (by decide) rfl rfl [0, 1, 2, 3, 4, 5, 6, 7, 8] (by decide) (wM K m q1 q2 q3 q4 q5 q6 q7 q8 S P H T X Z n ru ty cl sp ca co) rfl ?_
  refine gx_if_eq_b (pc := 5) hB 28 dX5_donorOf_5 (by decide) (fun c_1 => ?_) (fun c_1 => ?_)
  · refine gx_iconst (pc := 28) hB dX5_donorOf_28 (-1) (by decide) ?_
    have e1 : mTellD S c e x y = (-1) := by simp [mTellD, c_1]
    exact gx_iret (pc := 29) hC dX5_donorOf_29 (Nat.zero_le _) (Nat.zero_le _) (⟨by rw [e1], rfl⟩)
  · obtain ⟨d, h_d, rfl⟩ := isD_of h0 c_1
    have s_d : (nI d).toNatClampNeg = d := nI_clamp (by omega)
    refine gx_iload_n (pc := 8) hB dX5_donorOf_8 2 rfl ?_
    refine gx_iconst (pc := 9) hB dX5_donorOf_9 0 (by decide) ?_
    refine gx_iconst (pc := 10) hB dX5_donorOf_10 4 (by decide) ?_
    refine gx_dSi (pc := 11) (r := bI (bIn y 0 4)) (wr := [(m, .inr (5, [.ref q1, .ref q2, .ref q3, .ref q4, .int (nI n), .int (bI ru), .ref q5, .int (nI ty), .ref q6, .ref q7, .int cl, .int (nI sp), .int ca, .int (nI co), .ref q8])), (q1, .inl (K.2.1.2.1, 345, .inl S)), (q2, .inl (K.2.1.2.1, 1380, .inl P)), (q3, .inl (K.2.1.2.1, 345, .inl H)), (q4, .inl (K.2.1.2.1, 345, .inl T)), (q5, .inl (K.2.1.2.1, 80, .inl X)), (q6, .inl (K.2.1.2.2.1, 9, .inr (.inl mW))), (q7, .inl (K.2.1.2.1, 9, .inl mN)), (q8, .inl (K.2.1.2.1, 4, .inl Z))]) hB (c_X5_in l K y 0 4 ) mX5_in dX5_donorOf_11 tb_797 pX5_in ⟨Nat.le_of_ble_eq_true rfl, Nat.le_of_ble_eq_true rfl⟩ ⟨rfl, rfl⟩ ⟨Nat.zero_le _, Nat.zero_le _⟩ rfl (Nat.le_of_ble_eq_true rfl) [] [0, 1, 2, 3, 4, 5, 6, 7, 8] rfl rfl (by decide) (by decide) (by decide) [0, 1, 2, 3, 4, 5, 6, 7, 8] (by decide) (wM K m q1 q2 q3 q4 q5 q6 q7 q8 S P H T X Z n ru ty cl sp ca co) rfl ?_
    refine gx_if_ne_b (pc := 14) hB 30 dX5_donorOf_14 (by decide) (fun c_2 => ?_) (fun c_2 => ?_)
    · refine gx_iload_n (pc := 30) hB dX5_donorOf_30 2 rfl ?_
      refine gx_if_ne (pc := 31) hB 43 dX5_donorOf_31 (by decide) (fun c_3 => ?_) (fun c_3 => ?_)
      · refine gx_iload_n (pc := 43) hB dX5_donorOf_43 2 rfl ?_
        refine gx_iconst (pc := 44) hB dX5_donorOf_44 4 (by decide) ?_
        refine gx_icmp_ge (pc := 45) hB 59 dX5_donorOf_45 (by decide) (fun c_4 => ?_) (fun c_4 => ?_)
        · refine gx_iload_n (pc := 59) hB dX5_donorOf_59 2 rfl ?_
          refine gx_iconst (pc := 60) hB dX5_donorOf_60 4 (by decide) ?_
          refine gx_icmp_ne (pc := 61) hB 72 dX5_donorOf_61 (by decide) (fun c_5 => ?_) (fun c_5 => ?_)
          · exact absurd (dn_no c_2 c_4 c_5) id
          · refine gx_aload_n (pc := 64) hB dX5_donorOf_64 0 rfl ?_
            refine gx_iload_n (pc := 65) hB dX5_donorOf_65 1 rfl ?_
            refine gx_dVi (pc := 66) (r := mRunN S (nI d) e) (wr := []) hB (c_X5_running l K m q1 q2 q3 q4 q5 q6 q7 q8 S P H T X Z n ru ty cl sp ca co e (nI d) h0.1.2.2.2.1 (by first | assumption | omega | decide)) mX5_running dX5_donorOf_66 tb_943 pX5_running ⟨Nat.le_of_ble_eq_true rfl, Nat.le_of_ble_eq_true rfl⟩ ⟨rfl, rfl⟩ ⟨Nat.zero_le _, Nat.zero_le _⟩ rfl (Nat.le_of_ble_eq_true rfl) [0, 1, 2, 3, 4, 5, 6, 7, 8] [] rfl rfl (by decide) (by decide) (by decide) rfl rfl [0, 1, 2, 3, 4, 5, 6, 7, 8] (by decide) (wM K m q1 q2 q3 q4 q5 q6 q7 q8 S P H T X Z n ru ty cl sp ca co) rfl ?_
            refine gx_goto (pc := 69) hB 81 dX5_donorOf_69 (by decide) ?_
            have e1 : (mTellD S c e (nI d) y) = (mRunN S (nI d) e) := by simp [mTellD, c_1, s_d, c_2, eq_false c_3, c_4, eq_false (Int32.not_lt.mpr c_4), eq_true c_5]
            exact gx_iret (pc := 81) hC dX5_donorOf_81 (Nat.zero_le _) (Nat.zero_le _) (⟨by rw [e1], rfl⟩)
        · refine gx_aload_n (pc := 48) hB dX5_donorOf_48 0 rfl ?_
          refine gx_iload_n (pc := 49) hB dX5_donorOf_49 1 rfl ?_
          refine gx_iload_n (pc := 50) hB dX5_donorOf_50 2 rfl ?_
          refine gx_iconst (pc := 51) hB dX5_donorOf_51 1 (by decide) ?_
          refine gx_isub (pc := 52) hB dX5_donorOf_52 ?_
          refine gx_dVi (pc := 53) (r := mAmtN S (nI d) (y - 1) c) (wr := []) hB (c_X5_given l K m q1 q2 q3 q4 q5 q6 q7 q8 S P H T X Z n ru ty cl sp ca co c (nI d) (y - 1) h0.1.2.2.1 (by first | assumption | omega | decide)) mX5_given dX5_donorOf_53 tb_939 pX5_given ⟨Nat.le_of_ble_eq_true rfl, Nat.le_of_ble_eq_true rfl⟩ ⟨rfl, rfl⟩ ⟨Nat.zero_le _, Nat.zero_le _⟩ rfl (Nat.le_of_ble_eq_true rfl) [0, 1, 2, 3, 4, 5, 6, 7, 8] [] rfl rfl (by decide) (by decide) (by decide) rfl rfl [0, 1, 2, 3, 4, 5, 6, 7, 8] (by decide) (wM K m q1 q2 q3 q4 q5 q6 q7 q8 S P H T X Z n ru ty cl sp ca co) rfl ?_
          refine gx_goto (pc := 56) hB 81 dX5_donorOf_56 (by decide) ?_
          have e1 : (mTellD S c e (nI d) y) = (mAmtN S (nI d) (y - 1) c) := by simp [mTellD, c_1, s_d, c_2, eq_false c_3, Int32.not_le.mp c_4, eq_false c_4]
          exact gx_iret (pc := 81) hC dX5_donorOf_81 (Nat.zero_le _) (Nat.zero_le _) (⟨by rw [e1], rfl⟩)
      · refine gx_aload_n (pc := 34) hB dX5_donorOf_34 0 rfl ?_
        refine gx_iload_n (pc := 35) hB dX5_donorOf_35 1 rfl ?_
        refine gx_iconst (pc := 36) hB dX5_donorOf_36 0 (by decide) ?_
        refine gx_dVi (pc := 37) (r := sD S d 0) (wr := []) hB (c_X5_ofDonor l K m q1 q2 q3 q4 q5 q6 q7 q8 S P H T X Z n ru ty cl sp ca co d 0 (by first | assumption | omega | decide) (by first | assumption | omega | decide)) mX5_ofDonor dX5_donorOf_37 tb_800 pX5_ofDonor ⟨Nat.le_of_ble_eq_true rfl, Nat.le_of_ble_eq_true rfl⟩ ⟨rfl, rfl⟩ ⟨Nat.zero_le _, Nat.zero_le _⟩ rfl (Nat.le_of_ble_eq_true rfl) [0, 1, 2, 3, 4, 5, 6, 7, 8] [] rfl rfl (by decide) (by decide) (by decide) rfl rfl [0, 1, 2, 3, 4, 5, 6, 7, 8] (by decide) (wM K m q1 q2 q3 q4 q5 q6 q7 q8 S P H T X Z n ru ty cl sp ca co) rfl ?_
        refine gx_goto (pc := 40) hB 81 dX5_donorOf_40 (by decide) ?_
        have e1 : (mTellD S c e (nI d) y) = sD S d 0 := by simp [mTellD, c_1, s_d, c_2, eq_true c_3]
        exact gx_iret (pc := 81) hC dX5_donorOf_81 (Nat.zero_le _) (Nat.zero_le _) (⟨by rw [e1], rfl⟩)
    · refine gx_aload_n (pc := 17) hB dX5_donorOf_17 0 rfl ?_
      refine gx_iload_n (pc := 18) hB dX5_donorOf_18 2 rfl ?_
      refine gx_bipush (pc := 19) hB dX5_donorOf_19 10 (by decide) ?_
      refine gx_isub (pc := 21) hB dX5_donorOf_21 ?_
      refine gx_dVi (pc := 22) (r := bI (sIsP S (y - 10))) (wr := []) hB (c_X5_isPurpose l K m q1 q2 q3 q4 q5 q6 q7 q8 S P H T X Z n ru ty cl sp ca co (y - 10) ) mX5_isPurpose dX5_donorOf_22 tb_808 pX5_isPurpose ⟨Nat.le_of_ble_eq_true rfl, Nat.le_of_ble_eq_true rfl⟩ ⟨rfl, rfl⟩ ⟨Nat.zero_le _, Nat.zero_le _⟩ rfl (Nat.le_of_ble_eq_true rfl) [0, 1, 2, 3, 4, 5, 6, 7, 8] [] rfl rfl (by decide) (by decide) (by decide) rfl rfl [0, 1, 2, 3, 4, 5, 6, 7, 8] (by decide) (wM K m q1 q2 q3 q4 q5 q6 q7 q8 S P H T X Z n ru ty cl sp ca co) rfl ?_
      refine gx_if_ne_b (pc := 25) hB 30 dX5_donorOf_25 (by decide) (fun c_6 => ?_) (fun c_6 => ?_)
      · refine gx_iload_n (pc := 30) hB dX5_donorOf_30 2 rfl ?_
        refine gx_if_ne (pc := 31) hB 43 dX5_donorOf_31 (by decide) (fun c_7 => ?_) (fun c_7 => ?_)
        · refine gx_iload_n (pc := 43) hB dX5_donorOf_43 2 rfl ?_
          refine gx_iconst (pc := 44) hB dX5_donorOf_44 4 (by decide) ?_
          refine gx_icmp_ge (pc := 45) hB 59 dX5_donorOf_45 (by decide) (fun c_8 => ?_) (fun c_8 => ?_)
          · refine gx_iload_n (pc := 59) hB dX5_donorOf_59 2 rfl ?_
            refine gx_iconst (pc := 60) hB dX5_donorOf_60 4 (by decide) ?_
            refine gx_icmp_ne (pc := 61) hB 72 dX5_donorOf_61 (by decide) (fun c_9 => ?_) (fun c_9 => ?_)
            · obtain ⟨z_1, y_1⟩ := num_of (x := y - 9) (N := 7) (dn_of h0 c_6) (by omega)
              refine gx_aload_n (pc := 72) hB dX5_donorOf_72 0 rfl ?_
              refine gx_iload_n (pc := 73) hB dX5_donorOf_73 1 rfl ?_
              refine gx_iload_n (pc := 74) hB dX5_donorOf_74 2 rfl ?_
              refine gx_bipush (pc := 75) hB dX5_donorOf_75 9 (by decide) ?_
              refine gx_isub (pc := 77) hB dX5_donorOf_77 ?_
              refine gx_top (show y - 9 = nI ((y - 9).toNatClampNeg) from z_1) ?_
              refine gx_dVi (pc := 78) (r := sD S d ((y - 9).toNatClampNeg)) (wr := []) hB (c_X5_ofDonor l K m q1 q2 q3 q4 q5 q6 q7 q8 S P H T X Z n ru ty cl sp ca co d ((y - 9).toNatClampNeg) (by first | assumption | omega | decide) (by first | assumption | omega | decide)) mX5_ofDonor dX5_donorOf_78 tb_800 pX5_ofDonor ⟨Nat.le_of_ble_eq_true rfl, Nat.le_of_ble_eq_true rfl⟩ ⟨rfl, rfl⟩ ⟨Nat.zero_le _, Nat.zero_le _⟩ rfl (Nat.le_of_ble_eq_true rfl) [0, 1, 2, 3, 4, 5, 6, 7, 8] [] rfl rfl (by decide) (by decide) (by decide) rfl rfl [0, 1, 2, 3, 4, 5, 6, 7, 8] (by decide) (wM K m q1 q2 q3 q4 q5 q6 q7 q8 S P H T X Z n ru ty cl sp ca co) rfl ?_
              have e1 : (mTellD S c e (nI d) y) = (sD S d ((y - 9).toNatClampNeg)) := by simp [mTellD, c_1, s_d, c_2, c_6, eq_false c_7, c_8, eq_false (Int32.not_lt.mpr c_8), eq_false c_9]
              exact gx_iret (pc := 81) hC dX5_donorOf_81 (Nat.zero_le _) (Nat.zero_le _) (⟨by rw [e1], rfl⟩)
            · refine gx_aload_n (pc := 64) hB dX5_donorOf_64 0 rfl ?_
              refine gx_iload_n (pc := 65) hB dX5_donorOf_65 1 rfl ?_
              refine gx_dVi (pc := 66) (r := mRunN S (nI d) e) (wr := []) hB (c_X5_running l K m q1 q2 q3 q4 q5 q6 q7 q8 S P H T X Z n ru ty cl sp ca co e (nI d) h0.1.2.2.2.1 (by first | assumption | omega | decide)) mX5_running dX5_donorOf_66 tb_943 pX5_running ⟨Nat.le_of_ble_eq_true rfl, Nat.le_of_ble_eq_true rfl⟩ ⟨rfl, rfl⟩ ⟨Nat.zero_le _, Nat.zero_le _⟩ rfl (Nat.le_of_ble_eq_true rfl) [0, 1, 2, 3, 4, 5, 6, 7, 8] [] rfl rfl (by decide) (by decide) (by decide) rfl rfl [0, 1, 2, 3, 4, 5, 6, 7, 8] (by decide) (wM K m q1 q2 q3 q4 q5 q6 q7 q8 S P H T X Z n ru ty cl sp ca co) rfl ?_
              refine gx_goto (pc := 69) hB 81 dX5_donorOf_69 (by decide) ?_
              have e1 : (mTellD S c e (nI d) y) = (mRunN S (nI d) e) := by simp [mTellD, c_1, s_d, c_2, c_6, eq_false c_7, c_8, eq_false (Int32.not_lt.mpr c_8), eq_true c_9]
              exact gx_iret (pc := 81) hC dX5_donorOf_81 (Nat.zero_le _) (Nat.zero_le _) (⟨by rw [e1], rfl⟩)
          · refine gx_aload_n (pc := 48) hB dX5_donorOf_48 0 rfl ?_
            refine gx_iload_n (pc := 49) hB dX5_donorOf_49 1 rfl ?_
            refine gx_iload_n (pc := 50) hB dX5_donorOf_50 2 rfl ?_
            refine gx_iconst (pc := 51) hB dX5_donorOf_51 1 (by decide) ?_
            refine gx_isub (pc := 52) hB dX5_donorOf_52 ?_
            refine gx_dVi (pc := 53) (r := mAmtN S (nI d) (y - 1) c) (wr := []) hB (c_X5_given l K m q1 q2 q3 q4 q5 q6 q7 q8 S P H T X Z n ru ty cl sp ca co c (nI d) (y - 1) h0.1.2.2.1 (by first | assumption | omega | decide)) mX5_given dX5_donorOf_53 tb_939 pX5_given ⟨Nat.le_of_ble_eq_true rfl, Nat.le_of_ble_eq_true rfl⟩ ⟨rfl, rfl⟩ ⟨Nat.zero_le _, Nat.zero_le _⟩ rfl (Nat.le_of_ble_eq_true rfl) [0, 1, 2, 3, 4, 5, 6, 7, 8] [] rfl rfl (by decide) (by decide) (by decide) rfl rfl [0, 1, 2, 3, 4, 5, 6, 7, 8] (by decide) (wM K m q1 q2 q3 q4 q5 q6 q7 q8 S P H T X Z n ru ty cl sp ca co) rfl ?_
            refine gx_goto (pc := 56) hB 81 dX5_donorOf_56 (by decide) ?_
            have e1 : (mTellD S c e (nI d) y) = (mAmtN S (nI d) (y - 1) c) := by simp [mTellD, c_1, s_d, c_2, c_6, eq_false c_7, Int32.not_le.mp c_8, eq_false c_8]
            exact gx_iret (pc := 81) hC dX5_donorOf_81 (Nat.zero_le _) (Nat.zero_le _) (⟨by rw [e1], rfl⟩)
        · refine gx_aload_n (pc := 34) hB dX5_donorOf_34 0 rfl ?_
          refine gx_iload_n (pc := 35) hB dX5_donorOf_35 1 rfl ?_
          refine gx_iconst (pc := 36) hB dX5_donorOf_36 0 (by decide) ?_
          refine gx_dVi (pc := 37) (r := sD S d 0) (wr := []) hB (c_X5_ofDonor l K m q1 q2 q3 q4 q5 q6 q7 q8 S P H T X Z n ru ty cl sp ca co d 0 (by first | assumption | omega | decide) (by first | assumption | omega | decide)) mX5_ofDonor dX5_donorOf_37 tb_800 pX5_ofDonor ⟨Nat.le_of_ble_eq_true rfl, Nat.le_of_ble_eq_true rfl⟩ ⟨rfl, rfl⟩ ⟨Nat.zero_le _, Nat.zero_le _⟩ rfl (Nat.le_of_ble_eq_true rfl) [0, 1, 2, 3, 4, 5, 6, 7, 8] [] rfl rfl (by decide) (by decide) (by decide) rfl rfl [0, 1, 2, 3, 4, 5, 6, 7, 8] (by decide) (wM K m q1 q2 q3 q4 q5 q6 q7 q8 S P H T X Z n ru ty cl sp ca co) rfl ?_
          refine gx_goto (pc := 40) hB 81 dX5_donorOf_40 (by decide) ?_
          have e1 : (mTellD S c e (nI d) y) = sD S d 0 := by simp [mTellD, c_1, s_d, c_2, c_6, eq_true c_7]
          exact gx_iret (pc := 81) hC dX5_donorOf_81 (Nat.zero_le _) (Nat.zero_le _) (⟨by rw [e1], rfl⟩)
      · refine gx_iconst (pc := 28) hB dX5_donorOf_28 (-1) (by decide) ?_
        have e1 : (mTellD S c e (nI d) y) = (-1) := by simp [mTellD, c_1, s_d, c_2, c_6]
        exact gx_iret (pc := 29) hC dX5_donorOf_29 (Nat.zero_le _) (Nat.zero_le _) (⟨by rw [e1], rfl⟩)
theorem pX5_giftOf : (parseMethodDescriptor yX5_giftOf.desc).map (fun d => d.parameters.length) = some 2 := by decide +kernel
theorem mX5_giftOf : gx_M yX5_giftOf cX5_giftOf 3 (some .int) := ⟨tb_948, tb_949, tb_73, tb_950, by decide, by decide⟩
set_option maxHeartbeats 4000000 in
set_option maxRecDepth 100000 in
theorem c_X5_giftOf (l : Launch) (K : gx_K) (m q1 q2 q3 q4 q5 q6 q7 q8 : Nat) (S P H T X Z : Nat → Int32) (n : Nat) (ru : Bool) (ty : Nat) (cl : Int32) (sp : Nat) (ca : Int32) (co : Nat) (a b c e : Nat) (x y : Int32) (h0 : sOk S a b c e) : gx_Ctr l K yX5_giftOf cX5_giftOf 3 (some .int) (rmm 2 22) [.ref m, .int x, .int y] (wM K m q1 q2 q3 q4 q5 q6 q7 q8 S P H T X Z n ru ty cl sp ca co) (gx_D (some (.int (mTellG S x y))) (wM K m q1 q2 q3 q4 q5 q6 q7 q8 S P H T X Z n ru ty cl sp ca co)) := by
  refine gx_of (by decide) (Nat.le_of_ble_eq_true rfl) (fun G hC => ?_)
  have hB := hC.b
  refine gx_lv (lv' := [(0, .ref m), (1, .int x), (2, .int y)]) rfl ?_
  have hb0 := h0.1
  refine gx_iload_n (pc := 0) hB dX5_giftOf_0 1 rfl ?_
  refine gx_if_lt (pc := 1) hB 24 dX5_giftOf_1 (by decide) (fun c_1 => ?_) (fun c_1 => ?_)
  · refine gx_iconst (pc := 24) hB dX5_giftOf_24 (-1) (by decide) ?_
    have e1 : mTellG S x y = (-1) := by simp [mTellG, c_1, eq_false (Int32.not_le.mpr c_1)]
    exact gx_iret (pc := 25) hC dX5_giftOf_25 (Nat.zero_le _) (Nat.zero_le _) (⟨by rw [e1], rfl⟩)
  · refine gx_iload_n (pc := 4) hB dX5_giftOf_4 1 rfl ?_
    refine gx_aload_n (pc := 5) hB dX5_giftOf_5 0 rfl ?_
    refine gx_get (pc := 6) hB dX5_giftOf_6 inX5 rfl 0 rfl 0 (by decide) tb_726 rfl rfl ?_
    refine gx_iconst (pc := 9) hB dX5_giftOf_9 4 (by decide) ?_
    refine gx_iald (pc := 10) hB dX5_giftOf_10 1 1 rfl rfl 4 rfl (by decide) (by decide) ?_
    refine gx_icmp_ge (pc := 11) hB 24 dX5_giftOf_11 (by decide) (fun c_2 => ?_) (fun c_2 => ?_)
    · refine gx_iconst (pc := 24) hB dX5_giftOf_24 (-1) (by decide) ?_
      have e1 : mTellG S x y = (-1) := by simp [mTellG, Int32.not_lt.mp c_1, eq_false c_1, c_2, eq_false (Int32.not_lt.mpr c_2)]
      exact gx_iret (pc := 25) hC dX5_giftOf_25 (Nat.zero_le _) (Nat.zero_le _) (⟨by rw [e1], rfl⟩)
    · refine gx_iload_n (pc := 14) hB dX5_giftOf_14 2 rfl ?_
      refine gx_iconst (pc := 15) hB dX5_giftOf_15 0 (by decide) ?_
      refine gx_bipush (pc := 16) hB dX5_giftOf_16 7 (by decide) ?_
      refine gx_dSi (pc := 18) (r := bI (bIn y 0 7)) (wr := [(m, .inr (5, [.ref q1, .ref q2, .ref q3, .ref q4, .int (nI n), .int (bI ru), .ref q5, .int (nI ty), .ref q6, .ref q7, .int cl, .int (nI sp), .int ca, .int (nI co), .ref q8])), (q1, .inl (K.2.1.2.1, 345, .inl S)), (q2, .inl (K.2.1.2.1, 1380, .inl P)), (q3, .inl (K.2.1.2.1, 345, .inl H)), (q4, .inl (K.2.1.2.1, 345, .inl T)), (q5, .inl (K.2.1.2.1, 80, .inl X)), (q6, .inl (K.2.1.2.2.1, 9, .inr (.inl mW))), (q7, .inl (K.2.1.2.1, 9, .inl mN)), (q8, .inl (K.2.1.2.1, 4, .inl Z))]) hB (c_X5_in l K y 0 7 ) mX5_in dX5_giftOf_18 tb_797 pX5_in ⟨Nat.le_of_ble_eq_true rfl, Nat.le_of_ble_eq_true rfl⟩ ⟨rfl, rfl⟩ ⟨Nat.zero_le _, Nat.zero_le _⟩ rfl (Nat.le_of_ble_eq_true rfl) [] [0, 1, 2, 3, 4, 5, 6, 7, 8] rfl rfl (by decide) (by decide) (by decide) [0, 1, 2, 3, 4, 5, 6, 7, 8] (by decide) (wM K m q1 q2 q3 q4 q5 q6 q7 q8 S P H T X Z n ru ty cl sp ca co) rfl ?_
      refine gx_if_ne_b (pc := 21) hB 26 dX5_giftOf_21 (by decide) (fun c_3 => ?_) (fun c_3 => ?_)
      · obtain ⟨g, h_g, rfl⟩ := isG_of h0 c_1 (Int32.not_le.mp c_2)
        have s_g : (nI g).toNatClampNeg = g := nI_clamp (by omega)
        refine gx_iload_n (pc := 26) hB dX5_giftOf_26 2 rfl ?_
        refine gx_bipush (pc := 27) hB dX5_giftOf_27 7 (by decide) ?_
        refine gx_icmp_ne (pc := 29) hB 44 dX5_giftOf_29 (by decide) (fun c_4 => ?_) (fun c_4 => ?_)
        · refine gx_aload_n (pc := 44) hB dX5_giftOf_44 0 rfl ?_
          refine gx_iload_n (pc := 45) hB dX5_giftOf_45 1 rfl ?_
          obtain ⟨k, h_k, rfl⟩ := bIn_of (n := 7) (by decide) c_3
          have s_k : (nI k).toNatClampNeg = k := nI_clamp (by omega)
          have hk7 : k < 7 := nI_ne (n := 7) c_4 (by omega)
          refine gx_iload_n (pc := 46) hB dX5_giftOf_46 2 rfl ?_
          refine gx_dVi (pc := 47) (r := sG S g k) (wr := []) hB (c_X5_ofGift l K m q1 q2 q3 q4 q5 q6 q7 q8 S P H T X Z n ru ty cl sp ca co g k (by first | assumption | omega | decide) (by first | assumption | omega | decide)) mX5_ofGift dX5_giftOf_47 tb_867 pX5_ofGift ⟨Nat.le_of_ble_eq_true rfl, Nat.le_of_ble_eq_true rfl⟩ ⟨rfl, rfl⟩ ⟨Nat.zero_le _, Nat.zero_le _⟩ rfl (Nat.le_of_ble_eq_true rfl) [0, 1, 2, 3, 4, 5, 6, 7, 8] [] rfl rfl (by decide) (by decide) (by decide) rfl rfl [0, 1, 2, 3, 4, 5, 6, 7, 8] (by decide) (wM K m q1 q2 q3 q4 q5 q6 q7 q8 S P H T X Z n ru ty cl sp ca co) rfl ?_
          have e1 : (mTellG S (nI g) (nI k)) = sG S g k := by simp [mTellG, Int32.not_lt.mp c_1, eq_false c_1, Int32.not_le.mp c_2, eq_false c_2, c_3, s_g, eq_false c_4, s_k]
          exact gx_iret (pc := 50) hC dX5_giftOf_50 (Nat.zero_le _) (Nat.zero_le _) (⟨by rw [e1], rfl⟩)
        · refine gx_aload_n (pc := 32) hB dX5_giftOf_32 0 rfl ?_
          refine gx_iload_n (pc := 33) hB dX5_giftOf_33 1 rfl ?_
          refine gx_iconst (pc := 34) hB dX5_giftOf_34 2 (by decide) ?_
          refine gx_dVi (pc := 35) (r := sG S g 2) (wr := []) hB (c_X5_ofGift l K m q1 q2 q3 q4 q5 q6 q7 q8 S P H T X Z n ru ty cl sp ca co g 2 (by first | assumption | omega | decide) (by first | assumption | omega | decide)) mX5_ofGift dX5_giftOf_35 tb_867 pX5_ofGift ⟨Nat.le_of_ble_eq_true rfl, Nat.le_of_ble_eq_true rfl⟩ ⟨rfl, rfl⟩ ⟨Nat.zero_le _, Nat.zero_le _⟩ rfl (Nat.le_of_ble_eq_true rfl) [0, 1, 2, 3, 4, 5, 6, 7, 8] [] rfl rfl (by decide) (by decide) (by decide) rfl rfl [0, 1, 2, 3, 4, 5, 6, 7, 8] (by decide) (wM K m q1 q2 q3 q4 q5 q6 q7 q8 S P H T X Z n ru ty cl sp ca co) rfl ?_
          refine gx_dSi (pc := 38) (r := (sG S g 2) / 4) (wr := [(m, .inr (5, [.ref q1, .ref q2, .ref q3, .ref q4, .int (nI n), .int (bI ru), .ref q5, .int (nI ty), .ref q6, .ref q7, .int cl, .int (nI sp), .int ca, .int (nI co), .ref q8])), (q1, .inl (K.2.1.2.1, 345, .inl S)), (q2, .inl (K.2.1.2.1, 1380, .inl P)), (q3, .inl (K.2.1.2.1, 345, .inl H)), (q4, .inl (K.2.1.2.1, 345, .inl T)), (q5, .inl (K.2.1.2.1, 80, .inl X)), (q6, .inl (K.2.1.2.2.1, 9, .inr (.inl mW))), (q7, .inl (K.2.1.2.1, 9, .inl mN)), (q8, .inl (K.2.1.2.1, 4, .inl Z))]) hB (c_X5_tax l K (sG S g 2) ) mX5_tax dX5_giftOf_38 tb_875 pX5_tax ⟨Nat.le_of_ble_eq_true rfl, Nat.le_of_ble_eq_true rfl⟩ ⟨rfl, rfl⟩ ⟨Nat.zero_le _, Nat.zero_le _⟩ rfl (Nat.le_of_ble_eq_true rfl) [] [0, 1, 2, 3, 4, 5, 6, 7, 8] rfl rfl (by decide) (by decide) (by decide) [0, 1, 2, 3, 4, 5, 6, 7, 8] (by decide) (wM K m q1 q2 q3 q4 q5 q6 q7 q8 S P H T X Z n ru ty cl sp ca co) rfl ?_
          refine gx_goto (pc := 41) hB 50 dX5_giftOf_41 (by decide) ?_
          have e1 : (mTellG S (nI g) y) = ((sG S g 2) / 4) := by simp [mTellG, Int32.not_lt.mp c_1, eq_false c_1, Int32.not_le.mp c_2, eq_false c_2, c_3, s_g, eq_true c_4]
          exact gx_iret (pc := 50) hC dX5_giftOf_50 (Nat.zero_le _) (Nat.zero_le _) (⟨by rw [e1], rfl⟩)
      · refine gx_iconst (pc := 24) hB dX5_giftOf_24 (-1) (by decide) ?_
        have e1 : mTellG S x y = (-1) := by simp [mTellG, Int32.not_lt.mp c_1, eq_false c_1, Int32.not_le.mp c_2, eq_false c_2, c_3]
        exact gx_iret (pc := 25) hC dX5_giftOf_25 (Nat.zero_le _) (Nat.zero_le _) (⟨by rw [e1], rfl⟩)
theorem pX5_pledgeOf : (parseMethodDescriptor yX5_pledgeOf.desc).map (fun d => d.parameters.length) = some 2 := by decide +kernel
theorem mX5_pledgeOf : gx_M yX5_pledgeOf cX5_pledgeOf 3 (some .int) := ⟨tb_952, tb_953, tb_73, tb_954, by decide, by decide⟩
set_option maxHeartbeats 4000000 in
set_option maxRecDepth 100000 in
theorem c_X5_pledgeOf (l : Launch) (K : gx_K) (m q1 q2 q3 q4 q5 q6 q7 q8 : Nat) (S P H T X Z : Nat → Int32) (n : Nat) (ru : Bool) (ty : Nat) (cl : Int32) (sp : Nat) (ca : Int32) (co : Nat) (a b c e : Nat) (x y : Int32) (h0 : sOk S a b c e) : gx_Ctr l K yX5_pledgeOf cX5_pledgeOf 3 (some .int) (rmm 2 22) [.ref m, .int x, .int y] (wM K m q1 q2 q3 q4 q5 q6 q7 q8 S P H T X Z n ru ty cl sp ca co) (gx_D (some (.int (mTellK S x y))) (wM K m q1 q2 q3 q4 q5 q6 q7 q8 S P H T X Z n ru ty cl sp ca co)) := by
  refine gx_of (by decide) (Nat.le_of_ble_eq_true rfl) (fun G hC => ?_)
  have hB := hC.b
  refine gx_lv (lv' := [(0, .ref m), (1, .int x), (2, .int y)]) rfl ?_
  have hb0 := h0.1
  refine gx_aload_n (pc := 0) hB dX5_pledgeOf_0 0 rfl ?_
  refine gx_iload_n (pc := 1) hB dX5_pledgeOf_1 1 rfl ?_
  refine gx_dVi (pc := 2) (r := bI (sIsK S x)) (wr := []) hB (c_X5_isPledge l K m q1 q2 q3 q4 q5 q6 q7 q8 S P H T X Z n ru ty cl sp ca co x ) mX5_isPledge dX5_pledgeOf_2 tb_840 pX5_isPledge ⟨Nat.le_of_ble_eq_true rfl, Nat.le_of_ble_eq_true rfl⟩ ⟨rfl, rfl⟩ ⟨Nat.zero_le _, Nat.zero_le _⟩ rfl (Nat.le_of_ble_eq_true rfl) [0, 1, 2, 3, 4, 5, 6, 7, 8] [] rfl rfl (by decide) (by decide) (by decide) rfl rfl [0, 1, 2, 3, 4, 5, 6, 7, 8] (by decide) (wM K m q1 q2 q3 q4 q5 q6 q7 q8 S P H T X Z n ru ty cl sp ca co) rfl ?_
  refine gx_if_eq_b (pc := 5) hB 27 dX5_pledgeOf_5 (by decide) (fun c_1 => ?_) (fun c_1 => ?_)
  · refine gx_iconst (pc := 27) hB dX5_pledgeOf_27 (-1) (by decide) ?_
    have e1 : mTellK S x y = (-1) := by simp [mTellK, c_1]
    exact gx_iret (pc := 28) hC dX5_pledgeOf_28 (Nat.zero_le _) (Nat.zero_le _) (⟨by rw [e1], rfl⟩)
  · refine gx_iload_n (pc := 8) hB dX5_pledgeOf_8 2 rfl ?_
    refine gx_iconst (pc := 9) hB dX5_pledgeOf_9 0 (by decide) ?_
    refine gx_bipush (pc := 10) hB dX5_pledgeOf_10 7 (by decide) ?_
    refine gx_dSi (pc := 12) (r := bI (bIn y 0 7)) (wr := [(m, .inr (5, [.ref q1, .ref q2, .ref q3, .ref q4, .int (nI n), .int (bI ru), .ref q5, .int (nI ty), .ref q6, .ref q7, .int cl, .int (nI sp), .int ca, .int (nI co), .ref q8])), (q1, .inl (K.2.1.2.1, 345, .inl S)), (q2, .inl (K.2.1.2.1, 1380, .inl P)), (q3, .inl (K.2.1.2.1, 345, .inl H)), (q4, .inl (K.2.1.2.1, 345, .inl T)), (q5, .inl (K.2.1.2.1, 80, .inl X)), (q6, .inl (K.2.1.2.2.1, 9, .inr (.inl mW))), (q7, .inl (K.2.1.2.1, 9, .inl mN)), (q8, .inl (K.2.1.2.1, 4, .inl Z))]) hB (c_X5_in l K y 0 7 ) mX5_in dX5_pledgeOf_12 tb_797 pX5_in ⟨Nat.le_of_ble_eq_true rfl, Nat.le_of_ble_eq_true rfl⟩ ⟨rfl, rfl⟩ ⟨Nat.zero_le _, Nat.zero_le _⟩ rfl (Nat.le_of_ble_eq_true rfl) [] [0, 1, 2, 3, 4, 5, 6, 7, 8] rfl rfl (by decide) (by decide) (by decide) [0, 1, 2, 3, 4, 5, 6, 7, 8] (by decide) (wM K m q1 q2 q3 q4 q5 q6 q7 q8 S P H T X Z n ru ty cl sp ca co) rfl ?_
    refine gx_if_eq_b (pc := 15) hB 27 dX5_pledgeOf_15 (by decide) (fun c_2 => ?_) (fun c_2 => ?_)
    · refine gx_iconst (pc := 27) hB dX5_pledgeOf_27 (-1) (by decide) ?_
      have e1 : mTellK S x y = (-1) := by simp [mTellK, c_1, c_2]
      exact gx_iret (pc := 28) hC dX5_pledgeOf_28 (Nat.zero_le _) (Nat.zero_le _) (⟨by rw [e1], rfl⟩)
    · obtain ⟨k, h_k, rfl⟩ := isK_of h0 c_1
      have s_k : (nI k).toNatClampNeg = k := nI_clamp (by omega)
      obtain ⟨j, h_j, rfl⟩ := bIn_of (n := 7) (by decide) c_2
      have s_j : (nI j).toNatClampNeg = j := nI_clamp (by omega)
      refine gx_aload_n (pc := 18) hB dX5_pledgeOf_18 0 rfl ?_
      refine gx_iload_n (pc := 19) hB dX5_pledgeOf_19 1 rfl ?_
      refine gx_iload_n (pc := 20) hB dX5_pledgeOf_20 2 rfl ?_
      refine gx_dVi (pc := 21) (r := sK S k j) (wr := []) hB (c_X5_ofPledge l K m q1 q2 q3 q4 q5 q6 q7 q8 S P H T X Z n ru ty cl sp ca co k j (by first | assumption | omega | decide) (by first | assumption | omega | decide)) mX5_ofPledge dX5_pledgeOf_21 tb_844 pX5_ofPledge ⟨Nat.le_of_ble_eq_true rfl, Nat.le_of_ble_eq_true rfl⟩ ⟨rfl, rfl⟩ ⟨Nat.zero_le _, Nat.zero_le _⟩ rfl (Nat.le_of_ble_eq_true rfl) [0, 1, 2, 3, 4, 5, 6, 7, 8] [] rfl rfl (by decide) (by decide) (by decide) rfl rfl [0, 1, 2, 3, 4, 5, 6, 7, 8] (by decide) (wM K m q1 q2 q3 q4 q5 q6 q7 q8 S P H T X Z n ru ty cl sp ca co) rfl ?_
      refine gx_goto (pc := 24) hB 28 dX5_pledgeOf_24 (by decide) ?_
      have e1 : (mTellK S (nI k) (nI j)) = sK S k j := by simp [mTellK, c_1, c_2, s_k, s_j]
      exact gx_iret (pc := 28) hC dX5_pledgeOf_28 (Nat.zero_le _) (Nat.zero_le _) (⟨by rw [e1], rfl⟩)
theorem pX5_all : (parseMethodDescriptor yX5_all.desc).map (fun d => d.parameters.length) = some 1 := by decide +kernel
theorem mX5_all : gx_M yX5_all cX5_all 4 (some .int) := ⟨tb_961, tb_59, tb_73, tb_962, by decide, by decide⟩
set_option maxHeartbeats 4000000 in
set_option maxRecDepth 100000 in
theorem c_X5_all (l : Launch) (K : gx_K) (m q1 q2 q3 q4 q5 q6 q7 q8 : Nat) (S P H T X Z : Nat → Int32) (n : Nat) (ru : Bool) (ty : Nat) (cl : Int32) (sp : Nat) (ca : Int32) (co : Nat) (a k : Nat) (h0 : S 2 = nI a) (h1 : a ≤ 6) (h2 : k < 11) : gx_Ctr l K yX5_all cX5_all 4 (some .int) (rmm 3 43) [.ref m, .int (nI k)] (wM K m q1 q2 q3 q4 q5 q6 q7 q8 S P H T X Z n ru ty cl sp ca co) (gx_D (some (.int (mAllN S k a))) (wM K m q1 q2 q3 q4 q5 q6 q7 q8 S P H T X Z n ru ty cl sp ca co)) := by
  refine gx_of (by decide) (Nat.le_of_ble_eq_true rfl) (fun G hC => ?_)
  have hB := hC.b
  refine gx_lv (lv' := [(0, .ref m), (1, .int (nI k))]) rfl ?_
  refine gx_iconst (pc := 0) hB dX5_all_0 0 (by decide) ?_
  refine gx_istore_n (pc := 1) hB dX5_all_1 (by decide) [(2, .int 0), (0, .ref m), (1, .int (nI k))] rfl ?_
  refine gx_iconst (pc := 2) hB dX5_all_2 0 (by decide) ?_
  refine gx_istore_n (pc := 3) hB dX5_all_3 (by decide) [(3, .int 0), (2, .int 0), (0, .ref m), (1, .int (nI k))] rfl ?_
  have loop_4 : ∀ dq i : Nat, i + dq = a → G 0 0 (wM K m q1 q2 q3 q4 q5 q6 q7 q8 S P H T X Z n ru ty cl sp ca co) [(0, .ref m), (1, .int (nI k)), (2, .int (mAllN S k i)), (3, .int (nI i))] 4 [] := by
    intro dq
    induction dq with
    | zero =>
      intro i hi4
      obtain rfl : a = i := by omega
      refine gx_iload_n (pc := 4) hB dX5_all_4 3 rfl ?_
      refine gx_aload_n (pc := 5) hB dX5_all_5 0 rfl ?_
      refine gx_get (pc := 6) hB dX5_all_6 inX5 rfl 0 rfl 0 (by decide) tb_726 rfl rfl ?_
      refine gx_iconst (pc := 9) hB dX5_all_9 2 (by decide) ?_
      refine gx_iald (pc := 10) hB dX5_all_10 1 1 rfl rfl 2 rfl (by decide) (by decide) ?_
      refine gx_top (show S 2 = nI a from h0) ?_
      refine gx_icmp_ge (pc := 11) hB 51 dX5_all_11 (by decide) (fun c_1 => ?_) (fun c_1 => ?_)
      · refine gx_iload_n (pc := 51) hB dX5_all_51 2 rfl ?_
        exact gx_iret (pc := 52) hC dX5_all_52 (Nat.zero_le _) (Nat.zero_le _) (⟨rfl, rfl⟩)
      · exact absurd (lpTn (c := a) (by omega) hi4) c_1
    | succ dq ih4 =>
      intro i hi4
      refine gx_iload_n (pc := 4) hB dX5_all_4 3 rfl ?_
      refine gx_aload_n (pc := 5) hB dX5_all_5 0 rfl ?_
      refine gx_get (pc := 6) hB dX5_all_6 inX5 rfl 0 rfl 0 (by decide) tb_726 rfl rfl ?_
      refine gx_iconst (pc := 9) hB dX5_all_9 2 (by decide) ?_
      refine gx_iald (pc := 10) hB dX5_all_10 1 1 rfl rfl 2 rfl (by decide) (by decide) ?_
      refine gx_top (show S 2 = nI a from h0) ?_
      refine gx_icmp_ge (pc := 11) hB 51 dX5_all_11 (by decide) (fun c_2 => ?_) (fun c_2 => ?_)
      · exact absurd c_2 (lpFn (c := a) (by omega) hi4)
      · refine gx_iload_n (pc := 14) hB dX5_all_14 2 rfl ?_
        refine gx_iload_n (pc := 15) hB dX5_all_15 1 rfl ?_
        refine gx_bipush (pc := 16) hB dX5_all_16 9 (by decide) ?_
        refine gx_icmp_ne (pc := 18) hB 37 dX5_all_18 (by decide) (fun c_3 => ?_) (fun c_3 => ?_)
        · refine gx_aload_n (pc := 37) hB dX5_all_37 0 rfl ?_
          refine gx_iload_n (pc := 38) hB dX5_all_38 3 rfl ?_
          refine gx_iload_n (pc := 39) hB dX5_all_39 1 rfl ?_
          refine gx_dVi (pc := 40) (r := sP S i k) (wr := []) hB (c_X5_ofPurpose l K m q1 q2 q3 q4 q5 q6 q7 q8 S P H T X Z n ru ty cl sp ca co i k (by first | assumption | omega | decide) (by first | assumption | omega | decide)) mX5_ofPurpose dX5_all_40 tb_816 pX5_ofPurpose ⟨Nat.le_of_ble_eq_true rfl, Nat.le_of_ble_eq_true rfl⟩ ⟨rfl, rfl⟩ ⟨Nat.zero_le _, Nat.zero_le _⟩ rfl (Nat.le_of_ble_eq_true rfl) [0, 1, 2, 3, 4, 5, 6, 7, 8] [] rfl rfl (by decide) (by decide) (by decide) rfl rfl [0, 1, 2, 3, 4, 5, 6, 7, 8] (by decide) (wM K m q1 q2 q3 q4 q5 q6 q7 q8 S P H T X Z n ru ty cl sp ca co) rfl ?_
          refine gx_iadd (pc := 43) hB dX5_all_43 ?_
          refine gx_istore_n (pc := 44) hB dX5_all_44 (by decide) [(2, .int (mAllN S k i + sP S i k)), (0, .ref m), (1, .int (nI k)), (3, .int (nI i))] rfl ?_
          refine gx_iinc (pc := 45) hB dX5_all_45 3 (by decide) rfl (nI (i + 1)) (nI_1 _) [(3, .int (nI (i + 1))), (2, .int (mAllN S k i + sP S i k)), (0, .ref m), (1, .int (nI k))] rfl ?_
          refine gx_goto (pc := 48) hB 4 dX5_all_48 (by decide) ?_
          have g2 : mAllN S k i + sP S i k = mAllN S k (i + 1) := by simp [mAllN, Int32.not_le.mp c_2, eq_false c_2, eq_false c_3]
          refine gx_sub hB (lv' := [(0, .ref m), (1, .int (nI k)), (2, .int (mAllN S k i + sP S i k)), (3, .int (nI (i + 1)))]) [2, 3, 1, 0] rfl ?_
          refine gx_all (ws' := wM K m q1 q2 q3 q4 q5 q6 q7 q8 S P H T X Z n ru ty cl sp ca co) (lv' := [(0, .ref m), (1, .int (nI k)), (2, .int (mAllN S k (i + 1))), (3, .int (nI (i + 1)))]) (rfl) (by rw [← g2]) ?_
          exact ih4 (i + 1) (by omega)
        · refine gx_aload_n (pc := 21) hB dX5_all_21 0 rfl ?_
          refine gx_iload_n (pc := 22) hB dX5_all_22 3 rfl ?_
          refine gx_dVi (pc := 23) (r := bI (sClosed S i)) (wr := []) hB (c_X5_isClosed l K m q1 q2 q3 q4 q5 q6 q7 q8 S P H T X Z n ru ty cl sp ca co i (by first | assumption | omega | decide)) mX5_isClosed dX5_all_23 tb_812 pX5_isClosed ⟨Nat.le_of_ble_eq_true rfl, Nat.le_of_ble_eq_true rfl⟩ ⟨rfl, rfl⟩ ⟨Nat.zero_le _, Nat.zero_le _⟩ rfl (Nat.le_of_ble_eq_true rfl) [0, 1, 2, 3, 4, 5, 6, 7, 8] [] rfl rfl (by decide) (by decide) (by decide) rfl rfl [0, 1, 2, 3, 4, 5, 6, 7, 8] (by decide) (wM K m q1 q2 q3 q4 q5 q6 q7 q8 S P H T X Z n ru ty cl sp ca co) rfl ?_
          refine gx_if_eq_b (pc := 26) hB 33 dX5_all_26 (by decide) (fun c_4 => ?_) (fun c_4 => ?_)
          · refine gx_iconst (pc := 33) hB dX5_all_33 0 (by decide) ?_
            refine gx_goto (pc := 34) hB 43 dX5_all_34 (by decide) ?_
            refine gx_iadd (pc := 43) hB dX5_all_43 ?_
            refine gx_top (show mAllN S k i + 0 = (mAllN S k i) from Int32.add_zero _) ?_
            refine gx_istore_n (pc := 44) hB dX5_all_44 (by decide) [(2, .int (mAllN S k i)), (0, .ref m), (1, .int (nI k)), (3, .int (nI i))] rfl ?_
            refine gx_iinc (pc := 45) hB dX5_all_45 3 (by decide) rfl (nI (i + 1)) (nI_1 _) [(3, .int (nI (i + 1))), (2, .int (mAllN S k i)), (0, .ref m), (1, .int (nI k))] rfl ?_
            refine gx_goto (pc := 48) hB 4 dX5_all_48 (by decide) ?_
            have g2 : mAllN S k i = mAllN S k (i + 1) := by simp [mAllN, Int32.not_le.mp c_2, eq_false c_2, eq_true c_3, c_4]
            refine gx_sub hB (lv' := [(0, .ref m), (1, .int (nI k)), (2, .int (mAllN S k i)), (3, .int (nI (i + 1)))]) [2, 3, 1, 0] rfl ?_
            refine gx_all (ws' := wM K m q1 q2 q3 q4 q5 q6 q7 q8 S P H T X Z n ru ty cl sp ca co) (lv' := [(0, .ref m), (1, .int (nI k)), (2, .int (mAllN S k (i + 1))), (3, .int (nI (i + 1)))]) (rfl) (by rw [← g2]) ?_
            exact ih4 (i + 1) (by omega)
          · refine gx_iconst (pc := 29) hB dX5_all_29 1 (by decide) ?_
            refine gx_goto (pc := 30) hB 43 dX5_all_30 (by decide) ?_
            refine gx_iadd (pc := 43) hB dX5_all_43 ?_
            refine gx_istore_n (pc := 44) hB dX5_all_44 (by decide) [(2, .int (mAllN S k i + 1)), (0, .ref m), (1, .int (nI k)), (3, .int (nI i))] rfl ?_
            refine gx_iinc (pc := 45) hB dX5_all_45 3 (by decide) rfl (nI (i + 1)) (nI_1 _) [(3, .int (nI (i + 1))), (2, .int (mAllN S k i + 1)), (0, .ref m), (1, .int (nI k))] rfl ?_
            refine gx_goto (pc := 48) hB 4 dX5_all_48 (by decide) ?_
            have g2 : mAllN S k i + 1 = mAllN S k (i + 1) := by simp [mAllN, Int32.not_le.mp c_2, eq_false c_2, eq_true c_3, c_4]
            refine gx_sub hB (lv' := [(0, .ref m), (1, .int (nI k)), (2, .int (mAllN S k i + 1)), (3, .int (nI (i + 1)))]) [2, 3, 1, 0] rfl ?_
            refine gx_all (ws' := wM K m q1 q2 q3 q4 q5 q6 q7 q8 S P H T X Z n ru ty cl sp ca co) (lv' := [(0, .ref m), (1, .int (nI k)), (2, .int (mAllN S k (i + 1))), (3, .int (nI (i + 1)))]) (rfl) (by rw [← g2]) ?_
            exact ih4 (i + 1) (by omega)
  refine gx_sub hB (lv' := [(0, .ref m), (1, .int (nI k)), (2, .int 0), (3, .int 0)]) [2, 3, 1, 0] rfl ?_
  refine gx_all (ws' := wM K m q1 q2 q3 q4 q5 q6 q7 q8 S P H T X Z n ru ty cl sp ca co) (lv' := [(0, .ref m), (1, .int (nI k)), (2, .int (mAllN S k 0)), (3, .int (nI 0))]) (rfl) (rfl) ?_
  exact loop_4 (a) 0 (by omega)
theorem pX5_consents : (parseMethodDescriptor yX5_consents.desc).map (fun d => d.parameters.length) = some 2 := by decide +kernel
theorem mX5_consents : gx_M yX5_consents cX5_consents 4 (some .int) := ⟨tb_964, tb_965, tb_73, tb_966, by decide, by decide⟩
set_option maxHeartbeats 4000000 in
set_option maxRecDepth 100000 in
theorem c_X5_consents (l : Launch) (K : gx_K) (m q1 q2 q3 q4 q5 q6 q7 q8 : Nat) (S P H T X Z : Nat → Int32) (n : Nat) (ru : Bool) (ty : Nat) (cl : Int32) (sp : Nat) (ca : Int32) (co : Nat) (a b c e : Nat) (x y : Int32) (h0 : sOk S a b c e) : gx_Ctr l K yX5_consents cX5_consents 4 (some .int) (rmm 4 71) [.ref m, .int x, .int y] (wM K m q1 q2 q3 q4 q5 q6 q7 q8 S P H T X Z n ru ty cl sp ca co) (gx_D (some (.int (mConsents S b c x y))) (wM K m q1 q2 q3 q4 q5 q6 q7 q8 S P H T X Z n ru ty cl sp ca co)) := by
  refine gx_of (by decide) (Nat.le_of_ble_eq_true rfl) (fun G hC => ?_)
  have hB := hC.b
  refine gx_lv (lv' := [(0, .ref m), (1, .int x), (2, .int y)]) rfl ?_
  have hb0 := h0.1
  refine gx_aload_n (pc := 0) hB dX5_consents_0 0 rfl ?_
  refine gx_iload_n (pc := 1) hB dX5_consents_1 1 rfl ?_
  refine gx_iload_n (pc := 2) hB dX5_consents_2 2 rfl ?_
  refine gx_dVi (pc := 3) (r := bI (sTwo S x y)) (wr := []) hB (c_X5_areTwo l K m q1 q2 q3 q4 q5 q6 q7 q8 S P H T X Z n ru ty cl sp ca co x y ) mX5_areTwo dX5_consents_3 tb_894 pX5_areTwo ⟨Nat.le_of_ble_eq_true rfl, Nat.le_of_ble_eq_true rfl⟩ ⟨rfl, rfl⟩ ⟨Nat.zero_le _, Nat.zero_le _⟩ rfl (Nat.le_of_ble_eq_true rfl) [0, 1, 2, 3, 4, 5, 6, 7, 8] [] rfl rfl (by decide) (by decide) (by decide) rfl rfl [0, 1, 2, 3, 4, 5, 6, 7, 8] (by decide) (wM K m q1 q2 q3 q4 q5 q6 q7 q8 S P H T X Z n ru ty cl sp ca co) rfl ?_
  refine gx_if_ne_b (pc := 6) hB 11 dX5_consents_6 (by decide) (fun c_1 => ?_) (fun c_1 => ?_)
  · obtain ⟨p, h_p, rfl⟩ := isP_of h0 (two_of c_1).1
    have s_p : (nI p).toNatClampNeg = p := nI_clamp (by omega)
    obtain ⟨q, h_q, rfl⟩ := isP_of h0 (two_of c_1).2
    have s_q : (nI q).toNatClampNeg = q := nI_clamp (by omega)
    refine gx_aload_n (pc := 11) hB dX5_consents_11 0 rfl ?_
    refine gx_iload_n (pc := 12) hB dX5_consents_12 1 rfl ?_
    refine gx_iconst (pc := 13) hB dX5_consents_13 (-1) (by decide) ?_
    refine gx_dVi (pc := 14) (r := mWsN S c p (-1) b) (wr := []) hB (c_X5_weights l K m q1 q2 q3 q4 q5 q6 q7 q8 S P H T X Z n ru ty cl sp ca co b c p (-1) h0.1.2.2.1 (by first | assumption | omega | decide) h0.1.2.1 (by first | assumption | omega | decide) (by first | assumption | omega | decide)) mX5_weights dX5_consents_14 tb_906 pX5_weights ⟨Nat.le_of_ble_eq_true rfl, Nat.le_of_ble_eq_true rfl⟩ ⟨rfl, rfl⟩ ⟨Nat.zero_le _, Nat.zero_le _⟩ rfl (Nat.le_of_ble_eq_true rfl) [0, 1, 2, 3, 4, 5, 6, 7, 8] [] rfl rfl (by decide) (by decide) (by decide) rfl rfl [0, 1, 2, 3, 4, 5, 6, 7, 8] (by decide) (wM K m q1 q2 q3 q4 q5 q6 q7 q8 S P H T X Z n ru ty cl sp ca co) rfl ?_
    refine gx_istore_n (pc := 17) hB dX5_consents_17 (by decide) [(3, .int (mWsN S c p (-1) b)), (0, .ref m), (1, .int (nI p)), (2, .int (nI q))] rfl ?_
    refine gx_iload_n (pc := 18) hB dX5_consents_18 0 rfl ?_
    refine gx_if_ne (pc := 19) hB 27 dX5_consents_19 (by decide) (fun c_2 => ?_) (fun c_2 => ?_)
    · refine gx_bipush (pc := 27) hB dX5_consents_27 100 (by decide) ?_
      refine gx_aload_n (pc := 29) hB dX5_consents_29 1 rfl ?_
      refine gx_iload_n (pc := 30) hB dX5_consents_30 2 rfl ?_
      refine gx_iload_n (pc := 31) hB dX5_consents_31 3 rfl ?_
      refine gx_dVi (pc := 32) (r := mWsN S c p (nI q) b) (wr := []) hB (c_X5_weights l K m q1 q2 q3 q4 q5 q6 q7 q8 S P H T X Z n ru ty cl sp ca co b c p (nI q) h0.1.2.2.1 (by first | assumption | omega | decide) h0.1.2.1 (by first | assumption | omega | decide) (by first | assumption | omega | decide)) mX5_weights dX5_consents_32 tb_906 pX5_weights ⟨Nat.le_of_ble_eq_true rfl, Nat.le_of_ble_eq_true rfl⟩ ⟨rfl, rfl⟩ ⟨Nat.zero_le _, Nat.zero_le _⟩ rfl (Nat.le_of_ble_eq_true rfl) [0, 1, 2, 3, 4, 5, 6, 7, 8] [] rfl rfl (by decide) (by decide) (by decide) rfl rfl [0, 1, 2, 3, 4, 5, 6, 7, 8] (by decide) (wM K m q1 q2 q3 q4 q5 q6 q7 q8 S P H T X Z n ru ty cl sp ca co) rfl ?_
      refine gx_imul (pc := 35) hB dX5_consents_35 ?_
      refine gx_iload_n (pc := 36) hB dX5_consents_36 0 rfl ?_
      refine gx_idiv (pc := 37) hB dX5_consents_37 c_2 ?_
      have e1 : (mConsents S b c (nI p) (nI q)) = ((100 * (mWsN S c p (nI q) b)) / (mWsN S c p (-1) b)) := by simp [mConsents, c_1, s_p, s_q, eq_false c_2]
      exact gx_iret (pc := 38) hC dX5_consents_38 (Nat.zero_le _) (Nat.zero_le _) (⟨by rw [e1], rfl⟩)
    · refine gx_bipush (pc := 22) hB dX5_consents_22 (-4) (by decide) ?_
      refine gx_goto (pc := 24) hB 38 dX5_consents_24 (by decide) ?_
      have e1 : (mConsents S b c (nI p) (nI q)) = (-4) := by simp [mConsents, c_1, s_p, s_q, eq_true c_2]
      exact gx_iret (pc := 38) hC dX5_consents_38 (Nat.zero_le _) (Nat.zero_le _) (⟨by rw [e1], rfl⟩)
  · refine gx_iconst (pc := 9) hB dX5_consents_9 (-1) (by decide) ?_
    have e1 : mConsents S b c x y = (-1) := by simp [mConsents, c_1]
    exact gx_iret (pc := 10) hC dX5_consents_10 (Nat.zero_le _) (Nat.zero_le _) (⟨by rw [e1], rfl⟩)
theorem pX5_later : (parseMethodDescriptor yX5_later.desc).map (fun d => d.parameters.length) = some 2 := by decide +kernel
theorem mX5_later : gx_M yX5_later cX5_later 5 (some .int) := ⟨tb_968, tb_969, tb_73, tb_970, by decide, by decide⟩
set_option maxHeartbeats 4000000 in
set_option maxRecDepth 100000 in
theorem c_X5_later (l : Launch) (K : gx_K) (m q1 q2 q3 q4 q5 q6 q7 q8 : Nat) (S P H T X Z : Nat → Int32) (n : Nat) (ru : Bool) (ty : Nat) (cl : Int32) (sp : Nat) (ca : Int32) (co : Nat) (a b c e : Nat) (x y : Int32) (h0 : sOk S a b c e) : gx_Ctr l K yX5_later cX5_later 5 (some .int) (rmm 5 94) [.ref m, .int x, .int y] (wM K m q1 q2 q3 q4 q5 q6 q7 q8 S P H T X Z n ru ty cl sp ca co) (gx_D (some (.int (mLater S c e x y))) (wM K m q1 q2 q3 q4 q5 q6 q7 q8 S P H (if (sIsP S x && bIn y 1 60 && !sClosed S x.toNatClampNeg) then S else T) X Z n ru ty cl sp ca co)) := by
  refine gx_of (by decide) (Nat.le_of_ble_eq_true rfl) (fun G hC => ?_)
  have hB := hC.b
  refine gx_lv (lv' := [(0, .ref m), (1, .int x), (2, .int y)]) rfl ?_
  have hb0 := h0.1
  refine gx_aload_n (pc := 0) hB dX5_later_0 0 rfl ?_
  refine gx_iload_n (pc := 1) hB dX5_later_1 1 rfl ?_
  refine gx_dVi (pc := 2) (r := bI (sIsP S x)) (wr := []) hB (c_X5_isPurpose l K m q1 q2 q3 q4 q5 q6 q7 q8 S P H T X Z n ru ty cl sp ca co x ) mX5_isPurpose dX5_later_2 tb_808 pX5_isPurpose ⟨Nat.le_of_ble_eq_true rfl, Nat.le_of_ble_eq_true rfl⟩ ⟨rfl, rfl⟩ ⟨Nat.zero_le _, Nat.zero_le _⟩ rfl (Nat.le_of_ble_eq_true rfl) [0, 1, 2, 3, 4, 5, 6, 7, 8] [] rfl rfl (by decide) (by decide) (by decide) rfl rfl [0, 1, 2, 3, 4, 5, 6, 7, 8] (by decide) (wM K m q1 q2 q3 q4 q5 q6 q7 q8 S P H T X Z n ru ty cl sp ca co) rfl ?_
  refine gx_if_eq_b (pc := 5) hB 18 dX5_later_5 (by decide) (fun c_1 => ?_) (fun c_1 => ?_)
  · refine gx_iconst (pc := 18) hB dX5_later_18 (-1) (by decide) ?_
    have e1 : mLater S c e x y = (-1) := by simp [mLater, c_1]
    have f0 : (if (sIsP S x && bIn y 1 60 && !sClosed S x.toNatClampNeg) then S else T) = T := by simp [mLater, c_1]
    exact gx_iret (pc := 19) hC dX5_later_19 (Nat.zero_le _) (Nat.zero_le _) (⟨by rw [e1], by rw [f0]⟩)
  · obtain ⟨p, h_p, rfl⟩ := isP_of h0 c_1
    have s_p : (nI p).toNatClampNeg = p := nI_clamp (by omega)
    refine gx_iload_n (pc := 8) hB dX5_later_8 2 rfl ?_
    refine gx_iconst (pc := 9) hB dX5_later_9 1 (by decide) ?_
    refine gx_bipush (pc := 10) hB dX5_later_10 60 (by decide) ?_
    refine gx_dSi (pc := 12) (r := bI (bIn y 1 60)) (wr := [(m, .inr (5, [.ref q1, .ref q2, .ref q3, .ref q4, .int (nI n), .int (bI ru), .ref q5, .int (nI ty), .ref q6, .ref q7, .int cl, .int (nI sp), .int ca, .int (nI co), .ref q8])), (q1, .inl (K.2.1.2.1, 345, .inl S)), (q2, .inl (K.2.1.2.1, 1380, .inl P)), (q3, .inl (K.2.1.2.1, 345, .inl H)), (q4, .inl (K.2.1.2.1, 345, .inl T)), (q5, .inl (K.2.1.2.1, 80, .inl X)), (q6, .inl (K.2.1.2.2.1, 9, .inr (.inl mW))), (q7, .inl (K.2.1.2.1, 9, .inl mN)), (q8, .inl (K.2.1.2.1, 4, .inl Z))]) hB (c_X5_in l K y 1 60 ) mX5_in dX5_later_12 tb_797 pX5_in ⟨Nat.le_of_ble_eq_true rfl, Nat.le_of_ble_eq_true rfl⟩ ⟨rfl, rfl⟩ ⟨Nat.zero_le _, Nat.zero_le _⟩ rfl (Nat.le_of_ble_eq_true rfl) [] [0, 1, 2, 3, 4, 5, 6, 7, 8] rfl rfl (by decide) (by decide) (by decide) [0, 1, 2, 3, 4, 5, 6, 7, 8] (by decide) (wM K m q1 q2 q3 q4 q5 q6 q7 q8 S P H T X Z n ru ty cl sp ca co) rfl ?_
    refine gx_if_ne_b (pc := 15) hB 20 dX5_later_15 (by decide) (fun c_2 => ?_) (fun c_2 => ?_)
    · refine gx_aload_n (pc := 20) hB dX5_later_20 0 rfl ?_
      refine gx_iload_n (pc := 21) hB dX5_later_21 1 rfl ?_
      refine gx_dVi (pc := 22) (r := bI (sClosed S p)) (wr := []) hB (c_X5_isClosed l K m q1 q2 q3 q4 q5 q6 q7 q8 S P H T X Z n ru ty cl sp ca co p (by first | assumption | omega | decide)) mX5_isClosed dX5_later_22 tb_812 pX5_isClosed ⟨Nat.le_of_ble_eq_true rfl, Nat.le_of_ble_eq_true rfl⟩ ⟨rfl, rfl⟩ ⟨Nat.zero_le _, Nat.zero_le _⟩ rfl (Nat.le_of_ble_eq_true rfl) [0, 1, 2, 3, 4, 5, 6, 7, 8] [] rfl rfl (by decide) (by decide) (by decide) rfl rfl [0, 1, 2, 3, 4, 5, 6, 7, 8] (by decide) (wM K m q1 q2 q3 q4 q5 q6 q7 q8 S P H T X Z n ru ty cl sp ca co) rfl ?_
      refine gx_if_eq_b (pc := 25) hB 31 dX5_later_25 (by decide) (fun c_3 => ?_) (fun c_3 => ?_)
      · obtain ⟨u, h_u, rfl⟩ := bIn1_of c_2
        have s_u : (nI u).toNatClampNeg = u := nI_clamp (by omega)
        refine gx_aload_n (pc := 31) hB dX5_later_31 0 rfl ?_
        refine gx_get (pc := 32) hB dX5_later_32 inX5 rfl 0 rfl 0 (by decide) tb_726 rfl rfl ?_
        refine gx_aload_n (pc := 35) hB dX5_later_35 0 rfl ?_
        refine gx_get (pc := 36) hB dX5_later_36 inX5 rfl 0 rfl 3 (by decide) tb_729 rfl rfl ?_
        refine gx_dSv (pc := 39) (wr := [(m, .inr (5, [.ref q1, .ref q2, .ref q3, .ref q4, .int (nI n), .int (bI ru), .ref q5, .int (nI ty), .ref q6, .ref q7, .int cl, .int (nI sp), .int ca, .int (nI co), .ref q8])), (q2, .inl (K.2.1.2.1, 1380, .inl P)), (q3, .inl (K.2.1.2.1, 345, .inl H)), (q5, .inl (K.2.1.2.1, 80, .inl X)), (q6, .inl (K.2.1.2.2.1, 9, .inr (.inl mW))), (q7, .inl (K.2.1.2.1, 9, .inl mN)), (q8, .inl (K.2.1.2.1, 4, .inl Z))]) hB (c_X5_copies l K q1 q4 S T ) mX5_copies dX5_later_39 tb_860 pX5_copies ⟨Nat.le_of_ble_eq_true rfl, Nat.le_of_ble_eq_true rfl⟩ ⟨rfl, rfl⟩ ⟨Nat.zero_le _, Nat.zero_le _⟩ rfl (Nat.le_of_ble_eq_true rfl) [1, 4] [0, 2, 3, 5, 6, 7, 8] rfl rfl (by decide) (by decide) (by decide) [0, 7, 1, 2, 8, 3, 4, 5, 6] (by decide) (wM K m q1 q2 q3 q4 q5 q6 q7 q8 S P H S X Z n ru ty cl sp ca co) rfl ?_
        refine gx_aload_n (pc := 42) hB dX5_later_42 0 rfl ?_
        refine gx_iload_n (pc := 43) hB dX5_later_43 2 rfl ?_
        refine gx_dVi (pc := 44) (r := (mGoM S c e u).1) (wr := []) hB (c_X5_goes l K m q1 q2 q3 q4 q5 q6 q7 q8 S P H S X Z n ru ty cl sp ca co a b c e u (by first | assumption | omega | decide) (by first | assumption | omega | decide)) mX5_goes dX5_later_44 tb_918 pX5_goes ⟨Nat.le_of_ble_eq_true rfl, Nat.le_of_ble_eq_true rfl⟩ ⟨rfl, rfl⟩ ⟨Nat.zero_le _, Nat.zero_le _⟩ rfl (Nat.le_of_ble_eq_true rfl) [0, 1, 2, 3, 4, 5, 6, 7, 8] [] rfl rfl (by decide) (by decide) (by decide) rfl rfl [0, 1, 2, 3, 4, 5, 6, 7, 8] (by decide) (wM K m q1 q2 q3 q4 q5 q6 q7 q8 ((mGoM S c e u).2.2) P H S X Z n ru ty cl sp ca co) rfl ?_
        refine gx_istore_n (pc := 47) hB dX5_later_47 (by decide) [(3, .int ((mGoM S c e u).1)), (0, .ref m), (1, .int (nI p)), (2, .int (nI u))] rfl ?_
        refine gx_iload_n (pc := 48) hB dX5_later_48 0 rfl ?_
        refine gx_if_ge (pc := 49) hB 56 dX5_later_49 (by decide) (fun c_4 => ?_) (fun c_4 => ?_)
        · refine gx_aload_n (pc := 56) hB dX5_later_56 1 rfl ?_
          refine gx_iload_n (pc := 57) hB dX5_later_57 2 rfl ?_
          refine gx_iconst (pc := 58) hB dX5_later_58 0 (by decide) ?_
          refine gx_dVi (pc := 59) (r := sP ((mGoM S c e u).2.2) p 0) (wr := []) hB (c_X5_ofPurpose l K m q1 q2 q3 q4 q5 q6 q7 q8 ((mGoM S c e u).2.2) P H S X Z n ru ty cl sp ca co p 0 (by first | assumption | omega | decide) (by first | assumption | omega | decide)) mX5_ofPurpose dX5_later_59 tb_816 pX5_ofPurpose ⟨Nat.le_of_ble_eq_true rfl, Nat.le_of_ble_eq_true rfl⟩ ⟨rfl, rfl⟩ ⟨Nat.zero_le _, Nat.zero_le _⟩ rfl (Nat.le_of_ble_eq_true rfl) [0, 1, 2, 3, 4, 5, 6, 7, 8] [] rfl rfl (by decide) (by decide) (by decide) rfl rfl [0, 1, 2, 3, 4, 5, 6, 7, 8] (by decide) (wM K m q1 q2 q3 q4 q5 q6 q7 q8 ((mGoM S c e u).2.2) P H S X Z n ru ty cl sp ca co) rfl ?_
          refine gx_istore (pc := 62) hB dX5_later_62 (by decide) [(4, .int (sP ((mGoM S c e u).2.2) p 0)), (3, .int ((mGoM S c e u).1)), (0, .ref m), (1, .int (nI p)), (2, .int (nI u))] rfl ?_
          refine gx_aload_n (pc := 64) hB dX5_later_64 2 rfl ?_
          refine gx_get (pc := 65) hB dX5_later_65 inX5 rfl 0 rfl 3 (by decide) tb_729 rfl rfl ?_
          refine gx_aload_n (pc := 68) hB dX5_later_68 2 rfl ?_
          refine gx_get (pc := 69) hB dX5_later_69 inX5 rfl 0 rfl 0 (by decide) tb_726 rfl rfl ?_
          refine gx_dSv (pc := 72) (wr := [(m, .inr (5, [.ref q1, .ref q2, .ref q3, .ref q4, .int (nI n), .int (bI ru), .ref q5, .int (nI ty), .ref q6, .ref q7, .int cl, .int (nI sp), .int ca, .int (nI co), .ref q8])), (q2, .inl (K.2.1.2.1, 1380, .inl P)), (q3, .inl (K.2.1.2.1, 345, .inl H)), (q5, .inl (K.2.1.2.1, 80, .inl X)), (q6, .inl (K.2.1.2.2.1, 9, .inr (.inl mW))), (q7, .inl (K.2.1.2.1, 9, .inl mN)), (q8, .inl (K.2.1.2.1, 4, .inl Z))]) hB (c_X5_copies l K q4 q1 S ((mGoM S c e u).2.2) ) mX5_copies dX5_later_72 tb_860 pX5_copies ⟨Nat.le_of_ble_eq_true rfl, Nat.le_of_ble_eq_true rfl⟩ ⟨rfl, rfl⟩ ⟨Nat.zero_le _, Nat.zero_le _⟩ rfl (Nat.le_of_ble_eq_true rfl) [4, 1] [0, 2, 3, 5, 6, 7, 8] rfl rfl (by decide) (by decide) (by decide) [0, 8, 1, 2, 7, 3, 4, 5, 6] (by decide) (wM K m q1 q2 q3 q4 q5 q6 q7 q8 S P H S X Z n ru ty cl sp ca co) rfl ?_
          refine gx_iload (pc := 75) hB dX5_later_75 0 rfl ?_
          have e1 : (mLater S c e (nI p) (nI u)) = (sP ((mGoM S c e u).2.2) p 0) := by simp [mLater, c_1, s_p, c_2, c_3, s_u, c_4, eq_false (Int32.not_lt.mpr c_4)]
          have f0 : (if (sIsP S (nI p) && bIn (nI u) 1 60 && !sClosed S (nI p).toNatClampNeg) then S else T) = S := by simp [mLater, c_1, s_p, c_2, c_3, s_u, c_4, eq_false (Int32.not_lt.mpr c_4)]
          exact gx_iret (pc := 77) hC dX5_later_77 (Nat.zero_le _) (Nat.zero_le _) (⟨by rw [e1], by rw [f0]⟩)
        · refine gx_iconst (pc := 52) hB dX5_later_52 0 (by decide) ?_
          refine gx_goto (pc := 53) hB 62 dX5_later_53 (by decide) ?_
          refine gx_istore (pc := 62) hB dX5_later_62 (by decide) [(4, .int 0), (3, .int ((mGoM S c e u).1)), (0, .ref m), (1, .int (nI p)), (2, .int (nI u))] rfl ?_
          refine gx_aload_n (pc := 64) hB dX5_later_64 2 rfl ?_
          refine gx_get (pc := 65) hB dX5_later_65 inX5 rfl 0 rfl 3 (by decide) tb_729 rfl rfl ?_
          refine gx_aload_n (pc := 68) hB dX5_later_68 2 rfl ?_
          refine gx_get (pc := 69) hB dX5_later_69 inX5 rfl 0 rfl 0 (by decide) tb_726 rfl rfl ?_
          refine gx_dSv (pc := 72) (wr := [(m, .inr (5, [.ref q1, .ref q2, .ref q3, .ref q4, .int (nI n), .int (bI ru), .ref q5, .int (nI ty), .ref q6, .ref q7, .int cl, .int (nI sp), .int ca, .int (nI co), .ref q8])), (q2, .inl (K.2.1.2.1, 1380, .inl P)), (q3, .inl (K.2.1.2.1, 345, .inl H)), (q5, .inl (K.2.1.2.1, 80, .inl X)), (q6, .inl (K.2.1.2.2.1, 9, .inr (.inl mW))), (q7, .inl (K.2.1.2.1, 9, .inl mN)), (q8, .inl (K.2.1.2.1, 4, .inl Z))]) hB (c_X5_copies l K q4 q1 S ((mGoM S c e u).2.2) ) mX5_copies dX5_later_72 tb_860 pX5_copies ⟨Nat.le_of_ble_eq_true rfl, Nat.le_of_ble_eq_true rfl⟩ ⟨rfl, rfl⟩ ⟨Nat.zero_le _, Nat.zero_le _⟩ rfl (Nat.le_of_ble_eq_true rfl) [4, 1] [0, 2, 3, 5, 6, 7, 8] rfl rfl (by decide) (by decide) (by decide) [0, 8, 1, 2, 7, 3, 4, 5, 6] (by decide) (wM K m q1 q2 q3 q4 q5 q6 q7 q8 S P H S X Z n ru ty cl sp ca co) rfl ?_
          refine gx_iload (pc := 75) hB dX5_later_75 0 rfl ?_
          have e1 : (mLater S c e (nI p) (nI u)) = 0 := by simp [mLater, c_1, s_p, c_2, c_3, s_u, Int32.not_le.mp c_4, eq_false c_4]
          have f0 : (if (sIsP S (nI p) && bIn (nI u) 1 60 && !sClosed S (nI p).toNatClampNeg) then S else T) = S := by simp [mLater, c_1, s_p, c_2, c_3, s_u, Int32.not_le.mp c_4, eq_false c_4]
          exact gx_iret (pc := 77) hC dX5_later_77 (Nat.zero_le _) (Nat.zero_le _) (⟨by rw [e1], by rw [f0]⟩)
      · refine gx_bipush (pc := 28) hB dX5_later_28 (-2) (by decide) ?_
        have e1 : (mLater S c e (nI p) y) = (-2) := by simp [mLater, c_1, s_p, c_2, c_3]
        have f0 : (if (sIsP S (nI p) && bIn y 1 60 && !sClosed S (nI p).toNatClampNeg) then S else T) = T := by simp [mLater, c_1, s_p, c_2, c_3]
        exact gx_iret (pc := 30) hC dX5_later_30 (Nat.zero_le _) (Nat.zero_le _) (⟨by rw [e1], by rw [f0]⟩)
    · refine gx_iconst (pc := 18) hB dX5_later_18 (-1) (by decide) ?_
      have e1 : (mLater S c e (nI p) y) = (-1) := by simp [mLater, c_1, s_p, c_2]
      have f0 : (if (sIsP S (nI p) && bIn y 1 60 && !sClosed S (nI p).toNatClampNeg) then S else T) = T := by simp [mLater, c_1, s_p, c_2]
      exact gx_iret (pc := 19) hC dX5_later_19 (Nat.zero_le _) (Nat.zero_le _) (⟨by rw [e1], by rw [f0]⟩)
