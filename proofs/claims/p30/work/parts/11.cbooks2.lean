abbrev wBr (K : gx_K) (h t1 t2 t3 t4 c r : Nat) (C F : Nat → Int32) : va_W := [(h, .inr (0, [.ref c, .ref t1, .ref t2, .ref t3, .ref t4])), (c, .inl (K.2.1.2.1, 351, .inl C)), (r, .inl (K.2.1.2.1, 351, .inl F))]
abbrev wBB (K : gx_K) (h t1 t2 t3 t4 c h2 s1 s2 s3 s4 c2 : Nat) (C F : Nat → Int32) : va_W := [(h, .inr (0, [.ref c, .ref t1, .ref t2, .ref t3, .ref t4])), (c, .inl (K.2.1.2.1, 351, .inl C)), (h2, .inr (0, [.ref c2, .ref s1, .ref s2, .ref s3, .ref s4])), (c2, .inl (K.2.1.2.1, 351, .inl F))]
theorem pX0_passMonths : (parseMethodDescriptor yX0_passMonths.desc).map (fun d => d.parameters.length) = some 2 := by decide +kernel
theorem mX0_passMonths : gx_M yX0_passMonths cX0_passMonths 6 (some .int) := ⟨tb_480, tb_481, tb_28, tb_482, by decide, by decide⟩
set_option maxHeartbeats 4000000 in
set_option maxRecDepth 100000 in
theorem c_X0_passMonths (l : Launch) (K : gx_K) (h t1 t2 t3 t4 c : Nat) (C : Nat → Int32) (x y : Int32)  : gx_Ctr l K yX0_passMonths cX0_passMonths 6 (some .int) (rmm 4 72) [.ref h, .int x, .int y] (wB K h t1 t2 t3 t4 c C) (gx_D (some (.int ((bPass C x y).1))) (wB K h t1 t2 t3 t4 c ((bPass C x y).2))) := by
  refine gx_of (by decide) (Nat.le_of_ble_eq_true rfl) (fun G hC => ?_)
  have hB := hC.b
  refine gx_lv (lv' := [(0, .ref h), (1, .int x), (2, .int y)]) rfl ?_
  refine gx_iload_n (pc := 0) hB dX0_passMonths_0 1 rfl ?_
  refine gx_dSi (pc := 1) (r := bI (bSpan x)) (wr := [(h, .inr (0, [.ref c, .ref t1, .ref t2, .ref t3, .ref t4])), (t1, .inr (3, [.ref c, .int (nI 3), .int (nI 6), .int (nI 12)])), (t2, .inr (3, [.ref c, .int (nI 76), .int (nI 8), .int (nI 7)])), (t3, .inr (3, [.ref c, .int (nI 133), .int (nI 24), .int (nI 7)])), (t4, .inr (3, [.ref c, .int (nI 302), .int (nI 6), .int (nI 8)])), (c, .inl (K.2.1.2.1, 351, .inl C))]) hB (c_X0_isSpan l K x ) mX0_isSpan dX0_passMonths_1 tb_293 pX0_isSpan ⟨Nat.le_of_ble_eq_true rfl, Nat.le_of_ble_eq_true rfl⟩ ⟨rfl, rfl⟩ ⟨Nat.zero_le _, Nat.zero_le _⟩ rfl (Nat.le_of_ble_eq_true rfl) [] [0, 1, 2, 3, 4, 5] rfl rfl (by decide) (by decide) (by decide) [0, 1, 2, 3, 4, 5] (by decide) (wB K h t1 t2 t3 t4 c C) rfl ?_
  refine gx_if_ne_b (pc := 4) hB 9 dX0_passMonths_4 (by decide) (fun c_1 => ?_) (fun c_1 => ?_)
  · refine gx_aload_n (pc := 9) hB dX0_passMonths_9 0 rfl ?_
    refine gx_get (pc := 10) hB dX0_passMonths_10 inX0 rfl 0 rfl 0 (by decide) tb_80 rfl rfl ?_
    refine gx_iconst (pc := 13) hB dX0_passMonths_13 0 (by decide) ?_
    refine gx_iald (pc := 14) hB dX0_passMonths_14 5 1 rfl rfl 0 rfl (by decide) (by decide) ?_
    refine gx_iload_n (pc := 15) hB dX0_passMonths_15 1 rfl ?_
    refine gx_iadd (pc := 16) hB dX0_passMonths_16 ?_
    refine gx_iload_n (pc := 17) hB dX0_passMonths_17 2 rfl ?_
    refine gx_icmp_le (pc := 18) hB 24 dX0_passMonths_18 (by decide) (fun c_2 => ?_) (fun c_2 => ?_)
    · refine gx_aload_n (pc := 24) hB dX0_passMonths_24 0 rfl ?_
      refine gx_get (pc := 25) hB dX0_passMonths_25 inX0 rfl 0 rfl 3 (by decide) tb_83 rfl rfl ?_
      refine gx_dVi (pc := 28) (r := C 133) (wr := [(h, .inr (0, [.ref c, .ref t1, .ref t2, .ref t3, .ref t4])), (t1, .inr (3, [.ref c, .int (nI 3), .int (nI 6), .int (nI 12)])), (t2, .inr (3, [.ref c, .int (nI 76), .int (nI 8), .int (nI 7)])), (t4, .inr (3, [.ref c, .int (nI 302), .int (nI 6), .int (nI 8)]))]) hB (c_X3_size l K t3 c 133 24 7 C (by first | decide | (unfold tHb; decide))) mX3_size dX0_passMonths_28 tb_195 pX3_size ⟨Nat.le_of_ble_eq_true rfl, Nat.le_of_ble_eq_true rfl⟩ ⟨rfl, rfl⟩ ⟨Nat.zero_le _, Nat.zero_le _⟩ rfl (Nat.le_of_ble_eq_true rfl) [3, 5] [0, 1, 2, 4] rfl rfl (by decide) (by decide) (by decide) rfl rfl [0, 1, 2, 4, 3, 5] (by decide) (wB K h t1 t2 t3 t4 c C) rfl ?_
      refine gx_istore_n (pc := 31) hB dX0_passMonths_31 (by decide) [(3, .int (C 133)), (0, .ref h), (1, .int x), (2, .int y)] rfl ?_
      refine gx_iconst (pc := 32) hB dX0_passMonths_32 0 (by decide) ?_
      refine gx_istore (pc := 33) hB dX0_passMonths_33 (by decide) [(4, .int 0), (3, .int (C 133)), (0, .ref h), (1, .int x), (2, .int y)] rfl ?_
      have loop_35 : ∀ dq j : Nat, j + dq = x.toNatClampNeg → G 0 0 (wB K h t1 t2 t3 t4 c (bMonths C j)) [(0, .ref h), (1, .int x), (2, .int y), (3, .int (C 133)), (4, .int (nI j))] 35 [] := by
        intro dq
        induction dq with
        | zero =>
          intro j hi35
          obtain rfl : x.toNatClampNeg = j := by omega
          refine gx_iload (pc := 35) hB dX0_passMonths_35 4 rfl ?_
          refine gx_iload_n (pc := 37) hB dX0_passMonths_37 1 rfl ?_
          refine gx_icmp_ge (pc := 38) hB 93 dX0_passMonths_38 (by decide) (fun c_3 => ?_) (fun c_3 => ?_)
          · refine gx_aload_n (pc := 93) hB dX0_passMonths_93 0 rfl ?_
            refine gx_get (pc := 94) hB dX0_passMonths_94 inX0 rfl 0 rfl 3 (by decide) tb_83 rfl rfl ?_
            refine gx_dVi (pc := 97) (r := (bMonths C x.toNatClampNeg) 133) (wr := [(h, .inr (0, [.ref c, .ref t1, .ref t2, .ref t3, .ref t4])), (t1, .inr (3, [.ref c, .int (nI 3), .int (nI 6), .int (nI 12)])), (t2, .inr (3, [.ref c, .int (nI 76), .int (nI 8), .int (nI 7)])), (t4, .inr (3, [.ref c, .int (nI 302), .int (nI 6), .int (nI 8)]))]) hB (c_X3_size l K t3 c 133 24 7 (bMonths C x.toNatClampNeg) (by first | decide | (unfold tHb; decide))) mX3_size dX0_passMonths_97 tb_195 pX3_size ⟨Nat.le_of_ble_eq_true rfl, Nat.le_of_ble_eq_true rfl⟩ ⟨rfl, rfl⟩ ⟨Nat.zero_le _, Nat.zero_le _⟩ rfl (Nat.le_of_ble_eq_true rfl) [3, 5] [0, 1, 2, 4] rfl rfl (by decide) (by decide) (by decide) rfl rfl [0, 1, 2, 4, 3, 5] (by decide) (wB K h t1 t2 t3 t4 c (bMonths C x.toNatClampNeg)) rfl ?_
            refine gx_iload_n (pc := 100) hB dX0_passMonths_100 3 rfl ?_
            refine gx_isub (pc := 101) hB dX0_passMonths_101 ?_
            have e1 : ((bPass C x y).1) = (((bMonths C x.toNatClampNeg) 133) - C 133) := by simp [bPass, bMonths, bMonth, c_1, c_2, eq_false (Int32.not_lt.mpr c_2), c_3, eq_false (Int32.not_lt.mpr c_3)]
            have f0 : ((bPass C x y).2) = bMonths C x.toNatClampNeg := by simp [bPass, bMonths, bMonth, c_1, c_2, eq_false (Int32.not_lt.mpr c_2), c_3, eq_false (Int32.not_lt.mpr c_3)]
            exact gx_iret (pc := 102) hC dX0_passMonths_102 (Nat.zero_le _) (Nat.zero_le _) (⟨by rw [e1], by rw [f0]⟩)
          · exact absurd (lpT (x := x) hi35) c_3
        | succ dq ih35 =>
          intro j hi35
          refine gx_iload (pc := 35) hB dX0_passMonths_35 4 rfl ?_
          refine gx_iload_n (pc := 37) hB dX0_passMonths_37 1 rfl ?_
          refine gx_icmp_ge (pc := 38) hB 93 dX0_passMonths_38 (by decide) (fun c_4 => ?_) (fun c_4 => ?_)
          · exact absurd c_4 (lpF (x := x) hi35)
          · refine gx_aload_n (pc := 41) hB dX0_passMonths_41 0 rfl ?_
            refine gx_get (pc := 42) hB dX0_passMonths_42 inX0 rfl 0 rfl 0 (by decide) tb_80 rfl rfl ?_
            refine gx_iconst (pc := 45) hB dX0_passMonths_45 0 (by decide) ?_
            refine gx_dup2 (pc := 46) hB dX0_passMonths_46 rfl rfl ?_
            refine gx_iald (pc := 47) hB dX0_passMonths_47 5 1 rfl rfl 0 rfl (by decide) (by decide) ?_
            refine gx_iconst (pc := 48) hB dX0_passMonths_48 1 (by decide) ?_
            refine gx_iadd (pc := 49) hB dX0_passMonths_49 ?_
            refine gx_iast (pc := 50) hB dX0_passMonths_50 5 1 rfl rfl 0 rfl (by decide) (by decide) (wB K h t1 t2 t3 t4 c (upd (bMonths C j) 0 (((bMonths C j) 0) + 1))) rfl ?_
            refine gx_iconst (pc := 51) hB dX0_passMonths_51 0 (by decide) ?_
            refine gx_istore (pc := 52) hB dX0_passMonths_52 (by decide) [(5, .int 0), (0, .ref h), (1, .int x), (2, .int y), (3, .int (C 133)), (4, .int (nI j))] rfl ?_
            have loop_54 : ∀ dq i : Nat, i + dq = ((upd (bMonths C j) 0 ((bMonths C j) 0 + 1)) 302).toNatClampNeg → G 0 0 (wB K h t1 t2 t3 t4 c (bRunN (upd (bMonths C j) 0 ((bMonths C j) 0 + 1)) i)) [(0, .ref h), (1, .int x), (2, .int y), (3, .int (C 133)), (4, .int (nI j)), (5, .int (nI i))] 54 [] := by
              intro dq
              induction dq with
              | zero =>
                intro i hi54
                obtain rfl : ((upd (bMonths C j) 0 ((bMonths C j) 0 + 1)) 302).toNatClampNeg = i := by omega
                refine gx_iload (pc := 54) hB dX0_passMonths_54 5 rfl ?_
                refine gx_aload_n (pc := 56) hB dX0_passMonths_56 0 rfl ?_
                refine gx_get (pc := 57) hB dX0_passMonths_57 inX0 rfl 0 rfl 4 (by decide) tb_84 rfl rfl ?_
                refine gx_dVi (pc := 60) (r := (bRunN (upd (bMonths C j) 0 ((bMonths C j) 0 + 1)) (((upd (bMonths C j) 0 ((bMonths C j) 0 + 1)) 302).toNatClampNeg)) 302) (wr := [(h, .inr (0, [.ref c, .ref t1, .ref t2, .ref t3, .ref t4])), (t1, .inr (3, [.ref c, .int (nI 3), .int (nI 6), .int (nI 12)])), (t2, .inr (3, [.ref c, .int (nI 76), .int (nI 8), .int (nI 7)])), (t3, .inr (3, [.ref c, .int (nI 133), .int (nI 24), .int (nI 7)]))]) hB (c_X3_size l K t4 c 302 6 8 (bRunN (upd (bMonths C j) 0 ((bMonths C j) 0 + 1)) (((upd (bMonths C j) 0 ((bMonths C j) 0 + 1)) 302).toNatClampNeg)) (by first | decide | (unfold tHb; decide))) mX3_size dX0_passMonths_60 tb_195 pX3_size ⟨Nat.le_of_ble_eq_true rfl, Nat.le_of_ble_eq_true rfl⟩ ⟨rfl, rfl⟩ ⟨Nat.zero_le _, Nat.zero_le _⟩ rfl (Nat.le_of_ble_eq_true rfl) [4, 5] [0, 1, 2, 3] rfl rfl (by decide) (by decide) (by decide) rfl rfl [0, 1, 2, 3, 4, 5] (by decide) (wB K h t1 t2 t3 t4 c (bRunN (upd (bMonths C j) 0 ((bMonths C j) 0 + 1)) (((upd (bMonths C j) 0 ((bMonths C j) 0 + 1)) 302).toNatClampNeg))) rfl ?_
                refine gx_top (show (bRunN (upd (bMonths C j) 0 ((bMonths C j) 0 + 1)) (((upd (bMonths C j) 0 ((bMonths C j) 0 + 1)) 302).toNatClampNeg)) 302 = (upd (bMonths C j) 0 ((bMonths C j) 0 + 1)) 302 from bRunN_302 _ _) ?_
                refine gx_icmp_ge (pc := 63) hB 87 dX0_passMonths_63 (by decide) (fun c_5 => ?_) (fun c_5 => ?_)
                · refine gx_iinc (pc := 87) hB dX0_passMonths_87 4 (by decide) rfl (nI (j + 1)) (nI_1 _) [(4, .int (nI (j + 1))), (0, .ref h), (1, .int x), (2, .int y), (3, .int (C 133)), (5, .int (nI (((upd (bMonths C j) 0 ((bMonths C j) 0 + 1)) 302).toNatClampNeg)))] rfl ?_
                  refine gx_goto (pc := 90) hB 35 dX0_passMonths_90 (by decide) ?_
                  have w0 : bRunN (upd (bMonths C j) 0 ((bMonths C j) 0 + 1)) (((upd (bMonths C j) 0 ((bMonths C j) 0 + 1)) 302).toNatClampNeg) = bMonths C (j + 1) := by simp [bPass, bMonths, bMonth, bRunN, c_1, c_2, eq_false (Int32.not_lt.mpr c_2), Int32.not_le.mp c_4, eq_false c_4, c_5, eq_false (Int32.not_lt.mpr c_5)]
                  refine gx_sub hB (lv' := [(0, .ref h), (1, .int x), (2, .int y), (3, .int (C 133)), (4, .int (nI (j + 1)))]) [1, 2, 3, 4, 0] rfl ?_
                  refine gx_all (ws' := wB K h t1 t2 t3 t4 c (bMonths C (j + 1))) (lv' := [(0, .ref h), (1, .int x), (2, .int y), (3, .int (C 133)), (4, .int (nI (j + 1)))]) (by rw [← w0]) (rfl) ?_
                  exact ih35 (j + 1) (by omega)
                · exact absurd (lpT (x := ((upd (bMonths C j) 0 ((bMonths C j) 0 + 1)) 302)) hi54) c_5
              | succ dq ih54 =>
                intro i hi54
                refine gx_iload (pc := 54) hB dX0_passMonths_54 5 rfl ?_
                refine gx_aload_n (pc := 56) hB dX0_passMonths_56 0 rfl ?_
                refine gx_get (pc := 57) hB dX0_passMonths_57 inX0 rfl 0 rfl 4 (by decide) tb_84 rfl rfl ?_
                refine gx_dVi (pc := 60) (r := (bRunN (upd (bMonths C j) 0 ((bMonths C j) 0 + 1)) i) 302) (wr := [(h, .inr (0, [.ref c, .ref t1, .ref t2, .ref t3, .ref t4])), (t1, .inr (3, [.ref c, .int (nI 3), .int (nI 6), .int (nI 12)])), (t2, .inr (3, [.ref c, .int (nI 76), .int (nI 8), .int (nI 7)])), (t3, .inr (3, [.ref c, .int (nI 133), .int (nI 24), .int (nI 7)]))]) hB (c_X3_size l K t4 c 302 6 8 (bRunN (upd (bMonths C j) 0 ((bMonths C j) 0 + 1)) i) (by first | decide | (unfold tHb; decide))) mX3_size dX0_passMonths_60 tb_195 pX3_size ⟨Nat.le_of_ble_eq_true rfl, Nat.le_of_ble_eq_true rfl⟩ ⟨rfl, rfl⟩ ⟨Nat.zero_le _, Nat.zero_le _⟩ rfl (Nat.le_of_ble_eq_true rfl) [4, 5] [0, 1, 2, 3] rfl rfl (by decide) (by decide) (by decide) rfl rfl [0, 1, 2, 3, 4, 5] (by decide) (wB K h t1 t2 t3 t4 c (bRunN (upd (bMonths C j) 0 ((bMonths C j) 0 + 1)) i)) rfl ?_
                refine gx_top (show (bRunN (upd (bMonths C j) 0 ((bMonths C j) 0 + 1)) i) 302 = (upd (bMonths C j) 0 ((bMonths C j) 0 + 1)) 302 from bRunN_302 _ _) ?_
                refine gx_icmp_ge (pc := 63) hB 87 dX0_passMonths_63 (by decide) (fun c_6 => ?_) (fun c_6 => ?_)
                · exact absurd c_6 (lpF (x := ((upd (bMonths C j) 0 ((bMonths C j) 0 + 1)) 302)) hi54)
                · refine gx_aload_n (pc := 66) hB dX0_passMonths_66 0 rfl ?_
                  refine gx_iload (pc := 67) hB dX0_passMonths_67 5 rfl ?_
                  refine gx_dVi (pc := 69) (r := bI (bRunning (bRunN (upd (bMonths C j) 0 ((bMonths C j) 0 + 1)) i) (nI i))) (wr := []) hB (c_X0_isRunning l K h t1 t2 t3 t4 c (bRunN (upd (bMonths C j) 0 ((bMonths C j) 0 + 1)) i) (nI i) ) mX0_isRunning dX0_passMonths_69 tb_304 pX0_isRunning ⟨Nat.le_of_ble_eq_true rfl, Nat.le_of_ble_eq_true rfl⟩ ⟨rfl, rfl⟩ ⟨Nat.zero_le _, Nat.zero_le _⟩ rfl (Nat.le_of_ble_eq_true rfl) [0, 1, 2, 3, 4, 5] [] rfl rfl (by decide) (by decide) (by decide) rfl rfl [0, 1, 2, 3, 4, 5] (by decide) (wB K h t1 t2 t3 t4 c (bRunN (upd (bMonths C j) 0 ((bMonths C j) 0 + 1)) i)) rfl ?_
                  refine gx_if_eq_b (pc := 72) hB 81 dX0_passMonths_72 (by decide) (fun c_7 => ?_) (fun c_7 => ?_)
                  · refine gx_iinc (pc := 81) hB dX0_passMonths_81 5 (by decide) rfl (nI (i + 1)) (nI_1 _) [(5, .int (nI (i + 1))), (0, .ref h), (1, .int x), (2, .int y), (3, .int (C 133)), (4, .int (nI j))] rfl ?_
                    refine gx_goto (pc := 84) hB 54 dX0_passMonths_84 (by decide) ?_
                    have w0 : bRunN (upd (bMonths C j) 0 ((bMonths C j) 0 + 1)) i = bRunN (upd (bMonths C j) 0 ((bMonths C j) 0 + 1)) (i + 1) := by simp [bPass, bMonths, bMonth, bRunN, c_1, c_2, eq_false (Int32.not_lt.mpr c_2), Int32.not_le.mp c_4, eq_false c_4, Int32.not_le.mp c_6, eq_false c_6, c_7]
                    refine gx_sub hB (lv' := [(0, .ref h), (1, .int x), (2, .int y), (3, .int (C 133)), (4, .int (nI j)), (5, .int (nI (i + 1)))]) [1, 2, 3, 4, 5, 0] rfl ?_
                    refine gx_all (ws' := wB K h t1 t2 t3 t4 c (bRunN (upd (bMonths C j) 0 ((bMonths C j) 0 + 1)) (i + 1))) (lv' := [(0, .ref h), (1, .int x), (2, .int y), (3, .int (C 133)), (4, .int (nI j)), (5, .int (nI (i + 1)))]) (by rw [← w0]) (rfl) ?_
                    exact ih54 (i + 1) (by omega)
                  · refine gx_aload_n (pc := 75) hB dX0_passMonths_75 0 rfl ?_
                    refine gx_iload (pc := 76) hB dX0_passMonths_76 5 rfl ?_
                    refine gx_dVv (pc := 78) (wr := []) hB (c_X0_runPledge l K h t1 t2 t3 t4 c (bRunN (upd (bMonths C j) 0 ((bMonths C j) 0 + 1)) i) (nI i) ) mX0_runPledge dX0_passMonths_78 tb_483 pX0_runPledge ⟨Nat.le_of_ble_eq_true rfl, Nat.le_of_ble_eq_true rfl⟩ ⟨rfl, rfl⟩ ⟨Nat.zero_le _, Nat.zero_le _⟩ rfl (Nat.le_of_ble_eq_true rfl) [0, 1, 2, 3, 4, 5] [] rfl rfl (by decide) (by decide) (by decide) rfl rfl [0, 1, 2, 3, 4, 5] (by decide) (wB K h t1 t2 t3 t4 c (bRun (bRunN (upd (bMonths C j) 0 ((bMonths C j) 0 + 1)) i) (nI i))) rfl ?_
                    refine gx_iinc (pc := 81) hB dX0_passMonths_81 5 (by decide) rfl (nI (i + 1)) (nI_1 _) [(5, .int (nI (i + 1))), (0, .ref h), (1, .int x), (2, .int y), (3, .int (C 133)), (4, .int (nI j))] rfl ?_
                    refine gx_goto (pc := 84) hB 54 dX0_passMonths_84 (by decide) ?_
                    have w0 : bRun (bRunN (upd (bMonths C j) 0 ((bMonths C j) 0 + 1)) i) (nI i) = bRunN (upd (bMonths C j) 0 ((bMonths C j) 0 + 1)) (i + 1) := by simp [bPass, bMonths, bMonth, bRunN, c_1, c_2, eq_false (Int32.not_lt.mpr c_2), Int32.not_le.mp c_4, eq_false c_4, Int32.not_le.mp c_6, eq_false c_6, c_7]
                    refine gx_sub hB (lv' := [(0, .ref h), (1, .int x), (2, .int y), (3, .int (C 133)), (4, .int (nI j)), (5, .int (nI (i + 1)))]) [1, 2, 3, 4, 5, 0] rfl ?_
                    refine gx_all (ws' := wB K h t1 t2 t3 t4 c (bRunN (upd (bMonths C j) 0 ((bMonths C j) 0 + 1)) (i + 1))) (lv' := [(0, .ref h), (1, .int x), (2, .int y), (3, .int (C 133)), (4, .int (nI j)), (5, .int (nI (i + 1)))]) (by rw [← w0]) (rfl) ?_
                    exact ih54 (i + 1) (by omega)
            refine gx_sub hB (lv' := [(0, .ref h), (1, .int x), (2, .int y), (3, .int (C 133)), (4, .int (nI j)), (5, .int 0)]) [1, 2, 3, 4, 5, 0] rfl ?_
            refine gx_all (ws' := wB K h t1 t2 t3 t4 c (bRunN (upd (bMonths C j) 0 ((bMonths C j) 0 + 1)) 0)) (lv' := [(0, .ref h), (1, .int x), (2, .int y), (3, .int (C 133)), (4, .int (nI j)), (5, .int (nI 0))]) (rfl) (rfl) ?_
            exact loop_54 (((upd (bMonths C j) 0 ((bMonths C j) 0 + 1)) 302).toNatClampNeg) 0 (by omega)
      refine gx_sub hB (lv' := [(0, .ref h), (1, .int x), (2, .int y), (3, .int (C 133)), (4, .int 0)]) [2, 3, 4, 1, 0] rfl ?_
      refine gx_all (ws' := wB K h t1 t2 t3 t4 c (bMonths C 0)) (lv' := [(0, .ref h), (1, .int x), (2, .int y), (3, .int (C 133)), (4, .int (nI 0))]) (rfl) (rfl) ?_
      exact loop_35 (x.toNatClampNeg) 0 (by omega)
    · refine gx_bipush (pc := 21) hB dX0_passMonths_21 (-3) (by decide) ?_
      have e1 : ((bPass C x y).1) = (-3) := by simp [bPass, bMonths, bMonth, bRunN, c_1, Int32.not_le.mp c_2, eq_false c_2]
      have f0 : ((bPass C x y).2) = C := by simp [bPass, bMonths, bMonth, bRunN, c_1, Int32.not_le.mp c_2, eq_false c_2]
      exact gx_iret (pc := 23) hC dX0_passMonths_23 (Nat.zero_le _) (Nat.zero_le _) (⟨by rw [e1], by rw [f0]⟩)
  · refine gx_iconst (pc := 7) hB dX0_passMonths_7 (-1) (by decide) ?_
    have e1 : ((bPass C x y).1) = (-1) := by simp [bPass, bMonths, bMonth, bRunN, c_1]
    have f0 : ((bPass C x y).2) = C := by simp [bPass, bMonths, bMonth, bRunN, c_1]
    exact gx_iret (pc := 8) hC dX0_passMonths_8 (Nat.zero_le _) (Nat.zero_le _) (⟨by rw [e1], by rw [f0]⟩)
theorem pX0_claimGifts : (parseMethodDescriptor yX0_claimGifts.desc).map (fun d => d.parameters.length) = some 1 := by decide +kernel
theorem mX0_claimGifts : gx_M yX0_claimGifts cX0_claimGifts 5 (some .int) := ⟨tb_334, tb_335, tb_28, tb_336, by decide, by decide⟩
set_option maxHeartbeats 4000000 in
set_option maxRecDepth 100000 in
theorem c_X0_claimGifts (l : Launch) (K : gx_K) (h t1 t2 t3 t4 c : Nat) (C : Nat → Int32) (x : Int32)  : gx_Ctr l K yX0_claimGifts cX0_claimGifts 5 (some .int) (rmm 4 70) [.ref h, .int x] (wB K h t1 t2 t3 t4 c C) (gx_D (some (.int ((bClaim C x).1))) (wB K h t1 t2 t3 t4 c ((bClaim C x).2))) := by
  refine gx_of (by decide) (Nat.le_of_ble_eq_true rfl) (fun G hC => ?_)
  have hB := hC.b
  refine gx_lv (lv' := [(0, .ref h), (1, .int x)]) rfl ?_
  refine gx_iconst (pc := 0) hB dX0_claimGifts_0 0 (by decide) ?_
  refine gx_istore_n (pc := 1) hB dX0_claimGifts_1 (by decide) [(2, .int 0), (0, .ref h), (1, .int x)] rfl ?_
  refine gx_iconst (pc := 2) hB dX0_claimGifts_2 0 (by decide) ?_
  refine gx_istore_n (pc := 3) hB dX0_claimGifts_3 (by decide) [(3, .int 0), (2, .int 0), (0, .ref h), (1, .int x)] rfl ?_
  refine gx_iconst (pc := 4) hB dX0_claimGifts_4 0 (by decide) ?_
  refine gx_istore (pc := 5) hB dX0_claimGifts_5 (by decide) [(4, .int 0), (3, .int 0), (2, .int 0), (0, .ref h), (1, .int x)] rfl ?_
  have loop_7 : ∀ dq i : Nat, i + dq = (C 133).toNatClampNeg → G 0 0 (wB K h t1 t2 t3 t4 c ((bClaimN C x i).2.2)) [(0, .ref h), (1, .int x), (2, .int ((bClaimN C x i).1)), (3, .int (bI ((bClaimN C x i).2.1))), (4, .int (nI i))] 7 [] := by
    intro dq
    induction dq with
    | zero =>
      intro i hi7
      obtain rfl : (C 133).toNatClampNeg = i := by omega
      refine gx_iload (pc := 7) hB dX0_claimGifts_7 4 rfl ?_
      refine gx_aload_n (pc := 9) hB dX0_claimGifts_9 0 rfl ?_
      refine gx_get (pc := 10) hB dX0_claimGifts_10 inX0 rfl 0 rfl 3 (by decide) tb_83 rfl rfl ?_
      refine gx_dVi (pc := 13) (r := ((bClaimN C x ((C 133).toNatClampNeg)).2.2) 133) (wr := [(h, .inr (0, [.ref c, .ref t1, .ref t2, .ref t3, .ref t4])), (t1, .inr (3, [.ref c, .int (nI 3), .int (nI 6), .int (nI 12)])), (t2, .inr (3, [.ref c, .int (nI 76), .int (nI 8), .int (nI 7)])), (t4, .inr (3, [.ref c, .int (nI 302), .int (nI 6), .int (nI 8)]))]) hB (c_X3_size l K t3 c 133 24 7 ((bClaimN C x ((C 133).toNatClampNeg)).2.2) (by first | decide | (unfold tHb; decide))) mX3_size dX0_claimGifts_13 tb_195 pX3_size ⟨Nat.le_of_ble_eq_true rfl, Nat.le_of_ble_eq_true rfl⟩ ⟨rfl, rfl⟩ ⟨Nat.zero_le _, Nat.zero_le _⟩ rfl (Nat.le_of_ble_eq_true rfl) [3, 5] [0, 1, 2, 4] rfl rfl (by decide) (by decide) (by decide) rfl rfl [0, 1, 2, 4, 3, 5] (by decide) (wB K h t1 t2 t3 t4 c ((bClaimN C x ((C 133).toNatClampNeg)).2.2)) rfl ?_
      refine gx_top (show ((bClaimN C x ((C 133).toNatClampNeg)).2.2) 133 = C 133 from bClaimN_133 _ _ _) ?_
      refine gx_icmp_ge (pc := 16) hB 111 dX0_claimGifts_16 (by decide) (fun c_1 => ?_) (fun c_1 => ?_)
      · refine gx_iload_n (pc := 111) hB dX0_claimGifts_111 3 rfl ?_
        refine gx_if_eq_b (pc := 112) hB 119 dX0_claimGifts_112 (by decide) (fun c_2 => ?_) (fun c_2 => ?_)
        · refine gx_bipush (pc := 119) hB dX0_claimGifts_119 (-2) (by decide) ?_
          have e1 : ((bClaim C x).1) = (-2) := by simp [bClaim, bClaimC, c_1, eq_false (Int32.not_lt.mpr c_1), c_2, bI]
          have f0 : ((bClaim C x).2) = ((bClaimN C x ((C 133).toNatClampNeg)).2.2) := by simp [bClaim, bClaimC, c_1, eq_false (Int32.not_lt.mpr c_1), c_2, bI]
          exact gx_iret (pc := 121) hC dX0_claimGifts_121 (Nat.zero_le _) (Nat.zero_le _) (⟨by rw [e1], by rw [f0]⟩)
        · refine gx_iload_n (pc := 115) hB dX0_claimGifts_115 2 rfl ?_
          refine gx_goto (pc := 116) hB 121 dX0_claimGifts_116 (by decide) ?_
          have e1 : ((bClaim C x).1) = ((bClaimN C x ((C 133).toNatClampNeg)).1) := by simp [bClaim, bClaimC, c_1, eq_false (Int32.not_lt.mpr c_1), c_2, bI]
          have f0 : ((bClaim C x).2) = ((bClaimN C x ((C 133).toNatClampNeg)).2.2) := by simp [bClaim, bClaimC, c_1, eq_false (Int32.not_lt.mpr c_1), c_2, bI]
          exact gx_iret (pc := 121) hC dX0_claimGifts_121 (Nat.zero_le _) (Nat.zero_le _) (⟨by rw [e1], by rw [f0]⟩)
      · exact absurd (lpT (x := (C 133)) hi7) c_1
    | succ dq ih7 =>
      intro i hi7
      refine gx_iload (pc := 7) hB dX0_claimGifts_7 4 rfl ?_
      refine gx_aload_n (pc := 9) hB dX0_claimGifts_9 0 rfl ?_
      refine gx_get (pc := 10) hB dX0_claimGifts_10 inX0 rfl 0 rfl 3 (by decide) tb_83 rfl rfl ?_
      refine gx_dVi (pc := 13) (r := ((bClaimN C x i).2.2) 133) (wr := [(h, .inr (0, [.ref c, .ref t1, .ref t2, .ref t3, .ref t4])), (t1, .inr (3, [.ref c, .int (nI 3), .int (nI 6), .int (nI 12)])), (t2, .inr (3, [.ref c, .int (nI 76), .int (nI 8), .int (nI 7)])), (t4, .inr (3, [.ref c, .int (nI 302), .int (nI 6), .int (nI 8)]))]) hB (c_X3_size l K t3 c 133 24 7 ((bClaimN C x i).2.2) (by first | decide | (unfold tHb; decide))) mX3_size dX0_claimGifts_13 tb_195 pX3_size ⟨Nat.le_of_ble_eq_true rfl, Nat.le_of_ble_eq_true rfl⟩ ⟨rfl, rfl⟩ ⟨Nat.zero_le _, Nat.zero_le _⟩ rfl (Nat.le_of_ble_eq_true rfl) [3, 5] [0, 1, 2, 4] rfl rfl (by decide) (by decide) (by decide) rfl rfl [0, 1, 2, 4, 3, 5] (by decide) (wB K h t1 t2 t3 t4 c ((bClaimN C x i).2.2)) rfl ?_
      refine gx_top (show ((bClaimN C x i).2.2) 133 = C 133 from bClaimN_133 _ _ _) ?_
      refine gx_icmp_ge (pc := 16) hB 111 dX0_claimGifts_16 (by decide) (fun c_3 => ?_) (fun c_3 => ?_)
      · exact absurd c_3 (lpF (x := (C 133)) hi7)
      · refine gx_iload_n (pc := 19) hB dX0_claimGifts_19 1 rfl ?_
        refine gx_iconst (pc := 20) hB dX0_claimGifts_20 (-1) (by decide) ?_
        refine gx_icmp_eq (pc := 21) hB 34 dX0_claimGifts_21 (by decide) (fun c_4 => ?_) (fun c_4 => ?_)
        · refine gx_aload_n (pc := 34) hB dX0_claimGifts_34 0 rfl ?_
          refine gx_iload (pc := 35) hB dX0_claimGifts_35 4 rfl ?_
          refine gx_dVi (pc := 37) (r := bI (bCan ((bClaimN C x i).2.2) (nI i))) (wr := []) hB (c_X0_canBeClaimed l K h t1 t2 t3 t4 c ((bClaimN C x i).2.2) (nI i) ) mX0_canBeClaimed dX0_claimGifts_37 tb_341 pX0_canBeClaimed ⟨Nat.le_of_ble_eq_true rfl, Nat.le_of_ble_eq_true rfl⟩ ⟨rfl, rfl⟩ ⟨Nat.zero_le _, Nat.zero_le _⟩ rfl (Nat.le_of_ble_eq_true rfl) [0, 1, 2, 3, 4, 5] [] rfl rfl (by decide) (by decide) (by decide) rfl rfl [0, 1, 2, 3, 4, 5] (by decide) (wB K h t1 t2 t3 t4 c ((bClaimN C x i).2.2)) rfl ?_
          refine gx_if_eq_b (pc := 40) hB 105 dX0_claimGifts_40 (by decide) (fun c_5 => ?_) (fun c_5 => ?_)
          · refine gx_iinc (pc := 105) hB dX0_claimGifts_105 4 (by decide) rfl (nI (i + 1)) (nI_1 _) [(4, .int (nI (i + 1))), (0, .ref h), (1, .int x), (2, .int ((bClaimN C x i).1)), (3, .int (bI ((bClaimN C x i).2.1)))] rfl ?_
            refine gx_goto (pc := 108) hB 7 dX0_claimGifts_108 (by decide) ?_
            have g2 : (bClaimN C x i).1 = (bClaimN C x (i + 1)).1 := by simp [bClaim, bClaimC, bClaimN, Int32.not_le.mp c_3, eq_false c_3, eq_true c_4, c_5, bI]
            have g3 : bI ((bClaimN C x i).2.1) = bI ((bClaimN C x (i + 1)).2.1) := by simp [bClaim, bClaimC, bClaimN, Int32.not_le.mp c_3, eq_false c_3, eq_true c_4, c_5, bI]
            have w0 : (bClaimN C x i).2.2 = (bClaimN C x (i + 1)).2.2 := by simp [bClaim, bClaimC, bClaimN, Int32.not_le.mp c_3, eq_false c_3, eq_true c_4, c_5, bI]
            refine gx_sub hB (lv' := [(0, .ref h), (1, .int x), (2, .int ((bClaimN C x i).1)), (3, .int (bI ((bClaimN C x i).2.1))), (4, .int (nI (i + 1)))]) [1, 2, 3, 4, 0] rfl ?_
            refine gx_all (ws' := wB K h t1 t2 t3 t4 c ((bClaimN C x (i + 1)).2.2)) (lv' := [(0, .ref h), (1, .int x), (2, .int ((bClaimN C x (i + 1)).1)), (3, .int (bI ((bClaimN C x (i + 1)).2.1))), (4, .int (nI (i + 1)))]) (by rw [← w0]) (by rw [← g2, ← g3]) ?_
            exact ih7 (i + 1) (by omega)
          · refine gx_aload_n (pc := 43) hB dX0_claimGifts_43 0 rfl ?_
            refine gx_get (pc := 44) hB dX0_claimGifts_44 inX0 rfl 0 rfl 3 (by decide) tb_83 rfl rfl ?_
            refine gx_iload (pc := 47) hB dX0_claimGifts_47 4 rfl ?_
            refine gx_iconst (pc := 49) hB dX0_claimGifts_49 4 (by decide) ?_
            refine gx_iconst (pc := 50) hB dX0_claimGifts_50 1 (by decide) ?_
            refine gx_dVv (pc := 51) (wr := [(h, .inr (0, [.ref c, .ref t1, .ref t2, .ref t3, .ref t4])), (t1, .inr (3, [.ref c, .int (nI 3), .int (nI 6), .int (nI 12)])), (t2, .inr (3, [.ref c, .int (nI 76), .int (nI 8), .int (nI 7)])), (t4, .inr (3, [.ref c, .int (nI 302), .int (nI 6), .int (nI 8)]))]) hB (c_X3_put l K t3 c 133 24 7 ((bClaimN C x i).2.2) (nI i) 4 1 (by first | decide | (unfold tHb; decide))) mX3_put dX0_claimGifts_51 tb_76 pX3_put ⟨Nat.le_of_ble_eq_true rfl, Nat.le_of_ble_eq_true rfl⟩ ⟨rfl, rfl⟩ ⟨Nat.zero_le _, Nat.zero_le _⟩ rfl (Nat.le_of_ble_eq_true rfl) [3, 5] [0, 1, 2, 4] rfl rfl (by decide) (by decide) (by decide) rfl rfl [0, 1, 2, 4, 3, 5] (by decide) (wB K h t1 t2 t3 t4 c (gPut ((bClaimN C x i).2.2) (nI i) 4 1)) rfl ?_
            refine gx_aload_n (pc := 54) hB dX0_claimGifts_54 0 rfl ?_
            refine gx_get (pc := 55) hB dX0_claimGifts_55 inX0 rfl 0 rfl 1 (by decide) tb_81 rfl rfl ?_
            refine gx_aload_n (pc := 58) hB dX0_claimGifts_58 0 rfl ?_
            refine gx_iload (pc := 59) hB dX0_claimGifts_59 4 rfl ?_
            refine gx_dVi (pc := 61) (r := bHome (gPut ((bClaimN C x i).2.2) (nI i) 4 1) (nI i)) (wr := []) hB (c_X0_homeOfGift l K h t1 t2 t3 t4 c (gPut ((bClaimN C x i).2.2) (nI i) 4 1) (nI i) ) mX0_homeOfGift dX0_claimGifts_61 tb_357 pX0_homeOfGift ⟨Nat.le_of_ble_eq_true rfl, Nat.le_of_ble_eq_true rfl⟩ ⟨rfl, rfl⟩ ⟨Nat.zero_le _, Nat.zero_le _⟩ rfl (Nat.le_of_ble_eq_true rfl) [0, 1, 2, 3, 4, 5] [] rfl rfl (by decide) (by decide) (by decide) rfl rfl [0, 1, 2, 3, 4, 5] (by decide) (wB K h t1 t2 t3 t4 c (gPut ((bClaimN C x i).2.2) (nI i) 4 1)) rfl ?_
            refine gx_iconst (pc := 64) hB dX0_claimGifts_64 0 (by decide) ?_
            refine gx_aload_n (pc := 65) hB dX0_claimGifts_65 0 rfl ?_
            refine gx_iload (pc := 66) hB dX0_claimGifts_66 4 rfl ?_
            refine gx_dVi (pc := 68) (r := bTax (gPut ((bClaimN C x i).2.2) (nI i) 4 1) (nI i)) (wr := []) hB (c_X0_taxOf l K h t1 t2 t3 t4 c (gPut ((bClaimN C x i).2.2) (nI i) 4 1) (nI i) ) mX0_taxOf dX0_claimGifts_68 tb_361 pX0_taxOf ⟨Nat.le_of_ble_eq_true rfl, Nat.le_of_ble_eq_true rfl⟩ ⟨rfl, rfl⟩ ⟨Nat.zero_le _, Nat.zero_le _⟩ rfl (Nat.le_of_ble_eq_true rfl) [0, 1, 2, 3, 4, 5] [] rfl rfl (by decide) (by decide) (by decide) rfl rfl [0, 1, 2, 3, 4, 5] (by decide) (wB K h t1 t2 t3 t4 c (gPut ((bClaimN C x i).2.2) (nI i) 4 1)) rfl ?_
            refine gx_dVv (pc := 71) (wr := [(h, .inr (0, [.ref c, .ref t1, .ref t2, .ref t3, .ref t4])), (t2, .inr (3, [.ref c, .int (nI 76), .int (nI 8), .int (nI 7)])), (t3, .inr (3, [.ref c, .int (nI 133), .int (nI 24), .int (nI 7)])), (t4, .inr (3, [.ref c, .int (nI 302), .int (nI 6), .int (nI 8)]))]) hB (c_X3_add l K t1 c 3 6 12 (gPut ((bClaimN C x i).2.2) (nI i) 4 1) (bHome (gPut ((bClaimN C x i).2.2) (nI i) 4 1) (nI i)) 0 (bTax (gPut ((bClaimN C x i).2.2) (nI i) 4 1) (nI i)) (by first | decide | (unfold tHb; decide))) mX3_add dX0_claimGifts_71 tb_278 pX3_add ⟨Nat.le_of_ble_eq_true rfl, Nat.le_of_ble_eq_true rfl⟩ ⟨rfl, rfl⟩ ⟨Nat.zero_le _, Nat.zero_le _⟩ rfl (Nat.le_of_ble_eq_true rfl) [1, 5] [0, 2, 3, 4] rfl rfl (by decide) (by decide) (by decide) rfl rfl [0, 4, 1, 2, 3, 5] (by decide) (wB K h t1 t2 t3 t4 c (pAdd (gPut ((bClaimN C x i).2.2) (nI i) 4 1) (bHome (gPut ((bClaimN C x i).2.2) (nI i) 4 1) (nI i)) 0 (bTax (gPut ((bClaimN C x i).2.2) (nI i) 4 1) (nI i)))) rfl ?_
            refine gx_aload_n (pc := 74) hB dX0_claimGifts_74 0 rfl ?_
            refine gx_get (pc := 75) hB dX0_claimGifts_75 inX0 rfl 0 rfl 1 (by decide) tb_81 rfl rfl ?_
            refine gx_aload_n (pc := 78) hB dX0_claimGifts_78 0 rfl ?_
            refine gx_iload (pc := 79) hB dX0_claimGifts_79 4 rfl ?_
            refine gx_dVi (pc := 81) (r := bHome (pAdd (gPut ((bClaimN C x i).2.2) (nI i) 4 1) (bHome (gPut ((bClaimN C x i).2.2) (nI i) 4 1) (nI i)) 0 (bTax (gPut ((bClaimN C x i).2.2) (nI i) 4 1) (nI i))) (nI i)) (wr := []) hB (c_X0_homeOfGift l K h t1 t2 t3 t4 c (pAdd (gPut ((bClaimN C x i).2.2) (nI i) 4 1) (bHome (gPut ((bClaimN C x i).2.2) (nI i) 4 1) (nI i)) 0 (bTax (gPut ((bClaimN C x i).2.2) (nI i) 4 1) (nI i))) (nI i) ) mX0_homeOfGift dX0_claimGifts_81 tb_357 pX0_homeOfGift ⟨Nat.le_of_ble_eq_true rfl, Nat.le_of_ble_eq_true rfl⟩ ⟨rfl, rfl⟩ ⟨Nat.zero_le _, Nat.zero_le _⟩ rfl (Nat.le_of_ble_eq_true rfl) [0, 1, 2, 3, 4, 5] [] rfl rfl (by decide) (by decide) (by decide) rfl rfl [0, 1, 2, 3, 4, 5] (by decide) (wB K h t1 t2 t3 t4 c (pAdd (gPut ((bClaimN C x i).2.2) (nI i) 4 1) (bHome (gPut ((bClaimN C x i).2.2) (nI i) 4 1) (nI i)) 0 (bTax (gPut ((bClaimN C x i).2.2) (nI i) 4 1) (nI i)))) rfl ?_
            refine gx_iconst (pc := 84) hB dX0_claimGifts_84 2 (by decide) ?_
            refine gx_aload_n (pc := 85) hB dX0_claimGifts_85 0 rfl ?_
            refine gx_iload (pc := 86) hB dX0_claimGifts_86 4 rfl ?_
            refine gx_dVi (pc := 88) (r := bTax (pAdd (gPut ((bClaimN C x i).2.2) (nI i) 4 1) (bHome (gPut ((bClaimN C x i).2.2) (nI i) 4 1) (nI i)) 0 (bTax (gPut ((bClaimN C x i).2.2) (nI i) 4 1) (nI i))) (nI i)) (wr := []) hB (c_X0_taxOf l K h t1 t2 t3 t4 c (pAdd (gPut ((bClaimN C x i).2.2) (nI i) 4 1) (bHome (gPut ((bClaimN C x i).2.2) (nI i) 4 1) (nI i)) 0 (bTax (gPut ((bClaimN C x i).2.2) (nI i) 4 1) (nI i))) (nI i) ) mX0_taxOf dX0_claimGifts_88 tb_361 pX0_taxOf ⟨Nat.le_of_ble_eq_true rfl, Nat.le_of_ble_eq_true rfl⟩ ⟨rfl, rfl⟩ ⟨Nat.zero_le _, Nat.zero_le _⟩ rfl (Nat.le_of_ble_eq_true rfl) [0, 1, 2, 3, 4, 5] [] rfl rfl (by decide) (by decide) (by decide) rfl rfl [0, 1, 2, 3, 4, 5] (by decide) (wB K h t1 t2 t3 t4 c (pAdd (gPut ((bClaimN C x i).2.2) (nI i) 4 1) (bHome (gPut ((bClaimN C x i).2.2) (nI i) 4 1) (nI i)) 0 (bTax (gPut ((bClaimN C x i).2.2) (nI i) 4 1) (nI i)))) rfl ?_
            refine gx_dVv (pc := 91) (wr := [(h, .inr (0, [.ref c, .ref t1, .ref t2, .ref t3, .ref t4])), (t2, .inr (3, [.ref c, .int (nI 76), .int (nI 8), .int (nI 7)])), (t3, .inr (3, [.ref c, .int (nI 133), .int (nI 24), .int (nI 7)])), (t4, .inr (3, [.ref c, .int (nI 302), .int (nI 6), .int (nI 8)]))]) hB (c_X3_add l K t1 c 3 6 12 (pAdd (gPut ((bClaimN C x i).2.2) (nI i) 4 1) (bHome (gPut ((bClaimN C x i).2.2) (nI i) 4 1) (nI i)) 0 (bTax (gPut ((bClaimN C x i).2.2) (nI i) 4 1) (nI i))) (bHome (pAdd (gPut ((bClaimN C x i).2.2) (nI i) 4 1) (bHome (gPut ((bClaimN C x i).2.2) (nI i) 4 1) (nI i)) 0 (bTax (gPut ((bClaimN C x i).2.2) (nI i) 4 1) (nI i))) (nI i)) 2 (bTax (pAdd (gPut ((bClaimN C x i).2.2) (nI i) 4 1) (bHome (gPut ((bClaimN C x i).2.2) (nI i) 4 1) (nI i)) 0 (bTax (gPut ((bClaimN C x i).2.2) (nI i) 4 1) (nI i))) (nI i)) (by first | decide | (unfold tHb; decide))) mX3_add dX0_claimGifts_91 tb_278 pX3_add ⟨Nat.le_of_ble_eq_true rfl, Nat.le_of_ble_eq_true rfl⟩ ⟨rfl, rfl⟩ ⟨Nat.zero_le _, Nat.zero_le _⟩ rfl (Nat.le_of_ble_eq_true rfl) [1, 5] [0, 2, 3, 4] rfl rfl (by decide) (by decide) (by decide) rfl rfl [0, 4, 1, 2, 3, 5] (by decide) (wB K h t1 t2 t3 t4 c (pAdd (pAdd (gPut ((bClaimN C x i).2.2) (nI i) 4 1) (bHome (gPut ((bClaimN C x i).2.2) (nI i) 4 1) (nI i)) 0 (bTax (gPut ((bClaimN C x i).2.2) (nI i) 4 1) (nI i))) (bHome (pAdd (gPut ((bClaimN C x i).2.2) (nI i) 4 1) (bHome (gPut ((bClaimN C x i).2.2) (nI i) 4 1) (nI i)) 0 (bTax (gPut ((bClaimN C x i).2.2) (nI i) 4 1) (nI i))) (nI i)) 2 (bTax (pAdd (gPut ((bClaimN C x i).2.2) (nI i) 4 1) (bHome (gPut ((bClaimN C x i).2.2) (nI i) 4 1) (nI i)) 0 (bTax (gPut ((bClaimN C x i).2.2) (nI i) 4 1) (nI i))) (nI i)))) rfl ?_
            refine gx_iload_n (pc := 94) hB dX0_claimGifts_94 2 rfl ?_
            refine gx_aload_n (pc := 95) hB dX0_claimGifts_95 0 rfl ?_
            refine gx_iload (pc := 96) hB dX0_claimGifts_96 4 rfl ?_
            refine gx_dVi (pc := 98) (r := bTax (pAdd (pAdd (gPut ((bClaimN C x i).2.2) (nI i) 4 1) (bHome (gPut ((bClaimN C x i).2.2) (nI i) 4 1) (nI i)) 0 (bTax (gPut ((bClaimN C x i).2.2) (nI i) 4 1) (nI i))) (bHome (pAdd (gPut ((bClaimN C x i).2.2) (nI i) 4 1) (bHome (gPut ((bClaimN C x i).2.2) (nI i) 4 1) (nI i)) 0 (bTax (gPut ((bClaimN C x i).2.2) (nI i) 4 1) (nI i))) (nI i)) 2 (bTax (pAdd (gPut ((bClaimN C x i).2.2) (nI i) 4 1) (bHome (gPut ((bClaimN C x i).2.2) (nI i) 4 1) (nI i)) 0 (bTax (gPut ((bClaimN C x i).2.2) (nI i) 4 1) (nI i))) (nI i))) (nI i)) (wr := []) hB (c_X0_taxOf l K h t1 t2 t3 t4 c (pAdd (pAdd (gPut ((bClaimN C x i).2.2) (nI i) 4 1) (bHome (gPut ((bClaimN C x i).2.2) (nI i) 4 1) (nI i)) 0 (bTax (gPut ((bClaimN C x i).2.2) (nI i) 4 1) (nI i))) (bHome (pAdd (gPut ((bClaimN C x i).2.2) (nI i) 4 1) (bHome (gPut ((bClaimN C x i).2.2) (nI i) 4 1) (nI i)) 0 (bTax (gPut ((bClaimN C x i).2.2) (nI i) 4 1) (nI i))) (nI i)) 2 (bTax (pAdd (gPut ((bClaimN C x i).2.2) (nI i) 4 1) (bHome (gPut ((bClaimN C x i).2.2) (nI i) 4 1) (nI i)) 0 (bTax (gPut ((bClaimN C x i).2.2) (nI i) 4 1) (nI i))) (nI i))) (nI i) ) mX0_taxOf dX0_claimGifts_98 tb_361 pX0_taxOf ⟨Nat.le_of_ble_eq_true rfl, Nat.le_of_ble_eq_true rfl⟩ ⟨rfl, rfl⟩ ⟨Nat.zero_le _, Nat.zero_le _⟩ rfl (Nat.le_of_ble_eq_true rfl) [0, 1, 2, 3, 4, 5] [] rfl rfl (by decide) (by decide) (by decide) rfl rfl [0, 1, 2, 3, 4, 5] (by decide) (wB K h t1 t2 t3 t4 c (pAdd (pAdd (gPut ((bClaimN C x i).2.2) (nI i) 4 1) (bHome (gPut ((bClaimN C x i).2.2) (nI i) 4 1) (nI i)) 0 (bTax (gPut ((bClaimN C x i).2.2) (nI i) 4 1) (nI i))) (bHome (pAdd (gPut ((bClaimN C x i).2.2) (nI i) 4 1) (bHome (gPut ((bClaimN C x i).2.2) (nI i) 4 1) (nI i)) 0 (bTax (gPut ((bClaimN C x i).2.2) (nI i) 4 1) (nI i))) (nI i)) 2 (bTax (pAdd (gPut ((bClaimN C x i).2.2) (nI i) 4 1) (bHome (gPut ((bClaimN C x i).2.2) (nI i) 4 1) (nI i)) 0 (bTax (gPut ((bClaimN C x i).2.2) (nI i) 4 1) (nI i))) (nI i)))) rfl ?_
            refine gx_iadd (pc := 101) hB dX0_claimGifts_101 ?_
            refine gx_istore_n (pc := 102) hB dX0_claimGifts_102 (by decide) [(2, .int (((bClaimN C x i).1) + (bTax (pAdd (pAdd (gPut ((bClaimN C x i).2.2) (nI i) 4 1) (bHome (gPut ((bClaimN C x i).2.2) (nI i) 4 1) (nI i)) 0 (bTax (gPut ((bClaimN C x i).2.2) (nI i) 4 1) (nI i))) (bHome (pAdd (gPut ((bClaimN C x i).2.2) (nI i) 4 1) (bHome (gPut ((bClaimN C x i).2.2) (nI i) 4 1) (nI i)) 0 (bTax (gPut ((bClaimN C x i).2.2) (nI i) 4 1) (nI i))) (nI i)) 2 (bTax (pAdd (gPut ((bClaimN C x i).2.2) (nI i) 4 1) (bHome (gPut ((bClaimN C x i).2.2) (nI i) 4 1) (nI i)) 0 (bTax (gPut ((bClaimN C x i).2.2) (nI i) 4 1) (nI i))) (nI i))) (nI i)))), (0, .ref h), (1, .int x), (3, .int (bI ((bClaimN C x i).2.1))), (4, .int (nI i))] rfl ?_
            refine gx_iconst (pc := 103) hB dX0_claimGifts_103 1 (by decide) ?_
            refine gx_istore_n (pc := 104) hB dX0_claimGifts_104 (by decide) [(3, .int 1), (2, .int (((bClaimN C x i).1) + (bTax (pAdd (pAdd (gPut ((bClaimN C x i).2.2) (nI i) 4 1) (bHome (gPut ((bClaimN C x i).2.2) (nI i) 4 1) (nI i)) 0 (bTax (gPut ((bClaimN C x i).2.2) (nI i) 4 1) (nI i))) (bHome (pAdd (gPut ((bClaimN C x i).2.2) (nI i) 4 1) (bHome (gPut ((bClaimN C x i).2.2) (nI i) 4 1) (nI i)) 0 (bTax (gPut ((bClaimN C x i).2.2) (nI i) 4 1) (nI i))) (nI i)) 2 (bTax (pAdd (gPut ((bClaimN C x i).2.2) (nI i) 4 1) (bHome (gPut ((bClaimN C x i).2.2) (nI i) 4 1) (nI i)) 0 (bTax (gPut ((bClaimN C x i).2.2) (nI i) 4 1) (nI i))) (nI i))) (nI i)))), (0, .ref h), (1, .int x), (4, .int (nI i))] rfl ?_
            refine gx_iinc (pc := 105) hB dX0_claimGifts_105 4 (by decide) rfl (nI (i + 1)) (nI_1 _) [(4, .int (nI (i + 1))), (3, .int 1), (2, .int (((bClaimN C x i).1) + (bTax (pAdd (pAdd (gPut ((bClaimN C x i).2.2) (nI i) 4 1) (bHome (gPut ((bClaimN C x i).2.2) (nI i) 4 1) (nI i)) 0 (bTax (gPut ((bClaimN C x i).2.2) (nI i) 4 1) (nI i))) (bHome (pAdd (gPut ((bClaimN C x i).2.2) (nI i) 4 1) (bHome (gPut ((bClaimN C x i).2.2) (nI i) 4 1) (nI i)) 0 (bTax (gPut ((bClaimN C x i).2.2) (nI i) 4 1) (nI i))) (nI i)) 2 (bTax (pAdd (gPut ((bClaimN C x i).2.2) (nI i) 4 1) (bHome (gPut ((bClaimN C x i).2.2) (nI i) 4 1) (nI i)) 0 (bTax (gPut ((bClaimN C x i).2.2) (nI i) 4 1) (nI i))) (nI i))) (nI i)))), (0, .ref h), (1, .int x)] rfl ?_
            refine gx_goto (pc := 108) hB 7 dX0_claimGifts_108 (by decide) ?_
            have g2 : ((bClaimN C x i).1) + (bTax (pAdd (pAdd (gPut ((bClaimN C x i).2.2) (nI i) 4 1) (bHome (gPut ((bClaimN C x i).2.2) (nI i) 4 1) (nI i)) 0 (bTax (gPut ((bClaimN C x i).2.2) (nI i) 4 1) (nI i))) (bHome (pAdd (gPut ((bClaimN C x i).2.2) (nI i) 4 1) (bHome (gPut ((bClaimN C x i).2.2) (nI i) 4 1) (nI i)) 0 (bTax (gPut ((bClaimN C x i).2.2) (nI i) 4 1) (nI i))) (nI i)) 2 (bTax (pAdd (gPut ((bClaimN C x i).2.2) (nI i) 4 1) (bHome (gPut ((bClaimN C x i).2.2) (nI i) 4 1) (nI i)) 0 (bTax (gPut ((bClaimN C x i).2.2) (nI i) 4 1) (nI i))) (nI i))) (nI i)) = (bClaimN C x (i + 1)).1 := by simp [bClaim, bClaimC, bClaimN, Int32.not_le.mp c_3, eq_false c_3, eq_true c_4, c_5, bI]
            have g3 : 1 = bI ((bClaimN C x (i + 1)).2.1) := by simp [bClaim, bClaimC, bClaimN, Int32.not_le.mp c_3, eq_false c_3, eq_true c_4, c_5, bI]
            have w0 : pAdd (pAdd (gPut ((bClaimN C x i).2.2) (nI i) 4 1) (bHome (gPut ((bClaimN C x i).2.2) (nI i) 4 1) (nI i)) 0 (bTax (gPut ((bClaimN C x i).2.2) (nI i) 4 1) (nI i))) (bHome (pAdd (gPut ((bClaimN C x i).2.2) (nI i) 4 1) (bHome (gPut ((bClaimN C x i).2.2) (nI i) 4 1) (nI i)) 0 (bTax (gPut ((bClaimN C x i).2.2) (nI i) 4 1) (nI i))) (nI i)) 2 (bTax (pAdd (gPut ((bClaimN C x i).2.2) (nI i) 4 1) (bHome (gPut ((bClaimN C x i).2.2) (nI i) 4 1) (nI i)) 0 (bTax (gPut ((bClaimN C x i).2.2) (nI i) 4 1) (nI i))) (nI i)) = (bClaimN C x (i + 1)).2.2 := by simp [bClaim, bClaimC, bClaimN, Int32.not_le.mp c_3, eq_false c_3, eq_true c_4, c_5, bI]
            refine gx_sub hB (lv' := [(0, .ref h), (1, .int x), (2, .int (((bClaimN C x i).1) + (bTax (pAdd (pAdd (gPut ((bClaimN C x i).2.2) (nI i) 4 1) (bHome (gPut ((bClaimN C x i).2.2) (nI i) 4 1) (nI i)) 0 (bTax (gPut ((bClaimN C x i).2.2) (nI i) 4 1) (nI i))) (bHome (pAdd (gPut ((bClaimN C x i).2.2) (nI i) 4 1) (bHome (gPut ((bClaimN C x i).2.2) (nI i) 4 1) (nI i)) 0 (bTax (gPut ((bClaimN C x i).2.2) (nI i) 4 1) (nI i))) (nI i)) 2 (bTax (pAdd (gPut ((bClaimN C x i).2.2) (nI i) 4 1) (bHome (gPut ((bClaimN C x i).2.2) (nI i) 4 1) (nI i)) 0 (bTax (gPut ((bClaimN C x i).2.2) (nI i) 4 1) (nI i))) (nI i))) (nI i)))), (3, .int 1), (4, .int (nI (i + 1)))]) [3, 4, 2, 1, 0] rfl ?_
            refine gx_all (ws' := wB K h t1 t2 t3 t4 c ((bClaimN C x (i + 1)).2.2)) (lv' := [(0, .ref h), (1, .int x), (2, .int ((bClaimN C x (i + 1)).1)), (3, .int (bI ((bClaimN C x (i + 1)).2.1))), (4, .int (nI (i + 1)))]) (by rw [← w0]) (by rw [← g2, ← g3]) ?_
            exact ih7 (i + 1) (by omega)
        · refine gx_aload_n (pc := 24) hB dX0_claimGifts_24 0 rfl ?_
          refine gx_iload (pc := 25) hB dX0_claimGifts_25 4 rfl ?_
          refine gx_iload_n (pc := 27) hB dX0_claimGifts_27 1 rfl ?_
          refine gx_dVi (pc := 28) (r := bI (bIsOf ((bClaimN C x i).2.2) (nI i) x)) (wr := []) hB (c_X0_isOf l K h t1 t2 t3 t4 c ((bClaimN C x i).2.2) (nI i) x ) mX0_isOf dX0_claimGifts_28 tb_337 pX0_isOf ⟨Nat.le_of_ble_eq_true rfl, Nat.le_of_ble_eq_true rfl⟩ ⟨rfl, rfl⟩ ⟨Nat.zero_le _, Nat.zero_le _⟩ rfl (Nat.le_of_ble_eq_true rfl) [0, 1, 2, 3, 4, 5] [] rfl rfl (by decide) (by decide) (by decide) rfl rfl [0, 1, 2, 3, 4, 5] (by decide) (wB K h t1 t2 t3 t4 c ((bClaimN C x i).2.2)) rfl ?_
          refine gx_if_eq_b (pc := 31) hB 105 dX0_claimGifts_31 (by decide) (fun c_6 => ?_) (fun c_6 => ?_)
          · refine gx_iinc (pc := 105) hB dX0_claimGifts_105 4 (by decide) rfl (nI (i + 1)) (nI_1 _) [(4, .int (nI (i + 1))), (0, .ref h), (1, .int x), (2, .int ((bClaimN C x i).1)), (3, .int (bI ((bClaimN C x i).2.1)))] rfl ?_
            refine gx_goto (pc := 108) hB 7 dX0_claimGifts_108 (by decide) ?_
            have g2 : (bClaimN C x i).1 = (bClaimN C x (i + 1)).1 := by simp [bClaim, bClaimC, bClaimN, Int32.not_le.mp c_3, eq_false c_3, eq_false c_4, c_6, bI]
            have g3 : bI ((bClaimN C x i).2.1) = bI ((bClaimN C x (i + 1)).2.1) := by simp [bClaim, bClaimC, bClaimN, Int32.not_le.mp c_3, eq_false c_3, eq_false c_4, c_6, bI]
            have w0 : (bClaimN C x i).2.2 = (bClaimN C x (i + 1)).2.2 := by simp [bClaim, bClaimC, bClaimN, Int32.not_le.mp c_3, eq_false c_3, eq_false c_4, c_6, bI]
            refine gx_sub hB (lv' := [(0, .ref h), (1, .int x), (2, .int ((bClaimN C x i).1)), (3, .int (bI ((bClaimN C x i).2.1))), (4, .int (nI (i + 1)))]) [1, 2, 3, 4, 0] rfl ?_
            refine gx_all (ws' := wB K h t1 t2 t3 t4 c ((bClaimN C x (i + 1)).2.2)) (lv' := [(0, .ref h), (1, .int x), (2, .int ((bClaimN C x (i + 1)).1)), (3, .int (bI ((bClaimN C x (i + 1)).2.1))), (4, .int (nI (i + 1)))]) (by rw [← w0]) (by rw [← g2, ← g3]) ?_
            exact ih7 (i + 1) (by omega)
          · refine gx_aload_n (pc := 34) hB dX0_claimGifts_34 0 rfl ?_
            refine gx_iload (pc := 35) hB dX0_claimGifts_35 4 rfl ?_
            refine gx_dVi (pc := 37) (r := bI (bCan ((bClaimN C x i).2.2) (nI i))) (wr := []) hB (c_X0_canBeClaimed l K h t1 t2 t3 t4 c ((bClaimN C x i).2.2) (nI i) ) mX0_canBeClaimed dX0_claimGifts_37 tb_341 pX0_canBeClaimed ⟨Nat.le_of_ble_eq_true rfl, Nat.le_of_ble_eq_true rfl⟩ ⟨rfl, rfl⟩ ⟨Nat.zero_le _, Nat.zero_le _⟩ rfl (Nat.le_of_ble_eq_true rfl) [0, 1, 2, 3, 4, 5] [] rfl rfl (by decide) (by decide) (by decide) rfl rfl [0, 1, 2, 3, 4, 5] (by decide) (wB K h t1 t2 t3 t4 c ((bClaimN C x i).2.2)) rfl ?_
            refine gx_if_eq_b (pc := 40) hB 105 dX0_claimGifts_40 (by decide) (fun c_7 => ?_) (fun c_7 => ?_)
            · refine gx_iinc (pc := 105) hB dX0_claimGifts_105 4 (by decide) rfl (nI (i + 1)) (nI_1 _) [(4, .int (nI (i + 1))), (0, .ref h), (1, .int x), (2, .int ((bClaimN C x i).1)), (3, .int (bI ((bClaimN C x i).2.1)))] rfl ?_
              refine gx_goto (pc := 108) hB 7 dX0_claimGifts_108 (by decide) ?_
              have g2 : (bClaimN C x i).1 = (bClaimN C x (i + 1)).1 := by simp [bClaim, bClaimC, bClaimN, Int32.not_le.mp c_3, eq_false c_3, eq_false c_4, c_6, c_7, bI]
              have g3 : bI ((bClaimN C x i).2.1) = bI ((bClaimN C x (i + 1)).2.1) := by simp [bClaim, bClaimC, bClaimN, Int32.not_le.mp c_3, eq_false c_3, eq_false c_4, c_6, c_7, bI]
              have w0 : (bClaimN C x i).2.2 = (bClaimN C x (i + 1)).2.2 := by simp [bClaim, bClaimC, bClaimN, Int32.not_le.mp c_3, eq_false c_3, eq_false c_4, c_6, c_7, bI]
              refine gx_sub hB (lv' := [(0, .ref h), (1, .int x), (2, .int ((bClaimN C x i).1)), (3, .int (bI ((bClaimN C x i).2.1))), (4, .int (nI (i + 1)))]) [1, 2, 3, 4, 0] rfl ?_
              refine gx_all (ws' := wB K h t1 t2 t3 t4 c ((bClaimN C x (i + 1)).2.2)) (lv' := [(0, .ref h), (1, .int x), (2, .int ((bClaimN C x (i + 1)).1)), (3, .int (bI ((bClaimN C x (i + 1)).2.1))), (4, .int (nI (i + 1)))]) (by rw [← w0]) (by rw [← g2, ← g3]) ?_
              exact ih7 (i + 1) (by omega)
            · refine gx_aload_n (pc := 43) hB dX0_claimGifts_43 0 rfl ?_
              refine gx_get (pc := 44) hB dX0_claimGifts_44 inX0 rfl 0 rfl 3 (by decide) tb_83 rfl rfl ?_
              refine gx_iload (pc := 47) hB dX0_claimGifts_47 4 rfl ?_
              refine gx_iconst (pc := 49) hB dX0_claimGifts_49 4 (by decide) ?_
              refine gx_iconst (pc := 50) hB dX0_claimGifts_50 1 (by decide) ?_
              refine gx_dVv (pc := 51) (wr := [(h, .inr (0, [.ref c, .ref t1, .ref t2, .ref t3, .ref t4])), (t1, .inr (3, [.ref c, .int (nI 3), .int (nI 6), .int (nI 12)])), (t2, .inr (3, [.ref c, .int (nI 76), .int (nI 8), .int (nI 7)])), (t4, .inr (3, [.ref c, .int (nI 302), .int (nI 6), .int (nI 8)]))]) hB (c_X3_put l K t3 c 133 24 7 ((bClaimN C x i).2.2) (nI i) 4 1 (by first | decide | (unfold tHb; decide))) mX3_put dX0_claimGifts_51 tb_76 pX3_put ⟨Nat.le_of_ble_eq_true rfl, Nat.le_of_ble_eq_true rfl⟩ ⟨rfl, rfl⟩ ⟨Nat.zero_le _, Nat.zero_le _⟩ rfl (Nat.le_of_ble_eq_true rfl) [3, 5] [0, 1, 2, 4] rfl rfl (by decide) (by decide) (by decide) rfl rfl [0, 1, 2, 4, 3, 5] (by decide) (wB K h t1 t2 t3 t4 c (gPut ((bClaimN C x i).2.2) (nI i) 4 1)) rfl ?_
              refine gx_aload_n (pc := 54) hB dX0_claimGifts_54 0 rfl ?_
              refine gx_get (pc := 55) hB dX0_claimGifts_55 inX0 rfl 0 rfl 1 (by decide) tb_81 rfl rfl ?_
              refine gx_aload_n (pc := 58) hB dX0_claimGifts_58 0 rfl ?_
              refine gx_iload (pc := 59) hB dX0_claimGifts_59 4 rfl ?_
              refine gx_dVi (pc := 61) (r := bHome (gPut ((bClaimN C x i).2.2) (nI i) 4 1) (nI i)) (wr := []) hB (c_X0_homeOfGift l K h t1 t2 t3 t4 c (gPut ((bClaimN C x i).2.2) (nI i) 4 1) (nI i) ) mX0_homeOfGift dX0_claimGifts_61 tb_357 pX0_homeOfGift ⟨Nat.le_of_ble_eq_true rfl, Nat.le_of_ble_eq_true rfl⟩ ⟨rfl, rfl⟩ ⟨Nat.zero_le _, Nat.zero_le _⟩ rfl (Nat.le_of_ble_eq_true rfl) [0, 1, 2, 3, 4, 5] [] rfl rfl (by decide) (by decide) (by decide) rfl rfl [0, 1, 2, 3, 4, 5] (by decide) (wB K h t1 t2 t3 t4 c (gPut ((bClaimN C x i).2.2) (nI i) 4 1)) rfl ?_
              refine gx_iconst (pc := 64) hB dX0_claimGifts_64 0 (by decide) ?_
              refine gx_aload_n (pc := 65) hB dX0_claimGifts_65 0 rfl ?_
              refine gx_iload (pc := 66) hB dX0_claimGifts_66 4 rfl ?_
              refine gx_dVi (pc := 68) (r := bTax (gPut ((bClaimN C x i).2.2) (nI i) 4 1) (nI i)) (wr := []) hB (c_X0_taxOf l K h t1 t2 t3 t4 c (gPut ((bClaimN C x i).2.2) (nI i) 4 1) (nI i) ) mX0_taxOf dX0_claimGifts_68 tb_361 pX0_taxOf ⟨Nat.le_of_ble_eq_true rfl, Nat.le_of_ble_eq_true rfl⟩ ⟨rfl, rfl⟩ ⟨Nat.zero_le _, Nat.zero_le _⟩ rfl (Nat.le_of_ble_eq_true rfl) [0, 1, 2, 3, 4, 5] [] rfl rfl (by decide) (by decide) (by decide) rfl rfl [0, 1, 2, 3, 4, 5] (by decide) (wB K h t1 t2 t3 t4 c (gPut ((bClaimN C x i).2.2) (nI i) 4 1)) rfl ?_
              refine gx_dVv (pc := 71) (wr := [(h, .inr (0, [.ref c, .ref t1, .ref t2, .ref t3, .ref t4])), (t2, .inr (3, [.ref c, .int (nI 76), .int (nI 8), .int (nI 7)])), (t3, .inr (3, [.ref c, .int (nI 133), .int (nI 24), .int (nI 7)])), (t4, .inr (3, [.ref c, .int (nI 302), .int (nI 6), .int (nI 8)]))]) hB (c_X3_add l K t1 c 3 6 12 (gPut ((bClaimN C x i).2.2) (nI i) 4 1) (bHome (gPut ((bClaimN C x i).2.2) (nI i) 4 1) (nI i)) 0 (bTax (gPut ((bClaimN C x i).2.2) (nI i) 4 1) (nI i)) (by first | decide | (unfold tHb; decide))) mX3_add dX0_claimGifts_71 tb_278 pX3_add ⟨Nat.le_of_ble_eq_true rfl, Nat.le_of_ble_eq_true rfl⟩ ⟨rfl, rfl⟩ ⟨Nat.zero_le _, Nat.zero_le _⟩ rfl (Nat.le_of_ble_eq_true rfl) [1, 5] [0, 2, 3, 4] rfl rfl (by decide) (by decide) (by decide) rfl rfl [0, 4, 1, 2, 3, 5] (by decide) (wB K h t1 t2 t3 t4 c (pAdd (gPut ((bClaimN C x i).2.2) (nI i) 4 1) (bHome (gPut ((bClaimN C x i).2.2) (nI i) 4 1) (nI i)) 0 (bTax (gPut ((bClaimN C x i).2.2) (nI i) 4 1) (nI i)))) rfl ?_
              refine gx_aload_n (pc := 74) hB dX0_claimGifts_74 0 rfl ?_
              refine gx_get (pc := 75) hB dX0_claimGifts_75 inX0 rfl 0 rfl 1 (by decide) tb_81 rfl rfl ?_
              refine gx_aload_n (pc := 78) hB dX0_claimGifts_78 0 rfl ?_
              refine gx_iload (pc := 79) hB dX0_claimGifts_79 4 rfl ?_
              refine gx_dVi (pc := 81) (r := bHome (pAdd (gPut ((bClaimN C x i).2.2) (nI i) 4 1) (bHome (gPut ((bClaimN C x i).2.2) (nI i) 4 1) (nI i)) 0 (bTax (gPut ((bClaimN C x i).2.2) (nI i) 4 1) (nI i))) (nI i)) (wr := []) hB (c_X0_homeOfGift l K h t1 t2 t3 t4 c (pAdd (gPut ((bClaimN C x i).2.2) (nI i) 4 1) (bHome (gPut ((bClaimN C x i).2.2) (nI i) 4 1) (nI i)) 0 (bTax (gPut ((bClaimN C x i).2.2) (nI i) 4 1) (nI i))) (nI i) ) mX0_homeOfGift dX0_claimGifts_81 tb_357 pX0_homeOfGift ⟨Nat.le_of_ble_eq_true rfl, Nat.le_of_ble_eq_true rfl⟩ ⟨rfl, rfl⟩ ⟨Nat.zero_le _, Nat.zero_le _⟩ rfl (Nat.le_of_ble_eq_true rfl) [0, 1, 2, 3, 4, 5] [] rfl rfl (by decide) (by decide) (by decide) rfl rfl [0, 1, 2, 3, 4, 5] (by decide) (wB K h t1 t2 t3 t4 c (pAdd (gPut ((bClaimN C x i).2.2) (nI i) 4 1) (bHome (gPut ((bClaimN C x i).2.2) (nI i) 4 1) (nI i)) 0 (bTax (gPut ((bClaimN C x i).2.2) (nI i) 4 1) (nI i)))) rfl ?_
              refine gx_iconst (pc := 84) hB dX0_claimGifts_84 2 (by decide) ?_
              refine gx_aload_n (pc := 85) hB dX0_claimGifts_85 0 rfl ?_
              refine gx_iload (pc := 86) hB dX0_claimGifts_86 4 rfl ?_
              refine gx_dVi (pc := 88) (r := bTax (pAdd (gPut ((bClaimN C x i).2.2) (nI i) 4 1) (bHome (gPut ((bClaimN C x i).2.2) (nI i) 4 1) (nI i)) 0 (bTax (gPut ((bClaimN C x i).2.2) (nI i) 4 1) (nI i))) (nI i)) (wr := []) hB (c_X0_taxOf l K h t1 t2 t3 t4 c (pAdd (gPut ((bClaimN C x i).2.2) (nI i) 4 1) (bHome (gPut ((bClaimN C x i).2.2) (nI i) 4 1) (nI i)) 0 (bTax (gPut ((bClaimN C x i).2.2) (nI i) 4 1) (nI i))) (nI i) ) mX0_taxOf dX0_claimGifts_88 tb_361 pX0_taxOf ⟨Nat.le_of_ble_eq_true rfl, Nat.le_of_ble_eq_true rfl⟩ ⟨rfl, rfl⟩ ⟨Nat.zero_le _, Nat.zero_le _⟩ rfl (Nat.le_of_ble_eq_true rfl) [0, 1, 2, 3, 4, 5] [] rfl rfl (by decide) (by decide) (by decide) rfl rfl [0, 1, 2, 3, 4, 5] (by decide) (wB K h t1 t2 t3 t4 c (pAdd (gPut ((bClaimN C x i).2.2) (nI i) 4 1) (bHome (gPut ((bClaimN C x i).2.2) (nI i) 4 1) (nI i)) 0 (bTax (gPut ((bClaimN C x i).2.2) (nI i) 4 1) (nI i)))) rfl ?_
              refine gx_dVv (pc := 91) (wr := [(h, .inr (0, [.ref c, .ref t1, .ref t2, .ref t3, .ref t4])), (t2, .inr (3, [.ref c, .int (nI 76), .int (nI 8), .int (nI 7)])), (t3, .inr (3, [.ref c, .int (nI 133), .int (nI 24), .int (nI 7)])), (t4, .inr (3, [.ref c, .int (nI 302), .int (nI 6), .int (nI 8)]))]) hB (c_X3_add l K t1 c 3 6 12 (pAdd (gPut ((bClaimN C x i).2.2) (nI i) 4 1) (bHome (gPut ((bClaimN C x i).2.2) (nI i) 4 1) (nI i)) 0 (bTax (gPut ((bClaimN C x i).2.2) (nI i) 4 1) (nI i))) (bHome (pAdd (gPut ((bClaimN C x i).2.2) (nI i) 4 1) (bHome (gPut ((bClaimN C x i).2.2) (nI i) 4 1) (nI i)) 0 (bTax (gPut ((bClaimN C x i).2.2) (nI i) 4 1) (nI i))) (nI i)) 2 (bTax (pAdd (gPut ((bClaimN C x i).2.2) (nI i) 4 1) (bHome (gPut ((bClaimN C x i).2.2) (nI i) 4 1) (nI i)) 0 (bTax (gPut ((bClaimN C x i).2.2) (nI i) 4 1) (nI i))) (nI i)) (by first | decide | (unfold tHb; decide))) mX3_add dX0_claimGifts_91 tb_278 pX3_add ⟨Nat.le_of_ble_eq_true rfl, Nat.le_of_ble_eq_true rfl⟩ ⟨rfl, rfl⟩ ⟨Nat.zero_le _, Nat.zero_le _⟩ rfl (Nat.le_of_ble_eq_true rfl) [1, 5] [0, 2, 3, 4] rfl rfl (by decide) (by decide) (by decide) rfl rfl [0, 4, 1, 2, 3, 5] (by decide) (wB K h t1 t2 t3 t4 c (pAdd (pAdd (gPut ((bClaimN C x i).2.2) (nI i) 4 1) (bHome (gPut ((bClaimN C x i).2.2) (nI i) 4 1) (nI i)) 0 (bTax (gPut ((bClaimN C x i).2.2) (nI i) 4 1) (nI i))) (bHome (pAdd (gPut ((bClaimN C x i).2.2) (nI i) 4 1) (bHome (gPut ((bClaimN C x i).2.2) (nI i) 4 1) (nI i)) 0 (bTax (gPut ((bClaimN C x i).2.2) (nI i) 4 1) (nI i))) (nI i)) 2 (bTax (pAdd (gPut ((bClaimN C x i).2.2) (nI i) 4 1) (bHome (gPut ((bClaimN C x i).2.2) (nI i) 4 1) (nI i)) 0 (bTax (gPut ((bClaimN C x i).2.2) (nI i) 4 1) (nI i))) (nI i)))) rfl ?_
              refine gx_iload_n (pc := 94) hB dX0_claimGifts_94 2 rfl ?_
              refine gx_aload_n (pc := 95) hB dX0_claimGifts_95 0 rfl ?_
              refine gx_iload (pc := 96) hB dX0_claimGifts_96 4 rfl ?_
              refine gx_dVi (pc := 98) (r := bTax (pAdd (pAdd (gPut ((bClaimN C x i).2.2) (nI i) 4 1) (bHome (gPut ((bClaimN C x i).2.2) (nI i) 4 1) (nI i)) 0 (bTax (gPut ((bClaimN C x i).2.2) (nI i) 4 1) (nI i))) (bHome (pAdd (gPut ((bClaimN C x i).2.2) (nI i) 4 1) (bHome (gPut ((bClaimN C x i).2.2) (nI i) 4 1) (nI i)) 0 (bTax (gPut ((bClaimN C x i).2.2) (nI i) 4 1) (nI i))) (nI i)) 2 (bTax (pAdd (gPut ((bClaimN C x i).2.2) (nI i) 4 1) (bHome (gPut ((bClaimN C x i).2.2) (nI i) 4 1) (nI i)) 0 (bTax (gPut ((bClaimN C x i).2.2) (nI i) 4 1) (nI i))) (nI i))) (nI i)) (wr := []) hB (c_X0_taxOf l K h t1 t2 t3 t4 c (pAdd (pAdd (gPut ((bClaimN C x i).2.2) (nI i) 4 1) (bHome (gPut ((bClaimN C x i).2.2) (nI i) 4 1) (nI i)) 0 (bTax (gPut ((bClaimN C x i).2.2) (nI i) 4 1) (nI i))) (bHome (pAdd (gPut ((bClaimN C x i).2.2) (nI i) 4 1) (bHome (gPut ((bClaimN C x i).2.2) (nI i) 4 1) (nI i)) 0 (bTax (gPut ((bClaimN C x i).2.2) (nI i) 4 1) (nI i))) (nI i)) 2 (bTax (pAdd (gPut ((bClaimN C x i).2.2) (nI i) 4 1) (bHome (gPut ((bClaimN C x i).2.2) (nI i) 4 1) (nI i)) 0 (bTax (gPut ((bClaimN C x i).2.2) (nI i) 4 1) (nI i))) (nI i))) (nI i) ) mX0_taxOf dX0_claimGifts_98 tb_361 pX0_taxOf ⟨Nat.le_of_ble_eq_true rfl, Nat.le_of_ble_eq_true rfl⟩ ⟨rfl, rfl⟩ ⟨Nat.zero_le _, Nat.zero_le _⟩ rfl (Nat.le_of_ble_eq_true rfl) [0, 1, 2, 3, 4, 5] [] rfl rfl (by decide) (by decide) (by decide) rfl rfl [0, 1, 2, 3, 4, 5] (by decide) (wB K h t1 t2 t3 t4 c (pAdd (pAdd (gPut ((bClaimN C x i).2.2) (nI i) 4 1) (bHome (gPut ((bClaimN C x i).2.2) (nI i) 4 1) (nI i)) 0 (bTax (gPut ((bClaimN C x i).2.2) (nI i) 4 1) (nI i))) (bHome (pAdd (gPut ((bClaimN C x i).2.2) (nI i) 4 1) (bHome (gPut ((bClaimN C x i).2.2) (nI i) 4 1) (nI i)) 0 (bTax (gPut ((bClaimN C x i).2.2) (nI i) 4 1) (nI i))) (nI i)) 2 (bTax (pAdd (gPut ((bClaimN C x i).2.2) (nI i) 4 1) (bHome (gPut ((bClaimN C x i).2.2) (nI i) 4 1) (nI i)) 0 (bTax (gPut ((bClaimN C x i).2.2) (nI i) 4 1) (nI i))) (nI i)))) rfl ?_
              refine gx_iadd (pc := 101) hB dX0_claimGifts_101 ?_
              refine gx_istore_n (pc := 102) hB dX0_claimGifts_102 (by decide) [(2, .int (((bClaimN C x i).1) + (bTax (pAdd (pAdd (gPut ((bClaimN C x i).2.2) (nI i) 4 1) (bHome (gPut ((bClaimN C x i).2.2) (nI i) 4 1) (nI i)) 0 (bTax (gPut ((bClaimN C x i).2.2) (nI i) 4 1) (nI i))) (bHome (pAdd (gPut ((bClaimN C x i).2.2) (nI i) 4 1) (bHome (gPut ((bClaimN C x i).2.2) (nI i) 4 1) (nI i)) 0 (bTax (gPut ((bClaimN C x i).2.2) (nI i) 4 1) (nI i))) (nI i)) 2 (bTax (pAdd (gPut ((bClaimN C x i).2.2) (nI i) 4 1) (bHome (gPut ((bClaimN C x i).2.2) (nI i) 4 1) (nI i)) 0 (bTax (gPut ((bClaimN C x i).2.2) (nI i) 4 1) (nI i))) (nI i))) (nI i)))), (0, .ref h), (1, .int x), (3, .int (bI ((bClaimN C x i).2.1))), (4, .int (nI i))] rfl ?_
              refine gx_iconst (pc := 103) hB dX0_claimGifts_103 1 (by decide) ?_
              refine gx_istore_n (pc := 104) hB dX0_claimGifts_104 (by decide) [(3, .int 1), (2, .int (((bClaimN C x i).1) + (bTax (pAdd (pAdd (gPut ((bClaimN C x i).2.2) (nI i) 4 1) (bHome (gPut ((bClaimN C x i).2.2) (nI i) 4 1) (nI i)) 0 (bTax (gPut ((bClaimN C x i).2.2) (nI i) 4 1) (nI i))) (bHome (pAdd (gPut ((bClaimN C x i).2.2) (nI i) 4 1) (bHome (gPut ((bClaimN C x i).2.2) (nI i) 4 1) (nI i)) 0 (bTax (gPut ((bClaimN C x i).2.2) (nI i) 4 1) (nI i))) (nI i)) 2 (bTax (pAdd (gPut ((bClaimN C x i).2.2) (nI i) 4 1) (bHome (gPut ((bClaimN C x i).2.2) (nI i) 4 1) (nI i)) 0 (bTax (gPut ((bClaimN C x i).2.2) (nI i) 4 1) (nI i))) (nI i))) (nI i)))), (0, .ref h), (1, .int x), (4, .int (nI i))] rfl ?_
              refine gx_iinc (pc := 105) hB dX0_claimGifts_105 4 (by decide) rfl (nI (i + 1)) (nI_1 _) [(4, .int (nI (i + 1))), (3, .int 1), (2, .int (((bClaimN C x i).1) + (bTax (pAdd (pAdd (gPut ((bClaimN C x i).2.2) (nI i) 4 1) (bHome (gPut ((bClaimN C x i).2.2) (nI i) 4 1) (nI i)) 0 (bTax (gPut ((bClaimN C x i).2.2) (nI i) 4 1) (nI i))) (bHome (pAdd (gPut ((bClaimN C x i).2.2) (nI i) 4 1) (bHome (gPut ((bClaimN C x i).2.2) (nI i) 4 1) (nI i)) 0 (bTax (gPut ((bClaimN C x i).2.2) (nI i) 4 1) (nI i))) (nI i)) 2 (bTax (pAdd (gPut ((bClaimN C x i).2.2) (nI i) 4 1) (bHome (gPut ((bClaimN C x i).2.2) (nI i) 4 1) (nI i)) 0 (bTax (gPut ((bClaimN C x i).2.2) (nI i) 4 1) (nI i))) (nI i))) (nI i)))), (0, .ref h), (1, .int x)] rfl ?_
              refine gx_goto (pc := 108) hB 7 dX0_claimGifts_108 (by decide) ?_
              have g2 : ((bClaimN C x i).1) + (bTax (pAdd (pAdd (gPut ((bClaimN C x i).2.2) (nI i) 4 1) (bHome (gPut ((bClaimN C x i).2.2) (nI i) 4 1) (nI i)) 0 (bTax (gPut ((bClaimN C x i).2.2) (nI i) 4 1) (nI i))) (bHome (pAdd (gPut ((bClaimN C x i).2.2) (nI i) 4 1) (bHome (gPut ((bClaimN C x i).2.2) (nI i) 4 1) (nI i)) 0 (bTax (gPut ((bClaimN C x i).2.2) (nI i) 4 1) (nI i))) (nI i)) 2 (bTax (pAdd (gPut ((bClaimN C x i).2.2) (nI i) 4 1) (bHome (gPut ((bClaimN C x i).2.2) (nI i) 4 1) (nI i)) 0 (bTax (gPut ((bClaimN C x i).2.2) (nI i) 4 1) (nI i))) (nI i))) (nI i)) = (bClaimN C x (i + 1)).1 := by simp [bClaim, bClaimC, bClaimN, Int32.not_le.mp c_3, eq_false c_3, eq_false c_4, c_6, c_7, bI]
              have g3 : 1 = bI ((bClaimN C x (i + 1)).2.1) := by simp [bClaim, bClaimC, bClaimN, Int32.not_le.mp c_3, eq_false c_3, eq_false c_4, c_6, c_7, bI]
              have w0 : pAdd (pAdd (gPut ((bClaimN C x i).2.2) (nI i) 4 1) (bHome (gPut ((bClaimN C x i).2.2) (nI i) 4 1) (nI i)) 0 (bTax (gPut ((bClaimN C x i).2.2) (nI i) 4 1) (nI i))) (bHome (pAdd (gPut ((bClaimN C x i).2.2) (nI i) 4 1) (bHome (gPut ((bClaimN C x i).2.2) (nI i) 4 1) (nI i)) 0 (bTax (gPut ((bClaimN C x i).2.2) (nI i) 4 1) (nI i))) (nI i)) 2 (bTax (pAdd (gPut ((bClaimN C x i).2.2) (nI i) 4 1) (bHome (gPut ((bClaimN C x i).2.2) (nI i) 4 1) (nI i)) 0 (bTax (gPut ((bClaimN C x i).2.2) (nI i) 4 1) (nI i))) (nI i)) = (bClaimN C x (i + 1)).2.2 := by simp [bClaim, bClaimC, bClaimN, Int32.not_le.mp c_3, eq_false c_3, eq_false c_4, c_6, c_7, bI]
              refine gx_sub hB (lv' := [(0, .ref h), (1, .int x), (2, .int (((bClaimN C x i).1) + (bTax (pAdd (pAdd (gPut ((bClaimN C x i).2.2) (nI i) 4 1) (bHome (gPut ((bClaimN C x i).2.2) (nI i) 4 1) (nI i)) 0 (bTax (gPut ((bClaimN C x i).2.2) (nI i) 4 1) (nI i))) (bHome (pAdd (gPut ((bClaimN C x i).2.2) (nI i) 4 1) (bHome (gPut ((bClaimN C x i).2.2) (nI i) 4 1) (nI i)) 0 (bTax (gPut ((bClaimN C x i).2.2) (nI i) 4 1) (nI i))) (nI i)) 2 (bTax (pAdd (gPut ((bClaimN C x i).2.2) (nI i) 4 1) (bHome (gPut ((bClaimN C x i).2.2) (nI i) 4 1) (nI i)) 0 (bTax (gPut ((bClaimN C x i).2.2) (nI i) 4 1) (nI i))) (nI i))) (nI i)))), (3, .int 1), (4, .int (nI (i + 1)))]) [3, 4, 2, 1, 0] rfl ?_
              refine gx_all (ws' := wB K h t1 t2 t3 t4 c ((bClaimN C x (i + 1)).2.2)) (lv' := [(0, .ref h), (1, .int x), (2, .int ((bClaimN C x (i + 1)).1)), (3, .int (bI ((bClaimN C x (i + 1)).2.1))), (4, .int (nI (i + 1)))]) (by rw [← w0]) (by rw [← g2, ← g3]) ?_
              exact ih7 (i + 1) (by omega)
  refine gx_sub hB (lv' := [(0, .ref h), (1, .int x), (2, .int 0), (3, .int 0), (4, .int 0)]) [3, 4, 2, 1, 0] rfl ?_
  refine gx_all (ws' := wB K h t1 t2 t3 t4 c ((bClaimN C x 0).2.2)) (lv' := [(0, .ref h), (1, .int x), (2, .int ((bClaimN C x 0).1)), (3, .int (bI ((bClaimN C x 0).2.1))), (4, .int (nI 0))]) (rfl) (rfl) ?_
  exact loop_7 ((C 133).toNatClampNeg) 0 (by omega)
theorem pX0_spendOn : (parseMethodDescriptor yX0_spendOn.desc).map (fun d => d.parameters.length) = some 2 := by decide +kernel
theorem mX0_spendOn : gx_M yX0_spendOn cX0_spendOn 4 (some .int) := ⟨tb_370, tb_371, tb_28, tb_372, by decide, by decide⟩
set_option maxHeartbeats 4000000 in
set_option maxRecDepth 100000 in
theorem c_X0_spendOn (l : Launch) (K : gx_K) (h t1 t2 t3 t4 c : Nat) (C : Nat → Int32) (x y : Int32)  : gx_Ctr l K yX0_spendOn cX0_spendOn 4 (some .int) (rmm 3 43) [.ref h, .int x, .int y] (wB K h t1 t2 t3 t4 c C) (gx_D (some (.int ((bSpend C x y).1))) (wB K h t1 t2 t3 t4 c ((bSpend C x y).2))) := by
  refine gx_of (by decide) (Nat.le_of_ble_eq_true rfl) (fun G hC => ?_)
  have hB := hC.b
  refine gx_lv (lv' := [(0, .ref h), (1, .int x), (2, .int y)]) rfl ?_
  refine gx_aload_n (pc := 0) hB dX0_spendOn_0 0 rfl ?_
  refine gx_get (pc := 1) hB dX0_spendOn_1 inX0 rfl 0 rfl 1 (by decide) tb_81 rfl rfl ?_
  refine gx_iload_n (pc := 4) hB dX0_spendOn_4 1 rfl ?_
  refine gx_dVi (pc := 5) (r := bI (tHas C 3 x)) (wr := [(h, .inr (0, [.ref c, .ref t1, .ref t2, .ref t3, .ref t4])), (t2, .inr (3, [.ref c, .int (nI 76), .int (nI 8), .int (nI 7)])), (t3, .inr (3, [.ref c, .int (nI 133), .int (nI 24), .int (nI 7)])), (t4, .inr (3, [.ref c, .int (nI 302), .int (nI 6), .int (nI 8)]))]) hB (c_X3_has l K t1 c 3 6 12 C x (by first | decide | (unfold tHb; decide))) mX3_has dX0_spendOn_5 tb_164 pX3_has ⟨Nat.le_of_ble_eq_true rfl, Nat.le_of_ble_eq_true rfl⟩ ⟨rfl, rfl⟩ ⟨Nat.zero_le _, Nat.zero_le _⟩ rfl (Nat.le_of_ble_eq_true rfl) [1, 5] [0, 2, 3, 4] rfl rfl (by decide) (by decide) (by decide) rfl rfl [0, 4, 1, 2, 3, 5] (by decide) (wB K h t1 t2 t3 t4 c C) rfl ?_
  refine gx_if_eq_b (pc := 8) hB 22 dX0_spendOn_8 (by decide) (fun c_1 => ?_) (fun c_1 => ?_)
  · refine gx_iconst (pc := 22) hB dX0_spendOn_22 (-1) (by decide) ?_
    have e1 : ((bSpend C x y).1) = (-1) := by simp [bSpend, bSpendC, c_1]
    have f0 : ((bSpend C x y).2) = C := by simp [bSpend, bSpendC, c_1]
    exact gx_iret (pc := 23) hC dX0_spendOn_23 (Nat.zero_le _) (Nat.zero_le _) (⟨by rw [e1], by rw [f0]⟩)
  · refine gx_iload_n (pc := 11) hB dX0_spendOn_11 2 rfl ?_
    refine gx_iconst (pc := 12) hB dX0_spendOn_12 1 (by decide) ?_
    refine gx_sipush (pc := 13) hB dX0_spendOn_13 9999 (by decide) ?_
    refine gx_w0 (pc := 16) (r := bI (bIn y 1 9999)) hB (c_X4_within l K y 1 9999 ) mX4_within dX0_spendOn_16 ⟨Nat.le_of_ble_eq_true rfl, Nat.le_of_ble_eq_true rfl⟩ ⟨rfl, rfl⟩ ⟨Nat.zero_le _, Nat.zero_le _⟩ (Nat.le_of_ble_eq_true rfl) [0, 1, 2, 3, 4, 5] rfl (by decide) ?_
    refine gx_if_ne_b (pc := 19) hB 24 dX0_spendOn_19 (by decide) (fun c_2 => ?_) (fun c_2 => ?_)
    · refine gx_aload_n (pc := 24) hB dX0_spendOn_24 0 rfl ?_
      refine gx_iload_n (pc := 25) hB dX0_spendOn_25 1 rfl ?_
      refine gx_dVi (pc := 26) (r := bI (bClosed C x)) (wr := []) hB (c_X0_isClosed l K h t1 t2 t3 t4 c C x ) mX0_isClosed dX0_spendOn_26 tb_171 pX0_isClosed ⟨Nat.le_of_ble_eq_true rfl, Nat.le_of_ble_eq_true rfl⟩ ⟨rfl, rfl⟩ ⟨Nat.zero_le _, Nat.zero_le _⟩ rfl (Nat.le_of_ble_eq_true rfl) [0, 1, 2, 3, 4, 5] [] rfl rfl (by decide) (by decide) (by decide) rfl rfl [0, 1, 2, 3, 4, 5] (by decide) (wB K h t1 t2 t3 t4 c C) rfl ?_
      refine gx_if_eq_b (pc := 29) hB 35 dX0_spendOn_29 (by decide) (fun c_3 => ?_) (fun c_3 => ?_)
      · refine gx_iconst (pc := 35) hB dX0_spendOn_35 0 (by decide) ?_
        refine gx_iload_n (pc := 36) hB dX0_spendOn_36 2 rfl ?_
        refine gx_aload_n (pc := 37) hB dX0_spendOn_37 0 rfl ?_
        refine gx_iload_n (pc := 38) hB dX0_spendOn_38 1 rfl ?_
        refine gx_dVi (pc := 39) (r := bFund C x) (wr := []) hB (c_X0_fundOf l K h t1 t2 t3 t4 c C x ) mX0_fundOf dX0_spendOn_39 tb_373 pX0_fundOf ⟨Nat.le_of_ble_eq_true rfl, Nat.le_of_ble_eq_true rfl⟩ ⟨rfl, rfl⟩ ⟨Nat.zero_le _, Nat.zero_le _⟩ rfl (Nat.le_of_ble_eq_true rfl) [0, 1, 2, 3, 4, 5] [] rfl rfl (by decide) (by decide) (by decide) rfl rfl [0, 1, 2, 3, 4, 5] (by decide) (wB K h t1 t2 t3 t4 c C) rfl ?_
        refine gx_isub (pc := 42) hB dX0_spendOn_42 ?_
        refine gx_max (pc := 43) hB dX0_spendOn_43 tb_377 tb_378 tb_33 tb_379 (by decide) (by decide) (Nat.zero_le _) (Nat.zero_le _) ?_
        refine gx_top (show (if 0 < y - bFund C x then y - bFund C x else 0) = bSpendH C x y from rfl) ?_
        refine gx_istore_n (pc := 46) hB dX0_spendOn_46 (by decide) [(3, .int (bSpendH C x y)), (0, .ref h), (1, .int x), (2, .int y)] rfl ?_
        refine gx_iload_n (pc := 47) hB dX0_spendOn_47 0 rfl ?_
        refine gx_if_le (pc := 48) hB 67 dX0_spendOn_48 (by decide) (fun c_4 => ?_) (fun c_4 => ?_)
        · refine gx_aload_n (pc := 67) hB dX0_spendOn_67 1 rfl ?_
          refine gx_get (pc := 68) hB dX0_spendOn_68 inX0 rfl 0 rfl 1 (by decide) tb_81 rfl rfl ?_
          refine gx_iload_n (pc := 71) hB dX0_spendOn_71 2 rfl ?_
          refine gx_iconst (pc := 72) hB dX0_spendOn_72 0 (by decide) ?_
          refine gx_iload_n (pc := 73) hB dX0_spendOn_73 0 rfl ?_
          refine gx_iload_n (pc := 74) hB dX0_spendOn_74 3 rfl ?_
          refine gx_isub (pc := 75) hB dX0_spendOn_75 ?_
          refine gx_dVv (pc := 76) (wr := [(h, .inr (0, [.ref c, .ref t1, .ref t2, .ref t3, .ref t4])), (t2, .inr (3, [.ref c, .int (nI 76), .int (nI 8), .int (nI 7)])), (t3, .inr (3, [.ref c, .int (nI 133), .int (nI 24), .int (nI 7)])), (t4, .inr (3, [.ref c, .int (nI 302), .int (nI 6), .int (nI 8)]))]) hB (c_X3_add l K t1 c 3 6 12 C x 0 (bSpendH C x y - y) (by first | decide | (unfold tHb; decide))) mX3_add dX0_spendOn_76 tb_278 pX3_add ⟨Nat.le_of_ble_eq_true rfl, Nat.le_of_ble_eq_true rfl⟩ ⟨rfl, rfl⟩ ⟨Nat.zero_le _, Nat.zero_le _⟩ rfl (Nat.le_of_ble_eq_true rfl) [1, 5] [0, 2, 3, 4] rfl rfl (by decide) (by decide) (by decide) rfl rfl [0, 4, 1, 2, 3, 5] (by decide) (wB K h t1 t2 t3 t4 c (pAdd C x 0 (bSpendH C x y - y))) rfl ?_
          refine gx_aload_n (pc := 79) hB dX0_spendOn_79 1 rfl ?_
          refine gx_get (pc := 80) hB dX0_spendOn_80 inX0 rfl 0 rfl 1 (by decide) tb_81 rfl rfl ?_
          refine gx_iload_n (pc := 83) hB dX0_spendOn_83 2 rfl ?_
          refine gx_iconst (pc := 84) hB dX0_spendOn_84 3 (by decide) ?_
          refine gx_iload_n (pc := 85) hB dX0_spendOn_85 3 rfl ?_
          refine gx_dVv (pc := 86) (wr := [(h, .inr (0, [.ref c, .ref t1, .ref t2, .ref t3, .ref t4])), (t2, .inr (3, [.ref c, .int (nI 76), .int (nI 8), .int (nI 7)])), (t3, .inr (3, [.ref c, .int (nI 133), .int (nI 24), .int (nI 7)])), (t4, .inr (3, [.ref c, .int (nI 302), .int (nI 6), .int (nI 8)]))]) hB (c_X3_add l K t1 c 3 6 12 (pAdd C x 0 (bSpendH C x y - y)) x 3 y (by first | decide | (unfold tHb; decide))) mX3_add dX0_spendOn_86 tb_278 pX3_add ⟨Nat.le_of_ble_eq_true rfl, Nat.le_of_ble_eq_true rfl⟩ ⟨rfl, rfl⟩ ⟨Nat.zero_le _, Nat.zero_le _⟩ rfl (Nat.le_of_ble_eq_true rfl) [1, 5] [0, 2, 3, 4] rfl rfl (by decide) (by decide) (by decide) rfl rfl [0, 4, 1, 2, 3, 5] (by decide) (wB K h t1 t2 t3 t4 c (pAdd (pAdd C x 0 (bSpendH C x y - y)) x 3 y)) rfl ?_
          refine gx_aload_n (pc := 89) hB dX0_spendOn_89 1 rfl ?_
          refine gx_get (pc := 90) hB dX0_spendOn_90 inX0 rfl 0 rfl 1 (by decide) tb_81 rfl rfl ?_
          refine gx_iload_n (pc := 93) hB dX0_spendOn_93 2 rfl ?_
          refine gx_iconst (pc := 94) hB dX0_spendOn_94 4 (by decide) ?_
          refine gx_iload_n (pc := 95) hB dX0_spendOn_95 0 rfl ?_
          refine gx_dVv (pc := 96) (wr := [(h, .inr (0, [.ref c, .ref t1, .ref t2, .ref t3, .ref t4])), (t2, .inr (3, [.ref c, .int (nI 76), .int (nI 8), .int (nI 7)])), (t3, .inr (3, [.ref c, .int (nI 133), .int (nI 24), .int (nI 7)])), (t4, .inr (3, [.ref c, .int (nI 302), .int (nI 6), .int (nI 8)]))]) hB (c_X3_add l K t1 c 3 6 12 (pAdd (pAdd C x 0 (bSpendH C x y - y)) x 3 y) x 4 (bSpendH C x y) (by first | decide | (unfold tHb; decide))) mX3_add dX0_spendOn_96 tb_278 pX3_add ⟨Nat.le_of_ble_eq_true rfl, Nat.le_of_ble_eq_true rfl⟩ ⟨rfl, rfl⟩ ⟨Nat.zero_le _, Nat.zero_le _⟩ rfl (Nat.le_of_ble_eq_true rfl) [1, 5] [0, 2, 3, 4] rfl rfl (by decide) (by decide) (by decide) rfl rfl [0, 4, 1, 2, 3, 5] (by decide) (wB K h t1 t2 t3 t4 c (pAdd (pAdd (pAdd C x 0 (bSpendH C x y - y)) x 3 y) x 4 (bSpendH C x y))) rfl ?_
          refine gx_aload_n (pc := 99) hB dX0_spendOn_99 1 rfl ?_
          refine gx_get (pc := 100) hB dX0_spendOn_100 inX0 rfl 0 rfl 1 (by decide) tb_81 rfl rfl ?_
          refine gx_iconst (pc := 103) hB dX0_spendOn_103 0 (by decide) ?_
          refine gx_iconst (pc := 104) hB dX0_spendOn_104 0 (by decide) ?_
          refine gx_iload_n (pc := 105) hB dX0_spendOn_105 0 rfl ?_
          refine gx_ineg (pc := 106) hB dX0_spendOn_106 ?_
          refine gx_dVv (pc := 107) (wr := [(h, .inr (0, [.ref c, .ref t1, .ref t2, .ref t3, .ref t4])), (t2, .inr (3, [.ref c, .int (nI 76), .int (nI 8), .int (nI 7)])), (t3, .inr (3, [.ref c, .int (nI 133), .int (nI 24), .int (nI 7)])), (t4, .inr (3, [.ref c, .int (nI 302), .int (nI 6), .int (nI 8)]))]) hB (c_X3_add l K t1 c 3 6 12 (pAdd (pAdd (pAdd C x 0 (bSpendH C x y - y)) x 3 y) x 4 (bSpendH C x y)) 0 0 (-(bSpendH C x y)) (by first | decide | (unfold tHb; decide))) mX3_add dX0_spendOn_107 tb_278 pX3_add ⟨Nat.le_of_ble_eq_true rfl, Nat.le_of_ble_eq_true rfl⟩ ⟨rfl, rfl⟩ ⟨Nat.zero_le _, Nat.zero_le _⟩ rfl (Nat.le_of_ble_eq_true rfl) [1, 5] [0, 2, 3, 4] rfl rfl (by decide) (by decide) (by decide) rfl rfl [0, 4, 1, 2, 3, 5] (by decide) (wB K h t1 t2 t3 t4 c (pAdd (pAdd (pAdd (pAdd C x 0 (bSpendH C x y - y)) x 3 y) x 4 (bSpendH C x y)) 0 0 (-(bSpendH C x y)))) rfl ?_
          refine gx_aload_n (pc := 110) hB dX0_spendOn_110 1 rfl ?_
          refine gx_get (pc := 111) hB dX0_spendOn_111 inX0 rfl 0 rfl 1 (by decide) tb_81 rfl rfl ?_
          refine gx_iconst (pc := 114) hB dX0_spendOn_114 0 (by decide) ?_
          refine gx_bipush (pc := 115) hB dX0_spendOn_115 11 (by decide) ?_
          refine gx_iload_n (pc := 117) hB dX0_spendOn_117 0 rfl ?_
          refine gx_dVv (pc := 118) (wr := [(h, .inr (0, [.ref c, .ref t1, .ref t2, .ref t3, .ref t4])), (t2, .inr (3, [.ref c, .int (nI 76), .int (nI 8), .int (nI 7)])), (t3, .inr (3, [.ref c, .int (nI 133), .int (nI 24), .int (nI 7)])), (t4, .inr (3, [.ref c, .int (nI 302), .int (nI 6), .int (nI 8)]))]) hB (c_X3_add l K t1 c 3 6 12 (pAdd (pAdd (pAdd (pAdd C x 0 (bSpendH C x y - y)) x 3 y) x 4 (bSpendH C x y)) 0 0 (-(bSpendH C x y))) 0 11 (bSpendH C x y) (by first | decide | (unfold tHb; decide))) mX3_add dX0_spendOn_118 tb_278 pX3_add ⟨Nat.le_of_ble_eq_true rfl, Nat.le_of_ble_eq_true rfl⟩ ⟨rfl, rfl⟩ ⟨Nat.zero_le _, Nat.zero_le _⟩ rfl (Nat.le_of_ble_eq_true rfl) [1, 5] [0, 2, 3, 4] rfl rfl (by decide) (by decide) (by decide) rfl rfl [0, 4, 1, 2, 3, 5] (by decide) (wB K h t1 t2 t3 t4 c (pAdd (pAdd (pAdd (pAdd (pAdd C x 0 (bSpendH C x y - y)) x 3 y) x 4 (bSpendH C x y)) 0 0 (-(bSpendH C x y))) 0 11 (bSpendH C x y))) rfl ?_
          refine gx_iload_n (pc := 121) hB dX0_spendOn_121 0 rfl ?_
          have e1 : ((bSpend C x y).1) = bSpendH C x y := by simp [bSpend, bSpendC, c_1, c_2, c_3, c_4, eq_false (Int32.not_lt.mpr c_4)]
          have f0 : ((bSpend C x y).2) = (pAdd (pAdd (pAdd (pAdd (pAdd C x 0 (bSpendH C x y - y)) x 3 y) x 4 (bSpendH C x y)) 0 0 (-(bSpendH C x y))) 0 11 (bSpendH C x y)) := by simp [bSpend, bSpendC, c_1, c_2, c_3, c_4, eq_false (Int32.not_lt.mpr c_4)]
          exact gx_iret (pc := 122) hC dX0_spendOn_122 (Nat.zero_le _) (Nat.zero_le _) (⟨by rw [e1], by rw [f0]⟩)
        · refine gx_iload_n (pc := 51) hB dX0_spendOn_51 2 rfl ?_
          refine gx_if_eq (pc := 52) hB 64 dX0_spendOn_52 (by decide) (fun c_5 => ?_) (fun c_5 => ?_)
          · refine gx_bipush (pc := 64) hB dX0_spendOn_64 (-2) (by decide) ?_
            have e1 : ((bSpend C x y).1) = (-2) := by simp [bSpend, bSpendC, c_1, c_2, c_3, Int32.not_le.mp c_4, eq_false c_4, eq_true c_5]
            have f0 : ((bSpend C x y).2) = C := by simp [bSpend, bSpendC, c_1, c_2, c_3, Int32.not_le.mp c_4, eq_false c_4, eq_true c_5]
            exact gx_iret (pc := 66) hC dX0_spendOn_66 (Nat.zero_le _) (Nat.zero_le _) (⟨by rw [e1], by rw [f0]⟩)
          · refine gx_aload_n (pc := 55) hB dX0_spendOn_55 1 rfl ?_
            refine gx_iconst (pc := 56) hB dX0_spendOn_56 0 (by decide) ?_
            refine gx_dVi (pc := 57) (r := bFund C 0) (wr := []) hB (c_X0_fundOf l K h t1 t2 t3 t4 c C 0 ) mX0_fundOf dX0_spendOn_57 tb_373 pX0_fundOf ⟨Nat.le_of_ble_eq_true rfl, Nat.le_of_ble_eq_true rfl⟩ ⟨rfl, rfl⟩ ⟨Nat.zero_le _, Nat.zero_le _⟩ rfl (Nat.le_of_ble_eq_true rfl) [0, 1, 2, 3, 4, 5] [] rfl rfl (by decide) (by decide) (by decide) rfl rfl [0, 1, 2, 3, 4, 5] (by decide) (wB K h t1 t2 t3 t4 c C) rfl ?_
            refine gx_iload_n (pc := 60) hB dX0_spendOn_60 0 rfl ?_
            refine gx_icmp_ge (pc := 61) hB 67 dX0_spendOn_61 (by decide) (fun c_6 => ?_) (fun c_6 => ?_)
            · refine gx_aload_n (pc := 67) hB dX0_spendOn_67 1 rfl ?_
              refine gx_get (pc := 68) hB dX0_spendOn_68 inX0 rfl 0 rfl 1 (by decide) tb_81 rfl rfl ?_
              refine gx_iload_n (pc := 71) hB dX0_spendOn_71 2 rfl ?_
              refine gx_iconst (pc := 72) hB dX0_spendOn_72 0 (by decide) ?_
              refine gx_iload_n (pc := 73) hB dX0_spendOn_73 0 rfl ?_
              refine gx_iload_n (pc := 74) hB dX0_spendOn_74 3 rfl ?_
              refine gx_isub (pc := 75) hB dX0_spendOn_75 ?_
              refine gx_dVv (pc := 76) (wr := [(h, .inr (0, [.ref c, .ref t1, .ref t2, .ref t3, .ref t4])), (t2, .inr (3, [.ref c, .int (nI 76), .int (nI 8), .int (nI 7)])), (t3, .inr (3, [.ref c, .int (nI 133), .int (nI 24), .int (nI 7)])), (t4, .inr (3, [.ref c, .int (nI 302), .int (nI 6), .int (nI 8)]))]) hB (c_X3_add l K t1 c 3 6 12 C x 0 (bSpendH C x y - y) (by first | decide | (unfold tHb; decide))) mX3_add dX0_spendOn_76 tb_278 pX3_add ⟨Nat.le_of_ble_eq_true rfl, Nat.le_of_ble_eq_true rfl⟩ ⟨rfl, rfl⟩ ⟨Nat.zero_le _, Nat.zero_le _⟩ rfl (Nat.le_of_ble_eq_true rfl) [1, 5] [0, 2, 3, 4] rfl rfl (by decide) (by decide) (by decide) rfl rfl [0, 4, 1, 2, 3, 5] (by decide) (wB K h t1 t2 t3 t4 c (pAdd C x 0 (bSpendH C x y - y))) rfl ?_
              refine gx_aload_n (pc := 79) hB dX0_spendOn_79 1 rfl ?_
              refine gx_get (pc := 80) hB dX0_spendOn_80 inX0 rfl 0 rfl 1 (by decide) tb_81 rfl rfl ?_
              refine gx_iload_n (pc := 83) hB dX0_spendOn_83 2 rfl ?_
              refine gx_iconst (pc := 84) hB dX0_spendOn_84 3 (by decide) ?_
              refine gx_iload_n (pc := 85) hB dX0_spendOn_85 3 rfl ?_
              refine gx_dVv (pc := 86) (wr := [(h, .inr (0, [.ref c, .ref t1, .ref t2, .ref t3, .ref t4])), (t2, .inr (3, [.ref c, .int (nI 76), .int (nI 8), .int (nI 7)])), (t3, .inr (3, [.ref c, .int (nI 133), .int (nI 24), .int (nI 7)])), (t4, .inr (3, [.ref c, .int (nI 302), .int (nI 6), .int (nI 8)]))]) hB (c_X3_add l K t1 c 3 6 12 (pAdd C x 0 (bSpendH C x y - y)) x 3 y (by first | decide | (unfold tHb; decide))) mX3_add dX0_spendOn_86 tb_278 pX3_add ⟨Nat.le_of_ble_eq_true rfl, Nat.le_of_ble_eq_true rfl⟩ ⟨rfl, rfl⟩ ⟨Nat.zero_le _, Nat.zero_le _⟩ rfl (Nat.le_of_ble_eq_true rfl) [1, 5] [0, 2, 3, 4] rfl rfl (by decide) (by decide) (by decide) rfl rfl [0, 4, 1, 2, 3, 5] (by decide) (wB K h t1 t2 t3 t4 c (pAdd (pAdd C x 0 (bSpendH C x y - y)) x 3 y)) rfl ?_
              refine gx_aload_n (pc := 89) hB dX0_spendOn_89 1 rfl ?_
              refine gx_get (pc := 90) hB dX0_spendOn_90 inX0 rfl 0 rfl 1 (by decide) tb_81 rfl rfl ?_
              refine gx_iload_n (pc := 93) hB dX0_spendOn_93 2 rfl ?_
              refine gx_iconst (pc := 94) hB dX0_spendOn_94 4 (by decide) ?_
              refine gx_iload_n (pc := 95) hB dX0_spendOn_95 0 rfl ?_
              refine gx_dVv (pc := 96) (wr := [(h, .inr (0, [.ref c, .ref t1, .ref t2, .ref t3, .ref t4])), (t2, .inr (3, [.ref c, .int (nI 76), .int (nI 8), .int (nI 7)])), (t3, .inr (3, [.ref c, .int (nI 133), .int (nI 24), .int (nI 7)])), (t4, .inr (3, [.ref c, .int (nI 302), .int (nI 6), .int (nI 8)]))]) hB (c_X3_add l K t1 c 3 6 12 (pAdd (pAdd C x 0 (bSpendH C x y - y)) x 3 y) x 4 (bSpendH C x y) (by first | decide | (unfold tHb; decide))) mX3_add dX0_spendOn_96 tb_278 pX3_add ⟨Nat.le_of_ble_eq_true rfl, Nat.le_of_ble_eq_true rfl⟩ ⟨rfl, rfl⟩ ⟨Nat.zero_le _, Nat.zero_le _⟩ rfl (Nat.le_of_ble_eq_true rfl) [1, 5] [0, 2, 3, 4] rfl rfl (by decide) (by decide) (by decide) rfl rfl [0, 4, 1, 2, 3, 5] (by decide) (wB K h t1 t2 t3 t4 c (pAdd (pAdd (pAdd C x 0 (bSpendH C x y - y)) x 3 y) x 4 (bSpendH C x y))) rfl ?_
              refine gx_aload_n (pc := 99) hB dX0_spendOn_99 1 rfl ?_
              refine gx_get (pc := 100) hB dX0_spendOn_100 inX0 rfl 0 rfl 1 (by decide) tb_81 rfl rfl ?_
              refine gx_iconst (pc := 103) hB dX0_spendOn_103 0 (by decide) ?_
              refine gx_iconst (pc := 104) hB dX0_spendOn_104 0 (by decide) ?_
              refine gx_iload_n (pc := 105) hB dX0_spendOn_105 0 rfl ?_
              refine gx_ineg (pc := 106) hB dX0_spendOn_106 ?_
              refine gx_dVv (pc := 107) (wr := [(h, .inr (0, [.ref c, .ref t1, .ref t2, .ref t3, .ref t4])), (t2, .inr (3, [.ref c, .int (nI 76), .int (nI 8), .int (nI 7)])), (t3, .inr (3, [.ref c, .int (nI 133), .int (nI 24), .int (nI 7)])), (t4, .inr (3, [.ref c, .int (nI 302), .int (nI 6), .int (nI 8)]))]) hB (c_X3_add l K t1 c 3 6 12 (pAdd (pAdd (pAdd C x 0 (bSpendH C x y - y)) x 3 y) x 4 (bSpendH C x y)) 0 0 (-(bSpendH C x y)) (by first | decide | (unfold tHb; decide))) mX3_add dX0_spendOn_107 tb_278 pX3_add ⟨Nat.le_of_ble_eq_true rfl, Nat.le_of_ble_eq_true rfl⟩ ⟨rfl, rfl⟩ ⟨Nat.zero_le _, Nat.zero_le _⟩ rfl (Nat.le_of_ble_eq_true rfl) [1, 5] [0, 2, 3, 4] rfl rfl (by decide) (by decide) (by decide) rfl rfl [0, 4, 1, 2, 3, 5] (by decide) (wB K h t1 t2 t3 t4 c (pAdd (pAdd (pAdd (pAdd C x 0 (bSpendH C x y - y)) x 3 y) x 4 (bSpendH C x y)) 0 0 (-(bSpendH C x y)))) rfl ?_
              refine gx_aload_n (pc := 110) hB dX0_spendOn_110 1 rfl ?_
              refine gx_get (pc := 111) hB dX0_spendOn_111 inX0 rfl 0 rfl 1 (by decide) tb_81 rfl rfl ?_
              refine gx_iconst (pc := 114) hB dX0_spendOn_114 0 (by decide) ?_
              refine gx_bipush (pc := 115) hB dX0_spendOn_115 11 (by decide) ?_
              refine gx_iload_n (pc := 117) hB dX0_spendOn_117 0 rfl ?_
              refine gx_dVv (pc := 118) (wr := [(h, .inr (0, [.ref c, .ref t1, .ref t2, .ref t3, .ref t4])), (t2, .inr (3, [.ref c, .int (nI 76), .int (nI 8), .int (nI 7)])), (t3, .inr (3, [.ref c, .int (nI 133), .int (nI 24), .int (nI 7)])), (t4, .inr (3, [.ref c, .int (nI 302), .int (nI 6), .int (nI 8)]))]) hB (c_X3_add l K t1 c 3 6 12 (pAdd (pAdd (pAdd (pAdd C x 0 (bSpendH C x y - y)) x 3 y) x 4 (bSpendH C x y)) 0 0 (-(bSpendH C x y))) 0 11 (bSpendH C x y) (by first | decide | (unfold tHb; decide))) mX3_add dX0_spendOn_118 tb_278 pX3_add ⟨Nat.le_of_ble_eq_true rfl, Nat.le_of_ble_eq_true rfl⟩ ⟨rfl, rfl⟩ ⟨Nat.zero_le _, Nat.zero_le _⟩ rfl (Nat.le_of_ble_eq_true rfl) [1, 5] [0, 2, 3, 4] rfl rfl (by decide) (by decide) (by decide) rfl rfl [0, 4, 1, 2, 3, 5] (by decide) (wB K h t1 t2 t3 t4 c (pAdd (pAdd (pAdd (pAdd (pAdd C x 0 (bSpendH C x y - y)) x 3 y) x 4 (bSpendH C x y)) 0 0 (-(bSpendH C x y))) 0 11 (bSpendH C x y))) rfl ?_
              refine gx_iload_n (pc := 121) hB dX0_spendOn_121 0 rfl ?_
              have e1 : ((bSpend C x y).1) = bSpendH C x y := by simp [bSpend, bSpendC, c_1, c_2, c_3, Int32.not_le.mp c_4, eq_false c_4, eq_false c_5, c_6, eq_false (Int32.not_lt.mpr c_6)]
              have f0 : ((bSpend C x y).2) = (pAdd (pAdd (pAdd (pAdd (pAdd C x 0 (bSpendH C x y - y)) x 3 y) x 4 (bSpendH C x y)) 0 0 (-(bSpendH C x y))) 0 11 (bSpendH C x y)) := by simp [bSpend, bSpendC, c_1, c_2, c_3, Int32.not_le.mp c_4, eq_false c_4, eq_false c_5, c_6, eq_false (Int32.not_lt.mpr c_6)]
              exact gx_iret (pc := 122) hC dX0_spendOn_122 (Nat.zero_le _) (Nat.zero_le _) (⟨by rw [e1], by rw [f0]⟩)
            · refine gx_bipush (pc := 64) hB dX0_spendOn_64 (-2) (by decide) ?_
              have e1 : ((bSpend C x y).1) = (-2) := by simp [bSpend, bSpendC, c_1, c_2, c_3, Int32.not_le.mp c_4, eq_false c_4, eq_false c_5, Int32.not_le.mp c_6, eq_false c_6]
              have f0 : ((bSpend C x y).2) = C := by simp [bSpend, bSpendC, c_1, c_2, c_3, Int32.not_le.mp c_4, eq_false c_4, eq_false c_5, Int32.not_le.mp c_6, eq_false c_6]
              exact gx_iret (pc := 66) hC dX0_spendOn_66 (Nat.zero_le _) (Nat.zero_le _) (⟨by rw [e1], by rw [f0]⟩)
      · refine gx_bipush (pc := 32) hB dX0_spendOn_32 (-2) (by decide) ?_
        have e1 : ((bSpend C x y).1) = (-2) := by simp [bSpend, bSpendC, c_1, c_2, c_3]
        have f0 : ((bSpend C x y).2) = C := by simp [bSpend, bSpendC, c_1, c_2, c_3]
        exact gx_iret (pc := 34) hC dX0_spendOn_34 (Nat.zero_le _) (Nat.zero_le _) (⟨by rw [e1], by rw [f0]⟩)
    · refine gx_iconst (pc := 22) hB dX0_spendOn_22 (-1) (by decide) ?_
      have e1 : ((bSpend C x y).1) = (-1) := by simp [bSpend, bSpendC, c_1, c_2]
      have f0 : ((bSpend C x y).2) = C := by simp [bSpend, bSpendC, c_1, c_2]
      exact gx_iret (pc := 23) hC dX0_spendOn_23 (Nat.zero_le _) (Nat.zero_le _) (⟨by rw [e1], by rw [f0]⟩)
theorem pX0_refundGift : (parseMethodDescriptor yX0_refundGift.desc).map (fun d => d.parameters.length) = some 1 := by decide +kernel
theorem mX0_refundGift : gx_M yX0_refundGift cX0_refundGift 5 (some .int) := ⟨tb_462, tb_463, tb_28, tb_464, by decide, by decide⟩
set_option maxHeartbeats 4000000 in
set_option maxRecDepth 100000 in
theorem c_X0_refundGift (l : Launch) (K : gx_K) (h t1 t2 t3 t4 c : Nat) (C : Nat → Int32) (x : Int32)  : gx_Ctr l K yX0_refundGift cX0_refundGift 5 (some .int) (rmm 3 43) [.ref h, .int x] (wB K h t1 t2 t3 t4 c C) (gx_D (some (.int ((bRefund C x).1))) (wB K h t1 t2 t3 t4 c ((bRefund C x).2))) := by
  refine gx_of (by decide) (Nat.le_of_ble_eq_true rfl) (fun G hC => ?_)
  have hB := hC.b
  refine gx_lv (lv' := [(0, .ref h), (1, .int x)]) rfl ?_
  refine gx_aload_n (pc := 0) hB dX0_refundGift_0 0 rfl ?_
  refine gx_get (pc := 1) hB dX0_refundGift_1 inX0 rfl 0 rfl 3 (by decide) tb_83 rfl rfl ?_
  refine gx_iload_n (pc := 4) hB dX0_refundGift_4 1 rfl ?_
  refine gx_dVi (pc := 5) (r := bI (tHas C 133 x)) (wr := [(h, .inr (0, [.ref c, .ref t1, .ref t2, .ref t3, .ref t4])), (t1, .inr (3, [.ref c, .int (nI 3), .int (nI 6), .int (nI 12)])), (t2, .inr (3, [.ref c, .int (nI 76), .int (nI 8), .int (nI 7)])), (t4, .inr (3, [.ref c, .int (nI 302), .int (nI 6), .int (nI 8)]))]) hB (c_X3_has l K t3 c 133 24 7 C x (by first | decide | (unfold tHb; decide))) mX3_has dX0_refundGift_5 tb_164 pX3_has ⟨Nat.le_of_ble_eq_true rfl, Nat.le_of_ble_eq_true rfl⟩ ⟨rfl, rfl⟩ ⟨Nat.zero_le _, Nat.zero_le _⟩ rfl (Nat.le_of_ble_eq_true rfl) [3, 5] [0, 1, 2, 4] rfl rfl (by decide) (by decide) (by decide) rfl rfl [0, 1, 2, 4, 3, 5] (by decide) (wB K h t1 t2 t3 t4 c C) rfl ?_
  refine gx_if_ne_b (pc := 8) hB 13 dX0_refundGift_8 (by decide) (fun c_1 => ?_) (fun c_1 => ?_)
  · refine gx_aload_n (pc := 13) hB dX0_refundGift_13 0 rfl ?_
    refine gx_get (pc := 14) hB dX0_refundGift_14 inX0 rfl 0 rfl 3 (by decide) tb_83 rfl rfl ?_
    refine gx_iload_n (pc := 17) hB dX0_refundGift_17 1 rfl ?_
    refine gx_iconst (pc := 18) hB dX0_refundGift_18 2 (by decide) ?_
    refine gx_dVi (pc := 19) (r := gAt C x 2) (wr := [(h, .inr (0, [.ref c, .ref t1, .ref t2, .ref t3, .ref t4])), (t1, .inr (3, [.ref c, .int (nI 3), .int (nI 6), .int (nI 12)])), (t2, .inr (3, [.ref c, .int (nI 76), .int (nI 8), .int (nI 7)])), (t4, .inr (3, [.ref c, .int (nI 302), .int (nI 6), .int (nI 8)]))]) hB (c_X3_at l K t3 c 133 24 7 C x 2 (by first | decide | (unfold tHb; decide))) mX3_at dX0_refundGift_19 tb_175 pX3_at ⟨Nat.le_of_ble_eq_true rfl, Nat.le_of_ble_eq_true rfl⟩ ⟨rfl, rfl⟩ ⟨Nat.zero_le _, Nat.zero_le _⟩ rfl (Nat.le_of_ble_eq_true rfl) [3, 5] [0, 1, 2, 4] rfl rfl (by decide) (by decide) (by decide) rfl rfl [0, 1, 2, 4, 3, 5] (by decide) (wB K h t1 t2 t3 t4 c C) rfl ?_
    refine gx_istore_n (pc := 22) hB dX0_refundGift_22 (by decide) [(2, .int (gAt C x 2)), (0, .ref h), (1, .int x)] rfl ?_
    refine gx_aload_n (pc := 23) hB dX0_refundGift_23 1 rfl ?_
    refine gx_iload_n (pc := 24) hB dX0_refundGift_24 2 rfl ?_
    refine gx_dVi (pc := 25) (r := bI (bClaimed C x)) (wr := []) hB (c_X0_isClaimed l K h t1 t2 t3 t4 c C x ) mX0_isClaimed dX0_refundGift_25 tb_345 pX0_isClaimed ⟨Nat.le_of_ble_eq_true rfl, Nat.le_of_ble_eq_true rfl⟩ ⟨rfl, rfl⟩ ⟨Nat.zero_le _, Nat.zero_le _⟩ rfl (Nat.le_of_ble_eq_true rfl) [0, 1, 2, 3, 4, 5] [] rfl rfl (by decide) (by decide) (by decide) rfl rfl [0, 1, 2, 3, 4, 5] (by decide) (wB K h t1 t2 t3 t4 c C) rfl ?_
    refine gx_if_eq_b (pc := 28) hB 39 dX0_refundGift_28 (by decide) (fun c_2 => ?_) (fun c_2 => ?_)
    · refine gx_iconst (pc := 39) hB dX0_refundGift_39 0 (by decide) ?_
      refine gx_istore_n (pc := 40) hB dX0_refundGift_40 (by decide) [(3, .int 0), (2, .int (gAt C x 2)), (0, .ref h), (1, .int x)] rfl ?_
      refine gx_aload_n (pc := 41) hB dX0_refundGift_41 2 rfl ?_
      refine gx_iload_n (pc := 42) hB dX0_refundGift_42 3 rfl ?_
      refine gx_dVi (pc := 43) (r := bHome C x) (wr := []) hB (c_X0_homeOfGift l K h t1 t2 t3 t4 c C x ) mX0_homeOfGift dX0_refundGift_43 tb_357 pX0_homeOfGift ⟨Nat.le_of_ble_eq_true rfl, Nat.le_of_ble_eq_true rfl⟩ ⟨rfl, rfl⟩ ⟨Nat.zero_le _, Nat.zero_le _⟩ rfl (Nat.le_of_ble_eq_true rfl) [0, 1, 2, 3, 4, 5] [] rfl rfl (by decide) (by decide) (by decide) rfl rfl [0, 1, 2, 3, 4, 5] (by decide) (wB K h t1 t2 t3 t4 c C) rfl ?_
      refine gx_istore (pc := 46) hB dX0_refundGift_46 (by decide) [(4, .int (bHome C x)), (3, .int 0), (2, .int (gAt C x 2)), (0, .ref h), (1, .int x)] rfl ?_
      refine gx_aload_n (pc := 48) hB dX0_refundGift_48 3 rfl ?_
      refine gx_iload_n (pc := 49) hB dX0_refundGift_49 4 rfl ?_
      refine gx_dVi (pc := 50) (r := bI (bRefunded C x)) (wr := []) hB (c_X0_isRefunded l K h t1 t2 t3 t4 c C x ) mX0_isRefunded dX0_refundGift_50 tb_349 pX0_isRefunded ⟨Nat.le_of_ble_eq_true rfl, Nat.le_of_ble_eq_true rfl⟩ ⟨rfl, rfl⟩ ⟨Nat.zero_le _, Nat.zero_le _⟩ rfl (Nat.le_of_ble_eq_true rfl) [0, 1, 2, 3, 4, 5] [] rfl rfl (by decide) (by decide) (by decide) rfl rfl [0, 1, 2, 3, 4, 5] (by decide) (wB K h t1 t2 t3 t4 c C) rfl ?_
      refine gx_if_ne_b (pc := 53) hB 68 dX0_refundGift_53 (by decide) (fun c_3 => ?_) (fun c_3 => ?_)
      · refine gx_bipush (pc := 68) hB dX0_refundGift_68 (-2) (by decide) ?_
        have e1 : ((bRefund C x).1) = (-2) := by simp [bRefund, bRefundC, c_1, c_2, c_3]
        have f0 : ((bRefund C x).2) = C := by simp [bRefund, bRefundC, c_1, c_2, c_3]
        exact gx_iret (pc := 70) hC dX0_refundGift_70 (Nat.zero_le _) (Nat.zero_le _) (⟨by rw [e1], by rw [f0]⟩)
      · refine gx_aload_n (pc := 56) hB dX0_refundGift_56 3 rfl ?_
        refine gx_iload (pc := 57) hB dX0_refundGift_57 0 rfl ?_
        refine gx_dVi (pc := 59) (r := bFund C (bHome C x)) (wr := []) hB (c_X0_fundOf l K h t1 t2 t3 t4 c C (bHome C x) ) mX0_fundOf dX0_refundGift_59 tb_373 pX0_fundOf ⟨Nat.le_of_ble_eq_true rfl, Nat.le_of_ble_eq_true rfl⟩ ⟨rfl, rfl⟩ ⟨Nat.zero_le _, Nat.zero_le _⟩ rfl (Nat.le_of_ble_eq_true rfl) [0, 1, 2, 3, 4, 5] [] rfl rfl (by decide) (by decide) (by decide) rfl rfl [0, 1, 2, 3, 4, 5] (by decide) (wB K h t1 t2 t3 t4 c C) rfl ?_
        refine gx_iload_n (pc := 62) hB dX0_refundGift_62 2 rfl ?_
        refine gx_iload_n (pc := 63) hB dX0_refundGift_63 1 rfl ?_
        refine gx_iadd (pc := 64) hB dX0_refundGift_64 ?_
        refine gx_top (show gAt C x 2 + 0 = (gAt C x 2) from Int32.add_zero _) ?_
        refine gx_icmp_ge (pc := 65) hB 71 dX0_refundGift_65 (by decide) (fun c_4 => ?_) (fun c_4 => ?_)
        · refine gx_aload_n (pc := 71) hB dX0_refundGift_71 3 rfl ?_
          refine gx_get (pc := 72) hB dX0_refundGift_72 inX0 rfl 0 rfl 3 (by decide) tb_83 rfl rfl ?_
          refine gx_iload_n (pc := 75) hB dX0_refundGift_75 4 rfl ?_
          refine gx_iconst (pc := 76) hB dX0_refundGift_76 5 (by decide) ?_
          refine gx_iconst (pc := 77) hB dX0_refundGift_77 1 (by decide) ?_
          refine gx_dVv (pc := 78) (wr := [(h, .inr (0, [.ref c, .ref t1, .ref t2, .ref t3, .ref t4])), (t1, .inr (3, [.ref c, .int (nI 3), .int (nI 6), .int (nI 12)])), (t2, .inr (3, [.ref c, .int (nI 76), .int (nI 8), .int (nI 7)])), (t4, .inr (3, [.ref c, .int (nI 302), .int (nI 6), .int (nI 8)]))]) hB (c_X3_put l K t3 c 133 24 7 C x 5 1 (by first | decide | (unfold tHb; decide))) mX3_put dX0_refundGift_78 tb_76 pX3_put ⟨Nat.le_of_ble_eq_true rfl, Nat.le_of_ble_eq_true rfl⟩ ⟨rfl, rfl⟩ ⟨Nat.zero_le _, Nat.zero_le _⟩ rfl (Nat.le_of_ble_eq_true rfl) [3, 5] [0, 1, 2, 4] rfl rfl (by decide) (by decide) (by decide) rfl rfl [0, 1, 2, 4, 3, 5] (by decide) (wB K h t1 t2 t3 t4 c (gPut C x 5 1)) rfl ?_
          refine gx_aload_n (pc := 81) hB dX0_refundGift_81 3 rfl ?_
          refine gx_get (pc := 82) hB dX0_refundGift_82 inX0 rfl 0 rfl 1 (by decide) tb_81 rfl rfl ?_
          refine gx_iload (pc := 85) hB dX0_refundGift_85 0 rfl ?_
          refine gx_iconst (pc := 87) hB dX0_refundGift_87 0 (by decide) ?_
          refine gx_iload_n (pc := 88) hB dX0_refundGift_88 2 rfl ?_
          refine gx_ineg (pc := 89) hB dX0_refundGift_89 ?_
          refine gx_iload_n (pc := 90) hB dX0_refundGift_90 1 rfl ?_
          refine gx_isub (pc := 91) hB dX0_refundGift_91 ?_
          refine gx_top (show (-(gAt C x 2)) - 0 = (-(gAt C x 2)) from Int32.sub_zero _) ?_
          refine gx_dVv (pc := 92) (wr := [(h, .inr (0, [.ref c, .ref t1, .ref t2, .ref t3, .ref t4])), (t2, .inr (3, [.ref c, .int (nI 76), .int (nI 8), .int (nI 7)])), (t3, .inr (3, [.ref c, .int (nI 133), .int (nI 24), .int (nI 7)])), (t4, .inr (3, [.ref c, .int (nI 302), .int (nI 6), .int (nI 8)]))]) hB (c_X3_add l K t1 c 3 6 12 (gPut C x 5 1) (bHome C x) 0 (-(gAt C x 2)) (by first | decide | (unfold tHb; decide))) mX3_add dX0_refundGift_92 tb_278 pX3_add ⟨Nat.le_of_ble_eq_true rfl, Nat.le_of_ble_eq_true rfl⟩ ⟨rfl, rfl⟩ ⟨Nat.zero_le _, Nat.zero_le _⟩ rfl (Nat.le_of_ble_eq_true rfl) [1, 5] [0, 2, 3, 4] rfl rfl (by decide) (by decide) (by decide) rfl rfl [0, 4, 1, 2, 3, 5] (by decide) (wB K h t1 t2 t3 t4 c (pAdd (gPut C x 5 1) (bHome C x) 0 (-(gAt C x 2)))) rfl ?_
          refine gx_aload_n (pc := 95) hB dX0_refundGift_95 3 rfl ?_
          refine gx_get (pc := 96) hB dX0_refundGift_96 inX0 rfl 0 rfl 1 (by decide) tb_81 rfl rfl ?_
          refine gx_iload (pc := 99) hB dX0_refundGift_99 0 rfl ?_
          refine gx_iconst (pc := 101) hB dX0_refundGift_101 5 (by decide) ?_
          refine gx_iload_n (pc := 102) hB dX0_refundGift_102 2 rfl ?_
          refine gx_dVv (pc := 103) (wr := [(h, .inr (0, [.ref c, .ref t1, .ref t2, .ref t3, .ref t4])), (t2, .inr (3, [.ref c, .int (nI 76), .int (nI 8), .int (nI 7)])), (t3, .inr (3, [.ref c, .int (nI 133), .int (nI 24), .int (nI 7)])), (t4, .inr (3, [.ref c, .int (nI 302), .int (nI 6), .int (nI 8)]))]) hB (c_X3_add l K t1 c 3 6 12 (pAdd (gPut C x 5 1) (bHome C x) 0 (-(gAt C x 2))) (bHome C x) 5 (gAt C x 2) (by first | decide | (unfold tHb; decide))) mX3_add dX0_refundGift_103 tb_278 pX3_add ⟨Nat.le_of_ble_eq_true rfl, Nat.le_of_ble_eq_true rfl⟩ ⟨rfl, rfl⟩ ⟨Nat.zero_le _, Nat.zero_le _⟩ rfl (Nat.le_of_ble_eq_true rfl) [1, 5] [0, 2, 3, 4] rfl rfl (by decide) (by decide) (by decide) rfl rfl [0, 4, 1, 2, 3, 5] (by decide) (wB K h t1 t2 t3 t4 c (pAdd (pAdd (gPut C x 5 1) (bHome C x) 0 (-(gAt C x 2))) (bHome C x) 5 (gAt C x 2))) rfl ?_
          refine gx_aload_n (pc := 106) hB dX0_refundGift_106 3 rfl ?_
          refine gx_get (pc := 107) hB dX0_refundGift_107 inX0 rfl 0 rfl 1 (by decide) tb_81 rfl rfl ?_
          refine gx_iload (pc := 110) hB dX0_refundGift_110 0 rfl ?_
          refine gx_bipush (pc := 112) hB dX0_refundGift_112 6 (by decide) ?_
          refine gx_iload_n (pc := 114) hB dX0_refundGift_114 1 rfl ?_
          refine gx_dVv (pc := 115) (wr := [(h, .inr (0, [.ref c, .ref t1, .ref t2, .ref t3, .ref t4])), (t2, .inr (3, [.ref c, .int (nI 76), .int (nI 8), .int (nI 7)])), (t3, .inr (3, [.ref c, .int (nI 133), .int (nI 24), .int (nI 7)])), (t4, .inr (3, [.ref c, .int (nI 302), .int (nI 6), .int (nI 8)]))]) hB (c_X3_add l K t1 c 3 6 12 (pAdd (pAdd (gPut C x 5 1) (bHome C x) 0 (-(gAt C x 2))) (bHome C x) 5 (gAt C x 2)) (bHome C x) 6 0 (by first | decide | (unfold tHb; decide))) mX3_add dX0_refundGift_115 tb_278 pX3_add ⟨Nat.le_of_ble_eq_true rfl, Nat.le_of_ble_eq_true rfl⟩ ⟨rfl, rfl⟩ ⟨Nat.zero_le _, Nat.zero_le _⟩ rfl (Nat.le_of_ble_eq_true rfl) [1, 5] [0, 2, 3, 4] rfl rfl (by decide) (by decide) (by decide) rfl rfl [0, 4, 1, 2, 3, 5] (by decide) (wB K h t1 t2 t3 t4 c (pAdd (pAdd (pAdd (gPut C x 5 1) (bHome C x) 0 (-(gAt C x 2))) (bHome C x) 5 (gAt C x 2)) (bHome C x) 6 0)) rfl ?_
          refine gx_iload_n (pc := 118) hB dX0_refundGift_118 1 rfl ?_
          have e1 : ((bRefund C x).1) = 0 := by simp [bRefund, bRefundC, c_1, c_2, c_3, c_4, eq_false (Int32.not_lt.mpr c_4)]
          have f0 : ((bRefund C x).2) = (pAdd (pAdd (pAdd (gPut C x 5 1) (bHome C x) 0 (-(gAt C x 2))) (bHome C x) 5 (gAt C x 2)) (bHome C x) 6 0) := by simp [bRefund, bRefundC, c_1, c_2, c_3, c_4, eq_false (Int32.not_lt.mpr c_4)]
          exact gx_iret (pc := 119) hC dX0_refundGift_119 (Nat.zero_le _) (Nat.zero_le _) (⟨by rw [e1], by rw [f0]⟩)
        · refine gx_bipush (pc := 68) hB dX0_refundGift_68 (-2) (by decide) ?_
          have e1 : ((bRefund C x).1) = (-2) := by simp [bRefund, bRefundC, c_1, c_2, c_3, Int32.not_le.mp c_4, eq_false c_4]
          have f0 : ((bRefund C x).2) = C := by simp [bRefund, bRefundC, c_1, c_2, c_3, Int32.not_le.mp c_4, eq_false c_4]
          exact gx_iret (pc := 70) hC dX0_refundGift_70 (Nat.zero_le _) (Nat.zero_le _) (⟨by rw [e1], by rw [f0]⟩)
    · refine gx_aload_n (pc := 31) hB dX0_refundGift_31 1 rfl ?_
      refine gx_iload_n (pc := 32) hB dX0_refundGift_32 2 rfl ?_
      refine gx_dVi (pc := 33) (r := bTax C x) (wr := []) hB (c_X0_taxOf l K h t1 t2 t3 t4 c C x ) mX0_taxOf dX0_refundGift_33 tb_361 pX0_taxOf ⟨Nat.le_of_ble_eq_true rfl, Nat.le_of_ble_eq_true rfl⟩ ⟨rfl, rfl⟩ ⟨Nat.zero_le _, Nat.zero_le _⟩ rfl (Nat.le_of_ble_eq_true rfl) [0, 1, 2, 3, 4, 5] [] rfl rfl (by decide) (by decide) (by decide) rfl rfl [0, 1, 2, 3, 4, 5] (by decide) (wB K h t1 t2 t3 t4 c C) rfl ?_
      refine gx_goto (pc := 36) hB 40 dX0_refundGift_36 (by decide) ?_
      refine gx_istore_n (pc := 40) hB dX0_refundGift_40 (by decide) [(3, .int (bTax C x)), (2, .int (gAt C x 2)), (0, .ref h), (1, .int x)] rfl ?_
      refine gx_aload_n (pc := 41) hB dX0_refundGift_41 2 rfl ?_
      refine gx_iload_n (pc := 42) hB dX0_refundGift_42 3 rfl ?_
      refine gx_dVi (pc := 43) (r := bHome C x) (wr := []) hB (c_X0_homeOfGift l K h t1 t2 t3 t4 c C x ) mX0_homeOfGift dX0_refundGift_43 tb_357 pX0_homeOfGift ⟨Nat.le_of_ble_eq_true rfl, Nat.le_of_ble_eq_true rfl⟩ ⟨rfl, rfl⟩ ⟨Nat.zero_le _, Nat.zero_le _⟩ rfl (Nat.le_of_ble_eq_true rfl) [0, 1, 2, 3, 4, 5] [] rfl rfl (by decide) (by decide) (by decide) rfl rfl [0, 1, 2, 3, 4, 5] (by decide) (wB K h t1 t2 t3 t4 c C) rfl ?_
      refine gx_istore (pc := 46) hB dX0_refundGift_46 (by decide) [(4, .int (bHome C x)), (3, .int (bTax C x)), (2, .int (gAt C x 2)), (0, .ref h), (1, .int x)] rfl ?_
      refine gx_aload_n (pc := 48) hB dX0_refundGift_48 3 rfl ?_
      refine gx_iload_n (pc := 49) hB dX0_refundGift_49 4 rfl ?_
      refine gx_dVi (pc := 50) (r := bI (bRefunded C x)) (wr := []) hB (c_X0_isRefunded l K h t1 t2 t3 t4 c C x ) mX0_isRefunded dX0_refundGift_50 tb_349 pX0_isRefunded ⟨Nat.le_of_ble_eq_true rfl, Nat.le_of_ble_eq_true rfl⟩ ⟨rfl, rfl⟩ ⟨Nat.zero_le _, Nat.zero_le _⟩ rfl (Nat.le_of_ble_eq_true rfl) [0, 1, 2, 3, 4, 5] [] rfl rfl (by decide) (by decide) (by decide) rfl rfl [0, 1, 2, 3, 4, 5] (by decide) (wB K h t1 t2 t3 t4 c C) rfl ?_
      refine gx_if_ne_b (pc := 53) hB 68 dX0_refundGift_53 (by decide) (fun c_5 => ?_) (fun c_5 => ?_)
      · refine gx_bipush (pc := 68) hB dX0_refundGift_68 (-2) (by decide) ?_
        have e1 : ((bRefund C x).1) = (-2) := by simp [bRefund, bRefundC, c_1, c_2, c_5]
        have f0 : ((bRefund C x).2) = C := by simp [bRefund, bRefundC, c_1, c_2, c_5]
        exact gx_iret (pc := 70) hC dX0_refundGift_70 (Nat.zero_le _) (Nat.zero_le _) (⟨by rw [e1], by rw [f0]⟩)
      · refine gx_aload_n (pc := 56) hB dX0_refundGift_56 3 rfl ?_
        refine gx_iload (pc := 57) hB dX0_refundGift_57 0 rfl ?_
        refine gx_dVi (pc := 59) (r := bFund C (bHome C x)) (wr := []) hB (c_X0_fundOf l K h t1 t2 t3 t4 c C (bHome C x) ) mX0_fundOf dX0_refundGift_59 tb_373 pX0_fundOf ⟨Nat.le_of_ble_eq_true rfl, Nat.le_of_ble_eq_true rfl⟩ ⟨rfl, rfl⟩ ⟨Nat.zero_le _, Nat.zero_le _⟩ rfl (Nat.le_of_ble_eq_true rfl) [0, 1, 2, 3, 4, 5] [] rfl rfl (by decide) (by decide) (by decide) rfl rfl [0, 1, 2, 3, 4, 5] (by decide) (wB K h t1 t2 t3 t4 c C) rfl ?_
        refine gx_iload_n (pc := 62) hB dX0_refundGift_62 2 rfl ?_
        refine gx_iload_n (pc := 63) hB dX0_refundGift_63 1 rfl ?_
        refine gx_iadd (pc := 64) hB dX0_refundGift_64 ?_
        refine gx_icmp_ge (pc := 65) hB 71 dX0_refundGift_65 (by decide) (fun c_6 => ?_) (fun c_6 => ?_)
        · refine gx_aload_n (pc := 71) hB dX0_refundGift_71 3 rfl ?_
          refine gx_get (pc := 72) hB dX0_refundGift_72 inX0 rfl 0 rfl 3 (by decide) tb_83 rfl rfl ?_
          refine gx_iload_n (pc := 75) hB dX0_refundGift_75 4 rfl ?_
          refine gx_iconst (pc := 76) hB dX0_refundGift_76 5 (by decide) ?_
          refine gx_iconst (pc := 77) hB dX0_refundGift_77 1 (by decide) ?_
          refine gx_dVv (pc := 78) (wr := [(h, .inr (0, [.ref c, .ref t1, .ref t2, .ref t3, .ref t4])), (t1, .inr (3, [.ref c, .int (nI 3), .int (nI 6), .int (nI 12)])), (t2, .inr (3, [.ref c, .int (nI 76), .int (nI 8), .int (nI 7)])), (t4, .inr (3, [.ref c, .int (nI 302), .int (nI 6), .int (nI 8)]))]) hB (c_X3_put l K t3 c 133 24 7 C x 5 1 (by first | decide | (unfold tHb; decide))) mX3_put dX0_refundGift_78 tb_76 pX3_put ⟨Nat.le_of_ble_eq_true rfl, Nat.le_of_ble_eq_true rfl⟩ ⟨rfl, rfl⟩ ⟨Nat.zero_le _, Nat.zero_le _⟩ rfl (Nat.le_of_ble_eq_true rfl) [3, 5] [0, 1, 2, 4] rfl rfl (by decide) (by decide) (by decide) rfl rfl [0, 1, 2, 4, 3, 5] (by decide) (wB K h t1 t2 t3 t4 c (gPut C x 5 1)) rfl ?_
          refine gx_aload_n (pc := 81) hB dX0_refundGift_81 3 rfl ?_
          refine gx_get (pc := 82) hB dX0_refundGift_82 inX0 rfl 0 rfl 1 (by decide) tb_81 rfl rfl ?_
          refine gx_iload (pc := 85) hB dX0_refundGift_85 0 rfl ?_
          refine gx_iconst (pc := 87) hB dX0_refundGift_87 0 (by decide) ?_
          refine gx_iload_n (pc := 88) hB dX0_refundGift_88 2 rfl ?_
          refine gx_ineg (pc := 89) hB dX0_refundGift_89 ?_
          refine gx_iload_n (pc := 90) hB dX0_refundGift_90 1 rfl ?_
          refine gx_isub (pc := 91) hB dX0_refundGift_91 ?_
          refine gx_dVv (pc := 92) (wr := [(h, .inr (0, [.ref c, .ref t1, .ref t2, .ref t3, .ref t4])), (t2, .inr (3, [.ref c, .int (nI 76), .int (nI 8), .int (nI 7)])), (t3, .inr (3, [.ref c, .int (nI 133), .int (nI 24), .int (nI 7)])), (t4, .inr (3, [.ref c, .int (nI 302), .int (nI 6), .int (nI 8)]))]) hB (c_X3_add l K t1 c 3 6 12 (gPut C x 5 1) (bHome C x) 0 ((-(gAt C x 2)) - bTax C x) (by first | decide | (unfold tHb; decide))) mX3_add dX0_refundGift_92 tb_278 pX3_add ⟨Nat.le_of_ble_eq_true rfl, Nat.le_of_ble_eq_true rfl⟩ ⟨rfl, rfl⟩ ⟨Nat.zero_le _, Nat.zero_le _⟩ rfl (Nat.le_of_ble_eq_true rfl) [1, 5] [0, 2, 3, 4] rfl rfl (by decide) (by decide) (by decide) rfl rfl [0, 4, 1, 2, 3, 5] (by decide) (wB K h t1 t2 t3 t4 c (pAdd (gPut C x 5 1) (bHome C x) 0 ((-(gAt C x 2)) - bTax C x))) rfl ?_
          refine gx_aload_n (pc := 95) hB dX0_refundGift_95 3 rfl ?_
          refine gx_get (pc := 96) hB dX0_refundGift_96 inX0 rfl 0 rfl 1 (by decide) tb_81 rfl rfl ?_
          refine gx_iload (pc := 99) hB dX0_refundGift_99 0 rfl ?_
          refine gx_iconst (pc := 101) hB dX0_refundGift_101 5 (by decide) ?_
          refine gx_iload_n (pc := 102) hB dX0_refundGift_102 2 rfl ?_
          refine gx_dVv (pc := 103) (wr := [(h, .inr (0, [.ref c, .ref t1, .ref t2, .ref t3, .ref t4])), (t2, .inr (3, [.ref c, .int (nI 76), .int (nI 8), .int (nI 7)])), (t3, .inr (3, [.ref c, .int (nI 133), .int (nI 24), .int (nI 7)])), (t4, .inr (3, [.ref c, .int (nI 302), .int (nI 6), .int (nI 8)]))]) hB (c_X3_add l K t1 c 3 6 12 (pAdd (gPut C x 5 1) (bHome C x) 0 ((-(gAt C x 2)) - bTax C x)) (bHome C x) 5 (gAt C x 2) (by first | decide | (unfold tHb; decide))) mX3_add dX0_refundGift_103 tb_278 pX3_add ⟨Nat.le_of_ble_eq_true rfl, Nat.le_of_ble_eq_true rfl⟩ ⟨rfl, rfl⟩ ⟨Nat.zero_le _, Nat.zero_le _⟩ rfl (Nat.le_of_ble_eq_true rfl) [1, 5] [0, 2, 3, 4] rfl rfl (by decide) (by decide) (by decide) rfl rfl [0, 4, 1, 2, 3, 5] (by decide) (wB K h t1 t2 t3 t4 c (pAdd (pAdd (gPut C x 5 1) (bHome C x) 0 ((-(gAt C x 2)) - bTax C x)) (bHome C x) 5 (gAt C x 2))) rfl ?_
          refine gx_aload_n (pc := 106) hB dX0_refundGift_106 3 rfl ?_
          refine gx_get (pc := 107) hB dX0_refundGift_107 inX0 rfl 0 rfl 1 (by decide) tb_81 rfl rfl ?_
          refine gx_iload (pc := 110) hB dX0_refundGift_110 0 rfl ?_
          refine gx_bipush (pc := 112) hB dX0_refundGift_112 6 (by decide) ?_
          refine gx_iload_n (pc := 114) hB dX0_refundGift_114 1 rfl ?_
          refine gx_dVv (pc := 115) (wr := [(h, .inr (0, [.ref c, .ref t1, .ref t2, .ref t3, .ref t4])), (t2, .inr (3, [.ref c, .int (nI 76), .int (nI 8), .int (nI 7)])), (t3, .inr (3, [.ref c, .int (nI 133), .int (nI 24), .int (nI 7)])), (t4, .inr (3, [.ref c, .int (nI 302), .int (nI 6), .int (nI 8)]))]) hB (c_X3_add l K t1 c 3 6 12 (pAdd (pAdd (gPut C x 5 1) (bHome C x) 0 ((-(gAt C x 2)) - bTax C x)) (bHome C x) 5 (gAt C x 2)) (bHome C x) 6 (bTax C x) (by first | decide | (unfold tHb; decide))) mX3_add dX0_refundGift_115 tb_278 pX3_add ⟨Nat.le_of_ble_eq_true rfl, Nat.le_of_ble_eq_true rfl⟩ ⟨rfl, rfl⟩ ⟨Nat.zero_le _, Nat.zero_le _⟩ rfl (Nat.le_of_ble_eq_true rfl) [1, 5] [0, 2, 3, 4] rfl rfl (by decide) (by decide) (by decide) rfl rfl [0, 4, 1, 2, 3, 5] (by decide) (wB K h t1 t2 t3 t4 c (pAdd (pAdd (pAdd (gPut C x 5 1) (bHome C x) 0 ((-(gAt C x 2)) - bTax C x)) (bHome C x) 5 (gAt C x 2)) (bHome C x) 6 (bTax C x))) rfl ?_
          refine gx_iload_n (pc := 118) hB dX0_refundGift_118 1 rfl ?_
          have e1 : ((bRefund C x).1) = bTax C x := by simp [bRefund, bRefundC, c_1, c_2, c_5, c_6, eq_false (Int32.not_lt.mpr c_6)]
          have f0 : ((bRefund C x).2) = (pAdd (pAdd (pAdd (gPut C x 5 1) (bHome C x) 0 ((-(gAt C x 2)) - bTax C x)) (bHome C x) 5 (gAt C x 2)) (bHome C x) 6 (bTax C x)) := by simp [bRefund, bRefundC, c_1, c_2, c_5, c_6, eq_false (Int32.not_lt.mpr c_6)]
          exact gx_iret (pc := 119) hC dX0_refundGift_119 (Nat.zero_le _) (Nat.zero_le _) (⟨by rw [e1], by rw [f0]⟩)
        · refine gx_bipush (pc := 68) hB dX0_refundGift_68 (-2) (by decide) ?_
          have e1 : ((bRefund C x).1) = (-2) := by simp [bRefund, bRefundC, c_1, c_2, c_5, Int32.not_le.mp c_6, eq_false c_6]
          have f0 : ((bRefund C x).2) = C := by simp [bRefund, bRefundC, c_1, c_2, c_5, Int32.not_le.mp c_6, eq_false c_6]
          exact gx_iret (pc := 70) hC dX0_refundGift_70 (Nat.zero_le _) (Nat.zero_le _) (⟨by rw [e1], by rw [f0]⟩)
  · refine gx_iconst (pc := 11) hB dX0_refundGift_11 (-1) (by decide) ?_
    have e1 : ((bRefund C x).1) = (-1) := by simp [bRefund, bRefundC, c_1]
    have f0 : ((bRefund C x).2) = C := by simp [bRefund, bRefundC, c_1]
    exact gx_iret (pc := 12) hC dX0_refundGift_12 (Nat.zero_le _) (Nat.zero_le _) (⟨by rw [e1], by rw [f0]⟩)
theorem pX0_areTwoPurposes : (parseMethodDescriptor yX0_areTwoPurposes.desc).map (fun d => d.parameters.length) = some 2 := by decide +kernel
theorem mX0_areTwoPurposes : gx_M yX0_areTwoPurposes cX0_areTwoPurposes 3 (some .boolean) := ⟨tb_390, tb_11, tb_28, tb_391, by decide, by decide⟩
set_option maxHeartbeats 4000000 in
set_option maxRecDepth 100000 in
theorem c_X0_areTwoPurposes (l : Launch) (K : gx_K) (h t1 t2 t3 t4 c : Nat) (C : Nat → Int32) (x y : Int32)  : gx_Ctr l K yX0_areTwoPurposes cX0_areTwoPurposes 3 (some .boolean) (rmm 2 21) [.ref h, .int x, .int y] (wB K h t1 t2 t3 t4 c C) (gx_D (some (.int (bI (bTwo C x y)))) (wB K h t1 t2 t3 t4 c C)) := by
  refine gx_of (by decide) (Nat.le_of_ble_eq_true rfl) (fun G hC => ?_)
  have hB := hC.b
  refine gx_lv (lv' := [(0, .ref h), (1, .int x), (2, .int y)]) rfl ?_
  refine gx_aload_n (pc := 0) hB dX0_areTwoPurposes_0 0 rfl ?_
  refine gx_get (pc := 1) hB dX0_areTwoPurposes_1 inX0 rfl 0 rfl 1 (by decide) tb_81 rfl rfl ?_
  refine gx_iload_n (pc := 4) hB dX0_areTwoPurposes_4 1 rfl ?_
  refine gx_dVi (pc := 5) (r := bI (tHas C 3 x)) (wr := [(h, .inr (0, [.ref c, .ref t1, .ref t2, .ref t3, .ref t4])), (t2, .inr (3, [.ref c, .int (nI 76), .int (nI 8), .int (nI 7)])), (t3, .inr (3, [.ref c, .int (nI 133), .int (nI 24), .int (nI 7)])), (t4, .inr (3, [.ref c, .int (nI 302), .int (nI 6), .int (nI 8)]))]) hB (c_X3_has l K t1 c 3 6 12 C x (by first | decide | (unfold tHb; decide))) mX3_has dX0_areTwoPurposes_5 tb_164 pX3_has ⟨Nat.le_of_ble_eq_true rfl, Nat.le_of_ble_eq_true rfl⟩ ⟨rfl, rfl⟩ ⟨Nat.zero_le _, Nat.zero_le _⟩ rfl (Nat.le_of_ble_eq_true rfl) [1, 5] [0, 2, 3, 4] rfl rfl (by decide) (by decide) (by decide) rfl rfl [0, 4, 1, 2, 3, 5] (by decide) (wB K h t1 t2 t3 t4 c C) rfl ?_
  refine gx_if_eq_b (pc := 8) hB 31 dX0_areTwoPurposes_8 (by decide) (fun c_1 => ?_) (fun c_1 => ?_)
  · refine gx_iconst (pc := 31) hB dX0_areTwoPurposes_31 0 (by decide) ?_
    have e1 : (bI (bTwo C x y)) = 0 := by simp [bTwo, bI, c_1]
    exact gx_zret (pc := 32) hC dX0_areTwoPurposes_32 (Nat.zero_le _) (Nat.zero_le _) (by decide) (⟨by rw [e1], rfl⟩)
  · refine gx_aload_n (pc := 11) hB dX0_areTwoPurposes_11 0 rfl ?_
    refine gx_get (pc := 12) hB dX0_areTwoPurposes_12 inX0 rfl 0 rfl 1 (by decide) tb_81 rfl rfl ?_
    refine gx_iload_n (pc := 15) hB dX0_areTwoPurposes_15 2 rfl ?_
    refine gx_dVi (pc := 16) (r := bI (tHas C 3 y)) (wr := [(h, .inr (0, [.ref c, .ref t1, .ref t2, .ref t3, .ref t4])), (t2, .inr (3, [.ref c, .int (nI 76), .int (nI 8), .int (nI 7)])), (t3, .inr (3, [.ref c, .int (nI 133), .int (nI 24), .int (nI 7)])), (t4, .inr (3, [.ref c, .int (nI 302), .int (nI 6), .int (nI 8)]))]) hB (c_X3_has l K t1 c 3 6 12 C y (by first | decide | (unfold tHb; decide))) mX3_has dX0_areTwoPurposes_16 tb_164 pX3_has ⟨Nat.le_of_ble_eq_true rfl, Nat.le_of_ble_eq_true rfl⟩ ⟨rfl, rfl⟩ ⟨Nat.zero_le _, Nat.zero_le _⟩ rfl (Nat.le_of_ble_eq_true rfl) [1, 5] [0, 2, 3, 4] rfl rfl (by decide) (by decide) (by decide) rfl rfl [0, 4, 1, 2, 3, 5] (by decide) (wB K h t1 t2 t3 t4 c C) rfl ?_
    refine gx_if_eq_b (pc := 19) hB 31 dX0_areTwoPurposes_19 (by decide) (fun c_2 => ?_) (fun c_2 => ?_)
    · refine gx_iconst (pc := 31) hB dX0_areTwoPurposes_31 0 (by decide) ?_
      have e1 : (bI (bTwo C x y)) = 0 := by simp [bTwo, bI, c_1, c_2]
      exact gx_zret (pc := 32) hC dX0_areTwoPurposes_32 (Nat.zero_le _) (Nat.zero_le _) (by decide) (⟨by rw [e1], rfl⟩)
    · refine gx_iload_n (pc := 22) hB dX0_areTwoPurposes_22 1 rfl ?_
      refine gx_iload_n (pc := 23) hB dX0_areTwoPurposes_23 2 rfl ?_
      refine gx_icmp_eq (pc := 24) hB 31 dX0_areTwoPurposes_24 (by decide) (fun c_3 => ?_) (fun c_3 => ?_)
      · refine gx_iconst (pc := 31) hB dX0_areTwoPurposes_31 0 (by decide) ?_
        have e1 : (bI (bTwo C x y)) = 0 := by simp [bTwo, bI, c_1, c_2, eq_true c_3]
        exact gx_zret (pc := 32) hC dX0_areTwoPurposes_32 (Nat.zero_le _) (Nat.zero_le _) (by decide) (⟨by rw [e1], rfl⟩)
      · refine gx_iconst (pc := 27) hB dX0_areTwoPurposes_27 1 (by decide) ?_
        refine gx_goto (pc := 28) hB 32 dX0_areTwoPurposes_28 (by decide) ?_
        have e1 : (bI (bTwo C x y)) = 1 := by simp [bTwo, bI, c_1, c_2, eq_false c_3]
        exact gx_zret (pc := 32) hC dX0_areTwoPurposes_32 (Nat.zero_le _) (Nat.zero_le _) (by decide) (⟨by rw [e1], rfl⟩)
theorem pX0_areMergeable : (parseMethodDescriptor yX0_areMergeable.desc).map (fun d => d.parameters.length) = some 2 := by decide +kernel
theorem mX0_areMergeable : gx_M yX0_areMergeable cX0_areMergeable 3 (some .boolean) := ⟨tb_394, tb_12, tb_28, tb_395, by decide, by decide⟩
set_option maxHeartbeats 4000000 in
set_option maxRecDepth 100000 in
theorem c_X0_areMergeable (l : Launch) (K : gx_K) (h t1 t2 t3 t4 c : Nat) (C : Nat → Int32) (x y : Int32)  : gx_Ctr l K yX0_areMergeable cX0_areMergeable 3 (some .boolean) (rmm 3 43) [.ref h, .int x, .int y] (wB K h t1 t2 t3 t4 c C) (gx_D (some (.int (bI (bMergeable C x y)))) (wB K h t1 t2 t3 t4 c C)) := by
  refine gx_of (by decide) (Nat.le_of_ble_eq_true rfl) (fun G hC => ?_)
  have hB := hC.b
  refine gx_lv (lv' := [(0, .ref h), (1, .int x), (2, .int y)]) rfl ?_
  refine gx_iload_n (pc := 0) hB dX0_areMergeable_0 1 rfl ?_
  refine gx_if_eq (pc := 1) hB 24 dX0_areMergeable_1 (by decide) (fun c_1 => ?_) (fun c_1 => ?_)
  · refine gx_iconst (pc := 24) hB dX0_areMergeable_24 0 (by decide) ?_
    have e1 : (bI (bMergeable C x y)) = 0 := by simp [bMergeable, bI, eq_true c_1]
    exact gx_zret (pc := 25) hC dX0_areMergeable_25 (Nat.zero_le _) (Nat.zero_le _) (by decide) (⟨by rw [e1], rfl⟩)
  · refine gx_aload_n (pc := 4) hB dX0_areMergeable_4 0 rfl ?_
    refine gx_iload_n (pc := 5) hB dX0_areMergeable_5 1 rfl ?_
    refine gx_dVi (pc := 6) (r := bI (bClosed C x)) (wr := []) hB (c_X0_isClosed l K h t1 t2 t3 t4 c C x ) mX0_isClosed dX0_areMergeable_6 tb_171 pX0_isClosed ⟨Nat.le_of_ble_eq_true rfl, Nat.le_of_ble_eq_true rfl⟩ ⟨rfl, rfl⟩ ⟨Nat.zero_le _, Nat.zero_le _⟩ rfl (Nat.le_of_ble_eq_true rfl) [0, 1, 2, 3, 4, 5] [] rfl rfl (by decide) (by decide) (by decide) rfl rfl [0, 1, 2, 3, 4, 5] (by decide) (wB K h t1 t2 t3 t4 c C) rfl ?_
    refine gx_if_ne_b (pc := 9) hB 24 dX0_areMergeable_9 (by decide) (fun c_2 => ?_) (fun c_2 => ?_)
    · refine gx_iconst (pc := 24) hB dX0_areMergeable_24 0 (by decide) ?_
      have e1 : (bI (bMergeable C x y)) = 0 := by simp [bMergeable, bI, eq_false c_1, c_2]
      exact gx_zret (pc := 25) hC dX0_areMergeable_25 (Nat.zero_le _) (Nat.zero_le _) (by decide) (⟨by rw [e1], rfl⟩)
    · refine gx_aload_n (pc := 12) hB dX0_areMergeable_12 0 rfl ?_
      refine gx_iload_n (pc := 13) hB dX0_areMergeable_13 2 rfl ?_
      refine gx_dVi (pc := 14) (r := bI (bClosed C y)) (wr := []) hB (c_X0_isClosed l K h t1 t2 t3 t4 c C y ) mX0_isClosed dX0_areMergeable_14 tb_171 pX0_isClosed ⟨Nat.le_of_ble_eq_true rfl, Nat.le_of_ble_eq_true rfl⟩ ⟨rfl, rfl⟩ ⟨Nat.zero_le _, Nat.zero_le _⟩ rfl (Nat.le_of_ble_eq_true rfl) [0, 1, 2, 3, 4, 5] [] rfl rfl (by decide) (by decide) (by decide) rfl rfl [0, 1, 2, 3, 4, 5] (by decide) (wB K h t1 t2 t3 t4 c C) rfl ?_
      refine gx_if_ne_b (pc := 17) hB 24 dX0_areMergeable_17 (by decide) (fun c_3 => ?_) (fun c_3 => ?_)
      · refine gx_iconst (pc := 24) hB dX0_areMergeable_24 0 (by decide) ?_
        have e1 : (bI (bMergeable C x y)) = 0 := by simp [bMergeable, bI, eq_false c_1, c_2, c_3]
        exact gx_zret (pc := 25) hC dX0_areMergeable_25 (Nat.zero_le _) (Nat.zero_le _) (by decide) (⟨by rw [e1], rfl⟩)
      · refine gx_iconst (pc := 20) hB dX0_areMergeable_20 1 (by decide) ?_
        refine gx_goto (pc := 21) hB 25 dX0_areMergeable_21 (by decide) ?_
        have e1 : (bI (bMergeable C x y)) = 1 := by simp [bMergeable, bI, eq_false c_1, c_2, c_3]
        exact gx_zret (pc := 25) hC dX0_areMergeable_25 (Nat.zero_le _) (Nat.zero_le _) (by decide) (⟨by rw [e1], rfl⟩)
theorem pX0_agreesTo : (parseMethodDescriptor yX0_agreesTo.desc).map (fun d => d.parameters.length) = some 3 := by decide +kernel
theorem mX0_agreesTo : gx_M yX0_agreesTo cX0_agreesTo 4 (some .boolean) := ⟨tb_431, tb_17, tb_28, tb_432, by decide, by decide⟩
set_option maxHeartbeats 4000000 in
set_option maxRecDepth 100000 in
theorem c_X0_agreesTo (l : Launch) (K : gx_K) (h t1 t2 t3 t4 c : Nat) (C : Nat → Int32) (x y z : Int32)  : gx_Ctr l K yX0_agreesTo cX0_agreesTo 4 (some .boolean) (rmm 2 22) [.ref h, .int x, .int y, .int z] (wB K h t1 t2 t3 t4 c C) (gx_D (some (.int (bI (bAgrees C x y z)))) (wB K h t1 t2 t3 t4 c C)) := by
  refine gx_of (by decide) (Nat.le_of_ble_eq_true rfl) (fun G hC => ?_)
  have hB := hC.b
  refine gx_lv (lv' := [(0, .ref h), (1, .int x), (2, .int y), (3, .int z)]) rfl ?_
  refine gx_aload_n (pc := 0) hB dX0_agreesTo_0 0 rfl ?_
  refine gx_get (pc := 1) hB dX0_agreesTo_1 inX0 rfl 0 rfl 2 (by decide) tb_82 rfl rfl ?_
  refine gx_iload_n (pc := 4) hB dX0_agreesTo_4 1 rfl ?_
  refine gx_iconst (pc := 5) hB dX0_agreesTo_5 1 (by decide) ?_
  refine gx_iload_n (pc := 6) hB dX0_agreesTo_6 2 rfl ?_
  refine gx_iadd (pc := 7) hB dX0_agreesTo_7 ?_
  refine gx_dVi (pc := 8) (r := dAt C x (1 + y)) (wr := [(h, .inr (0, [.ref c, .ref t1, .ref t2, .ref t3, .ref t4])), (t1, .inr (3, [.ref c, .int (nI 3), .int (nI 6), .int (nI 12)])), (t3, .inr (3, [.ref c, .int (nI 133), .int (nI 24), .int (nI 7)])), (t4, .inr (3, [.ref c, .int (nI 302), .int (nI 6), .int (nI 8)]))]) hB (c_X3_at l K t2 c 76 8 7 C x (1 + y) (by first | decide | (unfold tHb; decide))) mX3_at dX0_agreesTo_8 tb_175 pX3_at ⟨Nat.le_of_ble_eq_true rfl, Nat.le_of_ble_eq_true rfl⟩ ⟨rfl, rfl⟩ ⟨Nat.zero_le _, Nat.zero_le _⟩ rfl (Nat.le_of_ble_eq_true rfl) [2, 5] [0, 1, 3, 4] rfl rfl (by decide) (by decide) (by decide) rfl rfl [0, 1, 4, 2, 3, 5] (by decide) (wB K h t1 t2 t3 t4 c C) rfl ?_
  refine gx_iload_n (pc := 11) hB dX0_agreesTo_11 3 rfl ?_
  refine gx_icmp_ne (pc := 12) hB 19 dX0_agreesTo_12 (by decide) (fun c_1 => ?_) (fun c_1 => ?_)
  · refine gx_iconst (pc := 19) hB dX0_agreesTo_19 0 (by decide) ?_
    have e1 : (bI (bAgrees C x y z)) = 0 := by simp [bAgrees, bI, eq_false c_1]
    exact gx_zret (pc := 20) hC dX0_agreesTo_20 (Nat.zero_le _) (Nat.zero_le _) (by decide) (⟨by rw [e1], rfl⟩)
  · refine gx_iconst (pc := 15) hB dX0_agreesTo_15 1 (by decide) ?_
    refine gx_goto (pc := 16) hB 20 dX0_agreesTo_16 (by decide) ?_
    have e1 : (bI (bAgrees C x y z)) = 1 := by simp [bAgrees, bI, eq_true c_1]
    exact gx_zret (pc := 20) hC dX0_agreesTo_20 (Nat.zero_le _) (Nat.zero_le _) (by decide) (⟨by rw [e1], rfl⟩)
theorem pX0_weightOfDonor : (parseMethodDescriptor yX0_weightOfDonor.desc).map (fun d => d.parameters.length) = some 2 := by decide +kernel
theorem mX0_weightOfDonor : gx_M yX0_weightOfDonor cX0_weightOfDonor 5 (some .int) := ⟨tb_398, tb_13, tb_28, tb_399, by decide, by decide⟩
set_option maxHeartbeats 4000000 in
set_option maxRecDepth 100000 in
theorem c_X0_weightOfDonor (l : Launch) (K : gx_K) (h t1 t2 t3 t4 c : Nat) (C : Nat → Int32) (x y : Int32)  : gx_Ctr l K yX0_weightOfDonor cX0_weightOfDonor 5 (some .int) (rmm 3 45) [.ref h, .int x, .int y] (wB K h t1 t2 t3 t4 c C) (gx_D (some (.int (bWDonor C x y))) (wB K h t1 t2 t3 t4 c C)) := by
  refine gx_of (by decide) (Nat.le_of_ble_eq_true rfl) (fun G hC => ?_)
  have hB := hC.b
  refine gx_lv (lv' := [(0, .ref h), (1, .int x), (2, .int y)]) rfl ?_
  refine gx_iconst (pc := 0) hB dX0_weightOfDonor_0 0 (by decide) ?_
  refine gx_istore_n (pc := 1) hB dX0_weightOfDonor_1 (by decide) [(3, .int 0), (0, .ref h), (1, .int x), (2, .int y)] rfl ?_
  refine gx_iconst (pc := 2) hB dX0_weightOfDonor_2 0 (by decide) ?_
  refine gx_istore (pc := 3) hB dX0_weightOfDonor_3 (by decide) [(4, .int 0), (3, .int 0), (0, .ref h), (1, .int x), (2, .int y)] rfl ?_
  have loop_5 : ∀ dq i : Nat, i + dq = (C 133).toNatClampNeg → G 0 0 (wB K h t1 t2 t3 t4 c C) [(0, .ref h), (1, .int x), (2, .int y), (3, .int (bWDonorN C x y i)), (4, .int (nI i))] 5 [] := by
    intro dq
    induction dq with
    | zero =>
      intro i hi5
      obtain rfl : (C 133).toNatClampNeg = i := by omega
      refine gx_iload (pc := 5) hB dX0_weightOfDonor_5 4 rfl ?_
      refine gx_aload_n (pc := 7) hB dX0_weightOfDonor_7 0 rfl ?_
      refine gx_get (pc := 8) hB dX0_weightOfDonor_8 inX0 rfl 0 rfl 3 (by decide) tb_83 rfl rfl ?_
      refine gx_dVi (pc := 11) (r := C 133) (wr := [(h, .inr (0, [.ref c, .ref t1, .ref t2, .ref t3, .ref t4])), (t1, .inr (3, [.ref c, .int (nI 3), .int (nI 6), .int (nI 12)])), (t2, .inr (3, [.ref c, .int (nI 76), .int (nI 8), .int (nI 7)])), (t4, .inr (3, [.ref c, .int (nI 302), .int (nI 6), .int (nI 8)]))]) hB (c_X3_size l K t3 c 133 24 7 C (by first | decide | (unfold tHb; decide))) mX3_size dX0_weightOfDonor_11 tb_195 pX3_size ⟨Nat.le_of_ble_eq_true rfl, Nat.le_of_ble_eq_true rfl⟩ ⟨rfl, rfl⟩ ⟨Nat.zero_le _, Nat.zero_le _⟩ rfl (Nat.le_of_ble_eq_true rfl) [3, 5] [0, 1, 2, 4] rfl rfl (by decide) (by decide) (by decide) rfl rfl [0, 1, 2, 4, 3, 5] (by decide) (wB K h t1 t2 t3 t4 c C) rfl ?_
      refine gx_icmp_ge (pc := 14) hB 43 dX0_weightOfDonor_14 (by decide) (fun c_1 => ?_) (fun c_1 => ?_)
      · refine gx_iload_n (pc := 43) hB dX0_weightOfDonor_43 3 rfl ?_
        have e1 : bWDonor C x y = (bWDonorN C x y ((C 133).toNatClampNeg)) := by simp [bWDonor, c_1, eq_false (Int32.not_lt.mpr c_1)]
        exact gx_iret (pc := 44) hC dX0_weightOfDonor_44 (Nat.zero_le _) (Nat.zero_le _) (⟨by rw [e1], rfl⟩)
      · exact absurd (lpT (x := (C 133)) hi5) c_1
    | succ dq ih5 =>
      intro i hi5
      refine gx_iload (pc := 5) hB dX0_weightOfDonor_5 4 rfl ?_
      refine gx_aload_n (pc := 7) hB dX0_weightOfDonor_7 0 rfl ?_
      refine gx_get (pc := 8) hB dX0_weightOfDonor_8 inX0 rfl 0 rfl 3 (by decide) tb_83 rfl rfl ?_
      refine gx_dVi (pc := 11) (r := C 133) (wr := [(h, .inr (0, [.ref c, .ref t1, .ref t2, .ref t3, .ref t4])), (t1, .inr (3, [.ref c, .int (nI 3), .int (nI 6), .int (nI 12)])), (t2, .inr (3, [.ref c, .int (nI 76), .int (nI 8), .int (nI 7)])), (t4, .inr (3, [.ref c, .int (nI 302), .int (nI 6), .int (nI 8)]))]) hB (c_X3_size l K t3 c 133 24 7 C (by first | decide | (unfold tHb; decide))) mX3_size dX0_weightOfDonor_11 tb_195 pX3_size ⟨Nat.le_of_ble_eq_true rfl, Nat.le_of_ble_eq_true rfl⟩ ⟨rfl, rfl⟩ ⟨Nat.zero_le _, Nat.zero_le _⟩ rfl (Nat.le_of_ble_eq_true rfl) [3, 5] [0, 1, 2, 4] rfl rfl (by decide) (by decide) (by decide) rfl rfl [0, 1, 2, 4, 3, 5] (by decide) (wB K h t1 t2 t3 t4 c C) rfl ?_
      refine gx_icmp_ge (pc := 14) hB 43 dX0_weightOfDonor_14 (by decide) (fun c_2 => ?_) (fun c_2 => ?_)
      · exact absurd c_2 (lpF (x := (C 133)) hi5)
      · refine gx_aload_n (pc := 17) hB dX0_weightOfDonor_17 0 rfl ?_
        refine gx_iload (pc := 18) hB dX0_weightOfDonor_18 4 rfl ?_
        refine gx_iload_n (pc := 20) hB dX0_weightOfDonor_20 1 rfl ?_
        refine gx_dVi (pc := 21) (r := bI (bIsOf C (nI i) x)) (wr := []) hB (c_X0_isOf l K h t1 t2 t3 t4 c C (nI i) x ) mX0_isOf dX0_weightOfDonor_21 tb_337 pX0_isOf ⟨Nat.le_of_ble_eq_true rfl, Nat.le_of_ble_eq_true rfl⟩ ⟨rfl, rfl⟩ ⟨Nat.zero_le _, Nat.zero_le _⟩ rfl (Nat.le_of_ble_eq_true rfl) [0, 1, 2, 3, 4, 5] [] rfl rfl (by decide) (by decide) (by decide) rfl rfl [0, 1, 2, 3, 4, 5] (by decide) (wB K h t1 t2 t3 t4 c C) rfl ?_
        refine gx_if_eq_b (pc := 24) hB 37 dX0_weightOfDonor_24 (by decide) (fun c_3 => ?_) (fun c_3 => ?_)
        · refine gx_iinc (pc := 37) hB dX0_weightOfDonor_37 4 (by decide) rfl (nI (i + 1)) (nI_1 _) [(4, .int (nI (i + 1))), (0, .ref h), (1, .int x), (2, .int y), (3, .int (bWDonorN C x y i))] rfl ?_
          refine gx_goto (pc := 40) hB 5 dX0_weightOfDonor_40 (by decide) ?_
          have g3 : bWDonorN C x y i = bWDonorN C x y (i + 1) := by simp [bWDonor, bWDonorN, Int32.not_le.mp c_2, eq_false c_2, c_3]
          refine gx_sub hB (lv' := [(0, .ref h), (1, .int x), (2, .int y), (3, .int (bWDonorN C x y i)), (4, .int (nI (i + 1)))]) [1, 2, 3, 4, 0] rfl ?_
          refine gx_all (ws' := wB K h t1 t2 t3 t4 c C) (lv' := [(0, .ref h), (1, .int x), (2, .int y), (3, .int (bWDonorN C x y (i + 1))), (4, .int (nI (i + 1)))]) (rfl) (by rw [← g3]) ?_
          exact ih5 (i + 1) (by omega)
        · refine gx_iload_n (pc := 27) hB dX0_weightOfDonor_27 3 rfl ?_
          refine gx_aload_n (pc := 28) hB dX0_weightOfDonor_28 0 rfl ?_
          refine gx_iload (pc := 29) hB dX0_weightOfDonor_29 4 rfl ?_
          refine gx_iload_n (pc := 31) hB dX0_weightOfDonor_31 2 rfl ?_
          refine gx_dVi (pc := 32) (r := bWeight C (nI i) y) (wr := []) hB (c_X0_weightOf l K h t1 t2 t3 t4 c C (nI i) y ) mX0_weightOf dX0_weightOfDonor_32 tb_400 pX0_weightOf ⟨Nat.le_of_ble_eq_true rfl, Nat.le_of_ble_eq_true rfl⟩ ⟨rfl, rfl⟩ ⟨Nat.zero_le _, Nat.zero_le _⟩ rfl (Nat.le_of_ble_eq_true rfl) [0, 1, 2, 3, 4, 5] [] rfl rfl (by decide) (by decide) (by decide) rfl rfl [0, 1, 2, 3, 4, 5] (by decide) (wB K h t1 t2 t3 t4 c C) rfl ?_
          refine gx_iadd (pc := 35) hB dX0_weightOfDonor_35 ?_
          refine gx_istore_n (pc := 36) hB dX0_weightOfDonor_36 (by decide) [(3, .int (bWDonorN C x y i + (bWeight C (nI i) y))), (0, .ref h), (1, .int x), (2, .int y), (4, .int (nI i))] rfl ?_
          refine gx_iinc (pc := 37) hB dX0_weightOfDonor_37 4 (by decide) rfl (nI (i + 1)) (nI_1 _) [(4, .int (nI (i + 1))), (3, .int (bWDonorN C x y i + (bWeight C (nI i) y))), (0, .ref h), (1, .int x), (2, .int y)] rfl ?_
          refine gx_goto (pc := 40) hB 5 dX0_weightOfDonor_40 (by decide) ?_
          have g3 : bWDonorN C x y i + (bWeight C (nI i) y) = bWDonorN C x y (i + 1) := by simp [bWDonor, bWDonorN, Int32.not_le.mp c_2, eq_false c_2, c_3]
          refine gx_sub hB (lv' := [(0, .ref h), (1, .int x), (2, .int y), (3, .int (bWDonorN C x y i + (bWeight C (nI i) y))), (4, .int (nI (i + 1)))]) [2, 3, 4, 1, 0] rfl ?_
          refine gx_all (ws' := wB K h t1 t2 t3 t4 c C) (lv' := [(0, .ref h), (1, .int x), (2, .int y), (3, .int (bWDonorN C x y (i + 1))), (4, .int (nI (i + 1)))]) (rfl) (by rw [← g3]) ?_
          exact ih5 (i + 1) (by omega)
  refine gx_sub hB (lv' := [(0, .ref h), (1, .int x), (2, .int y), (3, .int 0), (4, .int 0)]) [2, 3, 4, 1, 0] rfl ?_
  refine gx_all (ws' := wB K h t1 t2 t3 t4 c C) (lv' := [(0, .ref h), (1, .int x), (2, .int y), (3, .int (bWDonorN C x y 0)), (4, .int (nI 0))]) (rfl) (rfl) ?_
  exact loop_5 ((C 133).toNatClampNeg) 0 (by omega)
theorem pX0_weightOfAll : (parseMethodDescriptor yX0_weightOfAll.desc).map (fun d => d.parameters.length) = some 1 := by decide +kernel
theorem mX0_weightOfAll : gx_M yX0_weightOfAll cX0_weightOfAll 4 (some .int) := ⟨tb_423, tb_15, tb_28, tb_424, by decide, by decide⟩
set_option maxHeartbeats 4000000 in
set_option maxRecDepth 100000 in
theorem c_X0_weightOfAll (l : Launch) (K : gx_K) (h t1 t2 t3 t4 c : Nat) (C : Nat → Int32) (x : Int32)  : gx_Ctr l K yX0_weightOfAll cX0_weightOfAll 4 (some .int) (rmm 3 45) [.ref h, .int x] (wB K h t1 t2 t3 t4 c C) (gx_D (some (.int (bWAll C x))) (wB K h t1 t2 t3 t4 c C)) := by
  refine gx_of (by decide) (Nat.le_of_ble_eq_true rfl) (fun G hC => ?_)
  have hB := hC.b
  refine gx_lv (lv' := [(0, .ref h), (1, .int x)]) rfl ?_
  refine gx_iconst (pc := 0) hB dX0_weightOfAll_0 0 (by decide) ?_
  refine gx_istore_n (pc := 1) hB dX0_weightOfAll_1 (by decide) [(2, .int 0), (0, .ref h), (1, .int x)] rfl ?_
  refine gx_iconst (pc := 2) hB dX0_weightOfAll_2 0 (by decide) ?_
  refine gx_istore_n (pc := 3) hB dX0_weightOfAll_3 (by decide) [(3, .int 0), (2, .int 0), (0, .ref h), (1, .int x)] rfl ?_
  have loop_4 : ∀ dq i : Nat, i + dq = (C 133).toNatClampNeg → G 0 0 (wB K h t1 t2 t3 t4 c C) [(0, .ref h), (1, .int x), (2, .int (bWAllN C x i)), (3, .int (nI i))] 4 [] := by
    intro dq
    induction dq with
    | zero =>
      intro i hi4
      obtain rfl : (C 133).toNatClampNeg = i := by omega
      refine gx_iload_n (pc := 4) hB dX0_weightOfAll_4 3 rfl ?_
      refine gx_aload_n (pc := 5) hB dX0_weightOfAll_5 0 rfl ?_
      refine gx_get (pc := 6) hB dX0_weightOfAll_6 inX0 rfl 0 rfl 3 (by decide) tb_83 rfl rfl ?_
      refine gx_dVi (pc := 9) (r := C 133) (wr := [(h, .inr (0, [.ref c, .ref t1, .ref t2, .ref t3, .ref t4])), (t1, .inr (3, [.ref c, .int (nI 3), .int (nI 6), .int (nI 12)])), (t2, .inr (3, [.ref c, .int (nI 76), .int (nI 8), .int (nI 7)])), (t4, .inr (3, [.ref c, .int (nI 302), .int (nI 6), .int (nI 8)]))]) hB (c_X3_size l K t3 c 133 24 7 C (by first | decide | (unfold tHb; decide))) mX3_size dX0_weightOfAll_9 tb_195 pX3_size ⟨Nat.le_of_ble_eq_true rfl, Nat.le_of_ble_eq_true rfl⟩ ⟨rfl, rfl⟩ ⟨Nat.zero_le _, Nat.zero_le _⟩ rfl (Nat.le_of_ble_eq_true rfl) [3, 5] [0, 1, 2, 4] rfl rfl (by decide) (by decide) (by decide) rfl rfl [0, 1, 2, 4, 3, 5] (by decide) (wB K h t1 t2 t3 t4 c C) rfl ?_
      refine gx_icmp_ge (pc := 12) hB 30 dX0_weightOfAll_12 (by decide) (fun c_1 => ?_) (fun c_1 => ?_)
      · refine gx_iload_n (pc := 30) hB dX0_weightOfAll_30 2 rfl ?_
        have e1 : bWAll C x = (bWAllN C x ((C 133).toNatClampNeg)) := by simp [bWAll, c_1, eq_false (Int32.not_lt.mpr c_1)]
        exact gx_iret (pc := 31) hC dX0_weightOfAll_31 (Nat.zero_le _) (Nat.zero_le _) (⟨by rw [e1], rfl⟩)
      · exact absurd (lpT (x := (C 133)) hi4) c_1
    | succ dq ih4 =>
      intro i hi4
      refine gx_iload_n (pc := 4) hB dX0_weightOfAll_4 3 rfl ?_
      refine gx_aload_n (pc := 5) hB dX0_weightOfAll_5 0 rfl ?_
      refine gx_get (pc := 6) hB dX0_weightOfAll_6 inX0 rfl 0 rfl 3 (by decide) tb_83 rfl rfl ?_
      refine gx_dVi (pc := 9) (r := C 133) (wr := [(h, .inr (0, [.ref c, .ref t1, .ref t2, .ref t3, .ref t4])), (t1, .inr (3, [.ref c, .int (nI 3), .int (nI 6), .int (nI 12)])), (t2, .inr (3, [.ref c, .int (nI 76), .int (nI 8), .int (nI 7)])), (t4, .inr (3, [.ref c, .int (nI 302), .int (nI 6), .int (nI 8)]))]) hB (c_X3_size l K t3 c 133 24 7 C (by first | decide | (unfold tHb; decide))) mX3_size dX0_weightOfAll_9 tb_195 pX3_size ⟨Nat.le_of_ble_eq_true rfl, Nat.le_of_ble_eq_true rfl⟩ ⟨rfl, rfl⟩ ⟨Nat.zero_le _, Nat.zero_le _⟩ rfl (Nat.le_of_ble_eq_true rfl) [3, 5] [0, 1, 2, 4] rfl rfl (by decide) (by decide) (by decide) rfl rfl [0, 1, 2, 4, 3, 5] (by decide) (wB K h t1 t2 t3 t4 c C) rfl ?_
      refine gx_icmp_ge (pc := 12) hB 30 dX0_weightOfAll_12 (by decide) (fun c_2 => ?_) (fun c_2 => ?_)
      · exact absurd c_2 (lpF (x := (C 133)) hi4)
      · refine gx_iload_n (pc := 15) hB dX0_weightOfAll_15 2 rfl ?_
        refine gx_aload_n (pc := 16) hB dX0_weightOfAll_16 0 rfl ?_
        refine gx_iload_n (pc := 17) hB dX0_weightOfAll_17 3 rfl ?_
        refine gx_iload_n (pc := 18) hB dX0_weightOfAll_18 1 rfl ?_
        refine gx_dVi (pc := 19) (r := bWeight C (nI i) x) (wr := []) hB (c_X0_weightOf l K h t1 t2 t3 t4 c C (nI i) x ) mX0_weightOf dX0_weightOfAll_19 tb_400 pX0_weightOf ⟨Nat.le_of_ble_eq_true rfl, Nat.le_of_ble_eq_true rfl⟩ ⟨rfl, rfl⟩ ⟨Nat.zero_le _, Nat.zero_le _⟩ rfl (Nat.le_of_ble_eq_true rfl) [0, 1, 2, 3, 4, 5] [] rfl rfl (by decide) (by decide) (by decide) rfl rfl [0, 1, 2, 3, 4, 5] (by decide) (wB K h t1 t2 t3 t4 c C) rfl ?_
        refine gx_iadd (pc := 22) hB dX0_weightOfAll_22 ?_
        refine gx_istore_n (pc := 23) hB dX0_weightOfAll_23 (by decide) [(2, .int (bWAllN C x i + (bWeight C (nI i) x))), (0, .ref h), (1, .int x), (3, .int (nI i))] rfl ?_
        refine gx_iinc (pc := 24) hB dX0_weightOfAll_24 3 (by decide) rfl (nI (i + 1)) (nI_1 _) [(3, .int (nI (i + 1))), (2, .int (bWAllN C x i + (bWeight C (nI i) x))), (0, .ref h), (1, .int x)] rfl ?_
        refine gx_goto (pc := 27) hB 4 dX0_weightOfAll_27 (by decide) ?_
        have g2 : bWAllN C x i + (bWeight C (nI i) x) = bWAllN C x (i + 1) := by simp [bWAll, bWAllN, Int32.not_le.mp c_2, eq_false c_2]
        refine gx_sub hB (lv' := [(0, .ref h), (1, .int x), (2, .int (bWAllN C x i + (bWeight C (nI i) x))), (3, .int (nI (i + 1)))]) [2, 3, 1, 0] rfl ?_
        refine gx_all (ws' := wB K h t1 t2 t3 t4 c C) (lv' := [(0, .ref h), (1, .int x), (2, .int (bWAllN C x (i + 1))), (3, .int (nI (i + 1)))]) (rfl) (by rw [← g2]) ?_
        exact ih4 (i + 1) (by omega)
  refine gx_sub hB (lv' := [(0, .ref h), (1, .int x), (2, .int 0), (3, .int 0)]) [2, 3, 1, 0] rfl ?_
  refine gx_all (ws' := wB K h t1 t2 t3 t4 c C) (lv' := [(0, .ref h), (1, .int x), (2, .int (bWAllN C x 0)), (3, .int (nI 0))]) (rfl) (rfl) ?_
  exact loop_4 ((C 133).toNatClampNeg) 0 (by omega)
theorem pX0_weightOfConsents : (parseMethodDescriptor yX0_weightOfConsents.desc).map (fun d => d.parameters.length) = some 2 := by decide +kernel
theorem mX0_weightOfConsents : gx_M yX0_weightOfConsents cX0_weightOfConsents 5 (some .int) := ⟨tb_427, tb_16, tb_28, tb_428, by decide, by decide⟩
set_option maxHeartbeats 4000000 in
set_option maxRecDepth 100000 in
theorem c_X0_weightOfConsents (l : Launch) (K : gx_K) (h t1 t2 t3 t4 c : Nat) (C : Nat → Int32) (x y : Int32)  : gx_Ctr l K yX0_weightOfConsents cX0_weightOfConsents 5 (some .int) (rmm 3 45) [.ref h, .int x, .int y] (wB K h t1 t2 t3 t4 c C) (gx_D (some (.int (bWCons C x y))) (wB K h t1 t2 t3 t4 c C)) := by
  refine gx_of (by decide) (Nat.le_of_ble_eq_true rfl) (fun G hC => ?_)
  have hB := hC.b
  refine gx_lv (lv' := [(0, .ref h), (1, .int x), (2, .int y)]) rfl ?_
  refine gx_iconst (pc := 0) hB dX0_weightOfConsents_0 0 (by decide) ?_
  refine gx_istore_n (pc := 1) hB dX0_weightOfConsents_1 (by decide) [(3, .int 0), (0, .ref h), (1, .int x), (2, .int y)] rfl ?_
  refine gx_iconst (pc := 2) hB dX0_weightOfConsents_2 0 (by decide) ?_
  refine gx_istore (pc := 3) hB dX0_weightOfConsents_3 (by decide) [(4, .int 0), (3, .int 0), (0, .ref h), (1, .int x), (2, .int y)] rfl ?_
  have loop_5 : ∀ dq i : Nat, i + dq = (C 133).toNatClampNeg → G 0 0 (wB K h t1 t2 t3 t4 c C) [(0, .ref h), (1, .int x), (2, .int y), (3, .int (bWConsN C x y i)), (4, .int (nI i))] 5 [] := by
    intro dq
    induction dq with
    | zero =>
      intro i hi5
      obtain rfl : (C 133).toNatClampNeg = i := by omega
      refine gx_iload (pc := 5) hB dX0_weightOfConsents_5 4 rfl ?_
      refine gx_aload_n (pc := 7) hB dX0_weightOfConsents_7 0 rfl ?_
      refine gx_get (pc := 8) hB dX0_weightOfConsents_8 inX0 rfl 0 rfl 3 (by decide) tb_83 rfl rfl ?_
      refine gx_dVi (pc := 11) (r := C 133) (wr := [(h, .inr (0, [.ref c, .ref t1, .ref t2, .ref t3, .ref t4])), (t1, .inr (3, [.ref c, .int (nI 3), .int (nI 6), .int (nI 12)])), (t2, .inr (3, [.ref c, .int (nI 76), .int (nI 8), .int (nI 7)])), (t4, .inr (3, [.ref c, .int (nI 302), .int (nI 6), .int (nI 8)]))]) hB (c_X3_size l K t3 c 133 24 7 C (by first | decide | (unfold tHb; decide))) mX3_size dX0_weightOfConsents_11 tb_195 pX3_size ⟨Nat.le_of_ble_eq_true rfl, Nat.le_of_ble_eq_true rfl⟩ ⟨rfl, rfl⟩ ⟨Nat.zero_le _, Nat.zero_le _⟩ rfl (Nat.le_of_ble_eq_true rfl) [3, 5] [0, 1, 2, 4] rfl rfl (by decide) (by decide) (by decide) rfl rfl [0, 1, 2, 4, 3, 5] (by decide) (wB K h t1 t2 t3 t4 c C) rfl ?_
      refine gx_icmp_ge (pc := 14) hB 52 dX0_weightOfConsents_14 (by decide) (fun c_1 => ?_) (fun c_1 => ?_)
      · refine gx_iload_n (pc := 52) hB dX0_weightOfConsents_52 3 rfl ?_
        have e1 : bWCons C x y = (bWConsN C x y ((C 133).toNatClampNeg)) := by simp [bWCons, c_1, eq_false (Int32.not_lt.mpr c_1)]
        exact gx_iret (pc := 53) hC dX0_weightOfConsents_53 (Nat.zero_le _) (Nat.zero_le _) (⟨by rw [e1], rfl⟩)
      · exact absurd (lpT (x := (C 133)) hi5) c_1
    | succ dq ih5 =>
      intro i hi5
      refine gx_iload (pc := 5) hB dX0_weightOfConsents_5 4 rfl ?_
      refine gx_aload_n (pc := 7) hB dX0_weightOfConsents_7 0 rfl ?_
      refine gx_get (pc := 8) hB dX0_weightOfConsents_8 inX0 rfl 0 rfl 3 (by decide) tb_83 rfl rfl ?_
      refine gx_dVi (pc := 11) (r := C 133) (wr := [(h, .inr (0, [.ref c, .ref t1, .ref t2, .ref t3, .ref t4])), (t1, .inr (3, [.ref c, .int (nI 3), .int (nI 6), .int (nI 12)])), (t2, .inr (3, [.ref c, .int (nI 76), .int (nI 8), .int (nI 7)])), (t4, .inr (3, [.ref c, .int (nI 302), .int (nI 6), .int (nI 8)]))]) hB (c_X3_size l K t3 c 133 24 7 C (by first | decide | (unfold tHb; decide))) mX3_size dX0_weightOfConsents_11 tb_195 pX3_size ⟨Nat.le_of_ble_eq_true rfl, Nat.le_of_ble_eq_true rfl⟩ ⟨rfl, rfl⟩ ⟨Nat.zero_le _, Nat.zero_le _⟩ rfl (Nat.le_of_ble_eq_true rfl) [3, 5] [0, 1, 2, 4] rfl rfl (by decide) (by decide) (by decide) rfl rfl [0, 1, 2, 4, 3, 5] (by decide) (wB K h t1 t2 t3 t4 c C) rfl ?_
      refine gx_icmp_ge (pc := 14) hB 52 dX0_weightOfConsents_14 (by decide) (fun c_2 => ?_) (fun c_2 => ?_)
      · exact absurd c_2 (lpF (x := (C 133)) hi5)
      · refine gx_aload_n (pc := 17) hB dX0_weightOfConsents_17 0 rfl ?_
        refine gx_aload_n (pc := 18) hB dX0_weightOfConsents_18 0 rfl ?_
        refine gx_get (pc := 19) hB dX0_weightOfConsents_19 inX0 rfl 0 rfl 3 (by decide) tb_83 rfl rfl ?_
        refine gx_iload (pc := 22) hB dX0_weightOfConsents_22 4 rfl ?_
        refine gx_iconst (pc := 24) hB dX0_weightOfConsents_24 0 (by decide) ?_
        refine gx_dVi (pc := 25) (r := gAt C (nI i) 0) (wr := [(h, .inr (0, [.ref c, .ref t1, .ref t2, .ref t3, .ref t4])), (t1, .inr (3, [.ref c, .int (nI 3), .int (nI 6), .int (nI 12)])), (t2, .inr (3, [.ref c, .int (nI 76), .int (nI 8), .int (nI 7)])), (t4, .inr (3, [.ref c, .int (nI 302), .int (nI 6), .int (nI 8)]))]) hB (c_X3_at l K t3 c 133 24 7 C (nI i) 0 (by first | decide | (unfold tHb; decide))) mX3_at dX0_weightOfConsents_25 tb_175 pX3_at ⟨Nat.le_of_ble_eq_true rfl, Nat.le_of_ble_eq_true rfl⟩ ⟨rfl, rfl⟩ ⟨Nat.zero_le _, Nat.zero_le _⟩ rfl (Nat.le_of_ble_eq_true rfl) [3, 5] [0, 1, 2, 4] rfl rfl (by decide) (by decide) (by decide) rfl rfl [0, 1, 2, 4, 3, 5] (by decide) (wB K h t1 t2 t3 t4 c C) rfl ?_
        refine gx_iload_n (pc := 28) hB dX0_weightOfConsents_28 1 rfl ?_
        refine gx_iload_n (pc := 29) hB dX0_weightOfConsents_29 2 rfl ?_
        refine gx_dVi (pc := 30) (r := bI (bAgrees C (gAt C (nI i) 0) x y)) (wr := []) hB (c_X0_agreesTo l K h t1 t2 t3 t4 c C (gAt C (nI i) 0) x y ) mX0_agreesTo dX0_weightOfConsents_30 tb_429 pX0_agreesTo ⟨Nat.le_of_ble_eq_true rfl, Nat.le_of_ble_eq_true rfl⟩ ⟨rfl, rfl⟩ ⟨Nat.zero_le _, Nat.zero_le _⟩ rfl (Nat.le_of_ble_eq_true rfl) [0, 1, 2, 3, 4, 5] [] rfl rfl (by decide) (by decide) (by decide) rfl rfl [0, 1, 2, 3, 4, 5] (by decide) (wB K h t1 t2 t3 t4 c C) rfl ?_
        refine gx_if_eq_b (pc := 33) hB 46 dX0_weightOfConsents_33 (by decide) (fun c_3 => ?_) (fun c_3 => ?_)
        · refine gx_iinc (pc := 46) hB dX0_weightOfConsents_46 4 (by decide) rfl (nI (i + 1)) (nI_1 _) [(4, .int (nI (i + 1))), (0, .ref h), (1, .int x), (2, .int y), (3, .int (bWConsN C x y i))] rfl ?_
          refine gx_goto (pc := 49) hB 5 dX0_weightOfConsents_49 (by decide) ?_
          have g3 : bWConsN C x y i = bWConsN C x y (i + 1) := by simp [bWCons, bWConsN, Int32.not_le.mp c_2, eq_false c_2, c_3]
          refine gx_sub hB (lv' := [(0, .ref h), (1, .int x), (2, .int y), (3, .int (bWConsN C x y i)), (4, .int (nI (i + 1)))]) [1, 2, 3, 4, 0] rfl ?_
          refine gx_all (ws' := wB K h t1 t2 t3 t4 c C) (lv' := [(0, .ref h), (1, .int x), (2, .int y), (3, .int (bWConsN C x y (i + 1))), (4, .int (nI (i + 1)))]) (rfl) (by rw [← g3]) ?_
          exact ih5 (i + 1) (by omega)
        · refine gx_iload_n (pc := 36) hB dX0_weightOfConsents_36 3 rfl ?_
          refine gx_aload_n (pc := 37) hB dX0_weightOfConsents_37 0 rfl ?_
          refine gx_iload (pc := 38) hB dX0_weightOfConsents_38 4 rfl ?_
          refine gx_iload_n (pc := 40) hB dX0_weightOfConsents_40 1 rfl ?_
          refine gx_dVi (pc := 41) (r := bWeight C (nI i) x) (wr := []) hB (c_X0_weightOf l K h t1 t2 t3 t4 c C (nI i) x ) mX0_weightOf dX0_weightOfConsents_41 tb_400 pX0_weightOf ⟨Nat.le_of_ble_eq_true rfl, Nat.le_of_ble_eq_true rfl⟩ ⟨rfl, rfl⟩ ⟨Nat.zero_le _, Nat.zero_le _⟩ rfl (Nat.le_of_ble_eq_true rfl) [0, 1, 2, 3, 4, 5] [] rfl rfl (by decide) (by decide) (by decide) rfl rfl [0, 1, 2, 3, 4, 5] (by decide) (wB K h t1 t2 t3 t4 c C) rfl ?_
          refine gx_iadd (pc := 44) hB dX0_weightOfConsents_44 ?_
          refine gx_istore_n (pc := 45) hB dX0_weightOfConsents_45 (by decide) [(3, .int (bWConsN C x y i + (bWeight C (nI i) x))), (0, .ref h), (1, .int x), (2, .int y), (4, .int (nI i))] rfl ?_
          refine gx_iinc (pc := 46) hB dX0_weightOfConsents_46 4 (by decide) rfl (nI (i + 1)) (nI_1 _) [(4, .int (nI (i + 1))), (3, .int (bWConsN C x y i + (bWeight C (nI i) x))), (0, .ref h), (1, .int x), (2, .int y)] rfl ?_
          refine gx_goto (pc := 49) hB 5 dX0_weightOfConsents_49 (by decide) ?_
          have g3 : bWConsN C x y i + (bWeight C (nI i) x) = bWConsN C x y (i + 1) := by simp [bWCons, bWConsN, Int32.not_le.mp c_2, eq_false c_2, c_3]
          refine gx_sub hB (lv' := [(0, .ref h), (1, .int x), (2, .int y), (3, .int (bWConsN C x y i + (bWeight C (nI i) x))), (4, .int (nI (i + 1)))]) [2, 3, 4, 1, 0] rfl ?_
          refine gx_all (ws' := wB K h t1 t2 t3 t4 c C) (lv' := [(0, .ref h), (1, .int x), (2, .int y), (3, .int (bWConsN C x y (i + 1))), (4, .int (nI (i + 1)))]) (rfl) (by rw [← g3]) ?_
          exact ih5 (i + 1) (by omega)
  refine gx_sub hB (lv' := [(0, .ref h), (1, .int x), (2, .int y), (3, .int 0), (4, .int 0)]) [2, 3, 4, 1, 0] rfl ?_
  refine gx_all (ws' := wB K h t1 t2 t3 t4 c C) (lv' := [(0, .ref h), (1, .int x), (2, .int y), (3, .int (bWConsN C x y 0)), (4, .int (nI 0))]) (rfl) (rfl) ?_
  exact loop_5 ((C 133).toNatClampNeg) 0 (by omega)
theorem pX0_consentTo : (parseMethodDescriptor yX0_consentTo.desc).map (fun d => d.parameters.length) = some 3 := by decide +kernel
theorem mX0_consentTo : gx_M yX0_consentTo cX0_consentTo 4 (some .int) := ⟨tb_385, tb_386, tb_28, tb_387, by decide, by decide⟩
set_option maxHeartbeats 4000000 in
set_option maxRecDepth 100000 in
theorem c_X0_consentTo (l : Launch) (K : gx_K) (h t1 t2 t3 t4 c : Nat) (C : Nat → Int32) (x y z : Int32)  : gx_Ctr l K yX0_consentTo cX0_consentTo 4 (some .int) (rmm 4 69) [.ref h, .int x, .int y, .int z] (wB K h t1 t2 t3 t4 c C) (gx_D (some (.int ((bAgree C x y z).1))) (wB K h t1 t2 t3 t4 c ((bAgree C x y z).2))) := by
  refine gx_of (by decide) (Nat.le_of_ble_eq_true rfl) (fun G hC => ?_)
  have hB := hC.b
  refine gx_lv (lv' := [(0, .ref h), (1, .int x), (2, .int y), (3, .int z)]) rfl ?_
  refine gx_aload_n (pc := 0) hB dX0_consentTo_0 0 rfl ?_
  refine gx_get (pc := 1) hB dX0_consentTo_1 inX0 rfl 0 rfl 2 (by decide) tb_82 rfl rfl ?_
  refine gx_iload_n (pc := 4) hB dX0_consentTo_4 1 rfl ?_
  refine gx_dVi (pc := 5) (r := bI (tHas C 76 x)) (wr := [(h, .inr (0, [.ref c, .ref t1, .ref t2, .ref t3, .ref t4])), (t1, .inr (3, [.ref c, .int (nI 3), .int (nI 6), .int (nI 12)])), (t3, .inr (3, [.ref c, .int (nI 133), .int (nI 24), .int (nI 7)])), (t4, .inr (3, [.ref c, .int (nI 302), .int (nI 6), .int (nI 8)]))]) hB (c_X3_has l K t2 c 76 8 7 C x (by first | decide | (unfold tHb; decide))) mX3_has dX0_consentTo_5 tb_164 pX3_has ⟨Nat.le_of_ble_eq_true rfl, Nat.le_of_ble_eq_true rfl⟩ ⟨rfl, rfl⟩ ⟨Nat.zero_le _, Nat.zero_le _⟩ rfl (Nat.le_of_ble_eq_true rfl) [2, 5] [0, 1, 3, 4] rfl rfl (by decide) (by decide) (by decide) rfl rfl [0, 1, 4, 2, 3, 5] (by decide) (wB K h t1 t2 t3 t4 c C) rfl ?_
  refine gx_if_eq_b (pc := 8) hB 20 dX0_consentTo_8 (by decide) (fun c_1 => ?_) (fun c_1 => ?_)
  · refine gx_iconst (pc := 20) hB dX0_consentTo_20 (-1) (by decide) ?_
    have e1 : ((bAgree C x y z).1) = (-1) := by simp [bAgree, c_1]
    have f0 : ((bAgree C x y z).2) = C := by simp [bAgree, c_1]
    exact gx_iret (pc := 21) hC dX0_consentTo_21 (Nat.zero_le _) (Nat.zero_le _) (⟨by rw [e1], by rw [f0]⟩)
  · refine gx_aload_n (pc := 11) hB dX0_consentTo_11 0 rfl ?_
    refine gx_iload_n (pc := 12) hB dX0_consentTo_12 2 rfl ?_
    refine gx_iload_n (pc := 13) hB dX0_consentTo_13 3 rfl ?_
    refine gx_dVi (pc := 14) (r := bI (bTwo C y z)) (wr := []) hB (c_X0_areTwoPurposes l K h t1 t2 t3 t4 c C y z ) mX0_areTwoPurposes dX0_consentTo_14 tb_388 pX0_areTwoPurposes ⟨Nat.le_of_ble_eq_true rfl, Nat.le_of_ble_eq_true rfl⟩ ⟨rfl, rfl⟩ ⟨Nat.zero_le _, Nat.zero_le _⟩ rfl (Nat.le_of_ble_eq_true rfl) [0, 1, 2, 3, 4, 5] [] rfl rfl (by decide) (by decide) (by decide) rfl rfl [0, 1, 2, 3, 4, 5] (by decide) (wB K h t1 t2 t3 t4 c C) rfl ?_
    refine gx_if_ne_b (pc := 17) hB 22 dX0_consentTo_17 (by decide) (fun c_2 => ?_) (fun c_2 => ?_)
    · refine gx_aload_n (pc := 22) hB dX0_consentTo_22 0 rfl ?_
      refine gx_iload_n (pc := 23) hB dX0_consentTo_23 2 rfl ?_
      refine gx_iload_n (pc := 24) hB dX0_consentTo_24 3 rfl ?_
      refine gx_dVi (pc := 25) (r := bI (bMergeable C y z)) (wr := []) hB (c_X0_areMergeable l K h t1 t2 t3 t4 c C y z ) mX0_areMergeable dX0_consentTo_25 tb_392 pX0_areMergeable ⟨Nat.le_of_ble_eq_true rfl, Nat.le_of_ble_eq_true rfl⟩ ⟨rfl, rfl⟩ ⟨Nat.zero_le _, Nat.zero_le _⟩ rfl (Nat.le_of_ble_eq_true rfl) [0, 1, 2, 3, 4, 5] [] rfl rfl (by decide) (by decide) (by decide) rfl rfl [0, 1, 2, 3, 4, 5] (by decide) (wB K h t1 t2 t3 t4 c C) rfl ?_
      refine gx_if_ne_b (pc := 28) hB 34 dX0_consentTo_28 (by decide) (fun c_3 => ?_) (fun c_3 => ?_)
      · refine gx_aload_n (pc := 34) hB dX0_consentTo_34 0 rfl ?_
        refine gx_get (pc := 35) hB dX0_consentTo_35 inX0 rfl 0 rfl 2 (by decide) tb_82 rfl rfl ?_
        refine gx_iload_n (pc := 38) hB dX0_consentTo_38 1 rfl ?_
        refine gx_iconst (pc := 39) hB dX0_consentTo_39 1 (by decide) ?_
        refine gx_iload_n (pc := 40) hB dX0_consentTo_40 2 rfl ?_
        refine gx_iadd (pc := 41) hB dX0_consentTo_41 ?_
        refine gx_iload_n (pc := 42) hB dX0_consentTo_42 3 rfl ?_
        refine gx_dVv (pc := 43) (wr := [(h, .inr (0, [.ref c, .ref t1, .ref t2, .ref t3, .ref t4])), (t1, .inr (3, [.ref c, .int (nI 3), .int (nI 6), .int (nI 12)])), (t3, .inr (3, [.ref c, .int (nI 133), .int (nI 24), .int (nI 7)])), (t4, .inr (3, [.ref c, .int (nI 302), .int (nI 6), .int (nI 8)]))]) hB (c_X3_put l K t2 c 76 8 7 C x (1 + y) z (by first | decide | (unfold tHb; decide))) mX3_put dX0_consentTo_43 tb_76 pX3_put ⟨Nat.le_of_ble_eq_true rfl, Nat.le_of_ble_eq_true rfl⟩ ⟨rfl, rfl⟩ ⟨Nat.zero_le _, Nat.zero_le _⟩ rfl (Nat.le_of_ble_eq_true rfl) [2, 5] [0, 1, 3, 4] rfl rfl (by decide) (by decide) (by decide) rfl rfl [0, 1, 4, 2, 3, 5] (by decide) (wB K h t1 t2 t3 t4 c (dPut C x (1 + y) z)) rfl ?_
        refine gx_aload_n (pc := 46) hB dX0_consentTo_46 0 rfl ?_
        refine gx_iload_n (pc := 47) hB dX0_consentTo_47 1 rfl ?_
        refine gx_iload_n (pc := 48) hB dX0_consentTo_48 2 rfl ?_
        refine gx_dVi (pc := 49) (r := bWDonor (dPut C x (1 + y) z) x y) (wr := []) hB (c_X0_weightOfDonor l K h t1 t2 t3 t4 c (dPut C x (1 + y) z) x y ) mX0_weightOfDonor dX0_consentTo_49 tb_396 pX0_weightOfDonor ⟨Nat.le_of_ble_eq_true rfl, Nat.le_of_ble_eq_true rfl⟩ ⟨rfl, rfl⟩ ⟨Nat.zero_le _, Nat.zero_le _⟩ rfl (Nat.le_of_ble_eq_true rfl) [0, 1, 2, 3, 4, 5] [] rfl rfl (by decide) (by decide) (by decide) rfl rfl [0, 1, 2, 3, 4, 5] (by decide) (wB K h t1 t2 t3 t4 c (dPut C x (1 + y) z)) rfl ?_
        have e1 : ((bAgree C x y z).1) = (bWDonor (dPut C x (1 + y) z) x y) := by simp [bAgree, c_1, c_2, c_3]
        have f0 : ((bAgree C x y z).2) = (dPut C x (1 + y) z) := by simp [bAgree, c_1, c_2, c_3]
        exact gx_iret (pc := 52) hC dX0_consentTo_52 (Nat.zero_le _) (Nat.zero_le _) (⟨by rw [e1], by rw [f0]⟩)
      · refine gx_bipush (pc := 31) hB dX0_consentTo_31 (-2) (by decide) ?_
        have e1 : ((bAgree C x y z).1) = (-2) := by simp [bAgree, c_1, c_2, c_3]
        have f0 : ((bAgree C x y z).2) = C := by simp [bAgree, c_1, c_2, c_3]
        exact gx_iret (pc := 33) hC dX0_consentTo_33 (Nat.zero_le _) (Nat.zero_le _) (⟨by rw [e1], by rw [f0]⟩)
    · refine gx_iconst (pc := 20) hB dX0_consentTo_20 (-1) (by decide) ?_
      have e1 : ((bAgree C x y z).1) = (-1) := by simp [bAgree, c_1, c_2]
      have f0 : ((bAgree C x y z).2) = C := by simp [bAgree, c_1, c_2]
      exact gx_iret (pc := 21) hC dX0_consentTo_21 (Nat.zero_le _) (Nat.zero_le _) (⟨by rw [e1], by rw [f0]⟩)
theorem pX0_handOnPledges : (parseMethodDescriptor yX0_handOnPledges.desc).map (fun d => d.parameters.length) = some 2 := by decide +kernel
theorem mX0_handOnPledges : gx_M yX0_handOnPledges cX0_handOnPledges 4 none := ⟨tb_435, tb_18, tb_28, tb_436, by decide, by decide⟩
set_option maxHeartbeats 4000000 in
set_option maxRecDepth 100000 in
theorem c_X0_handOnPledges (l : Launch) (K : gx_K) (h t1 t2 t3 t4 c : Nat) (C : Nat → Int32) (x y : Int32)  : gx_Ctr l K yX0_handOnPledges cX0_handOnPledges 4 none (rmm 3 45) [.ref h, .int x, .int y] (wB K h t1 t2 t3 t4 c C) (gx_D none (wB K h t1 t2 t3 t4 c (bHand C x y))) := by
  refine gx_of (by decide) (Nat.le_of_ble_eq_true rfl) (fun G hC => ?_)
  have hB := hC.b
  refine gx_lv (lv' := [(0, .ref h), (1, .int x), (2, .int y)]) rfl ?_
  refine gx_iconst (pc := 0) hB dX0_handOnPledges_0 0 (by decide) ?_
  refine gx_istore_n (pc := 1) hB dX0_handOnPledges_1 (by decide) [(3, .int 0), (0, .ref h), (1, .int x), (2, .int y)] rfl ?_
  have loop_2 : ∀ dq i : Nat, i + dq = (C 302).toNatClampNeg → G 0 0 (wB K h t1 t2 t3 t4 c (bHandN C x y i)) [(0, .ref h), (1, .int x), (2, .int y), (3, .int (nI i))] 2 [] := by
    intro dq
    induction dq with
    | zero =>
      intro i hi2
      obtain rfl : (C 302).toNatClampNeg = i := by omega
      refine gx_iload_n (pc := 2) hB dX0_handOnPledges_2 3 rfl ?_
      refine gx_aload_n (pc := 3) hB dX0_handOnPledges_3 0 rfl ?_
      refine gx_get (pc := 4) hB dX0_handOnPledges_4 inX0 rfl 0 rfl 4 (by decide) tb_84 rfl rfl ?_
      refine gx_dVi (pc := 7) (r := (bHandN C x y ((C 302).toNatClampNeg)) 302) (wr := [(h, .inr (0, [.ref c, .ref t1, .ref t2, .ref t3, .ref t4])), (t1, .inr (3, [.ref c, .int (nI 3), .int (nI 6), .int (nI 12)])), (t2, .inr (3, [.ref c, .int (nI 76), .int (nI 8), .int (nI 7)])), (t3, .inr (3, [.ref c, .int (nI 133), .int (nI 24), .int (nI 7)]))]) hB (c_X3_size l K t4 c 302 6 8 (bHandN C x y ((C 302).toNatClampNeg)) (by first | decide | (unfold tHb; decide))) mX3_size dX0_handOnPledges_7 tb_195 pX3_size ⟨Nat.le_of_ble_eq_true rfl, Nat.le_of_ble_eq_true rfl⟩ ⟨rfl, rfl⟩ ⟨Nat.zero_le _, Nat.zero_le _⟩ rfl (Nat.le_of_ble_eq_true rfl) [4, 5] [0, 1, 2, 3] rfl rfl (by decide) (by decide) (by decide) rfl rfl [0, 1, 2, 3, 4, 5] (by decide) (wB K h t1 t2 t3 t4 c (bHandN C x y ((C 302).toNatClampNeg))) rfl ?_
      refine gx_top (show (bHandN C x y ((C 302).toNatClampNeg)) 302 = C 302 from bHandN_302 _ _ _ _) ?_
      refine gx_icmp_ge (pc := 10) hB 76 dX0_handOnPledges_10 (by decide) (fun c_1 => ?_) (fun c_1 => ?_)
      · have f0 : bHand C x y = (bHandN C x y ((C 302).toNatClampNeg)) := by simp [bHand, c_1, eq_false (Int32.not_lt.mpr c_1)]
        exact gx_vret (pc := 76) hC dX0_handOnPledges_76 (Nat.zero_le _) (Nat.zero_le _) (⟨rfl, by rw [f0]⟩)
      · exact absurd (lpT (x := (C 302)) hi2) c_1
    | succ dq ih2 =>
      intro i hi2
      refine gx_iload_n (pc := 2) hB dX0_handOnPledges_2 3 rfl ?_
      refine gx_aload_n (pc := 3) hB dX0_handOnPledges_3 0 rfl ?_
      refine gx_get (pc := 4) hB dX0_handOnPledges_4 inX0 rfl 0 rfl 4 (by decide) tb_84 rfl rfl ?_
      refine gx_dVi (pc := 7) (r := (bHandN C x y i) 302) (wr := [(h, .inr (0, [.ref c, .ref t1, .ref t2, .ref t3, .ref t4])), (t1, .inr (3, [.ref c, .int (nI 3), .int (nI 6), .int (nI 12)])), (t2, .inr (3, [.ref c, .int (nI 76), .int (nI 8), .int (nI 7)])), (t3, .inr (3, [.ref c, .int (nI 133), .int (nI 24), .int (nI 7)]))]) hB (c_X3_size l K t4 c 302 6 8 (bHandN C x y i) (by first | decide | (unfold tHb; decide))) mX3_size dX0_handOnPledges_7 tb_195 pX3_size ⟨Nat.le_of_ble_eq_true rfl, Nat.le_of_ble_eq_true rfl⟩ ⟨rfl, rfl⟩ ⟨Nat.zero_le _, Nat.zero_le _⟩ rfl (Nat.le_of_ble_eq_true rfl) [4, 5] [0, 1, 2, 3] rfl rfl (by decide) (by decide) (by decide) rfl rfl [0, 1, 2, 3, 4, 5] (by decide) (wB K h t1 t2 t3 t4 c (bHandN C x y i)) rfl ?_
      refine gx_top (show (bHandN C x y i) 302 = C 302 from bHandN_302 _ _ _ _) ?_
      refine gx_icmp_ge (pc := 10) hB 76 dX0_handOnPledges_10 (by decide) (fun c_2 => ?_) (fun c_2 => ?_)
      · exact absurd c_2 (lpF (x := (C 302)) hi2)
      · refine gx_aload_n (pc := 13) hB dX0_handOnPledges_13 0 rfl ?_
        refine gx_iload_n (pc := 14) hB dX0_handOnPledges_14 3 rfl ?_
        refine gx_dVi (pc := 15) (r := bI (bRunning (bHandN C x y i) (nI i))) (wr := []) hB (c_X0_isRunning l K h t1 t2 t3 t4 c (bHandN C x y i) (nI i) ) mX0_isRunning dX0_handOnPledges_15 tb_304 pX0_isRunning ⟨Nat.le_of_ble_eq_true rfl, Nat.le_of_ble_eq_true rfl⟩ ⟨rfl, rfl⟩ ⟨Nat.zero_le _, Nat.zero_le _⟩ rfl (Nat.le_of_ble_eq_true rfl) [0, 1, 2, 3, 4, 5] [] rfl rfl (by decide) (by decide) (by decide) rfl rfl [0, 1, 2, 3, 4, 5] (by decide) (wB K h t1 t2 t3 t4 c (bHandN C x y i)) rfl ?_
        refine gx_if_eq_b (pc := 18) hB 70 dX0_handOnPledges_18 (by decide) (fun c_3 => ?_) (fun c_3 => ?_)
        · refine gx_iinc (pc := 70) hB dX0_handOnPledges_70 3 (by decide) rfl (nI (i + 1)) (nI_1 _) [(3, .int (nI (i + 1))), (0, .ref h), (1, .int x), (2, .int y)] rfl ?_
          refine gx_goto (pc := 73) hB 2 dX0_handOnPledges_73 (by decide) ?_
          have w0 : bHandN C x y i = bHandN C x y (i + 1) := by simp [bHand, bHandN, Int32.not_le.mp c_2, eq_false c_2, c_3]
          refine gx_sub hB (lv' := [(0, .ref h), (1, .int x), (2, .int y), (3, .int (nI (i + 1)))]) [1, 2, 3, 0] rfl ?_
          refine gx_all (ws' := wB K h t1 t2 t3 t4 c (bHandN C x y (i + 1))) (lv' := [(0, .ref h), (1, .int x), (2, .int y), (3, .int (nI (i + 1)))]) (by rw [← w0]) (rfl) ?_
          exact ih2 (i + 1) (by omega)
        · refine gx_aload_n (pc := 21) hB dX0_handOnPledges_21 0 rfl ?_
          refine gx_get (pc := 22) hB dX0_handOnPledges_22 inX0 rfl 0 rfl 4 (by decide) tb_84 rfl rfl ?_
          refine gx_iload_n (pc := 25) hB dX0_handOnPledges_25 3 rfl ?_
          refine gx_iconst (pc := 26) hB dX0_handOnPledges_26 1 (by decide) ?_
          refine gx_dVi (pc := 27) (r := kAt (bHandN C x y i) (nI i) 1) (wr := [(h, .inr (0, [.ref c, .ref t1, .ref t2, .ref t3, .ref t4])), (t1, .inr (3, [.ref c, .int (nI 3), .int (nI 6), .int (nI 12)])), (t2, .inr (3, [.ref c, .int (nI 76), .int (nI 8), .int (nI 7)])), (t3, .inr (3, [.ref c, .int (nI 133), .int (nI 24), .int (nI 7)]))]) hB (c_X3_at l K t4 c 302 6 8 (bHandN C x y i) (nI i) 1 (by first | decide | (unfold tHb; decide))) mX3_at dX0_handOnPledges_27 tb_175 pX3_at ⟨Nat.le_of_ble_eq_true rfl, Nat.le_of_ble_eq_true rfl⟩ ⟨rfl, rfl⟩ ⟨Nat.zero_le _, Nat.zero_le _⟩ rfl (Nat.le_of_ble_eq_true rfl) [4, 5] [0, 1, 2, 3] rfl rfl (by decide) (by decide) (by decide) rfl rfl [0, 1, 2, 3, 4, 5] (by decide) (wB K h t1 t2 t3 t4 c (bHandN C x y i)) rfl ?_
          refine gx_iload_n (pc := 30) hB dX0_handOnPledges_30 1 rfl ?_
          refine gx_icmp_ne (pc := 31) hB 70 dX0_handOnPledges_31 (by decide) (fun c_4 => ?_) (fun c_4 => ?_)
          · refine gx_iinc (pc := 70) hB dX0_handOnPledges_70 3 (by decide) rfl (nI (i + 1)) (nI_1 _) [(3, .int (nI (i + 1))), (0, .ref h), (1, .int x), (2, .int y)] rfl ?_
            refine gx_goto (pc := 73) hB 2 dX0_handOnPledges_73 (by decide) ?_
            have w0 : bHandN C x y i = bHandN C x y (i + 1) := by simp [bHand, bHandN, Int32.not_le.mp c_2, eq_false c_2, c_3, eq_false c_4]
            refine gx_sub hB (lv' := [(0, .ref h), (1, .int x), (2, .int y), (3, .int (nI (i + 1)))]) [1, 2, 3, 0] rfl ?_
            refine gx_all (ws' := wB K h t1 t2 t3 t4 c (bHandN C x y (i + 1))) (lv' := [(0, .ref h), (1, .int x), (2, .int y), (3, .int (nI (i + 1)))]) (by rw [← w0]) (rfl) ?_
            exact ih2 (i + 1) (by omega)
          · refine gx_aload_n (pc := 34) hB dX0_handOnPledges_34 0 rfl ?_
            refine gx_aload_n (pc := 35) hB dX0_handOnPledges_35 0 rfl ?_
            refine gx_get (pc := 36) hB dX0_handOnPledges_36 inX0 rfl 0 rfl 4 (by decide) tb_84 rfl rfl ?_
            refine gx_iload_n (pc := 39) hB dX0_handOnPledges_39 3 rfl ?_
            refine gx_iconst (pc := 40) hB dX0_handOnPledges_40 0 (by decide) ?_
            refine gx_dVi (pc := 41) (r := kAt (bHandN C x y i) (nI i) 0) (wr := [(h, .inr (0, [.ref c, .ref t1, .ref t2, .ref t3, .ref t4])), (t1, .inr (3, [.ref c, .int (nI 3), .int (nI 6), .int (nI 12)])), (t2, .inr (3, [.ref c, .int (nI 76), .int (nI 8), .int (nI 7)])), (t3, .inr (3, [.ref c, .int (nI 133), .int (nI 24), .int (nI 7)]))]) hB (c_X3_at l K t4 c 302 6 8 (bHandN C x y i) (nI i) 0 (by first | decide | (unfold tHb; decide))) mX3_at dX0_handOnPledges_41 tb_175 pX3_at ⟨Nat.le_of_ble_eq_true rfl, Nat.le_of_ble_eq_true rfl⟩ ⟨rfl, rfl⟩ ⟨Nat.zero_le _, Nat.zero_le _⟩ rfl (Nat.le_of_ble_eq_true rfl) [4, 5] [0, 1, 2, 3] rfl rfl (by decide) (by decide) (by decide) rfl rfl [0, 1, 2, 3, 4, 5] (by decide) (wB K h t1 t2 t3 t4 c (bHandN C x y i)) rfl ?_
            refine gx_iload_n (pc := 44) hB dX0_handOnPledges_44 1 rfl ?_
            refine gx_iload_n (pc := 45) hB dX0_handOnPledges_45 2 rfl ?_
            refine gx_dVi (pc := 46) (r := bI (bAgrees (bHandN C x y i) (kAt (bHandN C x y i) (nI i) 0) x y)) (wr := []) hB (c_X0_agreesTo l K h t1 t2 t3 t4 c (bHandN C x y i) (kAt (bHandN C x y i) (nI i) 0) x y ) mX0_agreesTo dX0_handOnPledges_46 tb_429 pX0_agreesTo ⟨Nat.le_of_ble_eq_true rfl, Nat.le_of_ble_eq_true rfl⟩ ⟨rfl, rfl⟩ ⟨Nat.zero_le _, Nat.zero_le _⟩ rfl (Nat.le_of_ble_eq_true rfl) [0, 1, 2, 3, 4, 5] [] rfl rfl (by decide) (by decide) (by decide) rfl rfl [0, 1, 2, 3, 4, 5] (by decide) (wB K h t1 t2 t3 t4 c (bHandN C x y i)) rfl ?_
            refine gx_if_eq_b (pc := 49) hB 65 dX0_handOnPledges_49 (by decide) (fun c_5 => ?_) (fun c_5 => ?_)
            · refine gx_aload_n (pc := 65) hB dX0_handOnPledges_65 0 rfl ?_
              refine gx_iload_n (pc := 66) hB dX0_handOnPledges_66 3 rfl ?_
              refine gx_dVv (pc := 67) (wr := []) hB (c_X0_haltPledge l K h t1 t2 t3 t4 c (bHandN C x y i) (nI i) ) mX0_haltPledge dX0_handOnPledges_67 tb_316 pX0_haltPledge ⟨Nat.le_of_ble_eq_true rfl, Nat.le_of_ble_eq_true rfl⟩ ⟨rfl, rfl⟩ ⟨Nat.zero_le _, Nat.zero_le _⟩ rfl (Nat.le_of_ble_eq_true rfl) [0, 1, 2, 3, 4, 5] [] rfl rfl (by decide) (by decide) (by decide) rfl rfl [0, 1, 2, 3, 4, 5] (by decide) (wB K h t1 t2 t3 t4 c (bHalt (bHandN C x y i) (nI i))) rfl ?_
              refine gx_iinc (pc := 70) hB dX0_handOnPledges_70 3 (by decide) rfl (nI (i + 1)) (nI_1 _) [(3, .int (nI (i + 1))), (0, .ref h), (1, .int x), (2, .int y)] rfl ?_
              refine gx_goto (pc := 73) hB 2 dX0_handOnPledges_73 (by decide) ?_
              have w0 : bHalt (bHandN C x y i) (nI i) = bHandN C x y (i + 1) := by simp [bHand, bHandN, Int32.not_le.mp c_2, eq_false c_2, c_3, eq_true c_4, c_5]
              refine gx_sub hB (lv' := [(0, .ref h), (1, .int x), (2, .int y), (3, .int (nI (i + 1)))]) [1, 2, 3, 0] rfl ?_
              refine gx_all (ws' := wB K h t1 t2 t3 t4 c (bHandN C x y (i + 1))) (lv' := [(0, .ref h), (1, .int x), (2, .int y), (3, .int (nI (i + 1)))]) (by rw [← w0]) (rfl) ?_
              exact ih2 (i + 1) (by omega)
            · refine gx_aload_n (pc := 52) hB dX0_handOnPledges_52 0 rfl ?_
              refine gx_get (pc := 53) hB dX0_handOnPledges_53 inX0 rfl 0 rfl 4 (by decide) tb_84 rfl rfl ?_
              refine gx_iload_n (pc := 56) hB dX0_handOnPledges_56 3 rfl ?_
              refine gx_iconst (pc := 57) hB dX0_handOnPledges_57 1 (by decide) ?_
              refine gx_iload_n (pc := 58) hB dX0_handOnPledges_58 2 rfl ?_
              refine gx_dVv (pc := 59) (wr := [(h, .inr (0, [.ref c, .ref t1, .ref t2, .ref t3, .ref t4])), (t1, .inr (3, [.ref c, .int (nI 3), .int (nI 6), .int (nI 12)])), (t2, .inr (3, [.ref c, .int (nI 76), .int (nI 8), .int (nI 7)])), (t3, .inr (3, [.ref c, .int (nI 133), .int (nI 24), .int (nI 7)]))]) hB (c_X3_put l K t4 c 302 6 8 (bHandN C x y i) (nI i) 1 y (by first | decide | (unfold tHb; decide))) mX3_put dX0_handOnPledges_59 tb_76 pX3_put ⟨Nat.le_of_ble_eq_true rfl, Nat.le_of_ble_eq_true rfl⟩ ⟨rfl, rfl⟩ ⟨Nat.zero_le _, Nat.zero_le _⟩ rfl (Nat.le_of_ble_eq_true rfl) [4, 5] [0, 1, 2, 3] rfl rfl (by decide) (by decide) (by decide) rfl rfl [0, 1, 2, 3, 4, 5] (by decide) (wB K h t1 t2 t3 t4 c (kPut (bHandN C x y i) (nI i) 1 y)) rfl ?_
              refine gx_goto (pc := 62) hB 70 dX0_handOnPledges_62 (by decide) ?_
              refine gx_iinc (pc := 70) hB dX0_handOnPledges_70 3 (by decide) rfl (nI (i + 1)) (nI_1 _) [(3, .int (nI (i + 1))), (0, .ref h), (1, .int x), (2, .int y)] rfl ?_
              refine gx_goto (pc := 73) hB 2 dX0_handOnPledges_73 (by decide) ?_
              have w0 : kPut (bHandN C x y i) (nI i) 1 y = bHandN C x y (i + 1) := by simp [bHand, bHandN, Int32.not_le.mp c_2, eq_false c_2, c_3, eq_true c_4, c_5]
              refine gx_sub hB (lv' := [(0, .ref h), (1, .int x), (2, .int y), (3, .int (nI (i + 1)))]) [1, 2, 3, 0] rfl ?_
              refine gx_all (ws' := wB K h t1 t2 t3 t4 c (bHandN C x y (i + 1))) (lv' := [(0, .ref h), (1, .int x), (2, .int y), (3, .int (nI (i + 1)))]) (by rw [← w0]) (rfl) ?_
              exact ih2 (i + 1) (by omega)
  refine gx_sub hB (lv' := [(0, .ref h), (1, .int x), (2, .int y), (3, .int 0)]) [1, 2, 3, 0] rfl ?_
  refine gx_all (ws' := wB K h t1 t2 t3 t4 c (bHandN C x y 0)) (lv' := [(0, .ref h), (1, .int x), (2, .int y), (3, .int (nI 0))]) (rfl) (rfl) ?_
  exact loop_2 ((C 302).toNatClampNeg) 0 (by omega)
theorem pX0_forgetConsents : (parseMethodDescriptor yX0_forgetConsents.desc).map (fun d => d.parameters.length) = some 1 := by decide +kernel
theorem mX0_forgetConsents : gx_M yX0_forgetConsents cX0_forgetConsents 3 none := ⟨tb_439, tb_19, tb_28, tb_440, by decide, by decide⟩
set_option maxHeartbeats 4000000 in
set_option maxRecDepth 100000 in
theorem c_X0_forgetConsents (l : Launch) (K : gx_K) (h t1 t2 t3 t4 c : Nat) (C : Nat → Int32) (x : Int32)  : gx_Ctr l K yX0_forgetConsents cX0_forgetConsents 3 none (rmm 2 23) [.ref h, .int x] (wB K h t1 t2 t3 t4 c C) (gx_D none (wB K h t1 t2 t3 t4 c (bForget C x))) := by
  refine gx_of (by decide) (Nat.le_of_ble_eq_true rfl) (fun G hC => ?_)
  have hB := hC.b
  refine gx_lv (lv' := [(0, .ref h), (1, .int x)]) rfl ?_
  refine gx_iconst (pc := 0) hB dX0_forgetConsents_0 0 (by decide) ?_
  refine gx_istore_n (pc := 1) hB dX0_forgetConsents_1 (by decide) [(2, .int 0), (0, .ref h), (1, .int x)] rfl ?_
  have loop_2 : ∀ dq i : Nat, i + dq = (C 76).toNatClampNeg → G 0 0 (wB K h t1 t2 t3 t4 c (bForgetN C x i)) [(0, .ref h), (1, .int x), (2, .int (nI i))] 2 [] := by
    intro dq
    induction dq with
    | zero =>
      intro i hi2
      obtain rfl : (C 76).toNatClampNeg = i := by omega
      refine gx_iload_n (pc := 2) hB dX0_forgetConsents_2 2 rfl ?_
      refine gx_aload_n (pc := 3) hB dX0_forgetConsents_3 0 rfl ?_
      refine gx_get (pc := 4) hB dX0_forgetConsents_4 inX0 rfl 0 rfl 2 (by decide) tb_82 rfl rfl ?_
      refine gx_dVi (pc := 7) (r := (bForgetN C x ((C 76).toNatClampNeg)) 76) (wr := [(h, .inr (0, [.ref c, .ref t1, .ref t2, .ref t3, .ref t4])), (t1, .inr (3, [.ref c, .int (nI 3), .int (nI 6), .int (nI 12)])), (t3, .inr (3, [.ref c, .int (nI 133), .int (nI 24), .int (nI 7)])), (t4, .inr (3, [.ref c, .int (nI 302), .int (nI 6), .int (nI 8)]))]) hB (c_X3_size l K t2 c 76 8 7 (bForgetN C x ((C 76).toNatClampNeg)) (by first | decide | (unfold tHb; decide))) mX3_size dX0_forgetConsents_7 tb_195 pX3_size ⟨Nat.le_of_ble_eq_true rfl, Nat.le_of_ble_eq_true rfl⟩ ⟨rfl, rfl⟩ ⟨Nat.zero_le _, Nat.zero_le _⟩ rfl (Nat.le_of_ble_eq_true rfl) [2, 5] [0, 1, 3, 4] rfl rfl (by decide) (by decide) (by decide) rfl rfl [0, 1, 4, 2, 3, 5] (by decide) (wB K h t1 t2 t3 t4 c (bForgetN C x ((C 76).toNatClampNeg))) rfl ?_
      refine gx_top (show (bForgetN C x ((C 76).toNatClampNeg)) 76 = C 76 from bForgetN_76 _ _ _) ?_
      refine gx_icmp_ge (pc := 10) hB 31 dX0_forgetConsents_10 (by decide) (fun c_1 => ?_) (fun c_1 => ?_)
      · have f0 : bForget C x = (bForgetN C x ((C 76).toNatClampNeg)) := by simp [bForget, c_1, eq_false (Int32.not_lt.mpr c_1)]
        exact gx_vret (pc := 31) hC dX0_forgetConsents_31 (Nat.zero_le _) (Nat.zero_le _) (⟨rfl, by rw [f0]⟩)
      · exact absurd (lpT (x := (C 76)) hi2) c_1
    | succ dq ih2 =>
      intro i hi2
      refine gx_iload_n (pc := 2) hB dX0_forgetConsents_2 2 rfl ?_
      refine gx_aload_n (pc := 3) hB dX0_forgetConsents_3 0 rfl ?_
      refine gx_get (pc := 4) hB dX0_forgetConsents_4 inX0 rfl 0 rfl 2 (by decide) tb_82 rfl rfl ?_
      refine gx_dVi (pc := 7) (r := (bForgetN C x i) 76) (wr := [(h, .inr (0, [.ref c, .ref t1, .ref t2, .ref t3, .ref t4])), (t1, .inr (3, [.ref c, .int (nI 3), .int (nI 6), .int (nI 12)])), (t3, .inr (3, [.ref c, .int (nI 133), .int (nI 24), .int (nI 7)])), (t4, .inr (3, [.ref c, .int (nI 302), .int (nI 6), .int (nI 8)]))]) hB (c_X3_size l K t2 c 76 8 7 (bForgetN C x i) (by first | decide | (unfold tHb; decide))) mX3_size dX0_forgetConsents_7 tb_195 pX3_size ⟨Nat.le_of_ble_eq_true rfl, Nat.le_of_ble_eq_true rfl⟩ ⟨rfl, rfl⟩ ⟨Nat.zero_le _, Nat.zero_le _⟩ rfl (Nat.le_of_ble_eq_true rfl) [2, 5] [0, 1, 3, 4] rfl rfl (by decide) (by decide) (by decide) rfl rfl [0, 1, 4, 2, 3, 5] (by decide) (wB K h t1 t2 t3 t4 c (bForgetN C x i)) rfl ?_
      refine gx_top (show (bForgetN C x i) 76 = C 76 from bForgetN_76 _ _ _) ?_
      refine gx_icmp_ge (pc := 10) hB 31 dX0_forgetConsents_10 (by decide) (fun c_2 => ?_) (fun c_2 => ?_)
      · exact absurd c_2 (lpF (x := (C 76)) hi2)
      · refine gx_aload_n (pc := 13) hB dX0_forgetConsents_13 0 rfl ?_
        refine gx_get (pc := 14) hB dX0_forgetConsents_14 inX0 rfl 0 rfl 2 (by decide) tb_82 rfl rfl ?_
        refine gx_iload_n (pc := 17) hB dX0_forgetConsents_17 2 rfl ?_
        refine gx_iconst (pc := 18) hB dX0_forgetConsents_18 1 (by decide) ?_
        refine gx_iload_n (pc := 19) hB dX0_forgetConsents_19 1 rfl ?_
        refine gx_iadd (pc := 20) hB dX0_forgetConsents_20 ?_
        refine gx_iconst (pc := 21) hB dX0_forgetConsents_21 (-1) (by decide) ?_
        refine gx_dVv (pc := 22) (wr := [(h, .inr (0, [.ref c, .ref t1, .ref t2, .ref t3, .ref t4])), (t1, .inr (3, [.ref c, .int (nI 3), .int (nI 6), .int (nI 12)])), (t3, .inr (3, [.ref c, .int (nI 133), .int (nI 24), .int (nI 7)])), (t4, .inr (3, [.ref c, .int (nI 302), .int (nI 6), .int (nI 8)]))]) hB (c_X3_put l K t2 c 76 8 7 (bForgetN C x i) (nI i) (1 + x) (-1) (by first | decide | (unfold tHb; decide))) mX3_put dX0_forgetConsents_22 tb_76 pX3_put ⟨Nat.le_of_ble_eq_true rfl, Nat.le_of_ble_eq_true rfl⟩ ⟨rfl, rfl⟩ ⟨Nat.zero_le _, Nat.zero_le _⟩ rfl (Nat.le_of_ble_eq_true rfl) [2, 5] [0, 1, 3, 4] rfl rfl (by decide) (by decide) (by decide) rfl rfl [0, 1, 4, 2, 3, 5] (by decide) (wB K h t1 t2 t3 t4 c (dPut (bForgetN C x i) (nI i) (1 + x) (-1))) rfl ?_
        refine gx_iinc (pc := 25) hB dX0_forgetConsents_25 2 (by decide) rfl (nI (i + 1)) (nI_1 _) [(2, .int (nI (i + 1))), (0, .ref h), (1, .int x)] rfl ?_
        refine gx_goto (pc := 28) hB 2 dX0_forgetConsents_28 (by decide) ?_
        have w0 : dPut (bForgetN C x i) (nI i) (1 + x) (-1) = bForgetN C x (i + 1) := by simp [bForget, bForgetN, Int32.not_le.mp c_2, eq_false c_2]
        refine gx_sub hB (lv' := [(0, .ref h), (1, .int x), (2, .int (nI (i + 1)))]) [1, 2, 0] rfl ?_
        refine gx_all (ws' := wB K h t1 t2 t3 t4 c (bForgetN C x (i + 1))) (lv' := [(0, .ref h), (1, .int x), (2, .int (nI (i + 1)))]) (by rw [← w0]) (rfl) ?_
        exact ih2 (i + 1) (by omega)
  refine gx_sub hB (lv' := [(0, .ref h), (1, .int x), (2, .int 0)]) [1, 2, 0] rfl ?_
  refine gx_all (ws' := wB K h t1 t2 t3 t4 c (bForgetN C x 0)) (lv' := [(0, .ref h), (1, .int x), (2, .int (nI 0))]) (rfl) (rfl) ?_
  exact loop_2 ((C 76).toNatClampNeg) 0 (by omega)
theorem pX0_closePurpose : (parseMethodDescriptor yX0_closePurpose.desc).map (fun d => d.parameters.length) = some 2 := by decide +kernel
theorem mX0_closePurpose : gx_M yX0_closePurpose cX0_closePurpose 4 none := ⟨tb_443, tb_20, tb_28, tb_444, by decide, by decide⟩
set_option maxHeartbeats 4000000 in
set_option maxRecDepth 100000 in
theorem c_X0_closePurpose (l : Launch) (K : gx_K) (h t1 t2 t3 t4 c : Nat) (C : Nat → Int32) (x y : Int32)  : gx_Ctr l K yX0_closePurpose cX0_closePurpose 4 none (rmm 2 23) [.ref h, .int x, .int y] (wB K h t1 t2 t3 t4 c C) (gx_D none (wB K h t1 t2 t3 t4 c (bClose C x y))) := by
  refine gx_of (by decide) (Nat.le_of_ble_eq_true rfl) (fun G hC => ?_)
  have hB := hC.b
  refine gx_lv (lv' := [(0, .ref h), (1, .int x), (2, .int y)]) rfl ?_
  refine gx_aload_n (pc := 0) hB dX0_closePurpose_0 0 rfl ?_
  refine gx_get (pc := 1) hB dX0_closePurpose_1 inX0 rfl 0 rfl 1 (by decide) tb_81 rfl rfl ?_
  refine gx_iload_n (pc := 4) hB dX0_closePurpose_4 1 rfl ?_
  refine gx_bipush (pc := 5) hB dX0_closePurpose_5 9 (by decide) ?_
  refine gx_iload_n (pc := 7) hB dX0_closePurpose_7 2 rfl ?_
  refine gx_dVv (pc := 8) (wr := [(h, .inr (0, [.ref c, .ref t1, .ref t2, .ref t3, .ref t4])), (t2, .inr (3, [.ref c, .int (nI 76), .int (nI 8), .int (nI 7)])), (t3, .inr (3, [.ref c, .int (nI 133), .int (nI 24), .int (nI 7)])), (t4, .inr (3, [.ref c, .int (nI 302), .int (nI 6), .int (nI 8)]))]) hB (c_X3_put l K t1 c 3 6 12 C x 9 y (by first | decide | (unfold tHb; decide))) mX3_put dX0_closePurpose_8 tb_76 pX3_put ⟨Nat.le_of_ble_eq_true rfl, Nat.le_of_ble_eq_true rfl⟩ ⟨rfl, rfl⟩ ⟨Nat.zero_le _, Nat.zero_le _⟩ rfl (Nat.le_of_ble_eq_true rfl) [1, 5] [0, 2, 3, 4] rfl rfl (by decide) (by decide) (by decide) rfl rfl [0, 4, 1, 2, 3, 5] (by decide) (wB K h t1 t2 t3 t4 c (pPut C x 9 y)) rfl ?_
  refine gx_iconst (pc := 11) hB dX0_closePurpose_11 0 (by decide) ?_
  refine gx_istore_n (pc := 12) hB dX0_closePurpose_12 (by decide) [(3, .int 0), (0, .ref h), (1, .int x), (2, .int y)] rfl ?_
  have loop_13 : ∀ dq i : Nat, i + dq = (C 3).toNatClampNeg → G 0 0 (wB K h t1 t2 t3 t4 c (bCloseN (pPut C x 9 y) x y i)) [(0, .ref h), (1, .int x), (2, .int y), (3, .int (nI i))] 13 [] := by
    intro dq
    induction dq with
    | zero =>
      intro i hi13
      obtain rfl : (C 3).toNatClampNeg = i := by omega
      refine gx_iload_n (pc := 13) hB dX0_closePurpose_13 3 rfl ?_
      refine gx_aload_n (pc := 14) hB dX0_closePurpose_14 0 rfl ?_
      refine gx_get (pc := 15) hB dX0_closePurpose_15 inX0 rfl 0 rfl 1 (by decide) tb_81 rfl rfl ?_
      refine gx_dVi (pc := 18) (r := (bCloseN (pPut C x 9 y) x y ((C 3).toNatClampNeg)) 3) (wr := [(h, .inr (0, [.ref c, .ref t1, .ref t2, .ref t3, .ref t4])), (t2, .inr (3, [.ref c, .int (nI 76), .int (nI 8), .int (nI 7)])), (t3, .inr (3, [.ref c, .int (nI 133), .int (nI 24), .int (nI 7)])), (t4, .inr (3, [.ref c, .int (nI 302), .int (nI 6), .int (nI 8)]))]) hB (c_X3_size l K t1 c 3 6 12 (bCloseN (pPut C x 9 y) x y ((C 3).toNatClampNeg)) (by first | decide | (unfold tHb; decide))) mX3_size dX0_closePurpose_18 tb_195 pX3_size ⟨Nat.le_of_ble_eq_true rfl, Nat.le_of_ble_eq_true rfl⟩ ⟨rfl, rfl⟩ ⟨Nat.zero_le _, Nat.zero_le _⟩ rfl (Nat.le_of_ble_eq_true rfl) [1, 5] [0, 2, 3, 4] rfl rfl (by decide) (by decide) (by decide) rfl rfl [0, 4, 1, 2, 3, 5] (by decide) (wB K h t1 t2 t3 t4 c (bCloseN (pPut C x 9 y) x y ((C 3).toNatClampNeg))) rfl ?_
      refine gx_top (show (bCloseN (pPut C x 9 y) x y ((C 3).toNatClampNeg)) 3 = C 3 from (bCloseN_3 _ _ _ _).trans (pPut_out (by decide))) ?_
      refine gx_icmp_ge (pc := 21) hB 55 dX0_closePurpose_21 (by decide) (fun c_1 => ?_) (fun c_1 => ?_)
      · have f0 : bClose C x y = (bCloseN (pPut C x 9 y) x y ((C 3).toNatClampNeg)) := by simp [bClose, c_1, eq_false (Int32.not_lt.mpr c_1)]
        exact gx_vret (pc := 55) hC dX0_closePurpose_55 (Nat.zero_le _) (Nat.zero_le _) (⟨rfl, by rw [f0]⟩)
      · exact absurd (lpT (x := (C 3)) hi13) c_1
    | succ dq ih13 =>
      intro i hi13
      refine gx_iload_n (pc := 13) hB dX0_closePurpose_13 3 rfl ?_
      refine gx_aload_n (pc := 14) hB dX0_closePurpose_14 0 rfl ?_
      refine gx_get (pc := 15) hB dX0_closePurpose_15 inX0 rfl 0 rfl 1 (by decide) tb_81 rfl rfl ?_
      refine gx_dVi (pc := 18) (r := (bCloseN (pPut C x 9 y) x y i) 3) (wr := [(h, .inr (0, [.ref c, .ref t1, .ref t2, .ref t3, .ref t4])), (t2, .inr (3, [.ref c, .int (nI 76), .int (nI 8), .int (nI 7)])), (t3, .inr (3, [.ref c, .int (nI 133), .int (nI 24), .int (nI 7)])), (t4, .inr (3, [.ref c, .int (nI 302), .int (nI 6), .int (nI 8)]))]) hB (c_X3_size l K t1 c 3 6 12 (bCloseN (pPut C x 9 y) x y i) (by first | decide | (unfold tHb; decide))) mX3_size dX0_closePurpose_18 tb_195 pX3_size ⟨Nat.le_of_ble_eq_true rfl, Nat.le_of_ble_eq_true rfl⟩ ⟨rfl, rfl⟩ ⟨Nat.zero_le _, Nat.zero_le _⟩ rfl (Nat.le_of_ble_eq_true rfl) [1, 5] [0, 2, 3, 4] rfl rfl (by decide) (by decide) (by decide) rfl rfl [0, 4, 1, 2, 3, 5] (by decide) (wB K h t1 t2 t3 t4 c (bCloseN (pPut C x 9 y) x y i)) rfl ?_
      refine gx_top (show (bCloseN (pPut C x 9 y) x y i) 3 = C 3 from (bCloseN_3 _ _ _ _).trans (pPut_out (by decide))) ?_
      refine gx_icmp_ge (pc := 21) hB 55 dX0_closePurpose_21 (by decide) (fun c_2 => ?_) (fun c_2 => ?_)
      · exact absurd c_2 (lpF (x := (C 3)) hi13)
      · refine gx_aload_n (pc := 24) hB dX0_closePurpose_24 0 rfl ?_
        refine gx_get (pc := 25) hB dX0_closePurpose_25 inX0 rfl 0 rfl 1 (by decide) tb_81 rfl rfl ?_
        refine gx_iload_n (pc := 28) hB dX0_closePurpose_28 3 rfl ?_
        refine gx_bipush (pc := 29) hB dX0_closePurpose_29 10 (by decide) ?_
        refine gx_dVi (pc := 31) (r := pAt (bCloseN (pPut C x 9 y) x y i) (nI i) 10) (wr := [(h, .inr (0, [.ref c, .ref t1, .ref t2, .ref t3, .ref t4])), (t2, .inr (3, [.ref c, .int (nI 76), .int (nI 8), .int (nI 7)])), (t3, .inr (3, [.ref c, .int (nI 133), .int (nI 24), .int (nI 7)])), (t4, .inr (3, [.ref c, .int (nI 302), .int (nI 6), .int (nI 8)]))]) hB (c_X3_at l K t1 c 3 6 12 (bCloseN (pPut C x 9 y) x y i) (nI i) 10 (by first | decide | (unfold tHb; decide))) mX3_at dX0_closePurpose_31 tb_175 pX3_at ⟨Nat.le_of_ble_eq_true rfl, Nat.le_of_ble_eq_true rfl⟩ ⟨rfl, rfl⟩ ⟨Nat.zero_le _, Nat.zero_le _⟩ rfl (Nat.le_of_ble_eq_true rfl) [1, 5] [0, 2, 3, 4] rfl rfl (by decide) (by decide) (by decide) rfl rfl [0, 4, 1, 2, 3, 5] (by decide) (wB K h t1 t2 t3 t4 c (bCloseN (pPut C x 9 y) x y i)) rfl ?_
        refine gx_iload_n (pc := 34) hB dX0_closePurpose_34 1 rfl ?_
        refine gx_icmp_ne (pc := 35) hB 49 dX0_closePurpose_35 (by decide) (fun c_3 => ?_) (fun c_3 => ?_)
        · refine gx_iinc (pc := 49) hB dX0_closePurpose_49 3 (by decide) rfl (nI (i + 1)) (nI_1 _) [(3, .int (nI (i + 1))), (0, .ref h), (1, .int x), (2, .int y)] rfl ?_
          refine gx_goto (pc := 52) hB 13 dX0_closePurpose_52 (by decide) ?_
          have w0 : bCloseN (pPut C x 9 y) x y i = bCloseN (pPut C x 9 y) x y (i + 1) := by simp [bClose, bCloseN, Int32.not_le.mp c_2, eq_false c_2, eq_false c_3]
          refine gx_sub hB (lv' := [(0, .ref h), (1, .int x), (2, .int y), (3, .int (nI (i + 1)))]) [1, 2, 3, 0] rfl ?_
          refine gx_all (ws' := wB K h t1 t2 t3 t4 c (bCloseN (pPut C x 9 y) x y (i + 1))) (lv' := [(0, .ref h), (1, .int x), (2, .int y), (3, .int (nI (i + 1)))]) (by rw [← w0]) (rfl) ?_
          exact ih13 (i + 1) (by omega)
        · refine gx_aload_n (pc := 38) hB dX0_closePurpose_38 0 rfl ?_
          refine gx_get (pc := 39) hB dX0_closePurpose_39 inX0 rfl 0 rfl 1 (by decide) tb_81 rfl rfl ?_
          refine gx_iload_n (pc := 42) hB dX0_closePurpose_42 3 rfl ?_
          refine gx_bipush (pc := 43) hB dX0_closePurpose_43 10 (by decide) ?_
          refine gx_iload_n (pc := 45) hB dX0_closePurpose_45 2 rfl ?_
          refine gx_dVv (pc := 46) (wr := [(h, .inr (0, [.ref c, .ref t1, .ref t2, .ref t3, .ref t4])), (t2, .inr (3, [.ref c, .int (nI 76), .int (nI 8), .int (nI 7)])), (t3, .inr (3, [.ref c, .int (nI 133), .int (nI 24), .int (nI 7)])), (t4, .inr (3, [.ref c, .int (nI 302), .int (nI 6), .int (nI 8)]))]) hB (c_X3_put l K t1 c 3 6 12 (bCloseN (pPut C x 9 y) x y i) (nI i) 10 y (by first | decide | (unfold tHb; decide))) mX3_put dX0_closePurpose_46 tb_76 pX3_put ⟨Nat.le_of_ble_eq_true rfl, Nat.le_of_ble_eq_true rfl⟩ ⟨rfl, rfl⟩ ⟨Nat.zero_le _, Nat.zero_le _⟩ rfl (Nat.le_of_ble_eq_true rfl) [1, 5] [0, 2, 3, 4] rfl rfl (by decide) (by decide) (by decide) rfl rfl [0, 4, 1, 2, 3, 5] (by decide) (wB K h t1 t2 t3 t4 c (pPut (bCloseN (pPut C x 9 y) x y i) (nI i) 10 y)) rfl ?_
          refine gx_iinc (pc := 49) hB dX0_closePurpose_49 3 (by decide) rfl (nI (i + 1)) (nI_1 _) [(3, .int (nI (i + 1))), (0, .ref h), (1, .int x), (2, .int y)] rfl ?_
          refine gx_goto (pc := 52) hB 13 dX0_closePurpose_52 (by decide) ?_
          have w0 : pPut (bCloseN (pPut C x 9 y) x y i) (nI i) 10 y = bCloseN (pPut C x 9 y) x y (i + 1) := by simp [bClose, bCloseN, Int32.not_le.mp c_2, eq_false c_2, eq_true c_3]
          refine gx_sub hB (lv' := [(0, .ref h), (1, .int x), (2, .int y), (3, .int (nI (i + 1)))]) [1, 2, 3, 0] rfl ?_
          refine gx_all (ws' := wB K h t1 t2 t3 t4 c (bCloseN (pPut C x 9 y) x y (i + 1))) (lv' := [(0, .ref h), (1, .int x), (2, .int y), (3, .int (nI (i + 1)))]) (by rw [← w0]) (rfl) ?_
          exact ih13 (i + 1) (by omega)
  refine gx_sub hB (lv' := [(0, .ref h), (1, .int x), (2, .int y), (3, .int 0)]) [1, 2, 3, 0] rfl ?_
  refine gx_all (ws' := wB K h t1 t2 t3 t4 c (bCloseN (pPut C x 9 y) x y 0)) (lv' := [(0, .ref h), (1, .int x), (2, .int y), (3, .int (nI 0))]) (rfl) (rfl) ?_
  exact loop_13 ((C 3).toNatClampNeg) 0 (by omega)
theorem pX0_moveFund : (parseMethodDescriptor yX0_moveFund.desc).map (fun d => d.parameters.length) = some 2 := by decide +kernel
theorem mX0_moveFund : gx_M yX0_moveFund cX0_moveFund 4 (some .int) := ⟨tb_447, tb_21, tb_28, tb_448, by decide, by decide⟩
set_option maxHeartbeats 4000000 in
set_option maxRecDepth 100000 in
theorem c_X0_moveFund (l : Launch) (K : gx_K) (h t1 t2 t3 t4 c : Nat) (C : Nat → Int32) (x y : Int32)  : gx_Ctr l K yX0_moveFund cX0_moveFund 4 (some .int) (rmm 3 43) [.ref h, .int x, .int y] (wB K h t1 t2 t3 t4 c C) (gx_D (some (.int ((bMove C x y).1))) (wB K h t1 t2 t3 t4 c ((bMove C x y).2))) := by
  refine gx_of (by decide) (Nat.le_of_ble_eq_true rfl) (fun G hC => ?_)
  have hB := hC.b
  refine gx_lv (lv' := [(0, .ref h), (1, .int x), (2, .int y)]) rfl ?_
  refine gx_aload_n (pc := 0) hB dX0_moveFund_0 0 rfl ?_
  refine gx_iload_n (pc := 1) hB dX0_moveFund_1 1 rfl ?_
  refine gx_dVi (pc := 2) (r := bFund C x) (wr := []) hB (c_X0_fundOf l K h t1 t2 t3 t4 c C x ) mX0_fundOf dX0_moveFund_2 tb_373 pX0_fundOf ⟨Nat.le_of_ble_eq_true rfl, Nat.le_of_ble_eq_true rfl⟩ ⟨rfl, rfl⟩ ⟨Nat.zero_le _, Nat.zero_le _⟩ rfl (Nat.le_of_ble_eq_true rfl) [0, 1, 2, 3, 4, 5] [] rfl rfl (by decide) (by decide) (by decide) rfl rfl [0, 1, 2, 3, 4, 5] (by decide) (wB K h t1 t2 t3 t4 c C) rfl ?_
  refine gx_istore_n (pc := 5) hB dX0_moveFund_5 (by decide) [(3, .int (bFund C x)), (0, .ref h), (1, .int x), (2, .int y)] rfl ?_
  refine gx_aload_n (pc := 6) hB dX0_moveFund_6 1 rfl ?_
  refine gx_get (pc := 7) hB dX0_moveFund_7 inX0 rfl 0 rfl 1 (by decide) tb_81 rfl rfl ?_
  refine gx_iload_n (pc := 10) hB dX0_moveFund_10 2 rfl ?_
  refine gx_iconst (pc := 11) hB dX0_moveFund_11 0 (by decide) ?_
  refine gx_iconst (pc := 12) hB dX0_moveFund_12 0 (by decide) ?_
  refine gx_dVv (pc := 13) (wr := [(h, .inr (0, [.ref c, .ref t1, .ref t2, .ref t3, .ref t4])), (t2, .inr (3, [.ref c, .int (nI 76), .int (nI 8), .int (nI 7)])), (t3, .inr (3, [.ref c, .int (nI 133), .int (nI 24), .int (nI 7)])), (t4, .inr (3, [.ref c, .int (nI 302), .int (nI 6), .int (nI 8)]))]) hB (c_X3_put l K t1 c 3 6 12 C x 0 0 (by first | decide | (unfold tHb; decide))) mX3_put dX0_moveFund_13 tb_76 pX3_put ⟨Nat.le_of_ble_eq_true rfl, Nat.le_of_ble_eq_true rfl⟩ ⟨rfl, rfl⟩ ⟨Nat.zero_le _, Nat.zero_le _⟩ rfl (Nat.le_of_ble_eq_true rfl) [1, 5] [0, 2, 3, 4] rfl rfl (by decide) (by decide) (by decide) rfl rfl [0, 4, 1, 2, 3, 5] (by decide) (wB K h t1 t2 t3 t4 c (pPut C x 0 0)) rfl ?_
  refine gx_aload_n (pc := 16) hB dX0_moveFund_16 1 rfl ?_
  refine gx_get (pc := 17) hB dX0_moveFund_17 inX0 rfl 0 rfl 1 (by decide) tb_81 rfl rfl ?_
  refine gx_iload_n (pc := 20) hB dX0_moveFund_20 2 rfl ?_
  refine gx_bipush (pc := 21) hB dX0_moveFund_21 8 (by decide) ?_
  refine gx_iload_n (pc := 23) hB dX0_moveFund_23 0 rfl ?_
  refine gx_dVv (pc := 24) (wr := [(h, .inr (0, [.ref c, .ref t1, .ref t2, .ref t3, .ref t4])), (t2, .inr (3, [.ref c, .int (nI 76), .int (nI 8), .int (nI 7)])), (t3, .inr (3, [.ref c, .int (nI 133), .int (nI 24), .int (nI 7)])), (t4, .inr (3, [.ref c, .int (nI 302), .int (nI 6), .int (nI 8)]))]) hB (c_X3_add l K t1 c 3 6 12 (pPut C x 0 0) x 8 (bFund C x) (by first | decide | (unfold tHb; decide))) mX3_add dX0_moveFund_24 tb_278 pX3_add ⟨Nat.le_of_ble_eq_true rfl, Nat.le_of_ble_eq_true rfl⟩ ⟨rfl, rfl⟩ ⟨Nat.zero_le _, Nat.zero_le _⟩ rfl (Nat.le_of_ble_eq_true rfl) [1, 5] [0, 2, 3, 4] rfl rfl (by decide) (by decide) (by decide) rfl rfl [0, 4, 1, 2, 3, 5] (by decide) (wB K h t1 t2 t3 t4 c (pAdd (pPut C x 0 0) x 8 (bFund C x))) rfl ?_
  refine gx_aload_n (pc := 27) hB dX0_moveFund_27 1 rfl ?_
  refine gx_get (pc := 28) hB dX0_moveFund_28 inX0 rfl 0 rfl 1 (by decide) tb_81 rfl rfl ?_
  refine gx_iload_n (pc := 31) hB dX0_moveFund_31 3 rfl ?_
  refine gx_iconst (pc := 32) hB dX0_moveFund_32 0 (by decide) ?_
  refine gx_iload_n (pc := 33) hB dX0_moveFund_33 0 rfl ?_
  refine gx_dVv (pc := 34) (wr := [(h, .inr (0, [.ref c, .ref t1, .ref t2, .ref t3, .ref t4])), (t2, .inr (3, [.ref c, .int (nI 76), .int (nI 8), .int (nI 7)])), (t3, .inr (3, [.ref c, .int (nI 133), .int (nI 24), .int (nI 7)])), (t4, .inr (3, [.ref c, .int (nI 302), .int (nI 6), .int (nI 8)]))]) hB (c_X3_add l K t1 c 3 6 12 (pAdd (pPut C x 0 0) x 8 (bFund C x)) y 0 (bFund C x) (by first | decide | (unfold tHb; decide))) mX3_add dX0_moveFund_34 tb_278 pX3_add ⟨Nat.le_of_ble_eq_true rfl, Nat.le_of_ble_eq_true rfl⟩ ⟨rfl, rfl⟩ ⟨Nat.zero_le _, Nat.zero_le _⟩ rfl (Nat.le_of_ble_eq_true rfl) [1, 5] [0, 2, 3, 4] rfl rfl (by decide) (by decide) (by decide) rfl rfl [0, 4, 1, 2, 3, 5] (by decide) (wB K h t1 t2 t3 t4 c (pAdd (pAdd (pPut C x 0 0) x 8 (bFund C x)) y 0 (bFund C x))) rfl ?_
  refine gx_aload_n (pc := 37) hB dX0_moveFund_37 1 rfl ?_
  refine gx_get (pc := 38) hB dX0_moveFund_38 inX0 rfl 0 rfl 1 (by decide) tb_81 rfl rfl ?_
  refine gx_iload_n (pc := 41) hB dX0_moveFund_41 3 rfl ?_
  refine gx_bipush (pc := 42) hB dX0_moveFund_42 7 (by decide) ?_
  refine gx_iload_n (pc := 44) hB dX0_moveFund_44 0 rfl ?_
  refine gx_dVv (pc := 45) (wr := [(h, .inr (0, [.ref c, .ref t1, .ref t2, .ref t3, .ref t4])), (t2, .inr (3, [.ref c, .int (nI 76), .int (nI 8), .int (nI 7)])), (t3, .inr (3, [.ref c, .int (nI 133), .int (nI 24), .int (nI 7)])), (t4, .inr (3, [.ref c, .int (nI 302), .int (nI 6), .int (nI 8)]))]) hB (c_X3_add l K t1 c 3 6 12 (pAdd (pAdd (pPut C x 0 0) x 8 (bFund C x)) y 0 (bFund C x)) y 7 (bFund C x) (by first | decide | (unfold tHb; decide))) mX3_add dX0_moveFund_45 tb_278 pX3_add ⟨Nat.le_of_ble_eq_true rfl, Nat.le_of_ble_eq_true rfl⟩ ⟨rfl, rfl⟩ ⟨Nat.zero_le _, Nat.zero_le _⟩ rfl (Nat.le_of_ble_eq_true rfl) [1, 5] [0, 2, 3, 4] rfl rfl (by decide) (by decide) (by decide) rfl rfl [0, 4, 1, 2, 3, 5] (by decide) (wB K h t1 t2 t3 t4 c (pAdd (pAdd (pAdd (pPut C x 0 0) x 8 (bFund C x)) y 0 (bFund C x)) y 7 (bFund C x))) rfl ?_
  refine gx_iload_n (pc := 48) hB dX0_moveFund_48 0 rfl ?_
  have e1 : ((bMove C x y).1) = bFund C x := by simp [bMove]
  have f0 : ((bMove C x y).2) = (pAdd (pAdd (pAdd (pPut C x 0 0) x 8 (bFund C x)) y 0 (bFund C x)) y 7 (bFund C x)) := by simp [bMove]
  exact gx_iret (pc := 49) hC dX0_moveFund_49 (Nat.zero_le _) (Nat.zero_le _) (⟨by rw [e1], by rw [f0]⟩)
theorem pX0_mergePurpose : (parseMethodDescriptor yX0_mergePurpose.desc).map (fun d => d.parameters.length) = some 2 := by decide +kernel
theorem mX0_mergePurpose : gx_M yX0_mergePurpose cX0_mergePurpose 5 (some .int) := ⟨tb_418, tb_419, tb_28, tb_420, by decide, by decide⟩
set_option maxHeartbeats 4000000 in
set_option maxRecDepth 100000 in
theorem c_X0_mergePurpose (l : Launch) (K : gx_K) (h t1 t2 t3 t4 c : Nat) (C : Nat → Int32) (x y : Int32)  : gx_Ctr l K yX0_mergePurpose cX0_mergePurpose 5 (some .int) (rmm 4 69) [.ref h, .int x, .int y] (wB K h t1 t2 t3 t4 c C) (gx_D (some (.int ((bMerge C x y).1))) (wB K h t1 t2 t3 t4 c ((bMerge C x y).2))) := by
  refine gx_of (by decide) (Nat.le_of_ble_eq_true rfl) (fun G hC => ?_)
  have hB := hC.b
  refine gx_lv (lv' := [(0, .ref h), (1, .int x), (2, .int y)]) rfl ?_
  refine gx_aload_n (pc := 0) hB dX0_mergePurpose_0 0 rfl ?_
  refine gx_iload_n (pc := 1) hB dX0_mergePurpose_1 1 rfl ?_
  refine gx_iload_n (pc := 2) hB dX0_mergePurpose_2 2 rfl ?_
  refine gx_dVi (pc := 3) (r := bI (bTwo C x y)) (wr := []) hB (c_X0_areTwoPurposes l K h t1 t2 t3 t4 c C x y ) mX0_areTwoPurposes dX0_mergePurpose_3 tb_388 pX0_areTwoPurposes ⟨Nat.le_of_ble_eq_true rfl, Nat.le_of_ble_eq_true rfl⟩ ⟨rfl, rfl⟩ ⟨Nat.zero_le _, Nat.zero_le _⟩ rfl (Nat.le_of_ble_eq_true rfl) [0, 1, 2, 3, 4, 5] [] rfl rfl (by decide) (by decide) (by decide) rfl rfl [0, 1, 2, 3, 4, 5] (by decide) (wB K h t1 t2 t3 t4 c C) rfl ?_
  refine gx_if_ne_b (pc := 6) hB 11 dX0_mergePurpose_6 (by decide) (fun c_1 => ?_) (fun c_1 => ?_)
  · refine gx_aload_n (pc := 11) hB dX0_mergePurpose_11 0 rfl ?_
    refine gx_iload_n (pc := 12) hB dX0_mergePurpose_12 1 rfl ?_
    refine gx_dVi (pc := 13) (r := bWAll C x) (wr := []) hB (c_X0_weightOfAll l K h t1 t2 t3 t4 c C x ) mX0_weightOfAll dX0_mergePurpose_13 tb_421 pX0_weightOfAll ⟨Nat.le_of_ble_eq_true rfl, Nat.le_of_ble_eq_true rfl⟩ ⟨rfl, rfl⟩ ⟨Nat.zero_le _, Nat.zero_le _⟩ rfl (Nat.le_of_ble_eq_true rfl) [0, 1, 2, 3, 4, 5] [] rfl rfl (by decide) (by decide) (by decide) rfl rfl [0, 1, 2, 3, 4, 5] (by decide) (wB K h t1 t2 t3 t4 c C) rfl ?_
    refine gx_istore_n (pc := 16) hB dX0_mergePurpose_16 (by decide) [(3, .int (bWAll C x)), (0, .ref h), (1, .int x), (2, .int y)] rfl ?_
    refine gx_aload_n (pc := 17) hB dX0_mergePurpose_17 1 rfl ?_
    refine gx_iload_n (pc := 18) hB dX0_mergePurpose_18 2 rfl ?_
    refine gx_iload_n (pc := 19) hB dX0_mergePurpose_19 3 rfl ?_
    refine gx_dVi (pc := 20) (r := bWCons C x y) (wr := []) hB (c_X0_weightOfConsents l K h t1 t2 t3 t4 c C x y ) mX0_weightOfConsents dX0_mergePurpose_20 tb_425 pX0_weightOfConsents ⟨Nat.le_of_ble_eq_true rfl, Nat.le_of_ble_eq_true rfl⟩ ⟨rfl, rfl⟩ ⟨Nat.zero_le _, Nat.zero_le _⟩ rfl (Nat.le_of_ble_eq_true rfl) [0, 1, 2, 3, 4, 5] [] rfl rfl (by decide) (by decide) (by decide) rfl rfl [0, 1, 2, 3, 4, 5] (by decide) (wB K h t1 t2 t3 t4 c C) rfl ?_
    refine gx_bipush (pc := 23) hB dX0_mergePurpose_23 100 (by decide) ?_
    refine gx_imul (pc := 25) hB dX0_mergePurpose_25 ?_
    refine gx_aload_n (pc := 26) hB dX0_mergePurpose_26 1 rfl ?_
    refine gx_get (pc := 27) hB dX0_mergePurpose_27 inX0 rfl 0 rfl 0 (by decide) tb_80 rfl rfl ?_
    refine gx_iconst (pc := 30) hB dX0_mergePurpose_30 1 (by decide) ?_
    refine gx_iald (pc := 31) hB dX0_mergePurpose_31 5 1 rfl rfl 1 rfl (by decide) (by decide) ?_
    refine gx_iload_n (pc := 32) hB dX0_mergePurpose_32 0 rfl ?_
    refine gx_imul (pc := 33) hB dX0_mergePurpose_33 ?_
    refine gx_icmp_lt (pc := 34) hB 41 dX0_mergePurpose_34 (by decide) (fun c_2 => ?_) (fun c_2 => ?_)
    · refine gx_iconst (pc := 41) hB dX0_mergePurpose_41 0 (by decide) ?_
      refine gx_istore (pc := 42) hB dX0_mergePurpose_42 (by decide) [(4, .int 0), (3, .int (bWAll C x)), (0, .ref h), (1, .int x), (2, .int y)] rfl ?_
      refine gx_aload_n (pc := 44) hB dX0_mergePurpose_44 2 rfl ?_
      refine gx_iload_n (pc := 45) hB dX0_mergePurpose_45 3 rfl ?_
      refine gx_iload_n (pc := 46) hB dX0_mergePurpose_46 4 rfl ?_
      refine gx_dVi (pc := 47) (r := bI (bMergeable C x y)) (wr := []) hB (c_X0_areMergeable l K h t1 t2 t3 t4 c C x y ) mX0_areMergeable dX0_mergePurpose_47 tb_392 pX0_areMergeable ⟨Nat.le_of_ble_eq_true rfl, Nat.le_of_ble_eq_true rfl⟩ ⟨rfl, rfl⟩ ⟨Nat.zero_le _, Nat.zero_le _⟩ rfl (Nat.le_of_ble_eq_true rfl) [0, 1, 2, 3, 4, 5] [] rfl rfl (by decide) (by decide) (by decide) rfl rfl [0, 1, 2, 3, 4, 5] (by decide) (wB K h t1 t2 t3 t4 c C) rfl ?_
      refine gx_if_eq_b (pc := 50) hB 62 dX0_mergePurpose_50 (by decide) (fun c_3 => ?_) (fun c_3 => ?_)
      · refine gx_bipush (pc := 62) hB dX0_mergePurpose_62 (-2) (by decide) ?_
        have e1 : ((bMerge C x y).1) = (-2) := by simp [bMerge, c_1, c_2, eq_false (Int32.not_le.mpr c_2), c_3]
        have f0 : ((bMerge C x y).2) = C := by simp [bMerge, c_1, c_2, eq_false (Int32.not_le.mpr c_2), c_3]
        exact gx_iret (pc := 64) hC dX0_mergePurpose_64 (Nat.zero_le _) (Nat.zero_le _) (⟨by rw [e1], by rw [f0]⟩)
      · refine gx_iload_n (pc := 53) hB dX0_mergePurpose_53 1 rfl ?_
        refine gx_if_eq (pc := 54) hB 62 dX0_mergePurpose_54 (by decide) (fun c_4 => ?_) (fun c_4 => ?_)
        · refine gx_bipush (pc := 62) hB dX0_mergePurpose_62 (-2) (by decide) ?_
          have e1 : ((bMerge C x y).1) = (-2) := by simp [bMerge, c_1, c_2, eq_false (Int32.not_le.mpr c_2), c_3, eq_true c_4]
          have f0 : ((bMerge C x y).2) = C := by simp [bMerge, c_1, c_2, eq_false (Int32.not_le.mpr c_2), c_3, eq_true c_4]
          exact gx_iret (pc := 64) hC dX0_mergePurpose_64 (Nat.zero_le _) (Nat.zero_le _) (⟨by rw [e1], by rw [f0]⟩)
        · refine gx_iload (pc := 57) hB dX0_mergePurpose_57 0 rfl ?_
          refine gx_if_ne (pc := 59) hB 65 dX0_mergePurpose_59 (by decide) (fun c_5 => ?_) (fun c_5 => ?_)
          · exact absurd c_5 (by decide)
          · refine gx_bipush (pc := 62) hB dX0_mergePurpose_62 (-2) (by decide) ?_
            have e1 : ((bMerge C x y).1) = (-2) := by simp [bMerge, c_1, c_2, eq_false (Int32.not_le.mpr c_2), c_3, eq_false c_4]
            have f0 : ((bMerge C x y).2) = C := by simp [bMerge, c_1, c_2, eq_false (Int32.not_le.mpr c_2), c_3, eq_false c_4]
            exact gx_iret (pc := 64) hC dX0_mergePurpose_64 (Nat.zero_le _) (Nat.zero_le _) (⟨by rw [e1], by rw [f0]⟩)
    · refine gx_iconst (pc := 37) hB dX0_mergePurpose_37 1 (by decide) ?_
      refine gx_goto (pc := 38) hB 42 dX0_mergePurpose_38 (by decide) ?_
      refine gx_istore (pc := 42) hB dX0_mergePurpose_42 (by decide) [(4, .int 1), (3, .int (bWAll C x)), (0, .ref h), (1, .int x), (2, .int y)] rfl ?_
      refine gx_aload_n (pc := 44) hB dX0_mergePurpose_44 2 rfl ?_
      refine gx_iload_n (pc := 45) hB dX0_mergePurpose_45 3 rfl ?_
      refine gx_iload_n (pc := 46) hB dX0_mergePurpose_46 4 rfl ?_
      refine gx_dVi (pc := 47) (r := bI (bMergeable C x y)) (wr := []) hB (c_X0_areMergeable l K h t1 t2 t3 t4 c C x y ) mX0_areMergeable dX0_mergePurpose_47 tb_392 pX0_areMergeable ⟨Nat.le_of_ble_eq_true rfl, Nat.le_of_ble_eq_true rfl⟩ ⟨rfl, rfl⟩ ⟨Nat.zero_le _, Nat.zero_le _⟩ rfl (Nat.le_of_ble_eq_true rfl) [0, 1, 2, 3, 4, 5] [] rfl rfl (by decide) (by decide) (by decide) rfl rfl [0, 1, 2, 3, 4, 5] (by decide) (wB K h t1 t2 t3 t4 c C) rfl ?_
      refine gx_if_eq_b (pc := 50) hB 62 dX0_mergePurpose_50 (by decide) (fun c_6 => ?_) (fun c_6 => ?_)
      · refine gx_bipush (pc := 62) hB dX0_mergePurpose_62 (-2) (by decide) ?_
        have e1 : ((bMerge C x y).1) = (-2) := by simp [bMerge, c_1, Int32.not_lt.mp c_2, eq_false c_2, c_6]
        have f0 : ((bMerge C x y).2) = C := by simp [bMerge, c_1, Int32.not_lt.mp c_2, eq_false c_2, c_6]
        exact gx_iret (pc := 64) hC dX0_mergePurpose_64 (Nat.zero_le _) (Nat.zero_le _) (⟨by rw [e1], by rw [f0]⟩)
      · refine gx_iload_n (pc := 53) hB dX0_mergePurpose_53 1 rfl ?_
        refine gx_if_eq (pc := 54) hB 62 dX0_mergePurpose_54 (by decide) (fun c_7 => ?_) (fun c_7 => ?_)
        · refine gx_bipush (pc := 62) hB dX0_mergePurpose_62 (-2) (by decide) ?_
          have e1 : ((bMerge C x y).1) = (-2) := by simp [bMerge, c_1, Int32.not_lt.mp c_2, eq_false c_2, c_6, eq_true c_7]
          have f0 : ((bMerge C x y).2) = C := by simp [bMerge, c_1, Int32.not_lt.mp c_2, eq_false c_2, c_6, eq_true c_7]
          exact gx_iret (pc := 64) hC dX0_mergePurpose_64 (Nat.zero_le _) (Nat.zero_le _) (⟨by rw [e1], by rw [f0]⟩)
        · refine gx_iload (pc := 57) hB dX0_mergePurpose_57 0 rfl ?_
          refine gx_if_ne (pc := 59) hB 65 dX0_mergePurpose_59 (by decide) (fun c_8 => ?_) (fun c_8 => ?_)
          · refine gx_aload_n (pc := 65) hB dX0_mergePurpose_65 2 rfl ?_
            refine gx_iload_n (pc := 66) hB dX0_mergePurpose_66 3 rfl ?_
            refine gx_iload_n (pc := 67) hB dX0_mergePurpose_67 4 rfl ?_
            refine gx_dVv (pc := 68) (wr := []) hB (c_X0_handOnPledges l K h t1 t2 t3 t4 c C x y ) mX0_handOnPledges dX0_mergePurpose_68 tb_433 pX0_handOnPledges ⟨Nat.le_of_ble_eq_true rfl, Nat.le_of_ble_eq_true rfl⟩ ⟨rfl, rfl⟩ ⟨Nat.zero_le _, Nat.zero_le _⟩ rfl (Nat.le_of_ble_eq_true rfl) [0, 1, 2, 3, 4, 5] [] rfl rfl (by decide) (by decide) (by decide) rfl rfl [0, 1, 2, 3, 4, 5] (by decide) (wB K h t1 t2 t3 t4 c (bHand C x y)) rfl ?_
            refine gx_aload_n (pc := 71) hB dX0_mergePurpose_71 2 rfl ?_
            refine gx_iload_n (pc := 72) hB dX0_mergePurpose_72 3 rfl ?_
            refine gx_dVv (pc := 73) (wr := []) hB (c_X0_forgetConsents l K h t1 t2 t3 t4 c (bHand C x y) x ) mX0_forgetConsents dX0_mergePurpose_73 tb_437 pX0_forgetConsents ⟨Nat.le_of_ble_eq_true rfl, Nat.le_of_ble_eq_true rfl⟩ ⟨rfl, rfl⟩ ⟨Nat.zero_le _, Nat.zero_le _⟩ rfl (Nat.le_of_ble_eq_true rfl) [0, 1, 2, 3, 4, 5] [] rfl rfl (by decide) (by decide) (by decide) rfl rfl [0, 1, 2, 3, 4, 5] (by decide) (wB K h t1 t2 t3 t4 c (bForget (bHand C x y) x)) rfl ?_
            refine gx_aload_n (pc := 76) hB dX0_mergePurpose_76 2 rfl ?_
            refine gx_iload_n (pc := 77) hB dX0_mergePurpose_77 3 rfl ?_
            refine gx_iload_n (pc := 78) hB dX0_mergePurpose_78 4 rfl ?_
            refine gx_dVv (pc := 79) (wr := []) hB (c_X0_closePurpose l K h t1 t2 t3 t4 c (bForget (bHand C x y) x) x y ) mX0_closePurpose dX0_mergePurpose_79 tb_441 pX0_closePurpose ⟨Nat.le_of_ble_eq_true rfl, Nat.le_of_ble_eq_true rfl⟩ ⟨rfl, rfl⟩ ⟨Nat.zero_le _, Nat.zero_le _⟩ rfl (Nat.le_of_ble_eq_true rfl) [0, 1, 2, 3, 4, 5] [] rfl rfl (by decide) (by decide) (by decide) rfl rfl [0, 1, 2, 3, 4, 5] (by decide) (wB K h t1 t2 t3 t4 c (bClose (bForget (bHand C x y) x) x y)) rfl ?_
            refine gx_aload_n (pc := 82) hB dX0_mergePurpose_82 2 rfl ?_
            refine gx_iload_n (pc := 83) hB dX0_mergePurpose_83 3 rfl ?_
            refine gx_iload_n (pc := 84) hB dX0_mergePurpose_84 4 rfl ?_
            refine gx_dVi (pc := 85) (r := (bMove (bClose (bForget (bHand C x y) x) x y) x y).1) (wr := []) hB (c_X0_moveFund l K h t1 t2 t3 t4 c (bClose (bForget (bHand C x y) x) x y) x y ) mX0_moveFund dX0_mergePurpose_85 tb_445 pX0_moveFund ⟨Nat.le_of_ble_eq_true rfl, Nat.le_of_ble_eq_true rfl⟩ ⟨rfl, rfl⟩ ⟨Nat.zero_le _, Nat.zero_le _⟩ rfl (Nat.le_of_ble_eq_true rfl) [0, 1, 2, 3, 4, 5] [] rfl rfl (by decide) (by decide) (by decide) rfl rfl [0, 1, 2, 3, 4, 5] (by decide) (wB K h t1 t2 t3 t4 c ((bMove (bClose (bForget (bHand C x y) x) x y) x y).2)) rfl ?_
            have e1 : ((bMerge C x y).1) = ((bMove (bClose (bForget (bHand C x y) x) x y) x y).1) := by simp [bMerge, c_1, Int32.not_lt.mp c_2, eq_false c_2, c_6, eq_false c_7]
            have f0 : ((bMerge C x y).2) = ((bMove (bClose (bForget (bHand C x y) x) x y) x y).2) := by simp [bMerge, c_1, Int32.not_lt.mp c_2, eq_false c_2, c_6, eq_false c_7]
            exact gx_iret (pc := 88) hC dX0_mergePurpose_88 (Nat.zero_le _) (Nat.zero_le _) (⟨by rw [e1], by rw [f0]⟩)
          · exact absurd c_8 (by decide)
  · refine gx_iconst (pc := 9) hB dX0_mergePurpose_9 (-1) (by decide) ?_
    have e1 : ((bMerge C x y).1) = (-1) := by simp [bMerge, c_1]
    have f0 : ((bMerge C x y).2) = C := by simp [bMerge, c_1]
    exact gx_iret (pc := 10) hC dX0_mergePurpose_10 (Nat.zero_le _) (Nat.zero_le _) (⟨by rw [e1], by rw [f0]⟩)
theorem pX0_tellConsents : (parseMethodDescriptor yX0_tellConsents.desc).map (fun d => d.parameters.length) = some 2 := by decide +kernel
theorem mX0_tellConsents : gx_M yX0_tellConsents cX0_tellConsents 4 (some .int) := ⟨tb_454, tb_455, tb_28, tb_456, by decide, by decide⟩
set_option maxHeartbeats 4000000 in
set_option maxRecDepth 100000 in
theorem c_X0_tellConsents (l : Launch) (K : gx_K) (h t1 t2 t3 t4 c : Nat) (C : Nat → Int32) (x y : Int32)  : gx_Ctr l K yX0_tellConsents cX0_tellConsents 4 (some .int) (rmm 4 69) [.ref h, .int x, .int y] (wB K h t1 t2 t3 t4 c C) (gx_D (some (.int (bConsents C x y))) (wB K h t1 t2 t3 t4 c C)) := by
  refine gx_of (by decide) (Nat.le_of_ble_eq_true rfl) (fun G hC => ?_)
  have hB := hC.b
  refine gx_lv (lv' := [(0, .ref h), (1, .int x), (2, .int y)]) rfl ?_
  refine gx_aload_n (pc := 0) hB dX0_tellConsents_0 0 rfl ?_
  refine gx_iload_n (pc := 1) hB dX0_tellConsents_1 1 rfl ?_
  refine gx_iload_n (pc := 2) hB dX0_tellConsents_2 2 rfl ?_
  refine gx_dVi (pc := 3) (r := bI (bTwo C x y)) (wr := []) hB (c_X0_areTwoPurposes l K h t1 t2 t3 t4 c C x y ) mX0_areTwoPurposes dX0_tellConsents_3 tb_388 pX0_areTwoPurposes ⟨Nat.le_of_ble_eq_true rfl, Nat.le_of_ble_eq_true rfl⟩ ⟨rfl, rfl⟩ ⟨Nat.zero_le _, Nat.zero_le _⟩ rfl (Nat.le_of_ble_eq_true rfl) [0, 1, 2, 3, 4, 5] [] rfl rfl (by decide) (by decide) (by decide) rfl rfl [0, 1, 2, 3, 4, 5] (by decide) (wB K h t1 t2 t3 t4 c C) rfl ?_
  refine gx_if_ne_b (pc := 6) hB 11 dX0_tellConsents_6 (by decide) (fun c_1 => ?_) (fun c_1 => ?_)
  · refine gx_aload_n (pc := 11) hB dX0_tellConsents_11 0 rfl ?_
    refine gx_iload_n (pc := 12) hB dX0_tellConsents_12 1 rfl ?_
    refine gx_dVi (pc := 13) (r := bWAll C x) (wr := []) hB (c_X0_weightOfAll l K h t1 t2 t3 t4 c C x ) mX0_weightOfAll dX0_tellConsents_13 tb_421 pX0_weightOfAll ⟨Nat.le_of_ble_eq_true rfl, Nat.le_of_ble_eq_true rfl⟩ ⟨rfl, rfl⟩ ⟨Nat.zero_le _, Nat.zero_le _⟩ rfl (Nat.le_of_ble_eq_true rfl) [0, 1, 2, 3, 4, 5] [] rfl rfl (by decide) (by decide) (by decide) rfl rfl [0, 1, 2, 3, 4, 5] (by decide) (wB K h t1 t2 t3 t4 c C) rfl ?_
    refine gx_istore_n (pc := 16) hB dX0_tellConsents_16 (by decide) [(3, .int (bWAll C x)), (0, .ref h), (1, .int x), (2, .int y)] rfl ?_
    refine gx_iload_n (pc := 17) hB dX0_tellConsents_17 0 rfl ?_
    refine gx_if_le (pc := 18) hB 35 dX0_tellConsents_18 (by decide) (fun c_2 => ?_) (fun c_2 => ?_)
    · refine gx_bipush (pc := 35) hB dX0_tellConsents_35 (-4) (by decide) ?_
      have e1 : bConsents C x y = (-4) := by simp [bConsents, c_1, c_2, eq_false (Int32.not_lt.mpr c_2)]
      exact gx_iret (pc := 37) hC dX0_tellConsents_37 (Nat.zero_le _) (Nat.zero_le _) (⟨by rw [e1], rfl⟩)
    · refine gx_aload_n (pc := 21) hB dX0_tellConsents_21 1 rfl ?_
      refine gx_iload_n (pc := 22) hB dX0_tellConsents_22 2 rfl ?_
      refine gx_iload_n (pc := 23) hB dX0_tellConsents_23 3 rfl ?_
      refine gx_dVi (pc := 24) (r := bWCons C x y) (wr := []) hB (c_X0_weightOfConsents l K h t1 t2 t3 t4 c C x y ) mX0_weightOfConsents dX0_tellConsents_24 tb_425 pX0_weightOfConsents ⟨Nat.le_of_ble_eq_true rfl, Nat.le_of_ble_eq_true rfl⟩ ⟨rfl, rfl⟩ ⟨Nat.zero_le _, Nat.zero_le _⟩ rfl (Nat.le_of_ble_eq_true rfl) [0, 1, 2, 3, 4, 5] [] rfl rfl (by decide) (by decide) (by decide) rfl rfl [0, 1, 2, 3, 4, 5] (by decide) (wB K h t1 t2 t3 t4 c C) rfl ?_
      refine gx_bipush (pc := 27) hB dX0_tellConsents_27 100 (by decide) ?_
      refine gx_imul (pc := 29) hB dX0_tellConsents_29 ?_
      refine gx_iload_n (pc := 30) hB dX0_tellConsents_30 0 rfl ?_
      refine gx_idiv (pc := 31) hB dX0_tellConsents_31 (fun q => c_2 (by rw [q]; decide)) ?_
      refine gx_goto (pc := 32) hB 37 dX0_tellConsents_32 (by decide) ?_
      have e1 : bConsents C x y = ((bWCons C x y * 100) / bWAll C x) := by simp [bConsents, c_1, Int32.not_le.mp c_2, eq_false c_2]
      exact gx_iret (pc := 37) hC dX0_tellConsents_37 (Nat.zero_le _) (Nat.zero_le _) (⟨by rw [e1], rfl⟩)
  · refine gx_iconst (pc := 9) hB dX0_tellConsents_9 (-1) (by decide) ?_
    have e1 : bConsents C x y = (-1) := by simp [bConsents, c_1]
    exact gx_iret (pc := 10) hC dX0_tellConsents_10 (Nat.zero_le _) (Nat.zero_le _) (⟨by rw [e1], rfl⟩)
theorem pX0_changeSetting : (parseMethodDescriptor yX0_changeSetting.desc).map (fun d => d.parameters.length) = some 2 := by decide +kernel
theorem mX0_changeSetting : gx_M yX0_changeSetting cX0_changeSetting 6 (some .int) := ⟨tb_471, tb_472, tb_28, tb_473, by decide, by decide⟩
set_option maxHeartbeats 4000000 in
set_option maxRecDepth 100000 in
theorem c_X0_changeSetting (l : Launch) (K : gx_K) (h t1 t2 t3 t4 c : Nat) (C : Nat → Int32) (x y : Int32)  : gx_Ctr l K yX0_changeSetting cX0_changeSetting 6 (some .int) (rmm 2 22) [.ref h, .int x, .int y] (wB K h t1 t2 t3 t4 c C) (gx_D (some (.int ((bSet C x y).1))) (wB K h t1 t2 t3 t4 c ((bSet C x y).2))) := by
  refine gx_of (by decide) (Nat.le_of_ble_eq_true rfl) (fun G hC => ?_)
  have hB := hC.b
  refine gx_lv (lv' := [(0, .ref h), (1, .int x), (2, .int y)]) rfl ?_
  refine gx_iload_n (pc := 0) hB dX0_changeSetting_0 1 rfl ?_
  refine gx_if_ne (pc := 1) hB 14 dX0_changeSetting_1 (by decide) (fun c_1 => ?_) (fun c_1 => ?_)
  · refine gx_iload_n (pc := 14) hB dX0_changeSetting_14 1 rfl ?_
    refine gx_iconst (pc := 15) hB dX0_changeSetting_15 1 (by decide) ?_
    refine gx_icmp_ne (pc := 16) hB 33 dX0_changeSetting_16 (by decide) (fun c_2 => ?_) (fun c_2 => ?_)
    · refine gx_iconst (pc := 33) hB dX0_changeSetting_33 0 (by decide) ?_
      refine gx_istore_n (pc := 34) hB dX0_changeSetting_34 (by decide) [(3, .int 0), (0, .ref h), (1, .int x), (2, .int y)] rfl ?_
      refine gx_iload_n (pc := 35) hB dX0_changeSetting_35 0 rfl ?_
      refine gx_if_ne (pc := 36) hB 41 dX0_changeSetting_36 (by decide) (fun c_3 => ?_) (fun c_3 => ?_)
      · exact absurd c_3 (by decide)
      · refine gx_iconst (pc := 39) hB dX0_changeSetting_39 (-1) (by decide) ?_
        have e1 : ((bSet C x y).1) = (-1) := by simp [bSet, eq_false c_1, eq_false c_2]
        have f0 : ((bSet C x y).2) = C := by simp [bSet, eq_false c_1, eq_false c_2]
        exact gx_iret (pc := 40) hC dX0_changeSetting_40 (Nat.zero_le _) (Nat.zero_le _) (⟨by rw [e1], by rw [f0]⟩)
    · refine gx_iload_n (pc := 19) hB dX0_changeSetting_19 2 rfl ?_
      refine gx_iconst (pc := 20) hB dX0_changeSetting_20 0 (by decide) ?_
      refine gx_ldc (pc := 21) hB dX0_changeSetting_21 tb_474 ?_
      refine gx_w0 (pc := 23) (r := bI (bIn y 0 99999)) hB (c_X4_within l K y 0 99999 ) mX4_within dX0_changeSetting_23 ⟨Nat.le_of_ble_eq_true rfl, Nat.le_of_ble_eq_true rfl⟩ ⟨rfl, rfl⟩ ⟨Nat.zero_le _, Nat.zero_le _⟩ (Nat.le_of_ble_eq_true rfl) [0, 1, 2, 3, 4, 5] rfl (by decide) ?_
      refine gx_if_eq_b (pc := 26) hB 33 dX0_changeSetting_26 (by decide) (fun c_4 => ?_) (fun c_4 => ?_)
      · refine gx_iconst (pc := 33) hB dX0_changeSetting_33 0 (by decide) ?_
        refine gx_istore_n (pc := 34) hB dX0_changeSetting_34 (by decide) [(3, .int 0), (0, .ref h), (1, .int x), (2, .int y)] rfl ?_
        refine gx_iload_n (pc := 35) hB dX0_changeSetting_35 0 rfl ?_
        refine gx_if_ne (pc := 36) hB 41 dX0_changeSetting_36 (by decide) (fun c_5 => ?_) (fun c_5 => ?_)
        · exact absurd c_5 (by decide)
        · refine gx_iconst (pc := 39) hB dX0_changeSetting_39 (-1) (by decide) ?_
          have e1 : ((bSet C x y).1) = (-1) := by simp [bSet, eq_false c_1, eq_true c_2, c_4]
          have f0 : ((bSet C x y).2) = C := by simp [bSet, eq_false c_1, eq_true c_2, c_4]
          exact gx_iret (pc := 40) hC dX0_changeSetting_40 (Nat.zero_le _) (Nat.zero_le _) (⟨by rw [e1], by rw [f0]⟩)
      · refine gx_iconst (pc := 29) hB dX0_changeSetting_29 1 (by decide) ?_
        refine gx_goto (pc := 30) hB 34 dX0_changeSetting_30 (by decide) ?_
        refine gx_istore_n (pc := 34) hB dX0_changeSetting_34 (by decide) [(3, .int 1), (0, .ref h), (1, .int x), (2, .int y)] rfl ?_
        refine gx_iload_n (pc := 35) hB dX0_changeSetting_35 0 rfl ?_
        refine gx_if_ne (pc := 36) hB 41 dX0_changeSetting_36 (by decide) (fun c_6 => ?_) (fun c_6 => ?_)
        · refine gx_iload_n (pc := 41) hB dX0_changeSetting_41 2 rfl ?_
          refine gx_if_ne (pc := 42) hB 49 dX0_changeSetting_42 (by decide) (fun c_7 => ?_) (fun c_7 => ?_)
          · refine gx_iconst (pc := 49) hB dX0_changeSetting_49 2 (by decide) ?_
            refine gx_istore (pc := 50) hB dX0_changeSetting_50 (by decide) [(4, .int 2), (3, .int 1), (0, .ref h), (1, .int x), (2, .int y)] rfl ?_
            refine gx_aload_n (pc := 52) hB dX0_changeSetting_52 2 rfl ?_
            refine gx_get (pc := 53) hB dX0_changeSetting_53 inX0 rfl 0 rfl 0 (by decide) tb_80 rfl rfl ?_
            refine gx_iload (pc := 56) hB dX0_changeSetting_56 0 rfl ?_
            refine gx_iald (pc := 58) hB dX0_changeSetting_58 5 1 rfl rfl 2 rfl (by decide) (by decide) ?_
            refine gx_istore (pc := 59) hB dX0_changeSetting_59 (by decide) [(5, .int (C 2)), (4, .int 2), (3, .int 1), (0, .ref h), (1, .int x), (2, .int y)] rfl ?_
            refine gx_aload_n (pc := 61) hB dX0_changeSetting_61 3 rfl ?_
            refine gx_get (pc := 62) hB dX0_changeSetting_62 inX0 rfl 0 rfl 0 (by decide) tb_80 rfl rfl ?_
            refine gx_iload (pc := 65) hB dX0_changeSetting_65 1 rfl ?_
            refine gx_iload_n (pc := 67) hB dX0_changeSetting_67 5 rfl ?_
            refine gx_iast (pc := 68) hB dX0_changeSetting_68 5 1 rfl rfl 2 rfl (by decide) (by decide) (wB K h t1 t2 t3 t4 c (upd C 2 y)) rfl ?_
            refine gx_iload (pc := 69) hB dX0_changeSetting_69 0 rfl ?_
            have e1 : ((bSet C x y).1) = C 2 := by simp [bSet, eq_false c_1, eq_true c_2, c_4, eq_false c_7]
            have f0 : ((bSet C x y).2) = upd C 2 y := by simp [bSet, eq_false c_1, eq_true c_2, c_4, eq_false c_7]
            exact gx_iret (pc := 71) hC dX0_changeSetting_71 (Nat.zero_le _) (Nat.zero_le _) (⟨by rw [e1], by rw [f0]⟩)
          · exact (by first | exact absurd c_1 c_7 | exact absurd c_7 c_1 | exact absurd c_1 (Int32.not_le.mpr c_7) | exact absurd c_1 (Int32.not_lt.mpr c_7))
        · exact absurd c_6 (by decide)
  · refine gx_iload_n (pc := 4) hB dX0_changeSetting_4 2 rfl ?_
    refine gx_iconst (pc := 5) hB dX0_changeSetting_5 1 (by decide) ?_
    refine gx_bipush (pc := 6) hB dX0_changeSetting_6 100 (by decide) ?_
    refine gx_w0 (pc := 8) (r := bI (bIn y 1 100)) hB (c_X4_within l K y 1 100 ) mX4_within dX0_changeSetting_8 ⟨Nat.le_of_ble_eq_true rfl, Nat.le_of_ble_eq_true rfl⟩ ⟨rfl, rfl⟩ ⟨Nat.zero_le _, Nat.zero_le _⟩ (Nat.le_of_ble_eq_true rfl) [0, 1, 2, 3, 4, 5] rfl (by decide) ?_
    refine gx_goto (pc := 11) hB 34 dX0_changeSetting_11 (by decide) ?_
    refine gx_istore_n (pc := 34) hB dX0_changeSetting_34 (by decide) [(3, .int (bI (bIn y 1 100))), (0, .ref h), (1, .int x), (2, .int y)] rfl ?_
    refine gx_iload_n (pc := 35) hB dX0_changeSetting_35 0 rfl ?_
    refine gx_if_ne_b (pc := 36) hB 41 dX0_changeSetting_36 (by decide) (fun c_8 => ?_) (fun c_8 => ?_)
    · refine gx_iload_n (pc := 41) hB dX0_changeSetting_41 2 rfl ?_
      refine gx_if_ne (pc := 42) hB 49 dX0_changeSetting_42 (by decide) (fun c_9 => ?_) (fun c_9 => ?_)
      · exact (by first | exact absurd c_1 c_9 | exact absurd c_9 c_1 | exact absurd c_1 (Int32.not_le.mpr c_9) | exact absurd c_1 (Int32.not_lt.mpr c_9))
      · refine gx_iconst (pc := 45) hB dX0_changeSetting_45 1 (by decide) ?_
        refine gx_goto (pc := 46) hB 50 dX0_changeSetting_46 (by decide) ?_
        refine gx_istore (pc := 50) hB dX0_changeSetting_50 (by decide) [(4, .int 1), (3, .int (bI (bIn y 1 100))), (0, .ref h), (1, .int x), (2, .int y)] rfl ?_
        refine gx_aload_n (pc := 52) hB dX0_changeSetting_52 2 rfl ?_
        refine gx_get (pc := 53) hB dX0_changeSetting_53 inX0 rfl 0 rfl 0 (by decide) tb_80 rfl rfl ?_
        refine gx_iload (pc := 56) hB dX0_changeSetting_56 0 rfl ?_
        refine gx_iald (pc := 58) hB dX0_changeSetting_58 5 1 rfl rfl 1 rfl (by decide) (by decide) ?_
        refine gx_istore (pc := 59) hB dX0_changeSetting_59 (by decide) [(5, .int (C 1)), (4, .int 1), (3, .int (bI (bIn y 1 100))), (0, .ref h), (1, .int x), (2, .int y)] rfl ?_
        refine gx_aload_n (pc := 61) hB dX0_changeSetting_61 3 rfl ?_
        refine gx_get (pc := 62) hB dX0_changeSetting_62 inX0 rfl 0 rfl 0 (by decide) tb_80 rfl rfl ?_
        refine gx_iload (pc := 65) hB dX0_changeSetting_65 1 rfl ?_
        refine gx_iload_n (pc := 67) hB dX0_changeSetting_67 5 rfl ?_
        refine gx_iast (pc := 68) hB dX0_changeSetting_68 5 1 rfl rfl 1 rfl (by decide) (by decide) (wB K h t1 t2 t3 t4 c (upd C 1 y)) rfl ?_
        refine gx_iload (pc := 69) hB dX0_changeSetting_69 0 rfl ?_
        have e1 : ((bSet C x y).1) = C 1 := by simp [bSet, eq_true c_1, c_8, eq_true c_9]
        have f0 : ((bSet C x y).2) = upd C 1 y := by simp [bSet, eq_true c_1, c_8, eq_true c_9]
        exact gx_iret (pc := 71) hC dX0_changeSetting_71 (Nat.zero_le _) (Nat.zero_le _) (⟨by rw [e1], by rw [f0]⟩)
    · refine gx_iconst (pc := 39) hB dX0_changeSetting_39 (-1) (by decide) ?_
      have e1 : ((bSet C x y).1) = (-1) := by simp [bSet, eq_true c_1, c_8]
      have f0 : ((bSet C x y).2) = C := by simp [bSet, eq_true c_1, c_8]
      exact gx_iret (pc := 40) hC dX0_changeSetting_40 (Nat.zero_le _) (Nat.zero_le _) (⟨by rw [e1], by rw [f0]⟩)
theorem pX0_tellPurpose : (parseMethodDescriptor yX0_tellPurpose.desc).map (fun d => d.parameters.length) = some 2 := by decide +kernel
theorem mX0_tellPurpose : gx_M yX0_tellPurpose cX0_tellPurpose 3 (some .int) := ⟨tb_161, tb_162, tb_28, tb_163, by decide, by decide⟩
set_option maxHeartbeats 4000000 in
set_option maxRecDepth 100000 in
theorem c_X0_tellPurpose (l : Launch) (K : gx_K) (h t1 t2 t3 t4 c : Nat) (C : Nat → Int32) (x y : Int32)  : gx_Ctr l K yX0_tellPurpose cX0_tellPurpose 3 (some .int) (rmm 3 43) [.ref h, .int x, .int y] (wB K h t1 t2 t3 t4 c C) (gx_D (some (.int (bTellP C x y))) (wB K h t1 t2 t3 t4 c C)) := by
  refine gx_of (by decide) (Nat.le_of_ble_eq_true rfl) (fun G hC => ?_)
  have hB := hC.b
  refine gx_lv (lv' := [(0, .ref h), (1, .int x), (2, .int y)]) rfl ?_
  refine gx_aload_n (pc := 0) hB dX0_tellPurpose_0 0 rfl ?_
  refine gx_get (pc := 1) hB dX0_tellPurpose_1 inX0 rfl 0 rfl 1 (by decide) tb_81 rfl rfl ?_
  refine gx_iload_n (pc := 4) hB dX0_tellPurpose_4 1 rfl ?_
  refine gx_dVi (pc := 5) (r := bI (tHas C 3 x)) (wr := [(h, .inr (0, [.ref c, .ref t1, .ref t2, .ref t3, .ref t4])), (t2, .inr (3, [.ref c, .int (nI 76), .int (nI 8), .int (nI 7)])), (t3, .inr (3, [.ref c, .int (nI 133), .int (nI 24), .int (nI 7)])), (t4, .inr (3, [.ref c, .int (nI 302), .int (nI 6), .int (nI 8)]))]) hB (c_X3_has l K t1 c 3 6 12 C x (by first | decide | (unfold tHb; decide))) mX3_has dX0_tellPurpose_5 tb_164 pX3_has ⟨Nat.le_of_ble_eq_true rfl, Nat.le_of_ble_eq_true rfl⟩ ⟨rfl, rfl⟩ ⟨Nat.zero_le _, Nat.zero_le _⟩ rfl (Nat.le_of_ble_eq_true rfl) [1, 5] [0, 2, 3, 4] rfl rfl (by decide) (by decide) (by decide) rfl rfl [0, 4, 1, 2, 3, 5] (by decide) (wB K h t1 t2 t3 t4 c C) rfl ?_
  refine gx_if_eq_b (pc := 8) hB 21 dX0_tellPurpose_8 (by decide) (fun c_1 => ?_) (fun c_1 => ?_)
  · refine gx_iconst (pc := 21) hB dX0_tellPurpose_21 (-1) (by decide) ?_
    have e1 : bTellP C x y = (-1) := by simp [bTellP, c_1]
    exact gx_iret (pc := 22) hC dX0_tellPurpose_22 (Nat.zero_le _) (Nat.zero_le _) (⟨by rw [e1], rfl⟩)
  · refine gx_iload_n (pc := 11) hB dX0_tellPurpose_11 2 rfl ?_
    refine gx_iconst (pc := 12) hB dX0_tellPurpose_12 0 (by decide) ?_
    refine gx_bipush (pc := 13) hB dX0_tellPurpose_13 11 (by decide) ?_
    refine gx_w0 (pc := 15) (r := bI (bIn y 0 11)) hB (c_X4_within l K y 0 11 ) mX4_within dX0_tellPurpose_15 ⟨Nat.le_of_ble_eq_true rfl, Nat.le_of_ble_eq_true rfl⟩ ⟨rfl, rfl⟩ ⟨Nat.zero_le _, Nat.zero_le _⟩ (Nat.le_of_ble_eq_true rfl) [0, 1, 2, 3, 4, 5] rfl (by decide) ?_
    refine gx_if_ne_b (pc := 18) hB 23 dX0_tellPurpose_18 (by decide) (fun c_2 => ?_) (fun c_2 => ?_)
    · refine gx_iload_n (pc := 23) hB dX0_tellPurpose_23 2 rfl ?_
      refine gx_bipush (pc := 24) hB dX0_tellPurpose_24 9 (by decide) ?_
      refine gx_icmp_ne (pc := 26) hB 40 dX0_tellPurpose_26 (by decide) (fun c_3 => ?_) (fun c_3 => ?_)
      · refine gx_aload_n (pc := 40) hB dX0_tellPurpose_40 0 rfl ?_
        refine gx_get (pc := 41) hB dX0_tellPurpose_41 inX0 rfl 0 rfl 1 (by decide) tb_81 rfl rfl ?_
        refine gx_iload_n (pc := 44) hB dX0_tellPurpose_44 1 rfl ?_
        refine gx_iload_n (pc := 45) hB dX0_tellPurpose_45 2 rfl ?_
        refine gx_dVi (pc := 46) (r := pAt C x y) (wr := [(h, .inr (0, [.ref c, .ref t1, .ref t2, .ref t3, .ref t4])), (t2, .inr (3, [.ref c, .int (nI 76), .int (nI 8), .int (nI 7)])), (t3, .inr (3, [.ref c, .int (nI 133), .int (nI 24), .int (nI 7)])), (t4, .inr (3, [.ref c, .int (nI 302), .int (nI 6), .int (nI 8)]))]) hB (c_X3_at l K t1 c 3 6 12 C x y (by first | decide | (unfold tHb; decide))) mX3_at dX0_tellPurpose_46 tb_175 pX3_at ⟨Nat.le_of_ble_eq_true rfl, Nat.le_of_ble_eq_true rfl⟩ ⟨rfl, rfl⟩ ⟨Nat.zero_le _, Nat.zero_le _⟩ rfl (Nat.le_of_ble_eq_true rfl) [1, 5] [0, 2, 3, 4] rfl rfl (by decide) (by decide) (by decide) rfl rfl [0, 4, 1, 2, 3, 5] (by decide) (wB K h t1 t2 t3 t4 c C) rfl ?_
        have e1 : bTellP C x y = pAt C x y := by simp [bTellP, c_1, c_2, eq_false c_3]
        exact gx_iret (pc := 49) hC dX0_tellPurpose_49 (Nat.zero_le _) (Nat.zero_le _) (⟨by rw [e1], rfl⟩)
      · refine gx_aload_n (pc := 29) hB dX0_tellPurpose_29 0 rfl ?_
        refine gx_iload_n (pc := 30) hB dX0_tellPurpose_30 1 rfl ?_
        refine gx_dVi (pc := 31) (r := bI (bClosed C x)) (wr := []) hB (c_X0_isClosed l K h t1 t2 t3 t4 c C x ) mX0_isClosed dX0_tellPurpose_31 tb_171 pX0_isClosed ⟨Nat.le_of_ble_eq_true rfl, Nat.le_of_ble_eq_true rfl⟩ ⟨rfl, rfl⟩ ⟨Nat.zero_le _, Nat.zero_le _⟩ rfl (Nat.le_of_ble_eq_true rfl) [0, 1, 2, 3, 4, 5] [] rfl rfl (by decide) (by decide) (by decide) rfl rfl [0, 1, 2, 3, 4, 5] (by decide) (wB K h t1 t2 t3 t4 c C) rfl ?_
        refine gx_if_ne_b (pc := 34) hB 40 dX0_tellPurpose_34 (by decide) (fun c_4 => ?_) (fun c_4 => ?_)
        · refine gx_aload_n (pc := 40) hB dX0_tellPurpose_40 0 rfl ?_
          refine gx_get (pc := 41) hB dX0_tellPurpose_41 inX0 rfl 0 rfl 1 (by decide) tb_81 rfl rfl ?_
          refine gx_iload_n (pc := 44) hB dX0_tellPurpose_44 1 rfl ?_
          refine gx_iload_n (pc := 45) hB dX0_tellPurpose_45 2 rfl ?_
          refine gx_dVi (pc := 46) (r := pAt C x y) (wr := [(h, .inr (0, [.ref c, .ref t1, .ref t2, .ref t3, .ref t4])), (t2, .inr (3, [.ref c, .int (nI 76), .int (nI 8), .int (nI 7)])), (t3, .inr (3, [.ref c, .int (nI 133), .int (nI 24), .int (nI 7)])), (t4, .inr (3, [.ref c, .int (nI 302), .int (nI 6), .int (nI 8)]))]) hB (c_X3_at l K t1 c 3 6 12 C x y (by first | decide | (unfold tHb; decide))) mX3_at dX0_tellPurpose_46 tb_175 pX3_at ⟨Nat.le_of_ble_eq_true rfl, Nat.le_of_ble_eq_true rfl⟩ ⟨rfl, rfl⟩ ⟨Nat.zero_le _, Nat.zero_le _⟩ rfl (Nat.le_of_ble_eq_true rfl) [1, 5] [0, 2, 3, 4] rfl rfl (by decide) (by decide) (by decide) rfl rfl [0, 4, 1, 2, 3, 5] (by decide) (wB K h t1 t2 t3 t4 c C) rfl ?_
          have e1 : bTellP C x y = pAt C x y := by simp [bTellP, c_1, c_2, eq_true c_3, c_4]
          exact gx_iret (pc := 49) hC dX0_tellPurpose_49 (Nat.zero_le _) (Nat.zero_le _) (⟨by rw [e1], rfl⟩)
        · refine gx_bipush (pc := 37) hB dX0_tellPurpose_37 (-4) (by decide) ?_
          have e1 : bTellP C x y = (-4) := by simp [bTellP, c_1, c_2, eq_true c_3, c_4]
          exact gx_iret (pc := 39) hC dX0_tellPurpose_39 (Nat.zero_le _) (Nat.zero_le _) (⟨by rw [e1], rfl⟩)
    · refine gx_iconst (pc := 21) hB dX0_tellPurpose_21 (-1) (by decide) ?_
      have e1 : bTellP C x y = (-1) := by simp [bTellP, c_1, c_2]
      exact gx_iret (pc := 22) hC dX0_tellPurpose_22 (Nat.zero_le _) (Nat.zero_le _) (⟨by rw [e1], rfl⟩)
theorem pX0_tellConsent : (parseMethodDescriptor yX0_tellConsent.desc).map (fun d => d.parameters.length) = some 2 := by decide +kernel
theorem mX0_tellConsent : gx_M yX0_tellConsent cX0_tellConsent 4 (some .int) := ⟨tb_533, tb_25, tb_28, tb_534, by decide, by decide⟩
set_option maxHeartbeats 4000000 in
set_option maxRecDepth 100000 in
theorem c_X0_tellConsent (l : Launch) (K : gx_K) (h t1 t2 t3 t4 c : Nat) (C : Nat → Int32) (x y : Int32)  : gx_Ctr l K yX0_tellConsent cX0_tellConsent 4 (some .int) (rmm 2 22) [.ref h, .int x, .int y] (wB K h t1 t2 t3 t4 c C) (gx_D (some (.int (bTellCons C x y))) (wB K h t1 t2 t3 t4 c C)) := by
  refine gx_of (by decide) (Nat.le_of_ble_eq_true rfl) (fun G hC => ?_)
  have hB := hC.b
  refine gx_lv (lv' := [(0, .ref h), (1, .int x), (2, .int y)]) rfl ?_
  refine gx_iload_n (pc := 0) hB dX0_tellConsent_0 2 rfl ?_
  refine gx_bipush (pc := 1) hB dX0_tellConsent_1 10 (by decide) ?_
  refine gx_icmp_lt (pc := 3) hB 20 dX0_tellConsent_3 (by decide) (fun c_1 => ?_) (fun c_1 => ?_)
  · refine gx_iconst (pc := 20) hB dX0_tellConsent_20 (-1) (by decide) ?_
    have e1 : bTellCons C x y = (-1) := by simp [bTellCons, c_1, eq_false (Int32.not_le.mpr c_1)]
    exact gx_iret (pc := 21) hC dX0_tellConsent_21 (Nat.zero_le _) (Nat.zero_le _) (⟨by rw [e1], rfl⟩)
  · refine gx_aload_n (pc := 6) hB dX0_tellConsent_6 0 rfl ?_
    refine gx_get (pc := 7) hB dX0_tellConsent_7 inX0 rfl 0 rfl 1 (by decide) tb_81 rfl rfl ?_
    refine gx_iload_n (pc := 10) hB dX0_tellConsent_10 2 rfl ?_
    refine gx_bipush (pc := 11) hB dX0_tellConsent_11 10 (by decide) ?_
    refine gx_isub (pc := 13) hB dX0_tellConsent_13 ?_
    refine gx_dVi (pc := 14) (r := bI (tHas C 3 (y - 10))) (wr := [(h, .inr (0, [.ref c, .ref t1, .ref t2, .ref t3, .ref t4])), (t2, .inr (3, [.ref c, .int (nI 76), .int (nI 8), .int (nI 7)])), (t3, .inr (3, [.ref c, .int (nI 133), .int (nI 24), .int (nI 7)])), (t4, .inr (3, [.ref c, .int (nI 302), .int (nI 6), .int (nI 8)]))]) hB (c_X3_has l K t1 c 3 6 12 C (y - 10) (by first | decide | (unfold tHb; decide))) mX3_has dX0_tellConsent_14 tb_164 pX3_has ⟨Nat.le_of_ble_eq_true rfl, Nat.le_of_ble_eq_true rfl⟩ ⟨rfl, rfl⟩ ⟨Nat.zero_le _, Nat.zero_le _⟩ rfl (Nat.le_of_ble_eq_true rfl) [1, 5] [0, 2, 3, 4] rfl rfl (by decide) (by decide) (by decide) rfl rfl [0, 4, 1, 2, 3, 5] (by decide) (wB K h t1 t2 t3 t4 c C) rfl ?_
    refine gx_if_ne_b (pc := 17) hB 22 dX0_tellConsent_17 (by decide) (fun c_2 => ?_) (fun c_2 => ?_)
    · refine gx_aload_n (pc := 22) hB dX0_tellConsent_22 0 rfl ?_
      refine gx_get (pc := 23) hB dX0_tellConsent_23 inX0 rfl 0 rfl 2 (by decide) tb_82 rfl rfl ?_
      refine gx_iload_n (pc := 26) hB dX0_tellConsent_26 1 rfl ?_
      refine gx_iconst (pc := 27) hB dX0_tellConsent_27 1 (by decide) ?_
      refine gx_iload_n (pc := 28) hB dX0_tellConsent_28 2 rfl ?_
      refine gx_iadd (pc := 29) hB dX0_tellConsent_29 ?_
      refine gx_bipush (pc := 30) hB dX0_tellConsent_30 10 (by decide) ?_
      refine gx_isub (pc := 32) hB dX0_tellConsent_32 ?_
      refine gx_dVi (pc := 33) (r := dAt C x ((1 + y) - 10)) (wr := [(h, .inr (0, [.ref c, .ref t1, .ref t2, .ref t3, .ref t4])), (t1, .inr (3, [.ref c, .int (nI 3), .int (nI 6), .int (nI 12)])), (t3, .inr (3, [.ref c, .int (nI 133), .int (nI 24), .int (nI 7)])), (t4, .inr (3, [.ref c, .int (nI 302), .int (nI 6), .int (nI 8)]))]) hB (c_X3_at l K t2 c 76 8 7 C x ((1 + y) - 10) (by first | decide | (unfold tHb; decide))) mX3_at dX0_tellConsent_33 tb_175 pX3_at ⟨Nat.le_of_ble_eq_true rfl, Nat.le_of_ble_eq_true rfl⟩ ⟨rfl, rfl⟩ ⟨Nat.zero_le _, Nat.zero_le _⟩ rfl (Nat.le_of_ble_eq_true rfl) [2, 5] [0, 1, 3, 4] rfl rfl (by decide) (by decide) (by decide) rfl rfl [0, 1, 4, 2, 3, 5] (by decide) (wB K h t1 t2 t3 t4 c C) rfl ?_
      refine gx_istore_n (pc := 36) hB dX0_tellConsent_36 (by decide) [(3, .int (dAt C x ((1 + y) - 10))), (0, .ref h), (1, .int x), (2, .int y)] rfl ?_
      refine gx_iload_n (pc := 37) hB dX0_tellConsent_37 0 rfl ?_
      refine gx_iconst (pc := 38) hB dX0_tellConsent_38 (-1) (by decide) ?_
      refine gx_icmp_ne (pc := 39) hB 47 dX0_tellConsent_39 (by decide) (fun c_3 => ?_) (fun c_3 => ?_)
      · refine gx_iload_n (pc := 47) hB dX0_tellConsent_47 0 rfl ?_
        have e1 : bTellCons C x y = (dAt C x ((1 + y) - 10)) := by simp [bTellCons, Int32.not_lt.mp c_1, eq_false c_1, c_2, eq_false c_3]
        exact gx_iret (pc := 48) hC dX0_tellConsent_48 (Nat.zero_le _) (Nat.zero_le _) (⟨by rw [e1], rfl⟩)
      · refine gx_bipush (pc := 42) hB dX0_tellConsent_42 (-4) (by decide) ?_
        refine gx_goto (pc := 44) hB 48 dX0_tellConsent_44 (by decide) ?_
        have e1 : bTellCons C x y = (-4) := by simp [bTellCons, Int32.not_lt.mp c_1, eq_false c_1, c_2, eq_true c_3]
        exact gx_iret (pc := 48) hC dX0_tellConsent_48 (Nat.zero_le _) (Nat.zero_le _) (⟨by rw [e1], rfl⟩)
    · refine gx_iconst (pc := 20) hB dX0_tellConsent_20 (-1) (by decide) ?_
      have e1 : bTellCons C x y = (-1) := by simp [bTellCons, Int32.not_lt.mp c_1, eq_false c_1, c_2]
      exact gx_iret (pc := 21) hC dX0_tellConsent_21 (Nat.zero_le _) (Nat.zero_le _) (⟨by rw [e1], rfl⟩)
theorem pX0_amountsOf : (parseMethodDescriptor yX0_amountsOf.desc).map (fun d => d.parameters.length) = some 2 := by decide +kernel
theorem mX0_amountsOf : gx_M yX0_amountsOf cX0_amountsOf 6 (some .int) := ⟨tb_525, tb_23, tb_28, tb_526, by decide, by decide⟩
set_option maxHeartbeats 4000000 in
set_option maxRecDepth 100000 in
theorem c_X0_amountsOf (l : Launch) (K : gx_K) (h t1 t2 t3 t4 c : Nat) (C : Nat → Int32) (x y : Int32)  : gx_Ctr l K yX0_amountsOf cX0_amountsOf 6 (some .int) (rmm 3 44) [.ref h, .int x, .int y] (wB K h t1 t2 t3 t4 c C) (gx_D (some (.int (bAmt C x y))) (wB K h t1 t2 t3 t4 c C)) := by
  refine gx_of (by decide) (Nat.le_of_ble_eq_true rfl) (fun G hC => ?_)
  have hB := hC.b
  refine gx_lv (lv' := [(0, .ref h), (1, .int x), (2, .int y)]) rfl ?_
  refine gx_iconst (pc := 0) hB dX0_amountsOf_0 0 (by decide) ?_
  refine gx_istore_n (pc := 1) hB dX0_amountsOf_1 (by decide) [(3, .int 0), (0, .ref h), (1, .int x), (2, .int y)] rfl ?_
  refine gx_iconst (pc := 2) hB dX0_amountsOf_2 0 (by decide) ?_
  refine gx_istore (pc := 3) hB dX0_amountsOf_3 (by decide) [(4, .int 0), (3, .int 0), (0, .ref h), (1, .int x), (2, .int y)] rfl ?_
  have loop_5 : ∀ dq i : Nat, i + dq = (C 133).toNatClampNeg → G 0 0 (wB K h t1 t2 t3 t4 c C) [(0, .ref h), (1, .int x), (2, .int y), (3, .int (bAmtN C x y i)), (4, .int (nI i))] 5 [] := by
    intro dq
    induction dq with
    | zero =>
      intro i hi5
      obtain rfl : (C 133).toNatClampNeg = i := by omega
      refine gx_iload (pc := 5) hB dX0_amountsOf_5 4 rfl ?_
      refine gx_aload_n (pc := 7) hB dX0_amountsOf_7 0 rfl ?_
      refine gx_get (pc := 8) hB dX0_amountsOf_8 inX0 rfl 0 rfl 3 (by decide) tb_83 rfl rfl ?_
      refine gx_dVi (pc := 11) (r := C 133) (wr := [(h, .inr (0, [.ref c, .ref t1, .ref t2, .ref t3, .ref t4])), (t1, .inr (3, [.ref c, .int (nI 3), .int (nI 6), .int (nI 12)])), (t2, .inr (3, [.ref c, .int (nI 76), .int (nI 8), .int (nI 7)])), (t4, .inr (3, [.ref c, .int (nI 302), .int (nI 6), .int (nI 8)]))]) hB (c_X3_size l K t3 c 133 24 7 C (by first | decide | (unfold tHb; decide))) mX3_size dX0_amountsOf_11 tb_195 pX3_size ⟨Nat.le_of_ble_eq_true rfl, Nat.le_of_ble_eq_true rfl⟩ ⟨rfl, rfl⟩ ⟨Nat.zero_le _, Nat.zero_le _⟩ rfl (Nat.le_of_ble_eq_true rfl) [3, 5] [0, 1, 2, 4] rfl rfl (by decide) (by decide) (by decide) rfl rfl [0, 1, 2, 4, 3, 5] (by decide) (wB K h t1 t2 t3 t4 c C) rfl ?_
      refine gx_icmp_ge (pc := 14) hB 100 dX0_amountsOf_14 (by decide) (fun c_1 => ?_) (fun c_1 => ?_)
      · refine gx_iload_n (pc := 100) hB dX0_amountsOf_100 3 rfl ?_
        have e1 : bAmt C x y = (bAmtN C x y ((C 133).toNatClampNeg)) := by simp [bAmt, c_1, eq_false (Int32.not_lt.mpr c_1)]
        exact gx_iret (pc := 101) hC dX0_amountsOf_101 (Nat.zero_le _) (Nat.zero_le _) (⟨by rw [e1], rfl⟩)
      · exact absurd (lpT (x := (C 133)) hi5) c_1
    | succ dq ih5 =>
      intro i hi5
      refine gx_iload (pc := 5) hB dX0_amountsOf_5 4 rfl ?_
      refine gx_aload_n (pc := 7) hB dX0_amountsOf_7 0 rfl ?_
      refine gx_get (pc := 8) hB dX0_amountsOf_8 inX0 rfl 0 rfl 3 (by decide) tb_83 rfl rfl ?_
      refine gx_dVi (pc := 11) (r := C 133) (wr := [(h, .inr (0, [.ref c, .ref t1, .ref t2, .ref t3, .ref t4])), (t1, .inr (3, [.ref c, .int (nI 3), .int (nI 6), .int (nI 12)])), (t2, .inr (3, [.ref c, .int (nI 76), .int (nI 8), .int (nI 7)])), (t4, .inr (3, [.ref c, .int (nI 302), .int (nI 6), .int (nI 8)]))]) hB (c_X3_size l K t3 c 133 24 7 C (by first | decide | (unfold tHb; decide))) mX3_size dX0_amountsOf_11 tb_195 pX3_size ⟨Nat.le_of_ble_eq_true rfl, Nat.le_of_ble_eq_true rfl⟩ ⟨rfl, rfl⟩ ⟨Nat.zero_le _, Nat.zero_le _⟩ rfl (Nat.le_of_ble_eq_true rfl) [3, 5] [0, 1, 2, 4] rfl rfl (by decide) (by decide) (by decide) rfl rfl [0, 1, 2, 4, 3, 5] (by decide) (wB K h t1 t2 t3 t4 c C) rfl ?_
      refine gx_icmp_ge (pc := 14) hB 100 dX0_amountsOf_14 (by decide) (fun c_2 => ?_) (fun c_2 => ?_)
      · exact absurd c_2 (lpF (x := (C 133)) hi5)
      · refine gx_iload_n (pc := 17) hB dX0_amountsOf_17 2 rfl ?_
        refine gx_iconst (pc := 18) hB dX0_amountsOf_18 1 (by decide) ?_
        refine gx_icmp_eq (pc := 19) hB 59 dX0_amountsOf_19 (by decide) (fun c_3 => ?_) (fun c_3 => ?_)
        · refine gx_iconst (pc := 59) hB dX0_amountsOf_59 1 (by decide) ?_
          refine gx_goto (pc := 60) hB 64 dX0_amountsOf_60 (by decide) ?_
          refine gx_istore (pc := 64) hB dX0_amountsOf_64 (by decide) [(5, .int 1), (0, .ref h), (1, .int x), (2, .int y), (3, .int (bAmtN C x y i)), (4, .int (nI i))] rfl ?_
          refine gx_iload (pc := 66) hB dX0_amountsOf_66 0 rfl ?_
          refine gx_if_eq (pc := 68) hB 94 dX0_amountsOf_68 (by decide) (fun c_4 => ?_) (fun c_4 => ?_)
          · exact absurd c_4 (by decide)
          · refine gx_aload_n (pc := 71) hB dX0_amountsOf_71 1 rfl ?_
            refine gx_iload (pc := 72) hB dX0_amountsOf_72 5 rfl ?_
            refine gx_iload_n (pc := 74) hB dX0_amountsOf_74 2 rfl ?_
            refine gx_dVi (pc := 75) (r := bI (bIsOf C (nI i) x)) (wr := []) hB (c_X0_isOf l K h t1 t2 t3 t4 c C (nI i) x ) mX0_isOf dX0_amountsOf_75 tb_337 pX0_isOf ⟨Nat.le_of_ble_eq_true rfl, Nat.le_of_ble_eq_true rfl⟩ ⟨rfl, rfl⟩ ⟨Nat.zero_le _, Nat.zero_le _⟩ rfl (Nat.le_of_ble_eq_true rfl) [0, 1, 2, 3, 4, 5] [] rfl rfl (by decide) (by decide) (by decide) rfl rfl [0, 1, 2, 3, 4, 5] (by decide) (wB K h t1 t2 t3 t4 c C) rfl ?_
            refine gx_if_eq_b (pc := 78) hB 94 dX0_amountsOf_78 (by decide) (fun c_5 => ?_) (fun c_5 => ?_)
            · refine gx_iinc (pc := 94) hB dX0_amountsOf_94 5 (by decide) rfl (nI (i + 1)) (nI_1 _) [(4, .int (nI (i + 1))), (5, .int 1), (0, .ref h), (1, .int x), (2, .int y), (3, .int (bAmtN C x y i))] rfl ?_
              refine gx_goto (pc := 97) hB 5 dX0_amountsOf_97 (by decide) ?_
              have g3 : bAmtN C x y i = bAmtN C x y (i + 1) := by simp [bAmt, bAmtN, Int32.not_le.mp c_2, eq_false c_2, eq_true c_3, c_5]
              refine gx_sub hB (lv' := [(0, .ref h), (1, .int x), (2, .int y), (3, .int (bAmtN C x y i)), (4, .int (nI (i + 1)))]) [2, 3, 4, 5, 0] rfl ?_
              refine gx_all (ws' := wB K h t1 t2 t3 t4 c C) (lv' := [(0, .ref h), (1, .int x), (2, .int y), (3, .int (bAmtN C x y (i + 1))), (4, .int (nI (i + 1)))]) (rfl) (by rw [← g3]) ?_
              exact ih5 (i + 1) (by omega)
            · refine gx_iload_n (pc := 81) hB dX0_amountsOf_81 4 rfl ?_
              refine gx_aload_n (pc := 82) hB dX0_amountsOf_82 1 rfl ?_
              refine gx_get (pc := 83) hB dX0_amountsOf_83 inX0 rfl 0 rfl 3 (by decide) tb_83 rfl rfl ?_
              refine gx_iload (pc := 86) hB dX0_amountsOf_86 5 rfl ?_
              refine gx_iconst (pc := 88) hB dX0_amountsOf_88 2 (by decide) ?_
              refine gx_dVi (pc := 89) (r := gAt C (nI i) 2) (wr := [(h, .inr (0, [.ref c, .ref t1, .ref t2, .ref t3, .ref t4])), (t1, .inr (3, [.ref c, .int (nI 3), .int (nI 6), .int (nI 12)])), (t2, .inr (3, [.ref c, .int (nI 76), .int (nI 8), .int (nI 7)])), (t4, .inr (3, [.ref c, .int (nI 302), .int (nI 6), .int (nI 8)]))]) hB (c_X3_at l K t3 c 133 24 7 C (nI i) 2 (by first | decide | (unfold tHb; decide))) mX3_at dX0_amountsOf_89 tb_175 pX3_at ⟨Nat.le_of_ble_eq_true rfl, Nat.le_of_ble_eq_true rfl⟩ ⟨rfl, rfl⟩ ⟨Nat.zero_le _, Nat.zero_le _⟩ rfl (Nat.le_of_ble_eq_true rfl) [3, 5] [0, 1, 2, 4] rfl rfl (by decide) (by decide) (by decide) rfl rfl [0, 1, 2, 4, 3, 5] (by decide) (wB K h t1 t2 t3 t4 c C) rfl ?_
              refine gx_iadd (pc := 92) hB dX0_amountsOf_92 ?_
              refine gx_istore_n (pc := 93) hB dX0_amountsOf_93 (by decide) [(3, .int (bAmtN C x y i + (gAt C (nI i) 2))), (5, .int 1), (0, .ref h), (1, .int x), (2, .int y), (4, .int (nI i))] rfl ?_
              refine gx_iinc (pc := 94) hB dX0_amountsOf_94 5 (by decide) rfl (nI (i + 1)) (nI_1 _) [(4, .int (nI (i + 1))), (3, .int (bAmtN C x y i + (gAt C (nI i) 2))), (5, .int 1), (0, .ref h), (1, .int x), (2, .int y)] rfl ?_
              refine gx_goto (pc := 97) hB 5 dX0_amountsOf_97 (by decide) ?_
              have g3 : bAmtN C x y i + (gAt C (nI i) 2) = bAmtN C x y (i + 1) := by simp [bAmt, bAmtN, Int32.not_le.mp c_2, eq_false c_2, eq_true c_3, c_5]
              refine gx_sub hB (lv' := [(0, .ref h), (1, .int x), (2, .int y), (3, .int (bAmtN C x y i + (gAt C (nI i) 2))), (4, .int (nI (i + 1)))]) [3, 4, 5, 1, 0] rfl ?_
              refine gx_all (ws' := wB K h t1 t2 t3 t4 c C) (lv' := [(0, .ref h), (1, .int x), (2, .int y), (3, .int (bAmtN C x y (i + 1))), (4, .int (nI (i + 1)))]) (rfl) (by rw [← g3]) ?_
              exact ih5 (i + 1) (by omega)
        · refine gx_iload_n (pc := 22) hB dX0_amountsOf_22 2 rfl ?_
          refine gx_iconst (pc := 23) hB dX0_amountsOf_23 2 (by decide) ?_
          refine gx_icmp_ne (pc := 24) hB 36 dX0_amountsOf_24 (by decide) (fun c_6 => ?_) (fun c_6 => ?_)
          · refine gx_iload_n (pc := 36) hB dX0_amountsOf_36 2 rfl ?_
            refine gx_iconst (pc := 37) hB dX0_amountsOf_37 3 (by decide) ?_
            refine gx_icmp_ne (pc := 38) hB 63 dX0_amountsOf_38 (by decide) (fun c_7 => ?_) (fun c_7 => ?_)
            · refine gx_iconst (pc := 63) hB dX0_amountsOf_63 0 (by decide) ?_
              refine gx_istore (pc := 64) hB dX0_amountsOf_64 (by decide) [(5, .int 0), (0, .ref h), (1, .int x), (2, .int y), (3, .int (bAmtN C x y i)), (4, .int (nI i))] rfl ?_
              refine gx_iload (pc := 66) hB dX0_amountsOf_66 0 rfl ?_
              refine gx_if_eq (pc := 68) hB 94 dX0_amountsOf_68 (by decide) (fun c_8 => ?_) (fun c_8 => ?_)
              · refine gx_iinc (pc := 94) hB dX0_amountsOf_94 5 (by decide) rfl (nI (i + 1)) (nI_1 _) [(4, .int (nI (i + 1))), (5, .int 0), (0, .ref h), (1, .int x), (2, .int y), (3, .int (bAmtN C x y i))] rfl ?_
                refine gx_goto (pc := 97) hB 5 dX0_amountsOf_97 (by decide) ?_
                have g3 : bAmtN C x y i = bAmtN C x y (i + 1) := by simp [bAmt, bAmtN, Int32.not_le.mp c_2, eq_false c_2, eq_false c_3, eq_false c_6, eq_false c_7]
                refine gx_sub hB (lv' := [(0, .ref h), (1, .int x), (2, .int y), (3, .int (bAmtN C x y i)), (4, .int (nI (i + 1)))]) [2, 3, 4, 5, 0] rfl ?_
                refine gx_all (ws' := wB K h t1 t2 t3 t4 c C) (lv' := [(0, .ref h), (1, .int x), (2, .int y), (3, .int (bAmtN C x y (i + 1))), (4, .int (nI (i + 1)))]) (rfl) (by rw [← g3]) ?_
                exact ih5 (i + 1) (by omega)
              · exact absurd c_8 (by decide)
            · refine gx_aload_n (pc := 41) hB dX0_amountsOf_41 0 rfl ?_
              refine gx_iload (pc := 42) hB dX0_amountsOf_42 4 rfl ?_
              refine gx_dVi (pc := 44) (r := bI (bClaimed C (nI i))) (wr := []) hB (c_X0_isClaimed l K h t1 t2 t3 t4 c C (nI i) ) mX0_isClaimed dX0_amountsOf_44 tb_345 pX0_isClaimed ⟨Nat.le_of_ble_eq_true rfl, Nat.le_of_ble_eq_true rfl⟩ ⟨rfl, rfl⟩ ⟨Nat.zero_le _, Nat.zero_le _⟩ rfl (Nat.le_of_ble_eq_true rfl) [0, 1, 2, 3, 4, 5] [] rfl rfl (by decide) (by decide) (by decide) rfl rfl [0, 1, 2, 3, 4, 5] (by decide) (wB K h t1 t2 t3 t4 c C) rfl ?_
              refine gx_if_eq_b (pc := 47) hB 63 dX0_amountsOf_47 (by decide) (fun c_9 => ?_) (fun c_9 => ?_)
              · refine gx_iconst (pc := 63) hB dX0_amountsOf_63 0 (by decide) ?_
                refine gx_istore (pc := 64) hB dX0_amountsOf_64 (by decide) [(5, .int 0), (0, .ref h), (1, .int x), (2, .int y), (3, .int (bAmtN C x y i)), (4, .int (nI i))] rfl ?_
                refine gx_iload (pc := 66) hB dX0_amountsOf_66 0 rfl ?_
                refine gx_if_eq (pc := 68) hB 94 dX0_amountsOf_68 (by decide) (fun c_10 => ?_) (fun c_10 => ?_)
                · refine gx_iinc (pc := 94) hB dX0_amountsOf_94 5 (by decide) rfl (nI (i + 1)) (nI_1 _) [(4, .int (nI (i + 1))), (5, .int 0), (0, .ref h), (1, .int x), (2, .int y), (3, .int (bAmtN C x y i))] rfl ?_
                  refine gx_goto (pc := 97) hB 5 dX0_amountsOf_97 (by decide) ?_
                  have g3 : bAmtN C x y i = bAmtN C x y (i + 1) := by simp [bAmt, bAmtN, Int32.not_le.mp c_2, eq_false c_2, eq_false c_3, eq_false c_6, eq_true c_7, c_9]
                  refine gx_sub hB (lv' := [(0, .ref h), (1, .int x), (2, .int y), (3, .int (bAmtN C x y i)), (4, .int (nI (i + 1)))]) [2, 3, 4, 5, 0] rfl ?_
                  refine gx_all (ws' := wB K h t1 t2 t3 t4 c C) (lv' := [(0, .ref h), (1, .int x), (2, .int y), (3, .int (bAmtN C x y (i + 1))), (4, .int (nI (i + 1)))]) (rfl) (by rw [← g3]) ?_
                  exact ih5 (i + 1) (by omega)
                · exact absurd c_10 (by decide)
              · refine gx_aload_n (pc := 50) hB dX0_amountsOf_50 0 rfl ?_
                refine gx_iload (pc := 51) hB dX0_amountsOf_51 4 rfl ?_
                refine gx_dVi (pc := 53) (r := bI (bRefunded C (nI i))) (wr := []) hB (c_X0_isRefunded l K h t1 t2 t3 t4 c C (nI i) ) mX0_isRefunded dX0_amountsOf_53 tb_349 pX0_isRefunded ⟨Nat.le_of_ble_eq_true rfl, Nat.le_of_ble_eq_true rfl⟩ ⟨rfl, rfl⟩ ⟨Nat.zero_le _, Nat.zero_le _⟩ rfl (Nat.le_of_ble_eq_true rfl) [0, 1, 2, 3, 4, 5] [] rfl rfl (by decide) (by decide) (by decide) rfl rfl [0, 1, 2, 3, 4, 5] (by decide) (wB K h t1 t2 t3 t4 c C) rfl ?_
                refine gx_if_ne_b (pc := 56) hB 63 dX0_amountsOf_56 (by decide) (fun c_11 => ?_) (fun c_11 => ?_)
                · refine gx_iconst (pc := 63) hB dX0_amountsOf_63 0 (by decide) ?_
                  refine gx_istore (pc := 64) hB dX0_amountsOf_64 (by decide) [(5, .int 0), (0, .ref h), (1, .int x), (2, .int y), (3, .int (bAmtN C x y i)), (4, .int (nI i))] rfl ?_
                  refine gx_iload (pc := 66) hB dX0_amountsOf_66 0 rfl ?_
                  refine gx_if_eq (pc := 68) hB 94 dX0_amountsOf_68 (by decide) (fun c_12 => ?_) (fun c_12 => ?_)
                  · refine gx_iinc (pc := 94) hB dX0_amountsOf_94 5 (by decide) rfl (nI (i + 1)) (nI_1 _) [(4, .int (nI (i + 1))), (5, .int 0), (0, .ref h), (1, .int x), (2, .int y), (3, .int (bAmtN C x y i))] rfl ?_
                    refine gx_goto (pc := 97) hB 5 dX0_amountsOf_97 (by decide) ?_
                    have g3 : bAmtN C x y i = bAmtN C x y (i + 1) := by simp [bAmt, bAmtN, Int32.not_le.mp c_2, eq_false c_2, eq_false c_3, eq_false c_6, eq_true c_7, c_9, c_11]
                    refine gx_sub hB (lv' := [(0, .ref h), (1, .int x), (2, .int y), (3, .int (bAmtN C x y i)), (4, .int (nI (i + 1)))]) [2, 3, 4, 5, 0] rfl ?_
                    refine gx_all (ws' := wB K h t1 t2 t3 t4 c C) (lv' := [(0, .ref h), (1, .int x), (2, .int y), (3, .int (bAmtN C x y (i + 1))), (4, .int (nI (i + 1)))]) (rfl) (by rw [← g3]) ?_
                    exact ih5 (i + 1) (by omega)
                  · exact absurd c_12 (by decide)
                · refine gx_iconst (pc := 59) hB dX0_amountsOf_59 1 (by decide) ?_
                  refine gx_goto (pc := 60) hB 64 dX0_amountsOf_60 (by decide) ?_
                  refine gx_istore (pc := 64) hB dX0_amountsOf_64 (by decide) [(5, .int 1), (0, .ref h), (1, .int x), (2, .int y), (3, .int (bAmtN C x y i)), (4, .int (nI i))] rfl ?_
                  refine gx_iload (pc := 66) hB dX0_amountsOf_66 0 rfl ?_
                  refine gx_if_eq (pc := 68) hB 94 dX0_amountsOf_68 (by decide) (fun c_13 => ?_) (fun c_13 => ?_)
                  · exact absurd c_13 (by decide)
                  · refine gx_aload_n (pc := 71) hB dX0_amountsOf_71 1 rfl ?_
                    refine gx_iload (pc := 72) hB dX0_amountsOf_72 5 rfl ?_
                    refine gx_iload_n (pc := 74) hB dX0_amountsOf_74 2 rfl ?_
                    refine gx_dVi (pc := 75) (r := bI (bIsOf C (nI i) x)) (wr := []) hB (c_X0_isOf l K h t1 t2 t3 t4 c C (nI i) x ) mX0_isOf dX0_amountsOf_75 tb_337 pX0_isOf ⟨Nat.le_of_ble_eq_true rfl, Nat.le_of_ble_eq_true rfl⟩ ⟨rfl, rfl⟩ ⟨Nat.zero_le _, Nat.zero_le _⟩ rfl (Nat.le_of_ble_eq_true rfl) [0, 1, 2, 3, 4, 5] [] rfl rfl (by decide) (by decide) (by decide) rfl rfl [0, 1, 2, 3, 4, 5] (by decide) (wB K h t1 t2 t3 t4 c C) rfl ?_
                    refine gx_if_eq_b (pc := 78) hB 94 dX0_amountsOf_78 (by decide) (fun c_14 => ?_) (fun c_14 => ?_)
                    · refine gx_iinc (pc := 94) hB dX0_amountsOf_94 5 (by decide) rfl (nI (i + 1)) (nI_1 _) [(4, .int (nI (i + 1))), (5, .int 1), (0, .ref h), (1, .int x), (2, .int y), (3, .int (bAmtN C x y i))] rfl ?_
                      refine gx_goto (pc := 97) hB 5 dX0_amountsOf_97 (by decide) ?_
                      have g3 : bAmtN C x y i = bAmtN C x y (i + 1) := by simp [bAmt, bAmtN, Int32.not_le.mp c_2, eq_false c_2, eq_false c_3, eq_false c_6, eq_true c_7, c_9, c_11, c_14]
                      refine gx_sub hB (lv' := [(0, .ref h), (1, .int x), (2, .int y), (3, .int (bAmtN C x y i)), (4, .int (nI (i + 1)))]) [2, 3, 4, 5, 0] rfl ?_
                      refine gx_all (ws' := wB K h t1 t2 t3 t4 c C) (lv' := [(0, .ref h), (1, .int x), (2, .int y), (3, .int (bAmtN C x y (i + 1))), (4, .int (nI (i + 1)))]) (rfl) (by rw [← g3]) ?_
                      exact ih5 (i + 1) (by omega)
                    · refine gx_iload_n (pc := 81) hB dX0_amountsOf_81 4 rfl ?_
                      refine gx_aload_n (pc := 82) hB dX0_amountsOf_82 1 rfl ?_
                      refine gx_get (pc := 83) hB dX0_amountsOf_83 inX0 rfl 0 rfl 3 (by decide) tb_83 rfl rfl ?_
                      refine gx_iload (pc := 86) hB dX0_amountsOf_86 5 rfl ?_
                      refine gx_iconst (pc := 88) hB dX0_amountsOf_88 2 (by decide) ?_
                      refine gx_dVi (pc := 89) (r := gAt C (nI i) 2) (wr := [(h, .inr (0, [.ref c, .ref t1, .ref t2, .ref t3, .ref t4])), (t1, .inr (3, [.ref c, .int (nI 3), .int (nI 6), .int (nI 12)])), (t2, .inr (3, [.ref c, .int (nI 76), .int (nI 8), .int (nI 7)])), (t4, .inr (3, [.ref c, .int (nI 302), .int (nI 6), .int (nI 8)]))]) hB (c_X3_at l K t3 c 133 24 7 C (nI i) 2 (by first | decide | (unfold tHb; decide))) mX3_at dX0_amountsOf_89 tb_175 pX3_at ⟨Nat.le_of_ble_eq_true rfl, Nat.le_of_ble_eq_true rfl⟩ ⟨rfl, rfl⟩ ⟨Nat.zero_le _, Nat.zero_le _⟩ rfl (Nat.le_of_ble_eq_true rfl) [3, 5] [0, 1, 2, 4] rfl rfl (by decide) (by decide) (by decide) rfl rfl [0, 1, 2, 4, 3, 5] (by decide) (wB K h t1 t2 t3 t4 c C) rfl ?_
                      refine gx_iadd (pc := 92) hB dX0_amountsOf_92 ?_
                      refine gx_istore_n (pc := 93) hB dX0_amountsOf_93 (by decide) [(3, .int (bAmtN C x y i + (gAt C (nI i) 2))), (5, .int 1), (0, .ref h), (1, .int x), (2, .int y), (4, .int (nI i))] rfl ?_
                      refine gx_iinc (pc := 94) hB dX0_amountsOf_94 5 (by decide) rfl (nI (i + 1)) (nI_1 _) [(4, .int (nI (i + 1))), (3, .int (bAmtN C x y i + (gAt C (nI i) 2))), (5, .int 1), (0, .ref h), (1, .int x), (2, .int y)] rfl ?_
                      refine gx_goto (pc := 97) hB 5 dX0_amountsOf_97 (by decide) ?_
                      have g3 : bAmtN C x y i + (gAt C (nI i) 2) = bAmtN C x y (i + 1) := by simp [bAmt, bAmtN, Int32.not_le.mp c_2, eq_false c_2, eq_false c_3, eq_false c_6, eq_true c_7, c_9, c_11, c_14]
                      refine gx_sub hB (lv' := [(0, .ref h), (1, .int x), (2, .int y), (3, .int (bAmtN C x y i + (gAt C (nI i) 2))), (4, .int (nI (i + 1)))]) [3, 4, 5, 1, 0] rfl ?_
                      refine gx_all (ws' := wB K h t1 t2 t3 t4 c C) (lv' := [(0, .ref h), (1, .int x), (2, .int y), (3, .int (bAmtN C x y (i + 1))), (4, .int (nI (i + 1)))]) (rfl) (by rw [← g3]) ?_
                      exact ih5 (i + 1) (by omega)
          · refine gx_aload_n (pc := 27) hB dX0_amountsOf_27 0 rfl ?_
            refine gx_iload (pc := 28) hB dX0_amountsOf_28 4 rfl ?_
            refine gx_dVi (pc := 30) (r := bI (bRefunded C (nI i))) (wr := []) hB (c_X0_isRefunded l K h t1 t2 t3 t4 c C (nI i) ) mX0_isRefunded dX0_amountsOf_30 tb_349 pX0_isRefunded ⟨Nat.le_of_ble_eq_true rfl, Nat.le_of_ble_eq_true rfl⟩ ⟨rfl, rfl⟩ ⟨Nat.zero_le _, Nat.zero_le _⟩ rfl (Nat.le_of_ble_eq_true rfl) [0, 1, 2, 3, 4, 5] [] rfl rfl (by decide) (by decide) (by decide) rfl rfl [0, 1, 2, 3, 4, 5] (by decide) (wB K h t1 t2 t3 t4 c C) rfl ?_
            refine gx_if_ne_b (pc := 33) hB 59 dX0_amountsOf_33 (by decide) (fun c_15 => ?_) (fun c_15 => ?_)
            · refine gx_iconst (pc := 59) hB dX0_amountsOf_59 1 (by decide) ?_
              refine gx_goto (pc := 60) hB 64 dX0_amountsOf_60 (by decide) ?_
              refine gx_istore (pc := 64) hB dX0_amountsOf_64 (by decide) [(5, .int 1), (0, .ref h), (1, .int x), (2, .int y), (3, .int (bAmtN C x y i)), (4, .int (nI i))] rfl ?_
              refine gx_iload (pc := 66) hB dX0_amountsOf_66 0 rfl ?_
              refine gx_if_eq (pc := 68) hB 94 dX0_amountsOf_68 (by decide) (fun c_16 => ?_) (fun c_16 => ?_)
              · exact absurd c_16 (by decide)
              · refine gx_aload_n (pc := 71) hB dX0_amountsOf_71 1 rfl ?_
                refine gx_iload (pc := 72) hB dX0_amountsOf_72 5 rfl ?_
                refine gx_iload_n (pc := 74) hB dX0_amountsOf_74 2 rfl ?_
                refine gx_dVi (pc := 75) (r := bI (bIsOf C (nI i) x)) (wr := []) hB (c_X0_isOf l K h t1 t2 t3 t4 c C (nI i) x ) mX0_isOf dX0_amountsOf_75 tb_337 pX0_isOf ⟨Nat.le_of_ble_eq_true rfl, Nat.le_of_ble_eq_true rfl⟩ ⟨rfl, rfl⟩ ⟨Nat.zero_le _, Nat.zero_le _⟩ rfl (Nat.le_of_ble_eq_true rfl) [0, 1, 2, 3, 4, 5] [] rfl rfl (by decide) (by decide) (by decide) rfl rfl [0, 1, 2, 3, 4, 5] (by decide) (wB K h t1 t2 t3 t4 c C) rfl ?_
                refine gx_if_eq_b (pc := 78) hB 94 dX0_amountsOf_78 (by decide) (fun c_17 => ?_) (fun c_17 => ?_)
                · refine gx_iinc (pc := 94) hB dX0_amountsOf_94 5 (by decide) rfl (nI (i + 1)) (nI_1 _) [(4, .int (nI (i + 1))), (5, .int 1), (0, .ref h), (1, .int x), (2, .int y), (3, .int (bAmtN C x y i))] rfl ?_
                  refine gx_goto (pc := 97) hB 5 dX0_amountsOf_97 (by decide) ?_
                  have g3 : bAmtN C x y i = bAmtN C x y (i + 1) := by simp [bAmt, bAmtN, Int32.not_le.mp c_2, eq_false c_2, eq_false c_3, eq_true c_6, c_15, c_17]
                  refine gx_sub hB (lv' := [(0, .ref h), (1, .int x), (2, .int y), (3, .int (bAmtN C x y i)), (4, .int (nI (i + 1)))]) [2, 3, 4, 5, 0] rfl ?_
                  refine gx_all (ws' := wB K h t1 t2 t3 t4 c C) (lv' := [(0, .ref h), (1, .int x), (2, .int y), (3, .int (bAmtN C x y (i + 1))), (4, .int (nI (i + 1)))]) (rfl) (by rw [← g3]) ?_
                  exact ih5 (i + 1) (by omega)
                · refine gx_iload_n (pc := 81) hB dX0_amountsOf_81 4 rfl ?_
                  refine gx_aload_n (pc := 82) hB dX0_amountsOf_82 1 rfl ?_
                  refine gx_get (pc := 83) hB dX0_amountsOf_83 inX0 rfl 0 rfl 3 (by decide) tb_83 rfl rfl ?_
                  refine gx_iload (pc := 86) hB dX0_amountsOf_86 5 rfl ?_
                  refine gx_iconst (pc := 88) hB dX0_amountsOf_88 2 (by decide) ?_
                  refine gx_dVi (pc := 89) (r := gAt C (nI i) 2) (wr := [(h, .inr (0, [.ref c, .ref t1, .ref t2, .ref t3, .ref t4])), (t1, .inr (3, [.ref c, .int (nI 3), .int (nI 6), .int (nI 12)])), (t2, .inr (3, [.ref c, .int (nI 76), .int (nI 8), .int (nI 7)])), (t4, .inr (3, [.ref c, .int (nI 302), .int (nI 6), .int (nI 8)]))]) hB (c_X3_at l K t3 c 133 24 7 C (nI i) 2 (by first | decide | (unfold tHb; decide))) mX3_at dX0_amountsOf_89 tb_175 pX3_at ⟨Nat.le_of_ble_eq_true rfl, Nat.le_of_ble_eq_true rfl⟩ ⟨rfl, rfl⟩ ⟨Nat.zero_le _, Nat.zero_le _⟩ rfl (Nat.le_of_ble_eq_true rfl) [3, 5] [0, 1, 2, 4] rfl rfl (by decide) (by decide) (by decide) rfl rfl [0, 1, 2, 4, 3, 5] (by decide) (wB K h t1 t2 t3 t4 c C) rfl ?_
                  refine gx_iadd (pc := 92) hB dX0_amountsOf_92 ?_
                  refine gx_istore_n (pc := 93) hB dX0_amountsOf_93 (by decide) [(3, .int (bAmtN C x y i + (gAt C (nI i) 2))), (5, .int 1), (0, .ref h), (1, .int x), (2, .int y), (4, .int (nI i))] rfl ?_
                  refine gx_iinc (pc := 94) hB dX0_amountsOf_94 5 (by decide) rfl (nI (i + 1)) (nI_1 _) [(4, .int (nI (i + 1))), (3, .int (bAmtN C x y i + (gAt C (nI i) 2))), (5, .int 1), (0, .ref h), (1, .int x), (2, .int y)] rfl ?_
                  refine gx_goto (pc := 97) hB 5 dX0_amountsOf_97 (by decide) ?_
                  have g3 : bAmtN C x y i + (gAt C (nI i) 2) = bAmtN C x y (i + 1) := by simp [bAmt, bAmtN, Int32.not_le.mp c_2, eq_false c_2, eq_false c_3, eq_true c_6, c_15, c_17]
                  refine gx_sub hB (lv' := [(0, .ref h), (1, .int x), (2, .int y), (3, .int (bAmtN C x y i + (gAt C (nI i) 2))), (4, .int (nI (i + 1)))]) [3, 4, 5, 1, 0] rfl ?_
                  refine gx_all (ws' := wB K h t1 t2 t3 t4 c C) (lv' := [(0, .ref h), (1, .int x), (2, .int y), (3, .int (bAmtN C x y (i + 1))), (4, .int (nI (i + 1)))]) (rfl) (by rw [← g3]) ?_
                  exact ih5 (i + 1) (by omega)
            · refine gx_iload_n (pc := 36) hB dX0_amountsOf_36 2 rfl ?_
              refine gx_iconst (pc := 37) hB dX0_amountsOf_37 3 (by decide) ?_
              refine gx_icmp_ne (pc := 38) hB 63 dX0_amountsOf_38 (by decide) (fun c_18 => ?_) (fun c_18 => ?_)
              · refine gx_iconst (pc := 63) hB dX0_amountsOf_63 0 (by decide) ?_
                refine gx_istore (pc := 64) hB dX0_amountsOf_64 (by decide) [(5, .int 0), (0, .ref h), (1, .int x), (2, .int y), (3, .int (bAmtN C x y i)), (4, .int (nI i))] rfl ?_
                refine gx_iload (pc := 66) hB dX0_amountsOf_66 0 rfl ?_
                refine gx_if_eq (pc := 68) hB 94 dX0_amountsOf_68 (by decide) (fun c_19 => ?_) (fun c_19 => ?_)
                · refine gx_iinc (pc := 94) hB dX0_amountsOf_94 5 (by decide) rfl (nI (i + 1)) (nI_1 _) [(4, .int (nI (i + 1))), (5, .int 0), (0, .ref h), (1, .int x), (2, .int y), (3, .int (bAmtN C x y i))] rfl ?_
                  refine gx_goto (pc := 97) hB 5 dX0_amountsOf_97 (by decide) ?_
                  have g3 : bAmtN C x y i = bAmtN C x y (i + 1) := by simp [bAmt, bAmtN, Int32.not_le.mp c_2, eq_false c_2, eq_false c_3, eq_true c_6, c_15, eq_false c_18]
                  refine gx_sub hB (lv' := [(0, .ref h), (1, .int x), (2, .int y), (3, .int (bAmtN C x y i)), (4, .int (nI (i + 1)))]) [2, 3, 4, 5, 0] rfl ?_
                  refine gx_all (ws' := wB K h t1 t2 t3 t4 c C) (lv' := [(0, .ref h), (1, .int x), (2, .int y), (3, .int (bAmtN C x y (i + 1))), (4, .int (nI (i + 1)))]) (rfl) (by rw [← g3]) ?_
                  exact ih5 (i + 1) (by omega)
                · exact absurd c_19 (by decide)
              · refine gx_aload_n (pc := 41) hB dX0_amountsOf_41 0 rfl ?_
                refine gx_iload (pc := 42) hB dX0_amountsOf_42 4 rfl ?_
                refine gx_dVi (pc := 44) (r := bI (bClaimed C (nI i))) (wr := []) hB (c_X0_isClaimed l K h t1 t2 t3 t4 c C (nI i) ) mX0_isClaimed dX0_amountsOf_44 tb_345 pX0_isClaimed ⟨Nat.le_of_ble_eq_true rfl, Nat.le_of_ble_eq_true rfl⟩ ⟨rfl, rfl⟩ ⟨Nat.zero_le _, Nat.zero_le _⟩ rfl (Nat.le_of_ble_eq_true rfl) [0, 1, 2, 3, 4, 5] [] rfl rfl (by decide) (by decide) (by decide) rfl rfl [0, 1, 2, 3, 4, 5] (by decide) (wB K h t1 t2 t3 t4 c C) rfl ?_
                refine gx_if_eq_b (pc := 47) hB 63 dX0_amountsOf_47 (by decide) (fun c_20 => ?_) (fun c_20 => ?_)
                · refine gx_iconst (pc := 63) hB dX0_amountsOf_63 0 (by decide) ?_
                  refine gx_istore (pc := 64) hB dX0_amountsOf_64 (by decide) [(5, .int 0), (0, .ref h), (1, .int x), (2, .int y), (3, .int (bAmtN C x y i)), (4, .int (nI i))] rfl ?_
                  refine gx_iload (pc := 66) hB dX0_amountsOf_66 0 rfl ?_
                  refine gx_if_eq (pc := 68) hB 94 dX0_amountsOf_68 (by decide) (fun c_21 => ?_) (fun c_21 => ?_)
                  · refine gx_iinc (pc := 94) hB dX0_amountsOf_94 5 (by decide) rfl (nI (i + 1)) (nI_1 _) [(4, .int (nI (i + 1))), (5, .int 0), (0, .ref h), (1, .int x), (2, .int y), (3, .int (bAmtN C x y i))] rfl ?_
                    refine gx_goto (pc := 97) hB 5 dX0_amountsOf_97 (by decide) ?_
                    have g3 : bAmtN C x y i = bAmtN C x y (i + 1) := by simp [bAmt, bAmtN, Int32.not_le.mp c_2, eq_false c_2, eq_false c_3, eq_true c_6, c_15, eq_true c_18, c_20]
                    refine gx_sub hB (lv' := [(0, .ref h), (1, .int x), (2, .int y), (3, .int (bAmtN C x y i)), (4, .int (nI (i + 1)))]) [2, 3, 4, 5, 0] rfl ?_
                    refine gx_all (ws' := wB K h t1 t2 t3 t4 c C) (lv' := [(0, .ref h), (1, .int x), (2, .int y), (3, .int (bAmtN C x y (i + 1))), (4, .int (nI (i + 1)))]) (rfl) (by rw [← g3]) ?_
                    exact ih5 (i + 1) (by omega)
                  · exact absurd c_21 (by decide)
                · refine gx_aload_n (pc := 50) hB dX0_amountsOf_50 0 rfl ?_
                  refine gx_iload (pc := 51) hB dX0_amountsOf_51 4 rfl ?_
                  refine gx_dVi (pc := 53) (r := bI (bRefunded C (nI i))) (wr := []) hB (c_X0_isRefunded l K h t1 t2 t3 t4 c C (nI i) ) mX0_isRefunded dX0_amountsOf_53 tb_349 pX0_isRefunded ⟨Nat.le_of_ble_eq_true rfl, Nat.le_of_ble_eq_true rfl⟩ ⟨rfl, rfl⟩ ⟨Nat.zero_le _, Nat.zero_le _⟩ rfl (Nat.le_of_ble_eq_true rfl) [0, 1, 2, 3, 4, 5] [] rfl rfl (by decide) (by decide) (by decide) rfl rfl [0, 1, 2, 3, 4, 5] (by decide) (wB K h t1 t2 t3 t4 c C) rfl ?_
                  refine gx_if_ne_b (pc := 56) hB 63 dX0_amountsOf_56 (by decide) (fun c_22 => ?_) (fun c_22 => ?_)
                  · exact absurd (c_22.symm.trans c_15) (by decide)
                  · refine gx_iconst (pc := 59) hB dX0_amountsOf_59 1 (by decide) ?_
                    refine gx_goto (pc := 60) hB 64 dX0_amountsOf_60 (by decide) ?_
                    refine gx_istore (pc := 64) hB dX0_amountsOf_64 (by decide) [(5, .int 1), (0, .ref h), (1, .int x), (2, .int y), (3, .int (bAmtN C x y i)), (4, .int (nI i))] rfl ?_
                    refine gx_iload (pc := 66) hB dX0_amountsOf_66 0 rfl ?_
                    refine gx_if_eq (pc := 68) hB 94 dX0_amountsOf_68 (by decide) (fun c_23 => ?_) (fun c_23 => ?_)
                    · exact absurd c_23 (by decide)
                    · refine gx_aload_n (pc := 71) hB dX0_amountsOf_71 1 rfl ?_
                      refine gx_iload (pc := 72) hB dX0_amountsOf_72 5 rfl ?_
                      refine gx_iload_n (pc := 74) hB dX0_amountsOf_74 2 rfl ?_
                      refine gx_dVi (pc := 75) (r := bI (bIsOf C (nI i) x)) (wr := []) hB (c_X0_isOf l K h t1 t2 t3 t4 c C (nI i) x ) mX0_isOf dX0_amountsOf_75 tb_337 pX0_isOf ⟨Nat.le_of_ble_eq_true rfl, Nat.le_of_ble_eq_true rfl⟩ ⟨rfl, rfl⟩ ⟨Nat.zero_le _, Nat.zero_le _⟩ rfl (Nat.le_of_ble_eq_true rfl) [0, 1, 2, 3, 4, 5] [] rfl rfl (by decide) (by decide) (by decide) rfl rfl [0, 1, 2, 3, 4, 5] (by decide) (wB K h t1 t2 t3 t4 c C) rfl ?_
                      refine gx_if_eq_b (pc := 78) hB 94 dX0_amountsOf_78 (by decide) (fun c_24 => ?_) (fun c_24 => ?_)
                      · refine gx_iinc (pc := 94) hB dX0_amountsOf_94 5 (by decide) rfl (nI (i + 1)) (nI_1 _) [(4, .int (nI (i + 1))), (5, .int 1), (0, .ref h), (1, .int x), (2, .int y), (3, .int (bAmtN C x y i))] rfl ?_
                        refine gx_goto (pc := 97) hB 5 dX0_amountsOf_97 (by decide) ?_
                        have g3 : bAmtN C x y i = bAmtN C x y (i + 1) := by simp [bAmt, bAmtN, Int32.not_le.mp c_2, eq_false c_2, eq_false c_3, eq_true c_6, c_15, eq_true c_18, c_20, c_22, c_24]
                        refine gx_sub hB (lv' := [(0, .ref h), (1, .int x), (2, .int y), (3, .int (bAmtN C x y i)), (4, .int (nI (i + 1)))]) [2, 3, 4, 5, 0] rfl ?_
                        refine gx_all (ws' := wB K h t1 t2 t3 t4 c C) (lv' := [(0, .ref h), (1, .int x), (2, .int y), (3, .int (bAmtN C x y (i + 1))), (4, .int (nI (i + 1)))]) (rfl) (by rw [← g3]) ?_
                        exact ih5 (i + 1) (by omega)
                      · refine gx_iload_n (pc := 81) hB dX0_amountsOf_81 4 rfl ?_
                        refine gx_aload_n (pc := 82) hB dX0_amountsOf_82 1 rfl ?_
                        refine gx_get (pc := 83) hB dX0_amountsOf_83 inX0 rfl 0 rfl 3 (by decide) tb_83 rfl rfl ?_
                        refine gx_iload (pc := 86) hB dX0_amountsOf_86 5 rfl ?_
                        refine gx_iconst (pc := 88) hB dX0_amountsOf_88 2 (by decide) ?_
                        refine gx_dVi (pc := 89) (r := gAt C (nI i) 2) (wr := [(h, .inr (0, [.ref c, .ref t1, .ref t2, .ref t3, .ref t4])), (t1, .inr (3, [.ref c, .int (nI 3), .int (nI 6), .int (nI 12)])), (t2, .inr (3, [.ref c, .int (nI 76), .int (nI 8), .int (nI 7)])), (t4, .inr (3, [.ref c, .int (nI 302), .int (nI 6), .int (nI 8)]))]) hB (c_X3_at l K t3 c 133 24 7 C (nI i) 2 (by first | decide | (unfold tHb; decide))) mX3_at dX0_amountsOf_89 tb_175 pX3_at ⟨Nat.le_of_ble_eq_true rfl, Nat.le_of_ble_eq_true rfl⟩ ⟨rfl, rfl⟩ ⟨Nat.zero_le _, Nat.zero_le _⟩ rfl (Nat.le_of_ble_eq_true rfl) [3, 5] [0, 1, 2, 4] rfl rfl (by decide) (by decide) (by decide) rfl rfl [0, 1, 2, 4, 3, 5] (by decide) (wB K h t1 t2 t3 t4 c C) rfl ?_
                        refine gx_iadd (pc := 92) hB dX0_amountsOf_92 ?_
                        refine gx_istore_n (pc := 93) hB dX0_amountsOf_93 (by decide) [(3, .int (bAmtN C x y i + (gAt C (nI i) 2))), (5, .int 1), (0, .ref h), (1, .int x), (2, .int y), (4, .int (nI i))] rfl ?_
                        refine gx_iinc (pc := 94) hB dX0_amountsOf_94 5 (by decide) rfl (nI (i + 1)) (nI_1 _) [(4, .int (nI (i + 1))), (3, .int (bAmtN C x y i + (gAt C (nI i) 2))), (5, .int 1), (0, .ref h), (1, .int x), (2, .int y)] rfl ?_
                        refine gx_goto (pc := 97) hB 5 dX0_amountsOf_97 (by decide) ?_
                        have g3 : bAmtN C x y i + (gAt C (nI i) 2) = bAmtN C x y (i + 1) := by simp [bAmt, bAmtN, Int32.not_le.mp c_2, eq_false c_2, eq_false c_3, eq_true c_6, c_15, eq_true c_18, c_20, c_22, c_24]
                        refine gx_sub hB (lv' := [(0, .ref h), (1, .int x), (2, .int y), (3, .int (bAmtN C x y i + (gAt C (nI i) 2))), (4, .int (nI (i + 1)))]) [3, 4, 5, 1, 0] rfl ?_
                        refine gx_all (ws' := wB K h t1 t2 t3 t4 c C) (lv' := [(0, .ref h), (1, .int x), (2, .int y), (3, .int (bAmtN C x y (i + 1))), (4, .int (nI (i + 1)))]) (rfl) (by rw [← g3]) ?_
                        exact ih5 (i + 1) (by omega)
  refine gx_sub hB (lv' := [(0, .ref h), (1, .int x), (2, .int y), (3, .int 0), (4, .int 0)]) [2, 3, 4, 1, 0] rfl ?_
  refine gx_all (ws' := wB K h t1 t2 t3 t4 c C) (lv' := [(0, .ref h), (1, .int x), (2, .int y), (3, .int (bAmtN C x y 0)), (4, .int (nI 0))]) (rfl) (rfl) ?_
  exact loop_5 ((C 133).toNatClampNeg) 0 (by omega)
theorem pX0_runningPledgesOf : (parseMethodDescriptor yX0_runningPledgesOf.desc).map (fun d => d.parameters.length) = some 1 := by decide +kernel
theorem mX0_runningPledgesOf : gx_M yX0_runningPledgesOf cX0_runningPledgesOf 4 (some .int) := ⟨tb_529, tb_24, tb_28, tb_530, by decide, by decide⟩
set_option maxHeartbeats 4000000 in
set_option maxRecDepth 100000 in
theorem c_X0_runningPledgesOf (l : Launch) (K : gx_K) (h t1 t2 t3 t4 c : Nat) (C : Nat → Int32) (x : Int32)  : gx_Ctr l K yX0_runningPledgesOf cX0_runningPledgesOf 4 (some .int) (rmm 3 43) [.ref h, .int x] (wB K h t1 t2 t3 t4 c C) (gx_D (some (.int (bRunSet C x))) (wB K h t1 t2 t3 t4 c C)) := by
  refine gx_of (by decide) (Nat.le_of_ble_eq_true rfl) (fun G hC => ?_)
  have hB := hC.b
  refine gx_lv (lv' := [(0, .ref h), (1, .int x)]) rfl ?_
  refine gx_iconst (pc := 0) hB dX0_runningPledgesOf_0 0 (by decide) ?_
  refine gx_istore_n (pc := 1) hB dX0_runningPledgesOf_1 (by decide) [(2, .int 0), (0, .ref h), (1, .int x)] rfl ?_
  refine gx_iconst (pc := 2) hB dX0_runningPledgesOf_2 0 (by decide) ?_
  refine gx_istore_n (pc := 3) hB dX0_runningPledgesOf_3 (by decide) [(3, .int 0), (2, .int 0), (0, .ref h), (1, .int x)] rfl ?_
  have loop_4 : ∀ dq i : Nat, i + dq = (C 302).toNatClampNeg → G 0 0 (wB K h t1 t2 t3 t4 c C) [(0, .ref h), (1, .int x), (2, .int (bRunSetN C x i)), (3, .int (nI i))] 4 [] := by
    intro dq
    induction dq with
    | zero =>
      intro i hi4
      obtain rfl : (C 302).toNatClampNeg = i := by omega
      refine gx_iload_n (pc := 4) hB dX0_runningPledgesOf_4 3 rfl ?_
      refine gx_aload_n (pc := 5) hB dX0_runningPledgesOf_5 0 rfl ?_
      refine gx_get (pc := 6) hB dX0_runningPledgesOf_6 inX0 rfl 0 rfl 4 (by decide) tb_84 rfl rfl ?_
      refine gx_dVi (pc := 9) (r := C 302) (wr := [(h, .inr (0, [.ref c, .ref t1, .ref t2, .ref t3, .ref t4])), (t1, .inr (3, [.ref c, .int (nI 3), .int (nI 6), .int (nI 12)])), (t2, .inr (3, [.ref c, .int (nI 76), .int (nI 8), .int (nI 7)])), (t3, .inr (3, [.ref c, .int (nI 133), .int (nI 24), .int (nI 7)]))]) hB (c_X3_size l K t4 c 302 6 8 C (by first | decide | (unfold tHb; decide))) mX3_size dX0_runningPledgesOf_9 tb_195 pX3_size ⟨Nat.le_of_ble_eq_true rfl, Nat.le_of_ble_eq_true rfl⟩ ⟨rfl, rfl⟩ ⟨Nat.zero_le _, Nat.zero_le _⟩ rfl (Nat.le_of_ble_eq_true rfl) [4, 5] [0, 1, 2, 3] rfl rfl (by decide) (by decide) (by decide) rfl rfl [0, 1, 2, 3, 4, 5] (by decide) (wB K h t1 t2 t3 t4 c C) rfl ?_
      refine gx_icmp_ge (pc := 12) hB 48 dX0_runningPledgesOf_12 (by decide) (fun c_1 => ?_) (fun c_1 => ?_)
      · refine gx_iload_n (pc := 48) hB dX0_runningPledgesOf_48 2 rfl ?_
        have e1 : bRunSet C x = (bRunSetN C x ((C 302).toNatClampNeg)) := by simp [bRunSet, c_1, eq_false (Int32.not_lt.mpr c_1)]
        exact gx_iret (pc := 49) hC dX0_runningPledgesOf_49 (Nat.zero_le _) (Nat.zero_le _) (⟨by rw [e1], rfl⟩)
      · exact absurd (lpT (x := (C 302)) hi4) c_1
    | succ dq ih4 =>
      intro i hi4
      refine gx_iload_n (pc := 4) hB dX0_runningPledgesOf_4 3 rfl ?_
      refine gx_aload_n (pc := 5) hB dX0_runningPledgesOf_5 0 rfl ?_
      refine gx_get (pc := 6) hB dX0_runningPledgesOf_6 inX0 rfl 0 rfl 4 (by decide) tb_84 rfl rfl ?_
      refine gx_dVi (pc := 9) (r := C 302) (wr := [(h, .inr (0, [.ref c, .ref t1, .ref t2, .ref t3, .ref t4])), (t1, .inr (3, [.ref c, .int (nI 3), .int (nI 6), .int (nI 12)])), (t2, .inr (3, [.ref c, .int (nI 76), .int (nI 8), .int (nI 7)])), (t3, .inr (3, [.ref c, .int (nI 133), .int (nI 24), .int (nI 7)]))]) hB (c_X3_size l K t4 c 302 6 8 C (by first | decide | (unfold tHb; decide))) mX3_size dX0_runningPledgesOf_9 tb_195 pX3_size ⟨Nat.le_of_ble_eq_true rfl, Nat.le_of_ble_eq_true rfl⟩ ⟨rfl, rfl⟩ ⟨Nat.zero_le _, Nat.zero_le _⟩ rfl (Nat.le_of_ble_eq_true rfl) [4, 5] [0, 1, 2, 3] rfl rfl (by decide) (by decide) (by decide) rfl rfl [0, 1, 2, 3, 4, 5] (by decide) (wB K h t1 t2 t3 t4 c C) rfl ?_
      refine gx_icmp_ge (pc := 12) hB 48 dX0_runningPledgesOf_12 (by decide) (fun c_2 => ?_) (fun c_2 => ?_)
      · exact absurd c_2 (lpF (x := (C 302)) hi4)
      · refine gx_aload_n (pc := 15) hB dX0_runningPledgesOf_15 0 rfl ?_
        refine gx_iload_n (pc := 16) hB dX0_runningPledgesOf_16 3 rfl ?_
        refine gx_dVi (pc := 17) (r := bI (bRunning C (nI i))) (wr := []) hB (c_X0_isRunning l K h t1 t2 t3 t4 c C (nI i) ) mX0_isRunning dX0_runningPledgesOf_17 tb_304 pX0_isRunning ⟨Nat.le_of_ble_eq_true rfl, Nat.le_of_ble_eq_true rfl⟩ ⟨rfl, rfl⟩ ⟨Nat.zero_le _, Nat.zero_le _⟩ rfl (Nat.le_of_ble_eq_true rfl) [0, 1, 2, 3, 4, 5] [] rfl rfl (by decide) (by decide) (by decide) rfl rfl [0, 1, 2, 3, 4, 5] (by decide) (wB K h t1 t2 t3 t4 c C) rfl ?_
        refine gx_if_eq_b (pc := 20) hB 42 dX0_runningPledgesOf_20 (by decide) (fun c_3 => ?_) (fun c_3 => ?_)
        · refine gx_iinc (pc := 42) hB dX0_runningPledgesOf_42 3 (by decide) rfl (nI (i + 1)) (nI_1 _) [(3, .int (nI (i + 1))), (0, .ref h), (1, .int x), (2, .int (bRunSetN C x i))] rfl ?_
          refine gx_goto (pc := 45) hB 4 dX0_runningPledgesOf_45 (by decide) ?_
          have g2 : bRunSetN C x i = bRunSetN C x (i + 1) := by simp [bRunSet, bRunSetN, Int32.not_le.mp c_2, eq_false c_2, c_3]
          refine gx_sub hB (lv' := [(0, .ref h), (1, .int x), (2, .int (bRunSetN C x i)), (3, .int (nI (i + 1)))]) [1, 2, 3, 0] rfl ?_
          refine gx_all (ws' := wB K h t1 t2 t3 t4 c C) (lv' := [(0, .ref h), (1, .int x), (2, .int (bRunSetN C x (i + 1))), (3, .int (nI (i + 1)))]) (rfl) (by rw [← g2]) ?_
          exact ih4 (i + 1) (by omega)
        · refine gx_aload_n (pc := 23) hB dX0_runningPledgesOf_23 0 rfl ?_
          refine gx_get (pc := 24) hB dX0_runningPledgesOf_24 inX0 rfl 0 rfl 4 (by decide) tb_84 rfl rfl ?_
          refine gx_iload_n (pc := 27) hB dX0_runningPledgesOf_27 3 rfl ?_
          refine gx_iconst (pc := 28) hB dX0_runningPledgesOf_28 0 (by decide) ?_
          refine gx_dVi (pc := 29) (r := kAt C (nI i) 0) (wr := [(h, .inr (0, [.ref c, .ref t1, .ref t2, .ref t3, .ref t4])), (t1, .inr (3, [.ref c, .int (nI 3), .int (nI 6), .int (nI 12)])), (t2, .inr (3, [.ref c, .int (nI 76), .int (nI 8), .int (nI 7)])), (t3, .inr (3, [.ref c, .int (nI 133), .int (nI 24), .int (nI 7)]))]) hB (c_X3_at l K t4 c 302 6 8 C (nI i) 0 (by first | decide | (unfold tHb; decide))) mX3_at dX0_runningPledgesOf_29 tb_175 pX3_at ⟨Nat.le_of_ble_eq_true rfl, Nat.le_of_ble_eq_true rfl⟩ ⟨rfl, rfl⟩ ⟨Nat.zero_le _, Nat.zero_le _⟩ rfl (Nat.le_of_ble_eq_true rfl) [4, 5] [0, 1, 2, 3] rfl rfl (by decide) (by decide) (by decide) rfl rfl [0, 1, 2, 3, 4, 5] (by decide) (wB K h t1 t2 t3 t4 c C) rfl ?_
          refine gx_iload_n (pc := 32) hB dX0_runningPledgesOf_32 1 rfl ?_
          refine gx_icmp_ne (pc := 33) hB 42 dX0_runningPledgesOf_33 (by decide) (fun c_4 => ?_) (fun c_4 => ?_)
          · refine gx_iinc (pc := 42) hB dX0_runningPledgesOf_42 3 (by decide) rfl (nI (i + 1)) (nI_1 _) [(3, .int (nI (i + 1))), (0, .ref h), (1, .int x), (2, .int (bRunSetN C x i))] rfl ?_
            refine gx_goto (pc := 45) hB 4 dX0_runningPledgesOf_45 (by decide) ?_
            have g2 : bRunSetN C x i = bRunSetN C x (i + 1) := by simp [bRunSet, bRunSetN, Int32.not_le.mp c_2, eq_false c_2, c_3, eq_false c_4]
            refine gx_sub hB (lv' := [(0, .ref h), (1, .int x), (2, .int (bRunSetN C x i)), (3, .int (nI (i + 1)))]) [1, 2, 3, 0] rfl ?_
            refine gx_all (ws' := wB K h t1 t2 t3 t4 c C) (lv' := [(0, .ref h), (1, .int x), (2, .int (bRunSetN C x (i + 1))), (3, .int (nI (i + 1)))]) (rfl) (by rw [← g2]) ?_
            exact ih4 (i + 1) (by omega)
          · refine gx_iload_n (pc := 36) hB dX0_runningPledgesOf_36 2 rfl ?_
            refine gx_iconst (pc := 37) hB dX0_runningPledgesOf_37 1 (by decide) ?_
            refine gx_iload_n (pc := 38) hB dX0_runningPledgesOf_38 3 rfl ?_
            refine gx_ishl (pc := 39) hB dX0_runningPledgesOf_39 ?_
            refine gx_ior (pc := 40) hB dX0_runningPledgesOf_40 ?_
            refine gx_istore_n (pc := 41) hB dX0_runningPledgesOf_41 (by decide) [(2, .int (bRunSetN C x i ||| (1 <<< (nI i &&& 31)))), (0, .ref h), (1, .int x), (3, .int (nI i))] rfl ?_
            refine gx_iinc (pc := 42) hB dX0_runningPledgesOf_42 3 (by decide) rfl (nI (i + 1)) (nI_1 _) [(3, .int (nI (i + 1))), (2, .int (bRunSetN C x i ||| (1 <<< (nI i &&& 31)))), (0, .ref h), (1, .int x)] rfl ?_
            refine gx_goto (pc := 45) hB 4 dX0_runningPledgesOf_45 (by decide) ?_
            have g2 : bRunSetN C x i ||| (1 <<< (nI i &&& 31)) = bRunSetN C x (i + 1) := by simp [bRunSet, bRunSetN, Int32.not_le.mp c_2, eq_false c_2, c_3, eq_true c_4]
            refine gx_sub hB (lv' := [(0, .ref h), (1, .int x), (2, .int (bRunSetN C x i ||| (1 <<< (nI i &&& 31)))), (3, .int (nI (i + 1)))]) [2, 3, 1, 0] rfl ?_
            refine gx_all (ws' := wB K h t1 t2 t3 t4 c C) (lv' := [(0, .ref h), (1, .int x), (2, .int (bRunSetN C x (i + 1))), (3, .int (nI (i + 1)))]) (rfl) (by rw [← g2]) ?_
            exact ih4 (i + 1) (by omega)
  refine gx_sub hB (lv' := [(0, .ref h), (1, .int x), (2, .int 0), (3, .int 0)]) [2, 3, 1, 0] rfl ?_
  refine gx_all (ws' := wB K h t1 t2 t3 t4 c C) (lv' := [(0, .ref h), (1, .int x), (2, .int (bRunSetN C x 0)), (3, .int (nI 0))]) (rfl) (rfl) ?_
  exact loop_4 ((C 302).toNatClampNeg) 0 (by omega)
theorem pX0_tellDonor : (parseMethodDescriptor yX0_tellDonor.desc).map (fun d => d.parameters.length) = some 2 := by decide +kernel
theorem mX0_tellDonor : gx_M yX0_tellDonor cX0_tellDonor 3 (some .int) := ⟨tb_520, tb_521, tb_28, tb_522, by decide, by decide⟩
set_option maxHeartbeats 4000000 in
set_option maxRecDepth 100000 in
theorem c_X0_tellDonor (l : Launch) (K : gx_K) (h t1 t2 t3 t4 c : Nat) (C : Nat → Int32) (x y : Int32)  : gx_Ctr l K yX0_tellDonor cX0_tellDonor 3 (some .int) (rmm 4 69) [.ref h, .int x, .int y] (wB K h t1 t2 t3 t4 c C) (gx_D (some (.int (bTellD C x y))) (wB K h t1 t2 t3 t4 c C)) := by
  refine gx_of (by decide) (Nat.le_of_ble_eq_true rfl) (fun G hC => ?_)
  have hB := hC.b
  refine gx_lv (lv' := [(0, .ref h), (1, .int x), (2, .int y)]) rfl ?_
  refine gx_aload_n (pc := 0) hB dX0_tellDonor_0 0 rfl ?_
  refine gx_get (pc := 1) hB dX0_tellDonor_1 inX0 rfl 0 rfl 2 (by decide) tb_82 rfl rfl ?_
  refine gx_iload_n (pc := 4) hB dX0_tellDonor_4 1 rfl ?_
  refine gx_dVi (pc := 5) (r := bI (tHas C 76 x)) (wr := [(h, .inr (0, [.ref c, .ref t1, .ref t2, .ref t3, .ref t4])), (t1, .inr (3, [.ref c, .int (nI 3), .int (nI 6), .int (nI 12)])), (t3, .inr (3, [.ref c, .int (nI 133), .int (nI 24), .int (nI 7)])), (t4, .inr (3, [.ref c, .int (nI 302), .int (nI 6), .int (nI 8)]))]) hB (c_X3_has l K t2 c 76 8 7 C x (by first | decide | (unfold tHb; decide))) mX3_has dX0_tellDonor_5 tb_164 pX3_has ⟨Nat.le_of_ble_eq_true rfl, Nat.le_of_ble_eq_true rfl⟩ ⟨rfl, rfl⟩ ⟨Nat.zero_le _, Nat.zero_le _⟩ rfl (Nat.le_of_ble_eq_true rfl) [2, 5] [0, 1, 3, 4] rfl rfl (by decide) (by decide) (by decide) rfl rfl [0, 1, 4, 2, 3, 5] (by decide) (wB K h t1 t2 t3 t4 c C) rfl ?_
  refine gx_if_ne_b (pc := 8) hB 13 dX0_tellDonor_8 (by decide) (fun c_1 => ?_) (fun c_1 => ?_)
  · refine gx_iload_n (pc := 13) hB dX0_tellDonor_13 2 rfl ?_
    by_cases c_2 : y = 0
    · refine gx_top c_2 ?_
      refine gx_tableIn (pc := 14) hB 48 dX0_tellDonor_14 (by decide) (by decide) rfl (by decide) ?_
      have s_2 := c_2
      refine gx_aload_n (pc := 48) hB dX0_tellDonor_48 0 rfl ?_
      refine gx_get (pc := 49) hB dX0_tellDonor_49 inX0 rfl 0 rfl 2 (by decide) tb_82 rfl rfl ?_
      refine gx_iload_n (pc := 52) hB dX0_tellDonor_52 1 rfl ?_
      refine gx_iconst (pc := 53) hB dX0_tellDonor_53 0 (by decide) ?_
      refine gx_dVi (pc := 54) (r := dAt C x 0) (wr := [(h, .inr (0, [.ref c, .ref t1, .ref t2, .ref t3, .ref t4])), (t1, .inr (3, [.ref c, .int (nI 3), .int (nI 6), .int (nI 12)])), (t3, .inr (3, [.ref c, .int (nI 133), .int (nI 24), .int (nI 7)])), (t4, .inr (3, [.ref c, .int (nI 302), .int (nI 6), .int (nI 8)]))]) hB (c_X3_at l K t2 c 76 8 7 C x 0 (by first | decide | (unfold tHb; decide))) mX3_at dX0_tellDonor_54 tb_175 pX3_at ⟨Nat.le_of_ble_eq_true rfl, Nat.le_of_ble_eq_true rfl⟩ ⟨rfl, rfl⟩ ⟨Nat.zero_le _, Nat.zero_le _⟩ rfl (Nat.le_of_ble_eq_true rfl) [2, 5] [0, 1, 3, 4] rfl rfl (by decide) (by decide) (by decide) rfl rfl [0, 1, 4, 2, 3, 5] (by decide) (wB K h t1 t2 t3 t4 c C) rfl ?_
      have e1 : bTellD C x y = dAt C x 0 := by simp [bTellD, c_1, s_2]
      exact gx_iret (pc := 57) hC dX0_tellDonor_57 (Nat.zero_le _) (Nat.zero_le _) (⟨by rw [e1], rfl⟩)
    by_cases c_3 : y = 1
    · refine gx_top c_3 ?_
      refine gx_tableIn (pc := 14) hB 58 dX0_tellDonor_14 (by decide) (by decide) rfl (by decide) ?_
      have s_3 := c_3
      refine gx_aload_n (pc := 58) hB dX0_tellDonor_58 0 rfl ?_
      refine gx_iload_n (pc := 59) hB dX0_tellDonor_59 1 rfl ?_
      refine gx_iload_n (pc := 60) hB dX0_tellDonor_60 2 rfl ?_
      refine gx_dVi (pc := 61) (r := bAmt C x y) (wr := []) hB (c_X0_amountsOf l K h t1 t2 t3 t4 c C x y ) mX0_amountsOf dX0_tellDonor_61 tb_523 pX0_amountsOf ⟨Nat.le_of_ble_eq_true rfl, Nat.le_of_ble_eq_true rfl⟩ ⟨rfl, rfl⟩ ⟨Nat.zero_le _, Nat.zero_le _⟩ rfl (Nat.le_of_ble_eq_true rfl) [0, 1, 2, 3, 4, 5] [] rfl rfl (by decide) (by decide) (by decide) rfl rfl [0, 1, 2, 3, 4, 5] (by decide) (wB K h t1 t2 t3 t4 c C) rfl ?_
      have e1 : bTellD C x y = bAmt C x y := by simp [bTellD, c_1, eq_false c_2, s_3]
      exact gx_iret (pc := 64) hC dX0_tellDonor_64 (Nat.zero_le _) (Nat.zero_le _) (⟨by rw [e1], rfl⟩)
    by_cases c_4 : y = 2
    · refine gx_top c_4 ?_
      refine gx_tableIn (pc := 14) hB 58 dX0_tellDonor_14 (by decide) (by decide) rfl (by decide) ?_
      have s_4 := c_4
      refine gx_aload_n (pc := 58) hB dX0_tellDonor_58 0 rfl ?_
      refine gx_iload_n (pc := 59) hB dX0_tellDonor_59 1 rfl ?_
      refine gx_iload_n (pc := 60) hB dX0_tellDonor_60 2 rfl ?_
      refine gx_dVi (pc := 61) (r := bAmt C x y) (wr := []) hB (c_X0_amountsOf l K h t1 t2 t3 t4 c C x y ) mX0_amountsOf dX0_tellDonor_61 tb_523 pX0_amountsOf ⟨Nat.le_of_ble_eq_true rfl, Nat.le_of_ble_eq_true rfl⟩ ⟨rfl, rfl⟩ ⟨Nat.zero_le _, Nat.zero_le _⟩ rfl (Nat.le_of_ble_eq_true rfl) [0, 1, 2, 3, 4, 5] [] rfl rfl (by decide) (by decide) (by decide) rfl rfl [0, 1, 2, 3, 4, 5] (by decide) (wB K h t1 t2 t3 t4 c C) rfl ?_
      have e1 : bTellD C x y = bAmt C x y := by simp [bTellD, c_1, eq_false c_2, eq_false c_3, s_4]
      exact gx_iret (pc := 64) hC dX0_tellDonor_64 (Nat.zero_le _) (Nat.zero_le _) (⟨by rw [e1], rfl⟩)
    by_cases c_5 : y = 3
    · refine gx_top c_5 ?_
      refine gx_tableIn (pc := 14) hB 58 dX0_tellDonor_14 (by decide) (by decide) rfl (by decide) ?_
      have s_5 := c_5
      refine gx_aload_n (pc := 58) hB dX0_tellDonor_58 0 rfl ?_
      refine gx_iload_n (pc := 59) hB dX0_tellDonor_59 1 rfl ?_
      refine gx_iload_n (pc := 60) hB dX0_tellDonor_60 2 rfl ?_
      refine gx_dVi (pc := 61) (r := bAmt C x y) (wr := []) hB (c_X0_amountsOf l K h t1 t2 t3 t4 c C x y ) mX0_amountsOf dX0_tellDonor_61 tb_523 pX0_amountsOf ⟨Nat.le_of_ble_eq_true rfl, Nat.le_of_ble_eq_true rfl⟩ ⟨rfl, rfl⟩ ⟨Nat.zero_le _, Nat.zero_le _⟩ rfl (Nat.le_of_ble_eq_true rfl) [0, 1, 2, 3, 4, 5] [] rfl rfl (by decide) (by decide) (by decide) rfl rfl [0, 1, 2, 3, 4, 5] (by decide) (wB K h t1 t2 t3 t4 c C) rfl ?_
      have e1 : bTellD C x y = bAmt C x y := by simp [bTellD, c_1, eq_false c_2, eq_false c_3, eq_false c_4, s_5]
      exact gx_iret (pc := 64) hC dX0_tellDonor_64 (Nat.zero_le _) (Nat.zero_le _) (⟨by rw [e1], rfl⟩)
    by_cases c_6 : y = 4
    · refine gx_top c_6 ?_
      refine gx_tableIn (pc := 14) hB 65 dX0_tellDonor_14 (by decide) (by decide) rfl (by decide) ?_
      have s_6 := c_6
      refine gx_aload_n (pc := 65) hB dX0_tellDonor_65 0 rfl ?_
      refine gx_iload_n (pc := 66) hB dX0_tellDonor_66 1 rfl ?_
      refine gx_dVi (pc := 67) (r := bRunSet C x) (wr := []) hB (c_X0_runningPledgesOf l K h t1 t2 t3 t4 c C x ) mX0_runningPledgesOf dX0_tellDonor_67 tb_527 pX0_runningPledgesOf ⟨Nat.le_of_ble_eq_true rfl, Nat.le_of_ble_eq_true rfl⟩ ⟨rfl, rfl⟩ ⟨Nat.zero_le _, Nat.zero_le _⟩ rfl (Nat.le_of_ble_eq_true rfl) [0, 1, 2, 3, 4, 5] [] rfl rfl (by decide) (by decide) (by decide) rfl rfl [0, 1, 2, 3, 4, 5] (by decide) (wB K h t1 t2 t3 t4 c C) rfl ?_
      have e1 : bTellD C x y = bRunSet C x := by simp [bTellD, c_1, eq_false c_2, eq_false c_3, eq_false c_4, eq_false c_5, s_6]
      exact gx_iret (pc := 70) hC dX0_tellDonor_70 (Nat.zero_le _) (Nat.zero_le _) (⟨by rw [e1], rfl⟩)
    have hout : (y).toInt < 0 ∨ 4 < (y).toInt := by
      have zc_2 : (y).toInt ≠ 0 := fun q => c_2 (Int32.toInt_inj.mp q)
      have zc_3 : (y).toInt ≠ 1 := fun q => c_3 (Int32.toInt_inj.mp q)
      have zc_4 : (y).toInt ≠ 2 := fun q => c_4 (Int32.toInt_inj.mp q)
      have zc_5 : (y).toInt ≠ 3 := fun q => c_5 (Int32.toInt_inj.mp q)
      have zc_6 : (y).toInt ≠ 4 := fun q => c_6 (Int32.toInt_inj.mp q)
      omega
    refine gx_tableOut (pc := 14) hB 71 dX0_tellDonor_14 hout (by decide) ?_
    refine gx_aload_n (pc := 71) hB dX0_tellDonor_71 0 rfl ?_
    refine gx_iload_n (pc := 72) hB dX0_tellDonor_72 1 rfl ?_
    refine gx_iload_n (pc := 73) hB dX0_tellDonor_73 2 rfl ?_
    refine gx_dVi (pc := 74) (r := bTellCons C x y) (wr := []) hB (c_X0_tellConsent l K h t1 t2 t3 t4 c C x y ) mX0_tellConsent dX0_tellDonor_74 tb_531 pX0_tellConsent ⟨Nat.le_of_ble_eq_true rfl, Nat.le_of_ble_eq_true rfl⟩ ⟨rfl, rfl⟩ ⟨Nat.zero_le _, Nat.zero_le _⟩ rfl (Nat.le_of_ble_eq_true rfl) [0, 1, 2, 3, 4, 5] [] rfl rfl (by decide) (by decide) (by decide) rfl rfl [0, 1, 2, 3, 4, 5] (by decide) (wB K h t1 t2 t3 t4 c C) rfl ?_
    have e1 : bTellD C x y = bTellCons C x y := by simp [bTellD, c_1, eq_false c_2, eq_false c_3, eq_false c_4, eq_false c_5, eq_false c_6]
    exact gx_iret (pc := 77) hC dX0_tellDonor_77 (Nat.zero_le _) (Nat.zero_le _) (⟨by rw [e1], rfl⟩)
  · refine gx_iconst (pc := 11) hB dX0_tellDonor_11 (-1) (by decide) ?_
    have e1 : bTellD C x y = (-1) := by simp [bTellD, c_1]
    exact gx_iret (pc := 12) hC dX0_tellDonor_12 (Nat.zero_le _) (Nat.zero_le _) (⟨by rw [e1], rfl⟩)
theorem pX0_tellGift : (parseMethodDescriptor yX0_tellGift.desc).map (fun d => d.parameters.length) = some 2 := by decide +kernel
theorem mX0_tellGift : gx_M yX0_tellGift cX0_tellGift 4 (some .int) := ⟨tb_501, tb_502, tb_28, tb_503, by decide, by decide⟩
set_option maxHeartbeats 4000000 in
set_option maxRecDepth 100000 in
theorem c_X0_tellGift (l : Launch) (K : gx_K) (h t1 t2 t3 t4 c : Nat) (C : Nat → Int32) (x y : Int32)  : gx_Ctr l K yX0_tellGift cX0_tellGift 4 (some .int) (rmm 3 43) [.ref h, .int x, .int y] (wB K h t1 t2 t3 t4 c C) (gx_D (some (.int (bTellG C x y))) (wB K h t1 t2 t3 t4 c C)) := by
  refine gx_of (by decide) (Nat.le_of_ble_eq_true rfl) (fun G hC => ?_)
  have hB := hC.b
  refine gx_lv (lv' := [(0, .ref h), (1, .int x), (2, .int y)]) rfl ?_
  refine gx_aload_n (pc := 0) hB dX0_tellGift_0 0 rfl ?_
  refine gx_get (pc := 1) hB dX0_tellGift_1 inX0 rfl 0 rfl 3 (by decide) tb_83 rfl rfl ?_
  refine gx_iload_n (pc := 4) hB dX0_tellGift_4 1 rfl ?_
  refine gx_dVi (pc := 5) (r := bI (tHas C 133 x)) (wr := [(h, .inr (0, [.ref c, .ref t1, .ref t2, .ref t3, .ref t4])), (t1, .inr (3, [.ref c, .int (nI 3), .int (nI 6), .int (nI 12)])), (t2, .inr (3, [.ref c, .int (nI 76), .int (nI 8), .int (nI 7)])), (t4, .inr (3, [.ref c, .int (nI 302), .int (nI 6), .int (nI 8)]))]) hB (c_X3_has l K t3 c 133 24 7 C x (by first | decide | (unfold tHb; decide))) mX3_has dX0_tellGift_5 tb_164 pX3_has ⟨Nat.le_of_ble_eq_true rfl, Nat.le_of_ble_eq_true rfl⟩ ⟨rfl, rfl⟩ ⟨Nat.zero_le _, Nat.zero_le _⟩ rfl (Nat.le_of_ble_eq_true rfl) [3, 5] [0, 1, 2, 4] rfl rfl (by decide) (by decide) (by decide) rfl rfl [0, 1, 2, 4, 3, 5] (by decide) (wB K h t1 t2 t3 t4 c C) rfl ?_
  refine gx_if_eq_b (pc := 8) hB 21 dX0_tellGift_8 (by decide) (fun c_1 => ?_) (fun c_1 => ?_)
  · refine gx_iconst (pc := 21) hB dX0_tellGift_21 (-1) (by decide) ?_
    have e1 : bTellG C x y = (-1) := by simp [bTellG, c_1]
    exact gx_iret (pc := 22) hC dX0_tellGift_22 (Nat.zero_le _) (Nat.zero_le _) (⟨by rw [e1], rfl⟩)
  · refine gx_iload_n (pc := 11) hB dX0_tellGift_11 2 rfl ?_
    refine gx_iconst (pc := 12) hB dX0_tellGift_12 0 (by decide) ?_
    refine gx_bipush (pc := 13) hB dX0_tellGift_13 7 (by decide) ?_
    refine gx_w0 (pc := 15) (r := bI (bIn y 0 7)) hB (c_X4_within l K y 0 7 ) mX4_within dX0_tellGift_15 ⟨Nat.le_of_ble_eq_true rfl, Nat.le_of_ble_eq_true rfl⟩ ⟨rfl, rfl⟩ ⟨Nat.zero_le _, Nat.zero_le _⟩ (Nat.le_of_ble_eq_true rfl) [0, 1, 2, 3, 4, 5] rfl (by decide) ?_
    refine gx_if_ne_b (pc := 18) hB 23 dX0_tellGift_18 (by decide) (fun c_2 => ?_) (fun c_2 => ?_)
    · refine gx_iload_n (pc := 23) hB dX0_tellGift_23 2 rfl ?_
      refine gx_bipush (pc := 24) hB dX0_tellGift_24 7 (by decide) ?_
      refine gx_icmp_ne (pc := 26) hB 35 dX0_tellGift_26 (by decide) (fun c_3 => ?_) (fun c_3 => ?_)
      · refine gx_aload_n (pc := 35) hB dX0_tellGift_35 0 rfl ?_
        refine gx_get (pc := 36) hB dX0_tellGift_36 inX0 rfl 0 rfl 3 (by decide) tb_83 rfl rfl ?_
        refine gx_iload_n (pc := 39) hB dX0_tellGift_39 1 rfl ?_
        refine gx_iload_n (pc := 40) hB dX0_tellGift_40 2 rfl ?_
        refine gx_dVi (pc := 41) (r := gAt C x y) (wr := [(h, .inr (0, [.ref c, .ref t1, .ref t2, .ref t3, .ref t4])), (t1, .inr (3, [.ref c, .int (nI 3), .int (nI 6), .int (nI 12)])), (t2, .inr (3, [.ref c, .int (nI 76), .int (nI 8), .int (nI 7)])), (t4, .inr (3, [.ref c, .int (nI 302), .int (nI 6), .int (nI 8)]))]) hB (c_X3_at l K t3 c 133 24 7 C x y (by first | decide | (unfold tHb; decide))) mX3_at dX0_tellGift_41 tb_175 pX3_at ⟨Nat.le_of_ble_eq_true rfl, Nat.le_of_ble_eq_true rfl⟩ ⟨rfl, rfl⟩ ⟨Nat.zero_le _, Nat.zero_le _⟩ rfl (Nat.le_of_ble_eq_true rfl) [3, 5] [0, 1, 2, 4] rfl rfl (by decide) (by decide) (by decide) rfl rfl [0, 1, 2, 4, 3, 5] (by decide) (wB K h t1 t2 t3 t4 c C) rfl ?_
        refine gx_istore_n (pc := 44) hB dX0_tellGift_44 (by decide) [(3, .int (gAt C x y)), (0, .ref h), (1, .int x), (2, .int y)] rfl ?_
        refine gx_iload_n (pc := 45) hB dX0_tellGift_45 3 rfl ?_
        refine gx_bipush (pc := 46) hB dX0_tellGift_46 6 (by decide) ?_
        refine gx_icmp_ne (pc := 48) hB 61 dX0_tellGift_48 (by decide) (fun c_4 => ?_) (fun c_4 => ?_)
        · refine gx_iload_n (pc := 61) hB dX0_tellGift_61 0 rfl ?_
          have e1 : bTellG C x y = gAt C x y := by simp [bTellG, c_1, c_2, eq_false c_3, eq_false c_4]
          exact gx_iret (pc := 62) hC dX0_tellGift_62 (Nat.zero_le _) (Nat.zero_le _) (⟨by rw [e1], rfl⟩)
        · refine gx_iload_n (pc := 51) hB dX0_tellGift_51 0 rfl ?_
          refine gx_iconst (pc := 52) hB dX0_tellGift_52 (-1) (by decide) ?_
          refine gx_icmp_ne (pc := 53) hB 61 dX0_tellGift_53 (by decide) (fun c_5 => ?_) (fun c_5 => ?_)
          · refine gx_iload_n (pc := 61) hB dX0_tellGift_61 0 rfl ?_
            have e1 : bTellG C x y = gAt C x y := by simp [bTellG, c_1, c_2, eq_false c_3, eq_true c_4, eq_false c_5]
            exact gx_iret (pc := 62) hC dX0_tellGift_62 (Nat.zero_le _) (Nat.zero_le _) (⟨by rw [e1], rfl⟩)
          · refine gx_bipush (pc := 56) hB dX0_tellGift_56 (-4) (by decide) ?_
            refine gx_goto (pc := 58) hB 62 dX0_tellGift_58 (by decide) ?_
            have e1 : bTellG C x y = (-4) := by simp [bTellG, c_1, c_2, eq_false c_3, eq_true c_4, eq_true c_5]
            exact gx_iret (pc := 62) hC dX0_tellGift_62 (Nat.zero_le _) (Nat.zero_le _) (⟨by rw [e1], rfl⟩)
      · refine gx_aload_n (pc := 29) hB dX0_tellGift_29 0 rfl ?_
        refine gx_iload_n (pc := 30) hB dX0_tellGift_30 1 rfl ?_
        refine gx_dVi (pc := 31) (r := bTax C x) (wr := []) hB (c_X0_taxOf l K h t1 t2 t3 t4 c C x ) mX0_taxOf dX0_tellGift_31 tb_361 pX0_taxOf ⟨Nat.le_of_ble_eq_true rfl, Nat.le_of_ble_eq_true rfl⟩ ⟨rfl, rfl⟩ ⟨Nat.zero_le _, Nat.zero_le _⟩ rfl (Nat.le_of_ble_eq_true rfl) [0, 1, 2, 3, 4, 5] [] rfl rfl (by decide) (by decide) (by decide) rfl rfl [0, 1, 2, 3, 4, 5] (by decide) (wB K h t1 t2 t3 t4 c C) rfl ?_
        have e1 : bTellG C x y = bTax C x := by simp [bTellG, c_1, c_2, eq_true c_3]
        exact gx_iret (pc := 34) hC dX0_tellGift_34 (Nat.zero_le _) (Nat.zero_le _) (⟨by rw [e1], rfl⟩)
    · refine gx_iconst (pc := 21) hB dX0_tellGift_21 (-1) (by decide) ?_
      have e1 : bTellG C x y = (-1) := by simp [bTellG, c_1, c_2]
      exact gx_iret (pc := 22) hC dX0_tellGift_22 (Nat.zero_le _) (Nat.zero_le _) (⟨by rw [e1], rfl⟩)
theorem pX0_tellPledge : (parseMethodDescriptor yX0_tellPledge.desc).map (fun d => d.parameters.length) = some 2 := by decide +kernel
theorem mX0_tellPledge : gx_M yX0_tellPledge cX0_tellPledge 3 (some .int) := ⟨tb_509, tb_510, tb_28, tb_511, by decide, by decide⟩
set_option maxHeartbeats 4000000 in
set_option maxRecDepth 100000 in
theorem c_X0_tellPledge (l : Launch) (K : gx_K) (h t1 t2 t3 t4 c : Nat) (C : Nat → Int32) (x y : Int32)  : gx_Ctr l K yX0_tellPledge cX0_tellPledge 3 (some .int) (rmm 2 22) [.ref h, .int x, .int y] (wB K h t1 t2 t3 t4 c C) (gx_D (some (.int (bTellK C x y))) (wB K h t1 t2 t3 t4 c C)) := by
  refine gx_of (by decide) (Nat.le_of_ble_eq_true rfl) (fun G hC => ?_)
  have hB := hC.b
  refine gx_lv (lv' := [(0, .ref h), (1, .int x), (2, .int y)]) rfl ?_
  refine gx_aload_n (pc := 0) hB dX0_tellPledge_0 0 rfl ?_
  refine gx_get (pc := 1) hB dX0_tellPledge_1 inX0 rfl 0 rfl 4 (by decide) tb_84 rfl rfl ?_
  refine gx_iload_n (pc := 4) hB dX0_tellPledge_4 1 rfl ?_
  refine gx_dVi (pc := 5) (r := bI (tHas C 302 x)) (wr := [(h, .inr (0, [.ref c, .ref t1, .ref t2, .ref t3, .ref t4])), (t1, .inr (3, [.ref c, .int (nI 3), .int (nI 6), .int (nI 12)])), (t2, .inr (3, [.ref c, .int (nI 76), .int (nI 8), .int (nI 7)])), (t3, .inr (3, [.ref c, .int (nI 133), .int (nI 24), .int (nI 7)]))]) hB (c_X3_has l K t4 c 302 6 8 C x (by first | decide | (unfold tHb; decide))) mX3_has dX0_tellPledge_5 tb_164 pX3_has ⟨Nat.le_of_ble_eq_true rfl, Nat.le_of_ble_eq_true rfl⟩ ⟨rfl, rfl⟩ ⟨Nat.zero_le _, Nat.zero_le _⟩ rfl (Nat.le_of_ble_eq_true rfl) [4, 5] [0, 1, 2, 3] rfl rfl (by decide) (by decide) (by decide) rfl rfl [0, 1, 2, 3, 4, 5] (by decide) (wB K h t1 t2 t3 t4 c C) rfl ?_
  refine gx_if_eq_b (pc := 8) hB 21 dX0_tellPledge_8 (by decide) (fun c_1 => ?_) (fun c_1 => ?_)
  · refine gx_iconst (pc := 21) hB dX0_tellPledge_21 (-1) (by decide) ?_
    have e1 : bTellK C x y = (-1) := by simp [bTellK, c_1]
    exact gx_iret (pc := 22) hC dX0_tellPledge_22 (Nat.zero_le _) (Nat.zero_le _) (⟨by rw [e1], rfl⟩)
  · refine gx_iload_n (pc := 11) hB dX0_tellPledge_11 2 rfl ?_
    refine gx_iconst (pc := 12) hB dX0_tellPledge_12 0 (by decide) ?_
    refine gx_bipush (pc := 13) hB dX0_tellPledge_13 7 (by decide) ?_
    refine gx_w0 (pc := 15) (r := bI (bIn y 0 7)) hB (c_X4_within l K y 0 7 ) mX4_within dX0_tellPledge_15 ⟨Nat.le_of_ble_eq_true rfl, Nat.le_of_ble_eq_true rfl⟩ ⟨rfl, rfl⟩ ⟨Nat.zero_le _, Nat.zero_le _⟩ (Nat.le_of_ble_eq_true rfl) [0, 1, 2, 3, 4, 5] rfl (by decide) ?_
    refine gx_if_ne_b (pc := 18) hB 23 dX0_tellPledge_18 (by decide) (fun c_2 => ?_) (fun c_2 => ?_)
    · refine gx_aload_n (pc := 23) hB dX0_tellPledge_23 0 rfl ?_
      refine gx_get (pc := 24) hB dX0_tellPledge_24 inX0 rfl 0 rfl 4 (by decide) tb_84 rfl rfl ?_
      refine gx_iload_n (pc := 27) hB dX0_tellPledge_27 1 rfl ?_
      refine gx_iload_n (pc := 28) hB dX0_tellPledge_28 2 rfl ?_
      refine gx_dVi (pc := 29) (r := kAt C x y) (wr := [(h, .inr (0, [.ref c, .ref t1, .ref t2, .ref t3, .ref t4])), (t1, .inr (3, [.ref c, .int (nI 3), .int (nI 6), .int (nI 12)])), (t2, .inr (3, [.ref c, .int (nI 76), .int (nI 8), .int (nI 7)])), (t3, .inr (3, [.ref c, .int (nI 133), .int (nI 24), .int (nI 7)]))]) hB (c_X3_at l K t4 c 302 6 8 C x y (by first | decide | (unfold tHb; decide))) mX3_at dX0_tellPledge_29 tb_175 pX3_at ⟨Nat.le_of_ble_eq_true rfl, Nat.le_of_ble_eq_true rfl⟩ ⟨rfl, rfl⟩ ⟨Nat.zero_le _, Nat.zero_le _⟩ rfl (Nat.le_of_ble_eq_true rfl) [4, 5] [0, 1, 2, 3] rfl rfl (by decide) (by decide) (by decide) rfl rfl [0, 1, 2, 3, 4, 5] (by decide) (wB K h t1 t2 t3 t4 c C) rfl ?_
      have e1 : bTellK C x y = kAt C x y := by simp [bTellK, c_1, c_2]
      exact gx_iret (pc := 32) hC dX0_tellPledge_32 (Nat.zero_le _) (Nat.zero_le _) (⟨by rw [e1], rfl⟩)
    · refine gx_iconst (pc := 21) hB dX0_tellPledge_21 (-1) (by decide) ?_
      have e1 : bTellK C x y = (-1) := by simp [bTellK, c_1, c_2]
      exact gx_iret (pc := 22) hC dX0_tellPledge_22 (Nat.zero_le _) (Nat.zero_le _) (⟨by rw [e1], rfl⟩)
theorem pX0_closedPurposes : (parseMethodDescriptor yX0_closedPurposes.desc).map (fun d => d.parameters.length) = some 0 := by decide +kernel
theorem mX0_closedPurposes : gx_M yX0_closedPurposes cX0_closedPurposes 3 (some .int) := ⟨tb_206, tb_0, tb_28, tb_207, by decide, by decide⟩
set_option maxHeartbeats 4000000 in
set_option maxRecDepth 100000 in
theorem c_X0_closedPurposes (l : Launch) (K : gx_K) (h t1 t2 t3 t4 c : Nat) (C : Nat → Int32)   : gx_Ctr l K yX0_closedPurposes cX0_closedPurposes 3 (some .int) (rmm 3 43) [.ref h] (wB K h t1 t2 t3 t4 c C) (gx_D (some (.int (bShut C))) (wB K h t1 t2 t3 t4 c C)) := by
  refine gx_of (by decide) (Nat.le_of_ble_eq_true rfl) (fun G hC => ?_)
  have hB := hC.b
  refine gx_lv (lv' := [(0, .ref h)]) rfl ?_
  refine gx_iconst (pc := 0) hB dX0_closedPurposes_0 0 (by decide) ?_
  refine gx_istore_n (pc := 1) hB dX0_closedPurposes_1 (by decide) [(1, .int 0), (0, .ref h)] rfl ?_
  refine gx_iconst (pc := 2) hB dX0_closedPurposes_2 0 (by decide) ?_
  refine gx_istore_n (pc := 3) hB dX0_closedPurposes_3 (by decide) [(2, .int 0), (1, .int 0), (0, .ref h)] rfl ?_
  have loop_4 : ∀ dq i : Nat, i + dq = (C 3).toNatClampNeg → G 0 0 (wB K h t1 t2 t3 t4 c C) [(0, .ref h), (1, .int (bShutN C i)), (2, .int (nI i))] 4 [] := by
    intro dq
    induction dq with
    | zero =>
      intro i hi4
      obtain rfl : (C 3).toNatClampNeg = i := by omega
      refine gx_iload_n (pc := 4) hB dX0_closedPurposes_4 2 rfl ?_
      refine gx_aload_n (pc := 5) hB dX0_closedPurposes_5 0 rfl ?_
      refine gx_get (pc := 6) hB dX0_closedPurposes_6 inX0 rfl 0 rfl 1 (by decide) tb_81 rfl rfl ?_
      refine gx_dVi (pc := 9) (r := C 3) (wr := [(h, .inr (0, [.ref c, .ref t1, .ref t2, .ref t3, .ref t4])), (t2, .inr (3, [.ref c, .int (nI 76), .int (nI 8), .int (nI 7)])), (t3, .inr (3, [.ref c, .int (nI 133), .int (nI 24), .int (nI 7)])), (t4, .inr (3, [.ref c, .int (nI 302), .int (nI 6), .int (nI 8)]))]) hB (c_X3_size l K t1 c 3 6 12 C (by first | decide | (unfold tHb; decide))) mX3_size dX0_closedPurposes_9 tb_195 pX3_size ⟨Nat.le_of_ble_eq_true rfl, Nat.le_of_ble_eq_true rfl⟩ ⟨rfl, rfl⟩ ⟨Nat.zero_le _, Nat.zero_le _⟩ rfl (Nat.le_of_ble_eq_true rfl) [1, 5] [0, 2, 3, 4] rfl rfl (by decide) (by decide) (by decide) rfl rfl [0, 4, 1, 2, 3, 5] (by decide) (wB K h t1 t2 t3 t4 c C) rfl ?_
      refine gx_icmp_ge (pc := 12) hB 32 dX0_closedPurposes_12 (by decide) (fun c_1 => ?_) (fun c_1 => ?_)
      · refine gx_iload_n (pc := 32) hB dX0_closedPurposes_32 1 rfl ?_
        have e1 : bShut C = (bShutN C ((C 3).toNatClampNeg)) := by simp [bShut, c_1, eq_false (Int32.not_lt.mpr c_1)]
        exact gx_iret (pc := 33) hC dX0_closedPurposes_33 (Nat.zero_le _) (Nat.zero_le _) (⟨by rw [e1], rfl⟩)
      · exact absurd (lpT (x := (C 3)) hi4) c_1
    | succ dq ih4 =>
      intro i hi4
      refine gx_iload_n (pc := 4) hB dX0_closedPurposes_4 2 rfl ?_
      refine gx_aload_n (pc := 5) hB dX0_closedPurposes_5 0 rfl ?_
      refine gx_get (pc := 6) hB dX0_closedPurposes_6 inX0 rfl 0 rfl 1 (by decide) tb_81 rfl rfl ?_
      refine gx_dVi (pc := 9) (r := C 3) (wr := [(h, .inr (0, [.ref c, .ref t1, .ref t2, .ref t3, .ref t4])), (t2, .inr (3, [.ref c, .int (nI 76), .int (nI 8), .int (nI 7)])), (t3, .inr (3, [.ref c, .int (nI 133), .int (nI 24), .int (nI 7)])), (t4, .inr (3, [.ref c, .int (nI 302), .int (nI 6), .int (nI 8)]))]) hB (c_X3_size l K t1 c 3 6 12 C (by first | decide | (unfold tHb; decide))) mX3_size dX0_closedPurposes_9 tb_195 pX3_size ⟨Nat.le_of_ble_eq_true rfl, Nat.le_of_ble_eq_true rfl⟩ ⟨rfl, rfl⟩ ⟨Nat.zero_le _, Nat.zero_le _⟩ rfl (Nat.le_of_ble_eq_true rfl) [1, 5] [0, 2, 3, 4] rfl rfl (by decide) (by decide) (by decide) rfl rfl [0, 4, 1, 2, 3, 5] (by decide) (wB K h t1 t2 t3 t4 c C) rfl ?_
      refine gx_icmp_ge (pc := 12) hB 32 dX0_closedPurposes_12 (by decide) (fun c_2 => ?_) (fun c_2 => ?_)
      · exact absurd c_2 (lpF (x := (C 3)) hi4)
      · refine gx_aload_n (pc := 15) hB dX0_closedPurposes_15 0 rfl ?_
        refine gx_iload_n (pc := 16) hB dX0_closedPurposes_16 2 rfl ?_
        refine gx_dVi (pc := 17) (r := bI (bClosed C (nI i))) (wr := []) hB (c_X0_isClosed l K h t1 t2 t3 t4 c C (nI i) ) mX0_isClosed dX0_closedPurposes_17 tb_171 pX0_isClosed ⟨Nat.le_of_ble_eq_true rfl, Nat.le_of_ble_eq_true rfl⟩ ⟨rfl, rfl⟩ ⟨Nat.zero_le _, Nat.zero_le _⟩ rfl (Nat.le_of_ble_eq_true rfl) [0, 1, 2, 3, 4, 5] [] rfl rfl (by decide) (by decide) (by decide) rfl rfl [0, 1, 2, 3, 4, 5] (by decide) (wB K h t1 t2 t3 t4 c C) rfl ?_
        refine gx_if_eq_b (pc := 20) hB 26 dX0_closedPurposes_20 (by decide) (fun c_3 => ?_) (fun c_3 => ?_)
        · refine gx_iinc (pc := 26) hB dX0_closedPurposes_26 2 (by decide) rfl (nI (i + 1)) (nI_1 _) [(2, .int (nI (i + 1))), (0, .ref h), (1, .int (bShutN C i))] rfl ?_
          refine gx_goto (pc := 29) hB 4 dX0_closedPurposes_29 (by decide) ?_
          have g1 : bShutN C i = bShutN C (i + 1) := by simp [bShut, bShutN, Int32.not_le.mp c_2, eq_false c_2, c_3]
          refine gx_sub hB (lv' := [(0, .ref h), (1, .int (bShutN C i)), (2, .int (nI (i + 1)))]) [1, 2, 0] rfl ?_
          refine gx_all (ws' := wB K h t1 t2 t3 t4 c C) (lv' := [(0, .ref h), (1, .int (bShutN C (i + 1))), (2, .int (nI (i + 1)))]) (rfl) (by rw [← g1]) ?_
          exact ih4 (i + 1) (by omega)
        · refine gx_iinc (pc := 23) hB dX0_closedPurposes_23 1 (by decide) rfl (bShutN C i + 1) rfl [(1, .int (bShutN C i + 1)), (0, .ref h), (2, .int (nI i))] rfl ?_
          refine gx_iinc (pc := 26) hB dX0_closedPurposes_26 2 (by decide) rfl (nI (i + 1)) (nI_1 _) [(2, .int (nI (i + 1))), (1, .int (bShutN C i + 1)), (0, .ref h)] rfl ?_
          refine gx_goto (pc := 29) hB 4 dX0_closedPurposes_29 (by decide) ?_
          have g1 : bShutN C i + 1 = bShutN C (i + 1) := by simp [bShut, bShutN, Int32.not_le.mp c_2, eq_false c_2, c_3]
          refine gx_sub hB (lv' := [(0, .ref h), (1, .int (bShutN C i + 1)), (2, .int (nI (i + 1)))]) [2, 1, 0] rfl ?_
          refine gx_all (ws' := wB K h t1 t2 t3 t4 c C) (lv' := [(0, .ref h), (1, .int (bShutN C (i + 1))), (2, .int (nI (i + 1)))]) (rfl) (by rw [← g1]) ?_
          exact ih4 (i + 1) (by omega)
  refine gx_sub hB (lv' := [(0, .ref h), (1, .int 0), (2, .int 0)]) [2, 1, 0] rfl ?_
  refine gx_all (ws' := wB K h t1 t2 t3 t4 c C) (lv' := [(0, .ref h), (1, .int (bShutN C 0)), (2, .int (nI 0))]) (rfl) (rfl) ?_
  exact loop_4 ((C 3).toNatClampNeg) 0 (by omega)
theorem pX0_tellNumber : (parseMethodDescriptor yX0_tellNumber.desc).map (fun d => d.parameters.length) = some 1 := by decide +kernel
theorem mX0_tellNumber : gx_M yX0_tellNumber cX0_tellNumber 2 (some .int) := ⟨tb_192, tb_193, tb_28, tb_194, by decide, by decide⟩
set_option maxHeartbeats 4000000 in
set_option maxRecDepth 100000 in
theorem c_X0_tellNumber (l : Launch) (K : gx_K) (h t1 t2 t3 t4 c : Nat) (C : Nat → Int32) (x : Int32)  : gx_Ctr l K yX0_tellNumber cX0_tellNumber 2 (some .int) (rmm 4 65) [.ref h, .int x] (wB K h t1 t2 t3 t4 c C) (gx_D (some (.int (bTellN C x))) (wB K h t1 t2 t3 t4 c C)) := by
  refine gx_of (by decide) (Nat.le_of_ble_eq_true rfl) (fun G hC => ?_)
  have hB := hC.b
  refine gx_lv (lv' := [(0, .ref h), (1, .int x)]) rfl ?_
  refine gx_iload_n (pc := 0) hB dX0_tellNumber_0 1 rfl ?_
  by_cases c_1 : x = 0
  · refine gx_top c_1 ?_
    refine gx_tableIn (pc := 1) hB 76 dX0_tellNumber_1 (by decide) (by decide) rfl (by decide) ?_
    have s_1 := c_1
    refine gx_aload_n (pc := 76) hB dX0_tellNumber_76 0 rfl ?_
    refine gx_get (pc := 77) hB dX0_tellNumber_77 inX0 rfl 0 rfl 1 (by decide) tb_81 rfl rfl ?_
    refine gx_dVi (pc := 80) (r := C 3) (wr := [(h, .inr (0, [.ref c, .ref t1, .ref t2, .ref t3, .ref t4])), (t2, .inr (3, [.ref c, .int (nI 76), .int (nI 8), .int (nI 7)])), (t3, .inr (3, [.ref c, .int (nI 133), .int (nI 24), .int (nI 7)])), (t4, .inr (3, [.ref c, .int (nI 302), .int (nI 6), .int (nI 8)]))]) hB (c_X3_size l K t1 c 3 6 12 C (by first | decide | (unfold tHb; decide))) mX3_size dX0_tellNumber_80 tb_195 pX3_size ⟨Nat.le_of_ble_eq_true rfl, Nat.le_of_ble_eq_true rfl⟩ ⟨rfl, rfl⟩ ⟨Nat.zero_le _, Nat.zero_le _⟩ rfl (Nat.le_of_ble_eq_true rfl) [1, 5] [0, 2, 3, 4] rfl rfl (by decide) (by decide) (by decide) rfl rfl [0, 4, 1, 2, 3, 5] (by decide) (wB K h t1 t2 t3 t4 c C) rfl ?_
    have e1 : bTellN C x = C 3 := by simp [bTellN, s_1]
    exact gx_iret (pc := 83) hC dX0_tellNumber_83 (Nat.zero_le _) (Nat.zero_le _) (⟨by rw [e1], rfl⟩)
  by_cases c_2 : x = 1
  · refine gx_top c_2 ?_
    refine gx_tableIn (pc := 1) hB 84 dX0_tellNumber_1 (by decide) (by decide) rfl (by decide) ?_
    have s_2 := c_2
    refine gx_aload_n (pc := 84) hB dX0_tellNumber_84 0 rfl ?_
    refine gx_get (pc := 85) hB dX0_tellNumber_85 inX0 rfl 0 rfl 2 (by decide) tb_82 rfl rfl ?_
    refine gx_dVi (pc := 88) (r := C 76) (wr := [(h, .inr (0, [.ref c, .ref t1, .ref t2, .ref t3, .ref t4])), (t1, .inr (3, [.ref c, .int (nI 3), .int (nI 6), .int (nI 12)])), (t3, .inr (3, [.ref c, .int (nI 133), .int (nI 24), .int (nI 7)])), (t4, .inr (3, [.ref c, .int (nI 302), .int (nI 6), .int (nI 8)]))]) hB (c_X3_size l K t2 c 76 8 7 C (by first | decide | (unfold tHb; decide))) mX3_size dX0_tellNumber_88 tb_195 pX3_size ⟨Nat.le_of_ble_eq_true rfl, Nat.le_of_ble_eq_true rfl⟩ ⟨rfl, rfl⟩ ⟨Nat.zero_le _, Nat.zero_le _⟩ rfl (Nat.le_of_ble_eq_true rfl) [2, 5] [0, 1, 3, 4] rfl rfl (by decide) (by decide) (by decide) rfl rfl [0, 1, 4, 2, 3, 5] (by decide) (wB K h t1 t2 t3 t4 c C) rfl ?_
    have e1 : bTellN C x = C 76 := by simp [bTellN, eq_false c_1, s_2]
    exact gx_iret (pc := 91) hC dX0_tellNumber_91 (Nat.zero_le _) (Nat.zero_le _) (⟨by rw [e1], rfl⟩)
  by_cases c_3 : x = 2
  · refine gx_top c_3 ?_
    refine gx_tableIn (pc := 1) hB 92 dX0_tellNumber_1 (by decide) (by decide) rfl (by decide) ?_
    have s_3 := c_3
    refine gx_aload_n (pc := 92) hB dX0_tellNumber_92 0 rfl ?_
    refine gx_get (pc := 93) hB dX0_tellNumber_93 inX0 rfl 0 rfl 3 (by decide) tb_83 rfl rfl ?_
    refine gx_dVi (pc := 96) (r := C 133) (wr := [(h, .inr (0, [.ref c, .ref t1, .ref t2, .ref t3, .ref t4])), (t1, .inr (3, [.ref c, .int (nI 3), .int (nI 6), .int (nI 12)])), (t2, .inr (3, [.ref c, .int (nI 76), .int (nI 8), .int (nI 7)])), (t4, .inr (3, [.ref c, .int (nI 302), .int (nI 6), .int (nI 8)]))]) hB (c_X3_size l K t3 c 133 24 7 C (by first | decide | (unfold tHb; decide))) mX3_size dX0_tellNumber_96 tb_195 pX3_size ⟨Nat.le_of_ble_eq_true rfl, Nat.le_of_ble_eq_true rfl⟩ ⟨rfl, rfl⟩ ⟨Nat.zero_le _, Nat.zero_le _⟩ rfl (Nat.le_of_ble_eq_true rfl) [3, 5] [0, 1, 2, 4] rfl rfl (by decide) (by decide) (by decide) rfl rfl [0, 1, 2, 4, 3, 5] (by decide) (wB K h t1 t2 t3 t4 c C) rfl ?_
    have e1 : bTellN C x = C 133 := by simp [bTellN, eq_false c_1, eq_false c_2, s_3]
    exact gx_iret (pc := 99) hC dX0_tellNumber_99 (Nat.zero_le _) (Nat.zero_le _) (⟨by rw [e1], rfl⟩)
  by_cases c_4 : x = 3
  · refine gx_top c_4 ?_
    refine gx_tableIn (pc := 1) hB 100 dX0_tellNumber_1 (by decide) (by decide) rfl (by decide) ?_
    have s_4 := c_4
    refine gx_aload_n (pc := 100) hB dX0_tellNumber_100 0 rfl ?_
    refine gx_get (pc := 101) hB dX0_tellNumber_101 inX0 rfl 0 rfl 4 (by decide) tb_84 rfl rfl ?_
    refine gx_dVi (pc := 104) (r := C 302) (wr := [(h, .inr (0, [.ref c, .ref t1, .ref t2, .ref t3, .ref t4])), (t1, .inr (3, [.ref c, .int (nI 3), .int (nI 6), .int (nI 12)])), (t2, .inr (3, [.ref c, .int (nI 76), .int (nI 8), .int (nI 7)])), (t3, .inr (3, [.ref c, .int (nI 133), .int (nI 24), .int (nI 7)]))]) hB (c_X3_size l K t4 c 302 6 8 C (by first | decide | (unfold tHb; decide))) mX3_size dX0_tellNumber_104 tb_195 pX3_size ⟨Nat.le_of_ble_eq_true rfl, Nat.le_of_ble_eq_true rfl⟩ ⟨rfl, rfl⟩ ⟨Nat.zero_le _, Nat.zero_le _⟩ rfl (Nat.le_of_ble_eq_true rfl) [4, 5] [0, 1, 2, 3] rfl rfl (by decide) (by decide) (by decide) rfl rfl [0, 1, 2, 3, 4, 5] (by decide) (wB K h t1 t2 t3 t4 c C) rfl ?_
    have e1 : bTellN C x = C 302 := by simp [bTellN, eq_false c_1, eq_false c_2, eq_false c_3, s_4]
    exact gx_iret (pc := 107) hC dX0_tellNumber_107 (Nat.zero_le _) (Nat.zero_le _) (⟨by rw [e1], rfl⟩)
  by_cases c_5 : x = 4
  · refine gx_top c_5 ?_
    refine gx_tableIn (pc := 1) hB 108 dX0_tellNumber_1 (by decide) (by decide) rfl (by decide) ?_
    have s_5 := c_5
    refine gx_aload_n (pc := 108) hB dX0_tellNumber_108 0 rfl ?_
    refine gx_get (pc := 109) hB dX0_tellNumber_109 inX0 rfl 0 rfl 0 (by decide) tb_80 rfl rfl ?_
    refine gx_iconst (pc := 112) hB dX0_tellNumber_112 0 (by decide) ?_
    refine gx_iald (pc := 113) hB dX0_tellNumber_113 5 1 rfl rfl 0 rfl (by decide) (by decide) ?_
    have e1 : bTellN C x = C 0 := by simp [bTellN, eq_false c_1, eq_false c_2, eq_false c_3, eq_false c_4, s_5]
    exact gx_iret (pc := 114) hC dX0_tellNumber_114 (Nat.zero_le _) (Nat.zero_le _) (⟨by rw [e1], rfl⟩)
  by_cases c_6 : x = 5
  · refine gx_top c_6 ?_
    refine gx_tableIn (pc := 1) hB 115 dX0_tellNumber_1 (by decide) (by decide) rfl (by decide) ?_
    have s_6 := c_6
    refine gx_aload_n (pc := 115) hB dX0_tellNumber_115 0 rfl ?_
    refine gx_get (pc := 116) hB dX0_tellNumber_116 inX0 rfl 0 rfl 1 (by decide) tb_81 rfl rfl ?_
    refine gx_iconst (pc := 119) hB dX0_tellNumber_119 0 (by decide) ?_
    refine gx_dVi (pc := 120) (r := tSum C 3 6 12 0) (wr := [(h, .inr (0, [.ref c, .ref t1, .ref t2, .ref t3, .ref t4])), (t2, .inr (3, [.ref c, .int (nI 76), .int (nI 8), .int (nI 7)])), (t3, .inr (3, [.ref c, .int (nI 133), .int (nI 24), .int (nI 7)])), (t4, .inr (3, [.ref c, .int (nI 302), .int (nI 6), .int (nI 8)]))]) hB (c_X3_sumOf l K t1 c 3 6 12 C 0 (by first | decide | (unfold tHb; decide))) mX3_sumOf dX0_tellNumber_120 tb_199 pX3_sumOf ⟨Nat.le_of_ble_eq_true rfl, Nat.le_of_ble_eq_true rfl⟩ ⟨rfl, rfl⟩ ⟨Nat.zero_le _, Nat.zero_le _⟩ rfl (Nat.le_of_ble_eq_true rfl) [1, 5] [0, 2, 3, 4] rfl rfl (by decide) (by decide) (by decide) rfl rfl [0, 4, 1, 2, 3, 5] (by decide) (wB K h t1 t2 t3 t4 c C) rfl ?_
    have e1 : bTellN C x = tSum C 3 6 12 0 := by simp [bTellN, eq_false c_1, eq_false c_2, eq_false c_3, eq_false c_4, eq_false c_5, s_6]
    exact gx_iret (pc := 123) hC dX0_tellNumber_123 (Nat.zero_le _) (Nat.zero_le _) (⟨by rw [e1], rfl⟩)
  by_cases c_7 : x = 6
  · refine gx_top c_7 ?_
    refine gx_tableIn (pc := 1) hB 124 dX0_tellNumber_1 (by decide) (by decide) rfl (by decide) ?_
    have s_7 := c_7
    refine gx_aload_n (pc := 124) hB dX0_tellNumber_124 0 rfl ?_
    refine gx_get (pc := 125) hB dX0_tellNumber_125 inX0 rfl 0 rfl 1 (by decide) tb_81 rfl rfl ?_
    refine gx_iconst (pc := 128) hB dX0_tellNumber_128 3 (by decide) ?_
    refine gx_dVi (pc := 129) (r := tSum C 3 6 12 3) (wr := [(h, .inr (0, [.ref c, .ref t1, .ref t2, .ref t3, .ref t4])), (t2, .inr (3, [.ref c, .int (nI 76), .int (nI 8), .int (nI 7)])), (t3, .inr (3, [.ref c, .int (nI 133), .int (nI 24), .int (nI 7)])), (t4, .inr (3, [.ref c, .int (nI 302), .int (nI 6), .int (nI 8)]))]) hB (c_X3_sumOf l K t1 c 3 6 12 C 3 (by first | decide | (unfold tHb; decide))) mX3_sumOf dX0_tellNumber_129 tb_199 pX3_sumOf ⟨Nat.le_of_ble_eq_true rfl, Nat.le_of_ble_eq_true rfl⟩ ⟨rfl, rfl⟩ ⟨Nat.zero_le _, Nat.zero_le _⟩ rfl (Nat.le_of_ble_eq_true rfl) [1, 5] [0, 2, 3, 4] rfl rfl (by decide) (by decide) (by decide) rfl rfl [0, 4, 1, 2, 3, 5] (by decide) (wB K h t1 t2 t3 t4 c C) rfl ?_
    have e1 : bTellN C x = tSum C 3 6 12 3 := by simp [bTellN, eq_false c_1, eq_false c_2, eq_false c_3, eq_false c_4, eq_false c_5, eq_false c_6, s_7]
    exact gx_iret (pc := 132) hC dX0_tellNumber_132 (Nat.zero_le _) (Nat.zero_le _) (⟨by rw [e1], rfl⟩)
  by_cases c_8 : x = 7
  · refine gx_top c_8 ?_
    refine gx_tableIn (pc := 1) hB 133 dX0_tellNumber_1 (by decide) (by decide) rfl (by decide) ?_
    have s_8 := c_8
    refine gx_aload_n (pc := 133) hB dX0_tellNumber_133 0 rfl ?_
    refine gx_get (pc := 134) hB dX0_tellNumber_134 inX0 rfl 0 rfl 1 (by decide) tb_81 rfl rfl ?_
    refine gx_iconst (pc := 137) hB dX0_tellNumber_137 2 (by decide) ?_
    refine gx_dVi (pc := 138) (r := tSum C 3 6 12 2) (wr := [(h, .inr (0, [.ref c, .ref t1, .ref t2, .ref t3, .ref t4])), (t2, .inr (3, [.ref c, .int (nI 76), .int (nI 8), .int (nI 7)])), (t3, .inr (3, [.ref c, .int (nI 133), .int (nI 24), .int (nI 7)])), (t4, .inr (3, [.ref c, .int (nI 302), .int (nI 6), .int (nI 8)]))]) hB (c_X3_sumOf l K t1 c 3 6 12 C 2 (by first | decide | (unfold tHb; decide))) mX3_sumOf dX0_tellNumber_138 tb_199 pX3_sumOf ⟨Nat.le_of_ble_eq_true rfl, Nat.le_of_ble_eq_true rfl⟩ ⟨rfl, rfl⟩ ⟨Nat.zero_le _, Nat.zero_le _⟩ rfl (Nat.le_of_ble_eq_true rfl) [1, 5] [0, 2, 3, 4] rfl rfl (by decide) (by decide) (by decide) rfl rfl [0, 4, 1, 2, 3, 5] (by decide) (wB K h t1 t2 t3 t4 c C) rfl ?_
    have e1 : bTellN C x = tSum C 3 6 12 2 := by simp [bTellN, eq_false c_1, eq_false c_2, eq_false c_3, eq_false c_4, eq_false c_5, eq_false c_6, eq_false c_7, s_8]
    exact gx_iret (pc := 141) hC dX0_tellNumber_141 (Nat.zero_le _) (Nat.zero_le _) (⟨by rw [e1], rfl⟩)
  by_cases c_9 : x = 8
  · refine gx_top c_9 ?_
    refine gx_tableIn (pc := 1) hB 142 dX0_tellNumber_1 (by decide) (by decide) rfl (by decide) ?_
    have s_9 := c_9
    refine gx_aload_n (pc := 142) hB dX0_tellNumber_142 0 rfl ?_
    refine gx_get (pc := 143) hB dX0_tellNumber_143 inX0 rfl 0 rfl 1 (by decide) tb_81 rfl rfl ?_
    refine gx_bipush (pc := 146) hB dX0_tellNumber_146 6 (by decide) ?_
    refine gx_dVi (pc := 148) (r := tSum C 3 6 12 6) (wr := [(h, .inr (0, [.ref c, .ref t1, .ref t2, .ref t3, .ref t4])), (t2, .inr (3, [.ref c, .int (nI 76), .int (nI 8), .int (nI 7)])), (t3, .inr (3, [.ref c, .int (nI 133), .int (nI 24), .int (nI 7)])), (t4, .inr (3, [.ref c, .int (nI 302), .int (nI 6), .int (nI 8)]))]) hB (c_X3_sumOf l K t1 c 3 6 12 C 6 (by first | decide | (unfold tHb; decide))) mX3_sumOf dX0_tellNumber_148 tb_199 pX3_sumOf ⟨Nat.le_of_ble_eq_true rfl, Nat.le_of_ble_eq_true rfl⟩ ⟨rfl, rfl⟩ ⟨Nat.zero_le _, Nat.zero_le _⟩ rfl (Nat.le_of_ble_eq_true rfl) [1, 5] [0, 2, 3, 4] rfl rfl (by decide) (by decide) (by decide) rfl rfl [0, 4, 1, 2, 3, 5] (by decide) (wB K h t1 t2 t3 t4 c C) rfl ?_
    have e1 : bTellN C x = tSum C 3 6 12 6 := by simp [bTellN, eq_false c_1, eq_false c_2, eq_false c_3, eq_false c_4, eq_false c_5, eq_false c_6, eq_false c_7, eq_false c_8, s_9]
    exact gx_iret (pc := 151) hC dX0_tellNumber_151 (Nat.zero_le _) (Nat.zero_le _) (⟨by rw [e1], rfl⟩)
  by_cases c_10 : x = 9
  · refine gx_top c_10 ?_
    refine gx_tableIn (pc := 1) hB 152 dX0_tellNumber_1 (by decide) (by decide) rfl (by decide) ?_
    have s_10 := c_10
    refine gx_aload_n (pc := 152) hB dX0_tellNumber_152 0 rfl ?_
    refine gx_get (pc := 153) hB dX0_tellNumber_153 inX0 rfl 0 rfl 1 (by decide) tb_81 rfl rfl ?_
    refine gx_iconst (pc := 156) hB dX0_tellNumber_156 5 (by decide) ?_
    refine gx_dVi (pc := 157) (r := tSum C 3 6 12 5) (wr := [(h, .inr (0, [.ref c, .ref t1, .ref t2, .ref t3, .ref t4])), (t2, .inr (3, [.ref c, .int (nI 76), .int (nI 8), .int (nI 7)])), (t3, .inr (3, [.ref c, .int (nI 133), .int (nI 24), .int (nI 7)])), (t4, .inr (3, [.ref c, .int (nI 302), .int (nI 6), .int (nI 8)]))]) hB (c_X3_sumOf l K t1 c 3 6 12 C 5 (by first | decide | (unfold tHb; decide))) mX3_sumOf dX0_tellNumber_157 tb_199 pX3_sumOf ⟨Nat.le_of_ble_eq_true rfl, Nat.le_of_ble_eq_true rfl⟩ ⟨rfl, rfl⟩ ⟨Nat.zero_le _, Nat.zero_le _⟩ rfl (Nat.le_of_ble_eq_true rfl) [1, 5] [0, 2, 3, 4] rfl rfl (by decide) (by decide) (by decide) rfl rfl [0, 4, 1, 2, 3, 5] (by decide) (wB K h t1 t2 t3 t4 c C) rfl ?_
    have e1 : bTellN C x = tSum C 3 6 12 5 := by simp [bTellN, eq_false c_1, eq_false c_2, eq_false c_3, eq_false c_4, eq_false c_5, eq_false c_6, eq_false c_7, eq_false c_8, eq_false c_9, s_10]
    exact gx_iret (pc := 160) hC dX0_tellNumber_160 (Nat.zero_le _) (Nat.zero_le _) (⟨by rw [e1], rfl⟩)
  by_cases c_11 : x = 10
  · refine gx_top c_11 ?_
    refine gx_tableIn (pc := 1) hB 161 dX0_tellNumber_1 (by decide) (by decide) rfl (by decide) ?_
    have s_11 := c_11
    refine gx_aload_n (pc := 161) hB dX0_tellNumber_161 0 rfl ?_
    refine gx_dVi (pc := 162) (r := bShut C) (wr := []) hB (c_X0_closedPurposes l K h t1 t2 t3 t4 c C ) mX0_closedPurposes dX0_tellNumber_162 tb_204 pX0_closedPurposes ⟨Nat.le_of_ble_eq_true rfl, Nat.le_of_ble_eq_true rfl⟩ ⟨rfl, rfl⟩ ⟨Nat.zero_le _, Nat.zero_le _⟩ rfl (Nat.le_of_ble_eq_true rfl) [0, 1, 2, 3, 4, 5] [] rfl rfl (by decide) (by decide) (by decide) rfl rfl [0, 1, 2, 3, 4, 5] (by decide) (wB K h t1 t2 t3 t4 c C) rfl ?_
    have e1 : bTellN C x = bShut C := by simp [bTellN, eq_false c_1, eq_false c_2, eq_false c_3, eq_false c_4, eq_false c_5, eq_false c_6, eq_false c_7, eq_false c_8, eq_false c_9, eq_false c_10, s_11]
    exact gx_iret (pc := 165) hC dX0_tellNumber_165 (Nat.zero_le _) (Nat.zero_le _) (⟨by rw [e1], rfl⟩)
  by_cases c_12 : x = 11
  · refine gx_top c_12 ?_
    refine gx_tableIn (pc := 1) hB 180 dX0_tellNumber_1 (by decide) (by decide) rfl (by decide) ?_
    have s_12 := c_12
    refine gx_iconst (pc := 180) hB dX0_tellNumber_180 (-1) (by decide) ?_
    have e1 : bTellN C x = (-1) := by simp [bTellN, eq_false c_1, eq_false c_2, eq_false c_3, eq_false c_4, eq_false c_5, eq_false c_6, eq_false c_7, eq_false c_8, eq_false c_9, eq_false c_10, eq_false c_11, s_12]
    exact gx_iret (pc := 181) hC dX0_tellNumber_181 (Nat.zero_le _) (Nat.zero_le _) (⟨by rw [e1], rfl⟩)
  by_cases c_13 : x = 12
  · refine gx_top c_13 ?_
    refine gx_tableIn (pc := 1) hB 180 dX0_tellNumber_1 (by decide) (by decide) rfl (by decide) ?_
    have s_13 := c_13
    refine gx_iconst (pc := 180) hB dX0_tellNumber_180 (-1) (by decide) ?_
    have e1 : bTellN C x = (-1) := by simp [bTellN, eq_false c_1, eq_false c_2, eq_false c_3, eq_false c_4, eq_false c_5, eq_false c_6, eq_false c_7, eq_false c_8, eq_false c_9, eq_false c_10, eq_false c_11, eq_false c_12, s_13]
    exact gx_iret (pc := 181) hC dX0_tellNumber_181 (Nat.zero_le _) (Nat.zero_le _) (⟨by rw [e1], rfl⟩)
  by_cases c_14 : x = 13
  · refine gx_top c_14 ?_
    refine gx_tableIn (pc := 1) hB 166 dX0_tellNumber_1 (by decide) (by decide) rfl (by decide) ?_
    have s_14 := c_14
    refine gx_aload_n (pc := 166) hB dX0_tellNumber_166 0 rfl ?_
    refine gx_get (pc := 167) hB dX0_tellNumber_167 inX0 rfl 0 rfl 0 (by decide) tb_80 rfl rfl ?_
    refine gx_iconst (pc := 170) hB dX0_tellNumber_170 1 (by decide) ?_
    refine gx_iald (pc := 171) hB dX0_tellNumber_171 5 1 rfl rfl 1 rfl (by decide) (by decide) ?_
    have e1 : bTellN C x = C 1 := by simp [bTellN, eq_false c_1, eq_false c_2, eq_false c_3, eq_false c_4, eq_false c_5, eq_false c_6, eq_false c_7, eq_false c_8, eq_false c_9, eq_false c_10, eq_false c_11, eq_false c_12, eq_false c_13, s_14]
    exact gx_iret (pc := 172) hC dX0_tellNumber_172 (Nat.zero_le _) (Nat.zero_le _) (⟨by rw [e1], rfl⟩)
  by_cases c_15 : x = 14
  · refine gx_top c_15 ?_
    refine gx_tableIn (pc := 1) hB 173 dX0_tellNumber_1 (by decide) (by decide) rfl (by decide) ?_
    have s_15 := c_15
    refine gx_aload_n (pc := 173) hB dX0_tellNumber_173 0 rfl ?_
    refine gx_get (pc := 174) hB dX0_tellNumber_174 inX0 rfl 0 rfl 0 (by decide) tb_80 rfl rfl ?_
    refine gx_iconst (pc := 177) hB dX0_tellNumber_177 2 (by decide) ?_
    refine gx_iald (pc := 178) hB dX0_tellNumber_178 5 1 rfl rfl 2 rfl (by decide) (by decide) ?_
    have e1 : bTellN C x = C 2 := by simp [bTellN, eq_false c_1, eq_false c_2, eq_false c_3, eq_false c_4, eq_false c_5, eq_false c_6, eq_false c_7, eq_false c_8, eq_false c_9, eq_false c_10, eq_false c_11, eq_false c_12, eq_false c_13, eq_false c_14, s_15]
    exact gx_iret (pc := 179) hC dX0_tellNumber_179 (Nat.zero_le _) (Nat.zero_le _) (⟨by rw [e1], rfl⟩)
  have hout : (x).toInt < 0 ∨ 14 < (x).toInt := by
    have zc_1 : (x).toInt ≠ 0 := fun q => c_1 (Int32.toInt_inj.mp q)
    have zc_2 : (x).toInt ≠ 1 := fun q => c_2 (Int32.toInt_inj.mp q)
    have zc_3 : (x).toInt ≠ 2 := fun q => c_3 (Int32.toInt_inj.mp q)
    have zc_4 : (x).toInt ≠ 3 := fun q => c_4 (Int32.toInt_inj.mp q)
    have zc_5 : (x).toInt ≠ 4 := fun q => c_5 (Int32.toInt_inj.mp q)
    have zc_6 : (x).toInt ≠ 5 := fun q => c_6 (Int32.toInt_inj.mp q)
    have zc_7 : (x).toInt ≠ 6 := fun q => c_7 (Int32.toInt_inj.mp q)
    have zc_8 : (x).toInt ≠ 7 := fun q => c_8 (Int32.toInt_inj.mp q)
    have zc_9 : (x).toInt ≠ 8 := fun q => c_9 (Int32.toInt_inj.mp q)
    have zc_10 : (x).toInt ≠ 9 := fun q => c_10 (Int32.toInt_inj.mp q)
    have zc_11 : (x).toInt ≠ 10 := fun q => c_11 (Int32.toInt_inj.mp q)
    have zc_12 : (x).toInt ≠ 11 := fun q => c_12 (Int32.toInt_inj.mp q)
    have zc_13 : (x).toInt ≠ 12 := fun q => c_13 (Int32.toInt_inj.mp q)
    have zc_14 : (x).toInt ≠ 13 := fun q => c_14 (Int32.toInt_inj.mp q)
    have zc_15 : (x).toInt ≠ 14 := fun q => c_15 (Int32.toInt_inj.mp q)
    omega
  refine gx_tableOut (pc := 1) hB 180 dX0_tellNumber_1 hout (by decide) ?_
  refine gx_iconst (pc := 180) hB dX0_tellNumber_180 (-1) (by decide) ?_
  have e1 : bTellN C x = (-1) := by simp [bTellN, eq_false c_1, eq_false c_2, eq_false c_3, eq_false c_4, eq_false c_5, eq_false c_6, eq_false c_7, eq_false c_8, eq_false c_9, eq_false c_10, eq_false c_11, eq_false c_12, eq_false c_13, eq_false c_14, eq_false c_15]
  exact gx_iret (pc := 181) hC dX0_tellNumber_181 (Nat.zero_le _) (Nat.zero_le _) (⟨by rw [e1], rfl⟩)
theorem pX0_saveTo : (parseMethodDescriptor yX0_saveTo.desc).map (fun d => d.parameters.length) = some 1 := by decide +kernel
theorem mX0_saveTo : gx_M yX0_saveTo cX0_saveTo 2 none := ⟨tb_232, tb_233, tb_28, tb_234, by decide, by decide⟩
set_option maxHeartbeats 4000000 in
set_option maxRecDepth 100000 in
theorem c_X0_saveTo (l : Launch) (K : gx_K) (h t1 t2 t3 t4 c r : Nat) (C F : Nat → Int32)  : gx_Ctr l K yX0_saveTo cX0_saveTo 2 none (rmm 1 60) [.ref h, .ref r] (wBr K h t1 t2 t3 t4 c r C F) (gx_D none (wBr K h t1 t2 t3 t4 c r C C)) := by
  refine gx_of (by decide) (Nat.le_of_ble_eq_true rfl) (fun G hC => ?_)
  have hB := hC.b
  refine gx_lv (lv' := [(0, .ref h), (1, .ref r)]) rfl ?_
  refine gx_aload_n (pc := 0) hB dX0_saveTo_0 0 rfl ?_
  refine gx_get (pc := 1) hB dX0_saveTo_1 inX0 rfl 0 rfl 0 (by decide) tb_80 rfl rfl ?_
  refine gx_iconst (pc := 4) hB dX0_saveTo_4 0 (by decide) ?_
  refine gx_aload_n (pc := 5) hB dX0_saveTo_5 1 rfl ?_
  refine gx_iconst (pc := 6) hB dX0_saveTo_6 0 (by decide) ?_
  refine gx_sipush (pc := 7) hB dX0_saveTo_7 351 (by decide) ?_
  refine gx_copyi (pc := 10) hB dX0_saveTo_10 tb_235 tb_237 tb_236 tb_32 1 2 1 rfl rfl rfl 351 rfl (by decide) (by decide) (by decide) (by decide) (by decide) (wBr K h t1 t2 t3 t4 c r C (va_cpy C F 0 0 351)) rfl ?_
  refine gx_arr hB 2 rfl C gx_cpyeq (wBr K h t1 t2 t3 t4 c r C C) rfl ?_
  exact gx_vret (pc := 13) hC dX0_saveTo_13 (Nat.zero_le _) (Nat.zero_le _) (⟨rfl, rfl⟩)