/-! What an act ends in: true, and the class and the law's house beside each other. -/
def pL (K : gx_K) (ad : Nat → Nat) (ug uf ud uh uv uj uq : Nat) : Option Value → va_W → Prop := fun v w => v = some (.int 1) ∧ ∃ (C : Nat → Int32) (R : Nat → Nat → Int32) (od sn : Nat) (G F D H V J Q : Nat → Int32), w = wZ K ad C R od sn ++ [(ug, .inl (K.2.1.2.1, 8, .inl G)), (uf, .inl (K.2.1.2.1, 60, .inl F)), (ud, .inl (K.2.1.2.1, 56, .inl D)), (uh, .inl (K.2.1.2.1, 48, .inl H)), (uv, .inl (K.2.1.2.1, 48, .inl V)), (uj, .inl (K.2.1.2.1, 48, .inl J)), (uq, .inl (K.2.1.2.1, 48, .inl Q))] ∧ LI C G F D H V J Q od sn
theorem pL_comes : (parseMethodDescriptor yL_comes.desc).map (fun d => d.parameters.length) = some 10 := by decide +kernel
theorem mL_comes : gx_MS yL_comes cL_comes 15 (some .boolean) := ⟨tb_221, tb_26, tb_222, by decide, by decide⟩
set_option maxHeartbeats 4000000 in
set_option maxRecDepth 100000 in
theorem c_L_comes (l : Launch) (K : gx_K) (ad : Nat → Nat) (ug uf ud uh uv uj uq : Nat) (C : Nat → Int32) (R : Nat → Nat → Int32) (od sn : Nat) (G F D H V J Q S : Nat → Int32) (a b c e : Nat) (way : Int32) (y : Nat) (h0 : LJ C G F D H V J Q S a b c e od sn) (h1 : y < 10000000) : gx_Ctr l K yL_comes cL_comes 15 (some .boolean) (rmm 5 126) [.ref (ad 0), .ref ug, .ref uf, .ref ud, .ref uh, .ref uv, .ref uj, .ref uq, .int way, .int (nI y)] ((wZ K ad C R od sn ++ [(ug, .inl (K.2.1.2.1, 8, .inl G)), (uf, .inl (K.2.1.2.1, 60, .inl F)), (ud, .inl (K.2.1.2.1, 56, .inl D)), (uh, .inl (K.2.1.2.1, 48, .inl H)), (uv, .inl (K.2.1.2.1, 48, .inl V)), (uj, .inl (K.2.1.2.1, 48, .inl J)), (uq, .inl (K.2.1.2.1, 48, .inl Q))])) (pL K ad ug uf ud uh uv uj uq) := by
  refine gx_of (by decide) (Nat.le_of_ble_eq_true rfl) (fun GG hC => ?_)
  have hB := hC.b
  refine gx_lv (lv' := [(0, .ref (ad 0)), (1, .ref ug), (2, .ref uf), (3, .ref ud), (4, .ref uh), (5, .ref uv), (6, .ref uj), (7, .ref uq), (8, .int way), (9, .int (nI y))]) rfl ?_
  have hb := LJ_b h0
  have ho := h0.2.2.2.2.1
  have hsn := h0.2.2.2.2.2
  refine gx_iload (pc := 0) hB dL_comes_0 8 rfl ?_
  refine gx_if_ne (pc := 2) hB 93 dL_comes_2 (by decide) (fun c_1 => ?_) (fun c_1 => ?_)
  · refine gx_iload (pc := 93) hB dL_comes_93 8 rfl ?_
    refine gx_iconst (pc := 95) hB dL_comes_95 1 (by decide) ?_
    refine gx_icmp_eq (pc := 96) hB 105 dL_comes_96 (by decide) (fun c_2 => ?_) (fun c_2 => ?_)
    · refine gx_aload_n (pc := 105) hB dL_comes_105 1 rfl ?_
      refine gx_iconst (pc := 106) hB dL_comes_106 3 (by decide) ?_
      refine gx_iald (pc := 107) hB dL_comes_107 23 1 rfl rfl 3 rfl (by decide) (by decide) ?_
      refine gx_top (show G 3 = nI b from h0.2.1.1.2.2.2.1) ?_
      refine gx_bipush (pc := 108) hB dL_comes_108 8 (by decide) ?_
      refine gx_icmp_ne (pc := 110) hB 128 dL_comes_110 (by decide) (fun c_3 => ?_) (fun c_3 => ?_)
      · have hbl : b < 8 := nI_ne (n := 8) c_3 (by omega)
        refine gx_iconst (pc := 128) hB dL_comes_128 0 (by decide) ?_
        refine gx_istore (pc := 129) hB dL_comes_129 (by decide) [(10, .int 0), (0, .ref (ad 0)), (1, .ref ug), (2, .ref uf), (3, .ref ud), (4, .ref uh), (5, .ref uv), (6, .ref uj), (7, .ref uq), (8, .int way), (9, .int (nI y))] rfl ?_
        have loop_131 : ∀ (dq i : Nat) (D1 : Nat → Int32), i + dq = 7 → (D1 = rowD D b i) → GG 0 0 ((wZ K ad C R od sn ++ [(ug, .inl (K.2.1.2.1, 8, .inl G)), (uf, .inl (K.2.1.2.1, 60, .inl F)), (ud, .inl (K.2.1.2.1, 56, .inl D1)), (uh, .inl (K.2.1.2.1, 48, .inl H)), (uv, .inl (K.2.1.2.1, 48, .inl V)), (uj, .inl (K.2.1.2.1, 48, .inl J)), (uq, .inl (K.2.1.2.1, 48, .inl Q))])) [(0, .ref (ad 0)), (1, .ref ug), (2, .ref uf), (3, .ref ud), (4, .ref uh), (5, .ref uv), (6, .ref uj), (7, .ref uq), (8, .int way), (9, .int (nI y)), (10, .int (nI i))] 131 [] := by
          intro dq
          induction dq with
          | zero =>
            intro i D1 hi131 hF
            have hz131 : i = 7 := by omega
            refine gx_iload (pc := 131) hB dL_comes_131 10 rfl ?_
            refine gx_bipush (pc := 133) hB dL_comes_133 7 (by decide) ?_
            refine gx_icmp_ge (pc := 135) hB 166 dL_comes_135 (by decide) (fun c_4 => ?_) (fun c_4 => ?_)
            · refine gx_aload_n (pc := 166) hB dL_comes_166 1 rfl ?_
              refine gx_iconst (pc := 167) hB dL_comes_167 3 (by decide) ?_
              refine gx_dup2 (pc := 168) hB dL_comes_168 rfl rfl ?_
              refine gx_iald (pc := 169) hB dL_comes_169 23 1 rfl rfl 3 rfl (by decide) (by decide) ?_
              refine gx_top (show G 3 = nI b from h0.2.1.1.2.2.2.1) ?_
              refine gx_iconst (pc := 170) hB dL_comes_170 1 (by decide) ?_
              refine gx_iadd (pc := 171) hB dL_comes_171 ?_
              refine gx_top (show nI b + 1 = nI (b + 1) from nI_add b 1) ?_
              refine gx_iast (pc := 172) hB dL_comes_172 23 1 rfl rfl 3 rfl (by decide) (by decide) ((wZ K ad C R od sn ++ [(ug, .inl (K.2.1.2.1, 8, .inl (upd G 3 (nI (b + 1))))), (uf, .inl (K.2.1.2.1, 60, .inl F)), (ud, .inl (K.2.1.2.1, 56, .inl D1)), (uh, .inl (K.2.1.2.1, 48, .inl H)), (uv, .inl (K.2.1.2.1, 48, .inl V)), (uj, .inl (K.2.1.2.1, 48, .inl J)), (uq, .inl (K.2.1.2.1, 48, .inl Q))])) rfl ?_
              refine gx_aload_n (pc := 173) hB dL_comes_173 0 rfl ?_
              refine gx_dVA (pc := 174) (r := (bAddDonor C).1) (W1 := wZ K ad ((bAddDonor C).2) (kR C R od sn) (kOd (bAddDonor C).1 od sn) (kSn (bAddDonor C).1 sn)) (wr := [(ug, .inl (K.2.1.2.1, 8, .inl (upd G 3 (nI (b + 1))))), (uf, .inl (K.2.1.2.1, 60, .inl F)), (ud, .inl (K.2.1.2.1, 56, .inl D1)), (uh, .inl (K.2.1.2.1, 48, .inl H)), (uv, .inl (K.2.1.2.1, 48, .inl V)), (uj, .inl (K.2.1.2.1, 48, .inl J)), (uq, .inl (K.2.1.2.1, 48, .inl Q))]) hB (k_donor l K ad C R od sn ho hsn) mX4_donor dL_comes_174 tb_243 pX4_donor ⟨Nat.le_of_ble_eq_true rfl, Nat.le_of_ble_eq_true rfl⟩ ⟨rfl, rfl⟩ ⟨Nat.le_of_ble_eq_true rfl, Nat.le_of_ble_eq_true rfl⟩ rfl (Nat.le_of_ble_eq_true rfl) (List.range 23) (List.range' 23 7) rfl rfl (by decide) (by decide) (by decide) rfl rfl (List.range' 7 23 ++ List.range 7) (by decide) rfl ?_
              obtain ⟨e_1, hI⟩ := t_don_ok h0 c_3
              refine gx_top (x := (bAddDonor C).1) (y := nI b) e_1 ?_
              have hF2 : D1 = rowD D b 7 := by rw [hF, hz131]
              rw [← hF2] at hI
              refine gx_aload_n (pc := 177) hB dL_comes_177 1 rfl ?_
              refine gx_iconst (pc := 178) hB dL_comes_178 3 (by decide) ?_
              refine gx_iald (pc := 179) hB dL_comes_179 23 1 rfl rfl 3 rfl (by decide) (by decide) ?_
              refine gx_top (show (upd G 3 (nI (b + 1))) 3 = nI (b + 1) from pk_us) ?_
              refine gx_iconst (pc := 180) hB dL_comes_180 1 (by decide) ?_
              refine gx_isub (pc := 181) hB dL_comes_181 ?_
              refine gx_top (show (nI (b + 1)) - 1 = nI b from nI_pred b) ?_
              refine gx_icmp_ne (pc := 182) hB 189 dL_comes_182 (by decide) (fun c_5 => ?_) (fun c_5 => ?_)
              · exact absurd rfl c_5
              · refine gx_iconst (pc := 185) hB dL_comes_185 1 (by decide) ?_
                refine gx_goto (pc := 186) hB 190 dL_comes_186 (by decide) ?_
                exact gx_zret (pc := 190) hC dL_comes_190 (Nat.zero_le _) (Nat.zero_le _) (by decide) ⟨rfl, _, _, _, _, _, _, _, _, _, _, _, rfl, hI⟩
            · exact absurd (lpTn (c := 7) (by omega) hi131) c_4
          | succ dq ih131 =>
            intro i D1 hi131 hF
            refine gx_iload (pc := 131) hB dL_comes_131 10 rfl ?_
            refine gx_bipush (pc := 133) hB dL_comes_133 7 (by decide) ?_
            refine gx_icmp_ge (pc := 135) hB 166 dL_comes_135 (by decide) (fun c_6 => ?_) (fun c_6 => ?_)
            · exact absurd c_6 (lpFn (c := 7) (by omega) hi131)
            · refine gx_aload_n (pc := 138) hB dL_comes_138 3 rfl ?_
              refine gx_bipush (pc := 139) hB dL_comes_139 7 (by decide) ?_
              refine gx_aload_n (pc := 141) hB dL_comes_141 1 rfl ?_
              refine gx_iconst (pc := 142) hB dL_comes_142 3 (by decide) ?_
              refine gx_iald (pc := 143) hB dL_comes_143 23 1 rfl rfl 3 rfl (by decide) (by decide) ?_
              refine gx_top (show G 3 = nI b from h0.2.1.1.2.2.2.1) ?_
              refine gx_imul (pc := 144) hB dL_comes_144 ?_
              refine gx_top (show 7 * nI b = nI (7 * b) from pk_mul 7 b) ?_
              refine gx_iload (pc := 145) hB dL_comes_145 10 rfl ?_
              refine gx_iadd (pc := 147) hB dL_comes_147 ?_
              refine gx_top (show (nI (7 * b)) + nI i = nI (7 * b + i) from nI_add (7 * b) i) ?_
              refine gx_iload (pc := 148) hB dL_comes_148 10 rfl ?_
              refine gx_if_ne (pc := 150) hB 157 dL_comes_150 (by decide) (fun c_7 => ?_) (fun c_7 => ?_)
              · refine gx_bipush (pc := 157) hB dL_comes_157 (-4) (by decide) ?_
                refine gx_iast (pc := 159) hB dL_comes_159 25 1 rfl rfl (7 * b + i) rfl (by omega) (by decide) ((wZ K ad C R od sn ++ [(ug, .inl (K.2.1.2.1, 8, .inl G)), (uf, .inl (K.2.1.2.1, 60, .inl F)), (ud, .inl (K.2.1.2.1, 56, .inl (upd D1 (7 * b + i) (-4)))), (uh, .inl (K.2.1.2.1, 48, .inl H)), (uv, .inl (K.2.1.2.1, 48, .inl V)), (uj, .inl (K.2.1.2.1, 48, .inl J)), (uq, .inl (K.2.1.2.1, 48, .inl Q))])) rfl ?_
                refine gx_iinc (pc := 160) hB dL_comes_160 10 (by decide) rfl (nI (i + 1)) (nI_1 _) [(10, .int (nI (i + 1))), (0, .ref (ad 0)), (1, .ref ug), (2, .ref uf), (3, .ref ud), (4, .ref uh), (5, .ref uv), (6, .ref uj), (7, .ref uq), (8, .int way), (9, .int (nI y))] rfl ?_
                refine gx_goto (pc := 163) hB 131 dL_comes_163 (by decide) ?_
                refine gx_sub hB (lv' := [(0, .ref (ad 0)), (1, .ref ug), (2, .ref uf), (3, .ref ud), (4, .ref uh), (5, .ref uv), (6, .ref uj), (7, .ref uq), (8, .int way), (9, .int (nI y)), (10, .int (nI (i + 1)))]) [1, 2, 3, 4, 5, 6, 7, 8, 9, 10, 0] rfl ?_
                exact ih131 (i + 1) (upd D1 (7 * b + i) (-4)) (by omega) (by rw [hF]; exact congrArg (upd (rowD D b i) (7 * b + i)) (if_neg c_7).symm)
              · refine gx_iconst (pc := 153) hB dL_comes_153 0 (by decide) ?_
                refine gx_goto (pc := 154) hB 159 dL_comes_154 (by decide) ?_
                refine gx_iast (pc := 159) hB dL_comes_159 25 1 rfl rfl (7 * b + i) rfl (by omega) (by decide) ((wZ K ad C R od sn ++ [(ug, .inl (K.2.1.2.1, 8, .inl G)), (uf, .inl (K.2.1.2.1, 60, .inl F)), (ud, .inl (K.2.1.2.1, 56, .inl (upd D1 (7 * b + i) 0))), (uh, .inl (K.2.1.2.1, 48, .inl H)), (uv, .inl (K.2.1.2.1, 48, .inl V)), (uj, .inl (K.2.1.2.1, 48, .inl J)), (uq, .inl (K.2.1.2.1, 48, .inl Q))])) rfl ?_
                refine gx_iinc (pc := 160) hB dL_comes_160 10 (by decide) rfl (nI (i + 1)) (nI_1 _) [(10, .int (nI (i + 1))), (0, .ref (ad 0)), (1, .ref ug), (2, .ref uf), (3, .ref ud), (4, .ref uh), (5, .ref uv), (6, .ref uj), (7, .ref uq), (8, .int way), (9, .int (nI y))] rfl ?_
                refine gx_goto (pc := 163) hB 131 dL_comes_163 (by decide) ?_
                refine gx_sub hB (lv' := [(0, .ref (ad 0)), (1, .ref ug), (2, .ref uf), (3, .ref ud), (4, .ref uh), (5, .ref uv), (6, .ref uj), (7, .ref uq), (8, .int way), (9, .int (nI y)), (10, .int (nI (i + 1)))]) [1, 2, 3, 4, 5, 6, 7, 8, 9, 10, 0] rfl ?_
                exact ih131 (i + 1) (upd D1 (7 * b + i) 0) (by omega) (by rw [hF]; exact congrArg (upd (rowD D b i) (7 * b + i)) (if_pos c_7).symm)
        refine gx_sub hB (lv' := [(0, .ref (ad 0)), (1, .ref ug), (2, .ref uf), (3, .ref ud), (4, .ref uh), (5, .ref uv), (6, .ref uj), (7, .ref uq), (8, .int way), (9, .int (nI y)), (10, .int 0)]) [1, 2, 3, 4, 5, 6, 7, 8, 9, 10, 0] rfl ?_
        exact loop_131 (7) 0 D (by omega) rfl
      · refine gx_aload_n (pc := 113) hB dL_comes_113 0 rfl ?_
        refine gx_dVA (pc := 114) (r := (bAddDonor C).1) (W1 := wZ K ad ((bAddDonor C).2) (kR C R od sn) (kOd (bAddDonor C).1 od sn) (kSn (bAddDonor C).1 sn)) (wr := [(ug, .inl (K.2.1.2.1, 8, .inl G)), (uf, .inl (K.2.1.2.1, 60, .inl F)), (ud, .inl (K.2.1.2.1, 56, .inl D)), (uh, .inl (K.2.1.2.1, 48, .inl H)), (uv, .inl (K.2.1.2.1, 48, .inl V)), (uj, .inl (K.2.1.2.1, 48, .inl J)), (uq, .inl (K.2.1.2.1, 48, .inl Q))]) hB (k_donor l K ad C R od sn ho hsn) mX4_donor dL_comes_114 tb_243 pX4_donor ⟨Nat.le_of_ble_eq_true rfl, Nat.le_of_ble_eq_true rfl⟩ ⟨rfl, rfl⟩ ⟨Nat.le_of_ble_eq_true rfl, Nat.le_of_ble_eq_true rfl⟩ rfl (Nat.le_of_ble_eq_true rfl) (List.range 23) (List.range' 23 7) rfl rfl (by decide) (by decide) (by decide) rfl rfl (List.range' 7 23 ++ List.range 7) (by decide) rfl ?_
        obtain ⟨e_1, hI⟩ := t_don_no h0 c_3
        refine gx_top (x := (bAddDonor C).1) (y := (-3)) e_1 ?_
        refine gx_bipush (pc := 117) hB dL_comes_117 (-3) (by decide) ?_
        refine gx_icmp_ne (pc := 119) hB 126 dL_comes_119 (by decide) (fun c_8 => ?_) (fun c_8 => ?_)
        · exact absurd c_8 (by decide)
        · refine gx_iconst (pc := 122) hB dL_comes_122 1 (by decide) ?_
          refine gx_goto (pc := 123) hB 127 dL_comes_123 (by decide) ?_
          exact gx_zret (pc := 127) hC dL_comes_127 (Nat.zero_le _) (Nat.zero_le _) (by decide) ⟨rfl, _, _, _, _, _, _, _, _, _, _, _, rfl, hI⟩
    · refine gx_aload_n (pc := 99) hB dL_comes_99 1 rfl ?_
      refine gx_iconst (pc := 100) hB dL_comes_100 3 (by decide) ?_
      refine gx_iald (pc := 101) hB dL_comes_101 23 1 rfl rfl 3 rfl (by decide) (by decide) ?_
      refine gx_top (show G 3 = nI b from h0.2.1.1.2.2.2.1) ?_
      refine gx_if_ne (pc := 102) hB 191 dL_comes_102 (by decide) (fun c_9 => ?_) (fun c_9 => ?_)
      · have hb0 : 0 < b := Nat.pos_of_ne_zero (fun z => c_9 (by rw [z]; rfl))
        refine gx_iload (pc := 191) hB dL_comes_191 9 rfl ?_
        refine gx_aload_n (pc := 193) hB dL_comes_193 1 rfl ?_
        refine gx_iconst (pc := 194) hB dL_comes_194 3 (by decide) ?_
        refine gx_iald (pc := 195) hB dL_comes_195 23 1 rfl rfl 3 rfl (by decide) (by decide) ?_
        refine gx_top (show G 3 = nI b from h0.2.1.1.2.2.2.1) ?_
        refine gx_irem (pc := 196) hB dL_comes_196 (nI_ne0 (n := b) (by omega) (by omega)) ?_
        refine gx_top (show nI y - nI y / nI b * nI b = nI (y % b) from pk_rem (a := y) (d := b) (by omega) (by omega) (by omega)) ?_
        obtain ⟨d, hd, ed⟩ : ∃ zz : Nat, zz < b ∧ nI (y % b) = nI zz := ⟨_, Nat.mod_lt _ (by omega), rfl⟩
        refine gx_top ed ?_
        refine gx_istore (pc := 197) hB dL_comes_197 (by decide) [(10, .int (nI d)), (0, .ref (ad 0)), (1, .ref ug), (2, .ref uf), (3, .ref ud), (4, .ref uh), (5, .ref uv), (6, .ref uj), (7, .ref uq), (8, .int way), (9, .int (nI y))] rfl ?_
        refine gx_iload (pc := 199) hB dL_comes_199 9 rfl ?_
        refine gx_iconst (pc := 201) hB dL_comes_201 2 (by decide) ?_
        refine gx_icmp_ne (pc := 202) hB 257 dL_comes_202 (by decide) (fun c_10 => ?_) (fun c_10 => ?_)
        · refine gx_aload_n (pc := 257) hB dL_comes_257 2 rfl ?_
          refine gx_aload_n (pc := 258) hB dL_comes_258 3 rfl ?_
          refine gx_iload (pc := 259) hB dL_comes_259 10 rfl ?_
          refine gx_bipush (pc := 261) hB dL_comes_261 8 (by decide) ?_
          refine gx_idiv (pc := 263) hB dL_comes_263 (by decide) ?_
          refine gx_top (show nI y / 8 = nI (y / 8) from pk_div (a := y) (d := 8) (by omega) (by omega) (by omega)) ?_
          refine gx_callS (pc := 264) (wr := (wZ K ad C R od sn ++ [(ud, .inl (K.2.1.2.1, 56, .inl D)), (uh, .inl (K.2.1.2.1, 48, .inl H)), (uv, .inl (K.2.1.2.1, 48, .inl V)), (uj, .inl (K.2.1.2.1, 48, .inl J)), (uq, .inl (K.2.1.2.1, 48, .inl Q))])) hB (c_L_open l K ug uf G F a (y / 8) h0.2.1.1.2.2.1 (by first | assumption | omega | decide) (by first | assumption | omega | decide) (by first | assumption | omega | decide)) mL_open dL_comes_264 tb_259 pL_open ⟨Nat.le_of_ble_eq_true rfl, Nat.le_of_ble_eq_true rfl, Nat.le_of_ble_eq_true rfl, Nat.le_of_ble_eq_true rfl⟩ (rest := []) rfl (Nat.le_of_ble_eq_true rfl) [23, 24] [0, 1, 2, 3, 4, 5, 6, 7, 8, 9, 10, 11, 12, 13, 14, 15, 16, 17, 18, 19, 20, 21, 22, 25, 26, 27, 28, 29] rfl rfl (by decide) (by decide) (by decide) (fun v264 w264 hp264 => ?_)
          obtain ⟨rfl, p, hp, rfl⟩ := hp264
          refine gx_kn (k' := 0) (n' := 0) rfl rfl ?_
          refine gx_st (st' := [.int (nI p)]) rfl ?_
          refine gx_perm hB (ws' := (wZ K ad C R od sn ++ [(ug, .inl (K.2.1.2.1, 8, .inl G)), (uf, .inl (K.2.1.2.1, 60, .inl F)), (ud, .inl (K.2.1.2.1, 56, .inl D)), (uh, .inl (K.2.1.2.1, 48, .inl H)), (uv, .inl (K.2.1.2.1, 48, .inl V)), (uj, .inl (K.2.1.2.1, 48, .inl J)), (uq, .inl (K.2.1.2.1, 48, .inl Q))])) [0, 1, 2, 3, 4, 5, 6, 7, 8, 9, 10, 11, 12, 13, 14, 15, 16, 17, 18, 19, 20, 21, 22, 28, 29, 23, 24, 25, 26, 27] (by decide) rfl ?_
          refine gx_istore (pc := 267) hB dL_comes_267 (by decide) [(11, .int (nI p)), (10, .int (nI d)), (0, .ref (ad 0)), (1, .ref ug), (2, .ref uf), (3, .ref ud), (4, .ref uh), (5, .ref uv), (6, .ref uj), (7, .ref uq), (8, .int way), (9, .int (nI y))] rfl ?_
          refine gx_iload (pc := 269) hB dL_comes_269 10 rfl ?_
          refine gx_iconst (pc := 271) hB dL_comes_271 3 (by decide) ?_
          refine gx_icmp_ne (pc := 272) hB 403 dL_comes_272 (by decide) (fun c_11 => ?_) (fun c_11 => ?_)
          · refine gx_iconst (pc := 403) hB dL_comes_403 1 (by decide) ?_
            refine gx_iload (pc := 404) hB dL_comes_404 11 rfl ?_
            refine gx_bipush (pc := 406) hB dL_comes_406 16 (by decide) ?_
            refine gx_idiv (pc := 408) hB dL_comes_408 (by decide) ?_
            refine gx_top (show nI y / 16 = nI (y / 16) from pk_div (a := y) (d := 16) (by omega) (by omega) (by omega)) ?_
            refine gx_sipush (pc := 409) hB dL_comes_409 999 (by decide) ?_
            refine gx_irem (pc := 412) hB dL_comes_412 (by decide) ?_
            refine gx_top (show (nI (y / 16)) - (nI (y / 16)) / 999 * 999 = nI ((y / 16) % 999) from pk_rem (a := y / 16) (d := 999) (by omega) (by omega) (by omega)) ?_
            refine gx_iadd (pc := 413) hB dL_comes_413 ?_
            refine gx_top (show 1 + (nI ((y / 16) % 999)) = nI (1 + ((y / 16) % 999)) from nI_add 1 ((y / 16) % 999)) ?_
            refine gx_istore (pc := 414) hB dL_comes_414 (by decide) [(12, .int (nI (1 + ((y / 16) % 999)))), (11, .int (nI p)), (10, .int (nI d)), (0, .ref (ad 0)), (1, .ref ug), (2, .ref uf), (3, .ref ud), (4, .ref uh), (5, .ref uv), (6, .ref uj), (7, .ref uq), (8, .int way), (9, .int (nI y))] rfl ?_
            refine gx_iconst (pc := 416) hB dL_comes_416 1 (by decide) ?_
            refine gx_iload (pc := 417) hB dL_comes_417 12 rfl ?_
            refine gx_iconst (pc := 419) hB dL_comes_419 5 (by decide) ?_
            refine gx_idiv (pc := 420) hB dL_comes_420 (by decide) ?_
            refine gx_top (show nI y / 5 = nI (y / 5) from pk_div (a := y) (d := 5) (by omega) (by omega) (by omega)) ?_
            refine gx_iload (pc := 421) hB dL_comes_421 12 rfl ?_
            refine gx_iconst (pc := 423) hB dL_comes_423 3 (by decide) ?_
            refine gx_irem (pc := 424) hB dL_comes_424 (by decide) ?_
            refine gx_top (show nI y - nI y / 3 * 3 = nI (y % 3) from pk_rem (a := y) (d := 3) (by omega) (by omega) (by omega)) ?_
            refine gx_if_ne (pc := 425) hB 433 dL_comes_425 (by decide) (fun c_12 => ?_) (fun c_12 => ?_)
            · refine gx_bipush (pc := 433) hB dL_comes_433 6 (by decide) ?_
              refine gx_irem (pc := 435) hB dL_comes_435 (by decide) ?_
              refine gx_top (show (nI (y / 5)) - (nI (y / 5)) / 6 * 6 = nI ((y / 5) % 6) from pk_rem (a := y / 5) (d := 6) (by omega) (by omega) (by omega)) ?_
              refine gx_iadd (pc := 436) hB dL_comes_436 ?_
              refine gx_top (show 1 + (nI ((y / 5) % 6)) = nI (1 + ((y / 5) % 6)) from nI_add 1 ((y / 5) % 6)) ?_
              refine gx_istore (pc := 437) hB dL_comes_437 (by decide) [(13, .int (nI (1 + ((y / 5) % 6)))), (12, .int (nI (1 + ((y / 16) % 999)))), (11, .int (nI p)), (10, .int (nI d)), (0, .ref (ad 0)), (1, .ref ug), (2, .ref uf), (3, .ref ud), (4, .ref uh), (5, .ref uv), (6, .ref uj), (7, .ref uq), (8, .int way), (9, .int (nI y))] rfl ?_
              refine gx_aload_n (pc := 439) hB dL_comes_439 6 rfl ?_
              refine gx_bipush (pc := 440) hB dL_comes_440 10 (by decide) ?_
              refine gx_iload (pc := 442) hB dL_comes_442 2 rfl ?_
              refine gx_imul (pc := 444) hB dL_comes_444 ?_
              refine gx_top (show 10 * nI p = nI (10 * p) from pk_mul 10 p) ?_
              refine gx_bipush (pc := 445) hB dL_comes_445 9 (by decide) ?_
              refine gx_iadd (pc := 447) hB dL_comes_447 ?_
              refine gx_top (show (nI (10 * p)) + 9 = nI (10 * p + 9) from nI_add (10 * p) 9) ?_
              refine gx_iald (pc := 448) hB dL_comes_448 24 1 rfl rfl (10 * p + 9) rfl (by omega) (by decide) ?_
              refine gx_if_ge (pc := 449) hB 460 dL_comes_449 (by decide) (fun c_13 => ?_) (fun c_13 => ?_)
              · refine gx_aload_n (pc := 460) hB dL_comes_460 4 rfl ?_
                refine gx_iload (pc := 461) hB dL_comes_461 3 rfl ?_
                refine gx_iload (pc := 463) hB dL_comes_463 2 rfl ?_
                refine gx_iload (pc := 465) hB dL_comes_465 1 rfl ?_
                refine gx_iload (pc := 467) hB dL_comes_467 0 rfl ?_
                refine gx_dVA (pc := 469) (r := (bPledge C (nI d) (nI p) (nI (1 + ((y / 16) % 999))) (nI (1 + ((y / 5) % 6)))).1) (W1 := wZ K ad ((bPledge C (nI d) (nI p) (nI (1 + ((y / 16) % 999))) (nI (1 + ((y / 5) % 6)))).2) (kR C R od sn) (kOd (bPledge C (nI d) (nI p) (nI (1 + ((y / 16) % 999))) (nI (1 + ((y / 5) % 6)))).1 od sn) (kSn (bPledge C (nI d) (nI p) (nI (1 + ((y / 16) % 999))) (nI (1 + ((y / 5) % 6)))).1 sn)) (wr := [(ug, .inl (K.2.1.2.1, 8, .inl G)), (uf, .inl (K.2.1.2.1, 60, .inl F)), (ud, .inl (K.2.1.2.1, 56, .inl D)), (uh, .inl (K.2.1.2.1, 48, .inl H)), (uv, .inl (K.2.1.2.1, 48, .inl V)), (uj, .inl (K.2.1.2.1, 48, .inl J)), (uq, .inl (K.2.1.2.1, 48, .inl Q))]) hB (k_pledge l K ad C R od sn (nI d) (nI p) (nI (1 + ((y / 16) % 999))) (nI (1 + ((y / 5) % 6))) ho hsn) mX4_pledge dL_comes_469 tb_285 pX4_pledge ⟨Nat.le_of_ble_eq_true rfl, Nat.le_of_ble_eq_true rfl⟩ ⟨rfl, rfl⟩ ⟨Nat.le_of_ble_eq_true rfl, Nat.le_of_ble_eq_true rfl⟩ rfl (Nat.le_of_ble_eq_true rfl) (List.range 23) (List.range' 23 7) rfl rfl (by decide) (by decide) (by decide) rfl rfl (List.range' 7 23 ++ List.range 7) (by decide) rfl ?_
                obtain ⟨e_1, hI⟩ := t_pl_no1 (m := 1 + ((y / 16) % 999)) (u := 1 + ((y / 5) % 6)) h0 hd hp ⟨by omega, by omega⟩ ⟨by omega, by omega⟩ c_13
                refine gx_top (x := (bPledge C (nI d) (nI p) (nI (1 + ((y / 16) % 999))) (nI (1 + ((y / 5) % 6)))).1) (y := (-2)) e_1 ?_
                refine gx_aload_n (pc := 472) hB dL_comes_472 6 rfl ?_
                refine gx_bipush (pc := 473) hB dL_comes_473 10 (by decide) ?_
                refine gx_iload (pc := 475) hB dL_comes_475 2 rfl ?_
                refine gx_imul (pc := 477) hB dL_comes_477 ?_
                refine gx_top (show 10 * nI p = nI (10 * p) from pk_mul 10 p) ?_
                refine gx_bipush (pc := 478) hB dL_comes_478 9 (by decide) ?_
                refine gx_iadd (pc := 480) hB dL_comes_480 ?_
                refine gx_top (show (nI (10 * p)) + 9 = nI (10 * p + 9) from nI_add (10 * p) 9) ?_
                refine gx_iald (pc := 481) hB dL_comes_481 24 1 rfl rfl (10 * p + 9) rfl (by omega) (by decide) ?_
                refine gx_if_lt (pc := 482) hB 490 dL_comes_482 (by decide) (fun c_14 => ?_) (fun c_14 => ?_)
                · exact (by first | exact absurd c_13 c_14 | exact absurd c_14 c_13 | exact absurd c_13 (Int32.not_le.mpr c_14) | exact absurd c_13 (Int32.not_lt.mpr c_14) | exact absurd (Int32.not_le.mp c_13) c_14 | exact absurd (Int32.not_lt.mp c_13) c_14)
                · refine gx_bipush (pc := 485) hB dL_comes_485 (-2) (by decide) ?_
                  refine gx_goto (pc := 487) hB 492 dL_comes_487 (by decide) ?_
                  refine gx_icmp_ne (pc := 492) hB 499 dL_comes_492 (by decide) (fun c_15 => ?_) (fun c_15 => ?_)
                  · exact absurd c_15 (by decide)
                  · refine gx_iconst (pc := 495) hB dL_comes_495 1 (by decide) ?_
                    refine gx_goto (pc := 496) hB 500 dL_comes_496 (by decide) ?_
                    exact gx_zret (pc := 500) hC dL_comes_500 (Nat.zero_le _) (Nat.zero_le _) (by decide) ⟨rfl, _, _, _, _, _, _, _, _, _, _, _, rfl, hI⟩
              · refine gx_aload_n (pc := 452) hB dL_comes_452 5 rfl ?_
                refine gx_iconst (pc := 453) hB dL_comes_453 5 (by decide) ?_
                refine gx_iald (pc := 454) hB dL_comes_454 23 1 rfl rfl 5 rfl (by decide) (by decide) ?_
                refine gx_top (show G 5 = nI e from h0.2.1.1.2.2.2.2.2.1) ?_
                refine gx_bipush (pc := 455) hB dL_comes_455 6 (by decide) ?_
                refine gx_icmp_ne (pc := 457) hB 501 dL_comes_457 (by decide) (fun c_16 => ?_) (fun c_16 => ?_)
                · have hel : e < 6 := nI_ne (n := 6) c_16 (by omega)
                  refine gx_iconst (pc := 501) hB dL_comes_501 0 (by decide) ?_
                  refine gx_istore (pc := 502) hB dL_comes_502 (by decide) [(14, .int 0), (13, .int (nI (1 + ((y / 5) % 6)))), (12, .int (nI (1 + ((y / 16) % 999)))), (11, .int (nI p)), (10, .int (nI d)), (0, .ref (ad 0)), (1, .ref ug), (2, .ref uf), (3, .ref ud), (4, .ref uh), (5, .ref uv), (6, .ref uj), (7, .ref uq), (8, .int way), (9, .int (nI y))] rfl ?_
                  have loop_504 : ∀ (dq i : Nat) (Q1 : Nat → Int32), i + dq = 8 → (Q1 = rowK Q e (nI d) (nI p) (nI (1 + ((y / 16) % 999))) (nI (1 + ((y / 5) % 6))) i) → GG 0 0 ((wZ K ad C R od sn ++ [(ug, .inl (K.2.1.2.1, 8, .inl G)), (uf, .inl (K.2.1.2.1, 60, .inl F)), (ud, .inl (K.2.1.2.1, 56, .inl D)), (uh, .inl (K.2.1.2.1, 48, .inl H)), (uv, .inl (K.2.1.2.1, 48, .inl V)), (uj, .inl (K.2.1.2.1, 48, .inl J)), (uq, .inl (K.2.1.2.1, 48, .inl Q1))])) [(0, .ref (ad 0)), (1, .ref ug), (2, .ref uf), (3, .ref ud), (4, .ref uh), (5, .ref uv), (6, .ref uj), (7, .ref uq), (8, .int way), (9, .int (nI y)), (10, .int (nI d)), (11, .int (nI p)), (12, .int (nI (1 + ((y / 16) % 999)))), (13, .int (nI (1 + ((y / 5) % 6)))), (14, .int (nI i))] 504 [] := by
                    intro dq
                    induction dq with
                    | zero =>
                      intro i Q1 hi504 hF
                      have hz504 : i = 8 := by omega
                      refine gx_iload (pc := 504) hB dL_comes_504 14 rfl ?_
                      refine gx_bipush (pc := 506) hB dL_comes_506 8 (by decide) ?_
                      refine gx_icmp_ge (pc := 508) hB 573 dL_comes_508 (by decide) (fun c_17 => ?_) (fun c_17 => ?_)
                      · refine gx_aload_n (pc := 573) hB dL_comes_573 1 rfl ?_
                        refine gx_iconst (pc := 574) hB dL_comes_574 5 (by decide) ?_
                        refine gx_dup2 (pc := 575) hB dL_comes_575 rfl rfl ?_
                        refine gx_iald (pc := 576) hB dL_comes_576 23 1 rfl rfl 5 rfl (by decide) (by decide) ?_
                        refine gx_top (show G 5 = nI e from h0.2.1.1.2.2.2.2.2.1) ?_
                        refine gx_iconst (pc := 577) hB dL_comes_577 1 (by decide) ?_
                        refine gx_iadd (pc := 578) hB dL_comes_578 ?_
                        refine gx_top (show nI e + 1 = nI (e + 1) from nI_add e 1) ?_
                        refine gx_iast (pc := 579) hB dL_comes_579 23 1 rfl rfl 5 rfl (by decide) (by decide) ((wZ K ad C R od sn ++ [(ug, .inl (K.2.1.2.1, 8, .inl (upd G 5 (nI (e + 1))))), (uf, .inl (K.2.1.2.1, 60, .inl F)), (ud, .inl (K.2.1.2.1, 56, .inl D)), (uh, .inl (K.2.1.2.1, 48, .inl H)), (uv, .inl (K.2.1.2.1, 48, .inl V)), (uj, .inl (K.2.1.2.1, 48, .inl J)), (uq, .inl (K.2.1.2.1, 48, .inl Q1))])) rfl ?_
                        refine gx_aload_n (pc := 580) hB dL_comes_580 0 rfl ?_
                        refine gx_iload (pc := 581) hB dL_comes_581 10 rfl ?_
                        refine gx_iload (pc := 583) hB dL_comes_583 11 rfl ?_
                        refine gx_iload (pc := 585) hB dL_comes_585 12 rfl ?_
                        refine gx_iload (pc := 587) hB dL_comes_587 13 rfl ?_
                        refine gx_dVA (pc := 589) (r := (bPledge C (nI d) (nI p) (nI (1 + ((y / 16) % 999))) (nI (1 + ((y / 5) % 6)))).1) (W1 := wZ K ad ((bPledge C (nI d) (nI p) (nI (1 + ((y / 16) % 999))) (nI (1 + ((y / 5) % 6)))).2) (kR C R od sn) (kOd (bPledge C (nI d) (nI p) (nI (1 + ((y / 16) % 999))) (nI (1 + ((y / 5) % 6)))).1 od sn) (kSn (bPledge C (nI d) (nI p) (nI (1 + ((y / 16) % 999))) (nI (1 + ((y / 5) % 6)))).1 sn)) (wr := [(ug, .inl (K.2.1.2.1, 8, .inl (upd G 5 (nI (e + 1))))), (uf, .inl (K.2.1.2.1, 60, .inl F)), (ud, .inl (K.2.1.2.1, 56, .inl D)), (uh, .inl (K.2.1.2.1, 48, .inl H)), (uv, .inl (K.2.1.2.1, 48, .inl V)), (uj, .inl (K.2.1.2.1, 48, .inl J)), (uq, .inl (K.2.1.2.1, 48, .inl Q1))]) hB (k_pledge l K ad C R od sn (nI d) (nI p) (nI (1 + ((y / 16) % 999))) (nI (1 + ((y / 5) % 6))) ho hsn) mX4_pledge dL_comes_589 tb_285 pX4_pledge ⟨Nat.le_of_ble_eq_true rfl, Nat.le_of_ble_eq_true rfl⟩ ⟨rfl, rfl⟩ ⟨Nat.le_of_ble_eq_true rfl, Nat.le_of_ble_eq_true rfl⟩ rfl (Nat.le_of_ble_eq_true rfl) (List.range 23) (List.range' 23 7) rfl rfl (by decide) (by decide) (by decide) rfl rfl (List.range' 7 23 ++ List.range 7) (by decide) rfl ?_
                        obtain ⟨e_1, hI⟩ := t_pl_ok (m := 1 + ((y / 16) % 999)) (u := 1 + ((y / 5) % 6)) h0 hd hp ⟨by omega, by omega⟩ ⟨by omega, by omega⟩ c_13 c_16
                        refine gx_top (x := (bPledge C (nI d) (nI p) (nI (1 + ((y / 16) % 999))) (nI (1 + ((y / 5) % 6)))).1) (y := nI e) e_1 ?_
                        have hF2 : Q1 = rowK Q e (nI d) (nI p) (nI (1 + ((y / 16) % 999))) (nI (1 + ((y / 5) % 6))) 8 := by rw [hF, hz504]
                        rw [← hF2] at hI
                        refine gx_aload_n (pc := 592) hB dL_comes_592 1 rfl ?_
                        refine gx_iconst (pc := 593) hB dL_comes_593 5 (by decide) ?_
                        refine gx_iald (pc := 594) hB dL_comes_594 23 1 rfl rfl 5 rfl (by decide) (by decide) ?_
                        refine gx_top (show (upd G 5 (nI (e + 1))) 5 = nI (e + 1) from pk_us) ?_
                        refine gx_iconst (pc := 595) hB dL_comes_595 1 (by decide) ?_
                        refine gx_isub (pc := 596) hB dL_comes_596 ?_
                        refine gx_top (show (nI (e + 1)) - 1 = nI e from nI_pred e) ?_
                        refine gx_icmp_ne (pc := 597) hB 604 dL_comes_597 (by decide) (fun c_18 => ?_) (fun c_18 => ?_)
                        · exact absurd rfl c_18
                        · refine gx_iconst (pc := 600) hB dL_comes_600 1 (by decide) ?_
                          refine gx_goto (pc := 601) hB 605 dL_comes_601 (by decide) ?_
                          exact gx_zret (pc := 605) hC dL_comes_605 (Nat.zero_le _) (Nat.zero_le _) (by decide) ⟨rfl, _, _, _, _, _, _, _, _, _, _, _, rfl, hI⟩
                      · exact absurd (lpTn (c := 8) (by omega) hi504) c_17
                    | succ dq ih504 =>
                      intro i Q1 hi504 hF
                      refine gx_iload (pc := 504) hB dL_comes_504 14 rfl ?_
                      refine gx_bipush (pc := 506) hB dL_comes_506 8 (by decide) ?_
                      refine gx_icmp_ge (pc := 508) hB 573 dL_comes_508 (by decide) (fun c_19 => ?_) (fun c_19 => ?_)
                      · exact absurd c_19 (lpFn (c := 8) (by omega) hi504)
                      · refine gx_aload (pc := 511) hB dL_comes_511 7 rfl ?_
                        refine gx_bipush (pc := 513) hB dL_comes_513 8 (by decide) ?_
                        refine gx_aload_n (pc := 515) hB dL_comes_515 1 rfl ?_
                        refine gx_iconst (pc := 516) hB dL_comes_516 5 (by decide) ?_
                        refine gx_iald (pc := 517) hB dL_comes_517 23 1 rfl rfl 5 rfl (by decide) (by decide) ?_
                        refine gx_top (show G 5 = nI e from h0.2.1.1.2.2.2.2.2.1) ?_
                        refine gx_imul (pc := 518) hB dL_comes_518 ?_
                        refine gx_top (show 8 * nI e = nI (8 * e) from pk_mul 8 e) ?_
                        refine gx_iload (pc := 519) hB dL_comes_519 14 rfl ?_
                        refine gx_iadd (pc := 521) hB dL_comes_521 ?_
                        refine gx_top (show (nI (8 * e)) + nI i = nI (8 * e + i) from nI_add (8 * e) i) ?_
                        refine gx_iload (pc := 522) hB dL_comes_522 14 rfl ?_
                        refine gx_if_ne (pc := 524) hB 532 dL_comes_524 (by decide) (fun c_20 => ?_) (fun c_20 => ?_)
                        · refine gx_iload (pc := 532) hB dL_comes_532 14 rfl ?_
                          refine gx_iconst (pc := 534) hB dL_comes_534 1 (by decide) ?_
                          refine gx_icmp_ne (pc := 535) hB 543 dL_comes_535 (by decide) (fun c_21 => ?_) (fun c_21 => ?_)
                          · refine gx_iload (pc := 543) hB dL_comes_543 14 rfl ?_
                            refine gx_iconst (pc := 545) hB dL_comes_545 2 (by decide) ?_
                            refine gx_icmp_ne (pc := 546) hB 554 dL_comes_546 (by decide) (fun c_22 => ?_) (fun c_22 => ?_)
                            · refine gx_iload (pc := 554) hB dL_comes_554 14 rfl ?_
                              refine gx_iconst (pc := 556) hB dL_comes_556 3 (by decide) ?_
                              refine gx_icmp_ne (pc := 557) hB 565 dL_comes_557 (by decide) (fun c_23 => ?_) (fun c_23 => ?_)
                              · refine gx_iconst (pc := 565) hB dL_comes_565 0 (by decide) ?_
                                refine gx_iast (pc := 566) hB dL_comes_566 29 1 rfl rfl (8 * e + i) rfl (by omega) (by decide) ((wZ K ad C R od sn ++ [(ug, .inl (K.2.1.2.1, 8, .inl G)), (uf, .inl (K.2.1.2.1, 60, .inl F)), (ud, .inl (K.2.1.2.1, 56, .inl D)), (uh, .inl (K.2.1.2.1, 48, .inl H)), (uv, .inl (K.2.1.2.1, 48, .inl V)), (uj, .inl (K.2.1.2.1, 48, .inl J)), (uq, .inl (K.2.1.2.1, 48, .inl (upd Q1 (8 * e + i) 0)))])) rfl ?_
                                refine gx_iinc (pc := 567) hB dL_comes_567 14 (by decide) rfl (nI (i + 1)) (nI_1 _) [(14, .int (nI (i + 1))), (0, .ref (ad 0)), (1, .ref ug), (2, .ref uf), (3, .ref ud), (4, .ref uh), (5, .ref uv), (6, .ref uj), (7, .ref uq), (8, .int way), (9, .int (nI y)), (10, .int (nI d)), (11, .int (nI p)), (12, .int (nI (1 + ((y / 16) % 999)))), (13, .int (nI (1 + ((y / 5) % 6))))] rfl ?_
                                refine gx_goto (pc := 570) hB 504 dL_comes_570 (by decide) ?_
                                refine gx_sub hB (lv' := [(0, .ref (ad 0)), (1, .ref ug), (2, .ref uf), (3, .ref ud), (4, .ref uh), (5, .ref uv), (6, .ref uj), (7, .ref uq), (8, .int way), (9, .int (nI y)), (10, .int (nI d)), (11, .int (nI p)), (12, .int (nI (1 + ((y / 16) % 999)))), (13, .int (nI (1 + ((y / 5) % 6)))), (14, .int (nI (i + 1)))]) [1, 2, 3, 4, 5, 6, 7, 8, 9, 10, 11, 12, 13, 14, 0] rfl ?_
                                exact ih504 (i + 1) (upd Q1 (8 * e + i) 0) (by omega) (by rw [hF]; exact congrArg (upd (rowK Q e (nI d) (nI p) (nI (1 + ((y / 16) % 999))) (nI (1 + ((y / 5) % 6))) i) (8 * e + i)) (by rw [if_neg c_20, if_neg c_21, if_neg c_22, if_neg c_23]))
                              · refine gx_iload (pc := 560) hB dL_comes_560 13 rfl ?_
                                refine gx_goto (pc := 562) hB 566 dL_comes_562 (by decide) ?_
                                refine gx_iast (pc := 566) hB dL_comes_566 29 1 rfl rfl (8 * e + i) rfl (by omega) (by decide) ((wZ K ad C R od sn ++ [(ug, .inl (K.2.1.2.1, 8, .inl G)), (uf, .inl (K.2.1.2.1, 60, .inl F)), (ud, .inl (K.2.1.2.1, 56, .inl D)), (uh, .inl (K.2.1.2.1, 48, .inl H)), (uv, .inl (K.2.1.2.1, 48, .inl V)), (uj, .inl (K.2.1.2.1, 48, .inl J)), (uq, .inl (K.2.1.2.1, 48, .inl (upd Q1 (8 * e + i) (nI (1 + ((y / 5) % 6))))))])) rfl ?_
                                refine gx_iinc (pc := 567) hB dL_comes_567 14 (by decide) rfl (nI (i + 1)) (nI_1 _) [(14, .int (nI (i + 1))), (0, .ref (ad 0)), (1, .ref ug), (2, .ref uf), (3, .ref ud), (4, .ref uh), (5, .ref uv), (6, .ref uj), (7, .ref uq), (8, .int way), (9, .int (nI y)), (10, .int (nI d)), (11, .int (nI p)), (12, .int (nI (1 + ((y / 16) % 999)))), (13, .int (nI (1 + ((y / 5) % 6))))] rfl ?_
                                refine gx_goto (pc := 570) hB 504 dL_comes_570 (by decide) ?_
                                refine gx_sub hB (lv' := [(0, .ref (ad 0)), (1, .ref ug), (2, .ref uf), (3, .ref ud), (4, .ref uh), (5, .ref uv), (6, .ref uj), (7, .ref uq), (8, .int way), (9, .int (nI y)), (10, .int (nI d)), (11, .int (nI p)), (12, .int (nI (1 + ((y / 16) % 999)))), (13, .int (nI (1 + ((y / 5) % 6)))), (14, .int (nI (i + 1)))]) [1, 2, 3, 4, 5, 6, 7, 8, 9, 10, 11, 12, 13, 14, 0] rfl ?_
                                exact ih504 (i + 1) (upd Q1 (8 * e + i) (nI (1 + ((y / 5) % 6)))) (by omega) (by rw [hF]; exact congrArg (upd (rowK Q e (nI d) (nI p) (nI (1 + ((y / 16) % 999))) (nI (1 + ((y / 5) % 6))) i) (8 * e + i)) (by rw [if_neg c_20, if_neg c_21, if_neg c_22, if_pos c_23]))
                            · refine gx_iload (pc := 549) hB dL_comes_549 12 rfl ?_
                              refine gx_goto (pc := 551) hB 566 dL_comes_551 (by decide) ?_
                              refine gx_iast (pc := 566) hB dL_comes_566 29 1 rfl rfl (8 * e + i) rfl (by omega) (by decide) ((wZ K ad C R od sn ++ [(ug, .inl (K.2.1.2.1, 8, .inl G)), (uf, .inl (K.2.1.2.1, 60, .inl F)), (ud, .inl (K.2.1.2.1, 56, .inl D)), (uh, .inl (K.2.1.2.1, 48, .inl H)), (uv, .inl (K.2.1.2.1, 48, .inl V)), (uj, .inl (K.2.1.2.1, 48, .inl J)), (uq, .inl (K.2.1.2.1, 48, .inl (upd Q1 (8 * e + i) (nI (1 + ((y / 16) % 999))))))])) rfl ?_
                              refine gx_iinc (pc := 567) hB dL_comes_567 14 (by decide) rfl (nI (i + 1)) (nI_1 _) [(14, .int (nI (i + 1))), (0, .ref (ad 0)), (1, .ref ug), (2, .ref uf), (3, .ref ud), (4, .ref uh), (5, .ref uv), (6, .ref uj), (7, .ref uq), (8, .int way), (9, .int (nI y)), (10, .int (nI d)), (11, .int (nI p)), (12, .int (nI (1 + ((y / 16) % 999)))), (13, .int (nI (1 + ((y / 5) % 6))))] rfl ?_
                              refine gx_goto (pc := 570) hB 504 dL_comes_570 (by decide) ?_
                              refine gx_sub hB (lv' := [(0, .ref (ad 0)), (1, .ref ug), (2, .ref uf), (3, .ref ud), (4, .ref uh), (5, .ref uv), (6, .ref uj), (7, .ref uq), (8, .int way), (9, .int (nI y)), (10, .int (nI d)), (11, .int (nI p)), (12, .int (nI (1 + ((y / 16) % 999)))), (13, .int (nI (1 + ((y / 5) % 6)))), (14, .int (nI (i + 1)))]) [1, 2, 3, 4, 5, 6, 7, 8, 9, 10, 11, 12, 13, 14, 0] rfl ?_
                              exact ih504 (i + 1) (upd Q1 (8 * e + i) (nI (1 + ((y / 16) % 999)))) (by omega) (by rw [hF]; exact congrArg (upd (rowK Q e (nI d) (nI p) (nI (1 + ((y / 16) % 999))) (nI (1 + ((y / 5) % 6))) i) (8 * e + i)) (by rw [if_neg c_20, if_neg c_21, if_pos c_22]))
                          · refine gx_iload (pc := 538) hB dL_comes_538 11 rfl ?_
                            refine gx_goto (pc := 540) hB 566 dL_comes_540 (by decide) ?_
                            refine gx_iast (pc := 566) hB dL_comes_566 29 1 rfl rfl (8 * e + i) rfl (by omega) (by decide) ((wZ K ad C R od sn ++ [(ug, .inl (K.2.1.2.1, 8, .inl G)), (uf, .inl (K.2.1.2.1, 60, .inl F)), (ud, .inl (K.2.1.2.1, 56, .inl D)), (uh, .inl (K.2.1.2.1, 48, .inl H)), (uv, .inl (K.2.1.2.1, 48, .inl V)), (uj, .inl (K.2.1.2.1, 48, .inl J)), (uq, .inl (K.2.1.2.1, 48, .inl (upd Q1 (8 * e + i) (nI p))))])) rfl ?_
                            refine gx_iinc (pc := 567) hB dL_comes_567 14 (by decide) rfl (nI (i + 1)) (nI_1 _) [(14, .int (nI (i + 1))), (0, .ref (ad 0)), (1, .ref ug), (2, .ref uf), (3, .ref ud), (4, .ref uh), (5, .ref uv), (6, .ref uj), (7, .ref uq), (8, .int way), (9, .int (nI y)), (10, .int (nI d)), (11, .int (nI p)), (12, .int (nI (1 + ((y / 16) % 999)))), (13, .int (nI (1 + ((y / 5) % 6))))] rfl ?_
                            refine gx_goto (pc := 570) hB 504 dL_comes_570 (by decide) ?_
                            refine gx_sub hB (lv' := [(0, .ref (ad 0)), (1, .ref ug), (2, .ref uf), (3, .ref ud), (4, .ref uh), (5, .ref uv), (6, .ref uj), (7, .ref uq), (8, .int way), (9, .int (nI y)), (10, .int (nI d)), (11, .int (nI p)), (12, .int (nI (1 + ((y / 16) % 999)))), (13, .int (nI (1 + ((y / 5) % 6)))), (14, .int (nI (i + 1)))]) [1, 2, 3, 4, 5, 6, 7, 8, 9, 10, 11, 12, 13, 14, 0] rfl ?_
                            exact ih504 (i + 1) (upd Q1 (8 * e + i) (nI p)) (by omega) (by rw [hF]; exact congrArg (upd (rowK Q e (nI d) (nI p) (nI (1 + ((y / 16) % 999))) (nI (1 + ((y / 5) % 6))) i) (8 * e + i)) (by rw [if_neg c_20, if_pos c_21]))
                        · refine gx_iload (pc := 527) hB dL_comes_527 10 rfl ?_
                          refine gx_goto (pc := 529) hB 566 dL_comes_529 (by decide) ?_
                          refine gx_iast (pc := 566) hB dL_comes_566 29 1 rfl rfl (8 * e + i) rfl (by omega) (by decide) ((wZ K ad C R od sn ++ [(ug, .inl (K.2.1.2.1, 8, .inl G)), (uf, .inl (K.2.1.2.1, 60, .inl F)), (ud, .inl (K.2.1.2.1, 56, .inl D)), (uh, .inl (K.2.1.2.1, 48, .inl H)), (uv, .inl (K.2.1.2.1, 48, .inl V)), (uj, .inl (K.2.1.2.1, 48, .inl J)), (uq, .inl (K.2.1.2.1, 48, .inl (upd Q1 (8 * e + i) (nI d))))])) rfl ?_
                          refine gx_iinc (pc := 567) hB dL_comes_567 14 (by decide) rfl (nI (i + 1)) (nI_1 _) [(14, .int (nI (i + 1))), (0, .ref (ad 0)), (1, .ref ug), (2, .ref uf), (3, .ref ud), (4, .ref uh), (5, .ref uv), (6, .ref uj), (7, .ref uq), (8, .int way), (9, .int (nI y)), (10, .int (nI d)), (11, .int (nI p)), (12, .int (nI (1 + ((y / 16) % 999)))), (13, .int (nI (1 + ((y / 5) % 6))))] rfl ?_
                          refine gx_goto (pc := 570) hB 504 dL_comes_570 (by decide) ?_
                          refine gx_sub hB (lv' := [(0, .ref (ad 0)), (1, .ref ug), (2, .ref uf), (3, .ref ud), (4, .ref uh), (5, .ref uv), (6, .ref uj), (7, .ref uq), (8, .int way), (9, .int (nI y)), (10, .int (nI d)), (11, .int (nI p)), (12, .int (nI (1 + ((y / 16) % 999)))), (13, .int (nI (1 + ((y / 5) % 6)))), (14, .int (nI (i + 1)))]) [1, 2, 3, 4, 5, 6, 7, 8, 9, 10, 11, 12, 13, 14, 0] rfl ?_
                          exact ih504 (i + 1) (upd Q1 (8 * e + i) (nI d)) (by omega) (by rw [hF]; exact congrArg (upd (rowK Q e (nI d) (nI p) (nI (1 + ((y / 16) % 999))) (nI (1 + ((y / 5) % 6))) i) (8 * e + i)) (by rw [if_pos c_20]))
                  refine gx_sub hB (lv' := [(0, .ref (ad 0)), (1, .ref ug), (2, .ref uf), (3, .ref ud), (4, .ref uh), (5, .ref uv), (6, .ref uj), (7, .ref uq), (8, .int way), (9, .int (nI y)), (10, .int (nI d)), (11, .int (nI p)), (12, .int (nI (1 + ((y / 16) % 999)))), (13, .int (nI (1 + ((y / 5) % 6)))), (14, .int 0)]) [5, 6, 7, 8, 9, 10, 11, 12, 13, 14, 4, 3, 2, 1, 0] rfl ?_
                  exact loop_504 (8) 0 Q (by omega) rfl
                · refine gx_aload_n (pc := 460) hB dL_comes_460 4 rfl ?_
                  refine gx_iload (pc := 461) hB dL_comes_461 3 rfl ?_
                  refine gx_iload (pc := 463) hB dL_comes_463 2 rfl ?_
                  refine gx_iload (pc := 465) hB dL_comes_465 1 rfl ?_
                  refine gx_iload (pc := 467) hB dL_comes_467 0 rfl ?_
                  refine gx_dVA (pc := 469) (r := (bPledge C (nI d) (nI p) (nI (1 + ((y / 16) % 999))) (nI (1 + ((y / 5) % 6)))).1) (W1 := wZ K ad ((bPledge C (nI d) (nI p) (nI (1 + ((y / 16) % 999))) (nI (1 + ((y / 5) % 6)))).2) (kR C R od sn) (kOd (bPledge C (nI d) (nI p) (nI (1 + ((y / 16) % 999))) (nI (1 + ((y / 5) % 6)))).1 od sn) (kSn (bPledge C (nI d) (nI p) (nI (1 + ((y / 16) % 999))) (nI (1 + ((y / 5) % 6)))).1 sn)) (wr := [(ug, .inl (K.2.1.2.1, 8, .inl G)), (uf, .inl (K.2.1.2.1, 60, .inl F)), (ud, .inl (K.2.1.2.1, 56, .inl D)), (uh, .inl (K.2.1.2.1, 48, .inl H)), (uv, .inl (K.2.1.2.1, 48, .inl V)), (uj, .inl (K.2.1.2.1, 48, .inl J)), (uq, .inl (K.2.1.2.1, 48, .inl Q))]) hB (k_pledge l K ad C R od sn (nI d) (nI p) (nI (1 + ((y / 16) % 999))) (nI (1 + ((y / 5) % 6))) ho hsn) mX4_pledge dL_comes_469 tb_285 pX4_pledge ⟨Nat.le_of_ble_eq_true rfl, Nat.le_of_ble_eq_true rfl⟩ ⟨rfl, rfl⟩ ⟨Nat.le_of_ble_eq_true rfl, Nat.le_of_ble_eq_true rfl⟩ rfl (Nat.le_of_ble_eq_true rfl) (List.range 23) (List.range' 23 7) rfl rfl (by decide) (by decide) (by decide) rfl rfl (List.range' 7 23 ++ List.range 7) (by decide) rfl ?_
                  obtain ⟨e_1, hI⟩ := t_pl_no2 (m := 1 + ((y / 16) % 999)) (u := 1 + ((y / 5) % 6)) h0 hd hp ⟨by omega, by omega⟩ ⟨by omega, by omega⟩ c_13 c_16
                  refine gx_top (x := (bPledge C (nI d) (nI p) (nI (1 + ((y / 16) % 999))) (nI (1 + ((y / 5) % 6)))).1) (y := (-3)) e_1 ?_
                  refine gx_aload_n (pc := 472) hB dL_comes_472 6 rfl ?_
                  refine gx_bipush (pc := 473) hB dL_comes_473 10 (by decide) ?_
                  refine gx_iload (pc := 475) hB dL_comes_475 2 rfl ?_
                  refine gx_imul (pc := 477) hB dL_comes_477 ?_
                  refine gx_top (show 10 * nI p = nI (10 * p) from pk_mul 10 p) ?_
                  refine gx_bipush (pc := 478) hB dL_comes_478 9 (by decide) ?_
                  refine gx_iadd (pc := 480) hB dL_comes_480 ?_
                  refine gx_top (show (nI (10 * p)) + 9 = nI (10 * p + 9) from nI_add (10 * p) 9) ?_
                  refine gx_iald (pc := 481) hB dL_comes_481 24 1 rfl rfl (10 * p + 9) rfl (by omega) (by decide) ?_
                  refine gx_if_lt (pc := 482) hB 490 dL_comes_482 (by decide) (fun c_24 => ?_) (fun c_24 => ?_)
                  · refine gx_bipush (pc := 490) hB dL_comes_490 (-3) (by decide) ?_
                    refine gx_icmp_ne (pc := 492) hB 499 dL_comes_492 (by decide) (fun c_25 => ?_) (fun c_25 => ?_)
                    · exact absurd c_25 (by decide)
                    · refine gx_iconst (pc := 495) hB dL_comes_495 1 (by decide) ?_
                      refine gx_goto (pc := 496) hB 500 dL_comes_496 (by decide) ?_
                      exact gx_zret (pc := 500) hC dL_comes_500 (Nat.zero_le _) (Nat.zero_le _) (by decide) ⟨rfl, _, _, _, _, _, _, _, _, _, _, _, rfl, hI⟩
                  · exact (by first | exact absurd c_13 c_24 | exact absurd c_24 c_13 | exact absurd c_13 (Int32.not_le.mpr c_24) | exact absurd c_13 (Int32.not_lt.mpr c_24) | exact absurd (Int32.not_le.mp c_13) c_24 | exact absurd (Int32.not_lt.mp c_13) c_24)
            · refine gx_bipush (pc := 428) hB dL_comes_428 60 (by decide) ?_
              refine gx_goto (pc := 430) hB 435 dL_comes_430 (by decide) ?_
              refine gx_irem (pc := 435) hB dL_comes_435 (by decide) ?_
              refine gx_top (show (nI (y / 5)) - (nI (y / 5)) / 60 * 60 = nI ((y / 5) % 60) from pk_rem (a := y / 5) (d := 60) (by omega) (by omega) (by omega)) ?_
              refine gx_iadd (pc := 436) hB dL_comes_436 ?_
              refine gx_top (show 1 + (nI ((y / 5) % 60)) = nI (1 + ((y / 5) % 60)) from nI_add 1 ((y / 5) % 60)) ?_
              refine gx_istore (pc := 437) hB dL_comes_437 (by decide) [(13, .int (nI (1 + ((y / 5) % 60)))), (12, .int (nI (1 + ((y / 16) % 999)))), (11, .int (nI p)), (10, .int (nI d)), (0, .ref (ad 0)), (1, .ref ug), (2, .ref uf), (3, .ref ud), (4, .ref uh), (5, .ref uv), (6, .ref uj), (7, .ref uq), (8, .int way), (9, .int (nI y))] rfl ?_
              refine gx_aload_n (pc := 439) hB dL_comes_439 6 rfl ?_
              refine gx_bipush (pc := 440) hB dL_comes_440 10 (by decide) ?_
              refine gx_iload (pc := 442) hB dL_comes_442 2 rfl ?_
              refine gx_imul (pc := 444) hB dL_comes_444 ?_
              refine gx_top (show 10 * nI p = nI (10 * p) from pk_mul 10 p) ?_
              refine gx_bipush (pc := 445) hB dL_comes_445 9 (by decide) ?_
              refine gx_iadd (pc := 447) hB dL_comes_447 ?_
              refine gx_top (show (nI (10 * p)) + 9 = nI (10 * p + 9) from nI_add (10 * p) 9) ?_
              refine gx_iald (pc := 448) hB dL_comes_448 24 1 rfl rfl (10 * p + 9) rfl (by omega) (by decide) ?_
              refine gx_if_ge (pc := 449) hB 460 dL_comes_449 (by decide) (fun c_26 => ?_) (fun c_26 => ?_)
              · refine gx_aload_n (pc := 460) hB dL_comes_460 4 rfl ?_
                refine gx_iload (pc := 461) hB dL_comes_461 3 rfl ?_
                refine gx_iload (pc := 463) hB dL_comes_463 2 rfl ?_
                refine gx_iload (pc := 465) hB dL_comes_465 1 rfl ?_
                refine gx_iload (pc := 467) hB dL_comes_467 0 rfl ?_
                refine gx_dVA (pc := 469) (r := (bPledge C (nI d) (nI p) (nI (1 + ((y / 16) % 999))) (nI (1 + ((y / 5) % 60)))).1) (W1 := wZ K ad ((bPledge C (nI d) (nI p) (nI (1 + ((y / 16) % 999))) (nI (1 + ((y / 5) % 60)))).2) (kR C R od sn) (kOd (bPledge C (nI d) (nI p) (nI (1 + ((y / 16) % 999))) (nI (1 + ((y / 5) % 60)))).1 od sn) (kSn (bPledge C (nI d) (nI p) (nI (1 + ((y / 16) % 999))) (nI (1 + ((y / 5) % 60)))).1 sn)) (wr := [(ug, .inl (K.2.1.2.1, 8, .inl G)), (uf, .inl (K.2.1.2.1, 60, .inl F)), (ud, .inl (K.2.1.2.1, 56, .inl D)), (uh, .inl (K.2.1.2.1, 48, .inl H)), (uv, .inl (K.2.1.2.1, 48, .inl V)), (uj, .inl (K.2.1.2.1, 48, .inl J)), (uq, .inl (K.2.1.2.1, 48, .inl Q))]) hB (k_pledge l K ad C R od sn (nI d) (nI p) (nI (1 + ((y / 16) % 999))) (nI (1 + ((y / 5) % 60))) ho hsn) mX4_pledge dL_comes_469 tb_285 pX4_pledge ⟨Nat.le_of_ble_eq_true rfl, Nat.le_of_ble_eq_true rfl⟩ ⟨rfl, rfl⟩ ⟨Nat.le_of_ble_eq_true rfl, Nat.le_of_ble_eq_true rfl⟩ rfl (Nat.le_of_ble_eq_true rfl) (List.range 23) (List.range' 23 7) rfl rfl (by decide) (by decide) (by decide) rfl rfl (List.range' 7 23 ++ List.range 7) (by decide) rfl ?_
                obtain ⟨e_1, hI⟩ := t_pl_no1 (m := 1 + ((y / 16) % 999)) (u := 1 + ((y / 5) % 60)) h0 hd hp ⟨by omega, by omega⟩ ⟨by omega, by omega⟩ c_26
                refine gx_top (x := (bPledge C (nI d) (nI p) (nI (1 + ((y / 16) % 999))) (nI (1 + ((y / 5) % 60)))).1) (y := (-2)) e_1 ?_
                refine gx_aload_n (pc := 472) hB dL_comes_472 6 rfl ?_
                refine gx_bipush (pc := 473) hB dL_comes_473 10 (by decide) ?_
                refine gx_iload (pc := 475) hB dL_comes_475 2 rfl ?_
                refine gx_imul (pc := 477) hB dL_comes_477 ?_
                refine gx_top (show 10 * nI p = nI (10 * p) from pk_mul 10 p) ?_
                refine gx_bipush (pc := 478) hB dL_comes_478 9 (by decide) ?_
                refine gx_iadd (pc := 480) hB dL_comes_480 ?_
                refine gx_top (show (nI (10 * p)) + 9 = nI (10 * p + 9) from nI_add (10 * p) 9) ?_
                refine gx_iald (pc := 481) hB dL_comes_481 24 1 rfl rfl (10 * p + 9) rfl (by omega) (by decide) ?_
                refine gx_if_lt (pc := 482) hB 490 dL_comes_482 (by decide) (fun c_27 => ?_) (fun c_27 => ?_)
                · exact (by first | exact absurd c_26 c_27 | exact absurd c_27 c_26 | exact absurd c_26 (Int32.not_le.mpr c_27) | exact absurd c_26 (Int32.not_lt.mpr c_27) | exact absurd (Int32.not_le.mp c_26) c_27 | exact absurd (Int32.not_lt.mp c_26) c_27)
                · refine gx_bipush (pc := 485) hB dL_comes_485 (-2) (by decide) ?_
                  refine gx_goto (pc := 487) hB 492 dL_comes_487 (by decide) ?_
                  refine gx_icmp_ne (pc := 492) hB 499 dL_comes_492 (by decide) (fun c_28 => ?_) (fun c_28 => ?_)
                  · exact absurd c_28 (by decide)
                  · refine gx_iconst (pc := 495) hB dL_comes_495 1 (by decide) ?_
                    refine gx_goto (pc := 496) hB 500 dL_comes_496 (by decide) ?_
                    exact gx_zret (pc := 500) hC dL_comes_500 (Nat.zero_le _) (Nat.zero_le _) (by decide) ⟨rfl, _, _, _, _, _, _, _, _, _, _, _, rfl, hI⟩
              · refine gx_aload_n (pc := 452) hB dL_comes_452 5 rfl ?_
                refine gx_iconst (pc := 453) hB dL_comes_453 5 (by decide) ?_
                refine gx_iald (pc := 454) hB dL_comes_454 23 1 rfl rfl 5 rfl (by decide) (by decide) ?_
                refine gx_top (show G 5 = nI e from h0.2.1.1.2.2.2.2.2.1) ?_
                refine gx_bipush (pc := 455) hB dL_comes_455 6 (by decide) ?_
                refine gx_icmp_ne (pc := 457) hB 501 dL_comes_457 (by decide) (fun c_29 => ?_) (fun c_29 => ?_)
                · have hel : e < 6 := nI_ne (n := 6) c_29 (by omega)
                  refine gx_iconst (pc := 501) hB dL_comes_501 0 (by decide) ?_
                  refine gx_istore (pc := 502) hB dL_comes_502 (by decide) [(14, .int 0), (13, .int (nI (1 + ((y / 5) % 60)))), (12, .int (nI (1 + ((y / 16) % 999)))), (11, .int (nI p)), (10, .int (nI d)), (0, .ref (ad 0)), (1, .ref ug), (2, .ref uf), (3, .ref ud), (4, .ref uh), (5, .ref uv), (6, .ref uj), (7, .ref uq), (8, .int way), (9, .int (nI y))] rfl ?_
                  have loop_504 : ∀ (dq i : Nat) (Q1 : Nat → Int32), i + dq = 8 → (Q1 = rowK Q e (nI d) (nI p) (nI (1 + ((y / 16) % 999))) (nI (1 + ((y / 5) % 60))) i) → GG 0 0 ((wZ K ad C R od sn ++ [(ug, .inl (K.2.1.2.1, 8, .inl G)), (uf, .inl (K.2.1.2.1, 60, .inl F)), (ud, .inl (K.2.1.2.1, 56, .inl D)), (uh, .inl (K.2.1.2.1, 48, .inl H)), (uv, .inl (K.2.1.2.1, 48, .inl V)), (uj, .inl (K.2.1.2.1, 48, .inl J)), (uq, .inl (K.2.1.2.1, 48, .inl Q1))])) [(0, .ref (ad 0)), (1, .ref ug), (2, .ref uf), (3, .ref ud), (4, .ref uh), (5, .ref uv), (6, .ref uj), (7, .ref uq), (8, .int way), (9, .int (nI y)), (10, .int (nI d)), (11, .int (nI p)), (12, .int (nI (1 + ((y / 16) % 999)))), (13, .int (nI (1 + ((y / 5) % 60)))), (14, .int (nI i))] 504 [] := by
                    intro dq
                    induction dq with
                    | zero =>
                      intro i Q1 hi504 hF
                      have hz504 : i = 8 := by omega
                      refine gx_iload (pc := 504) hB dL_comes_504 14 rfl ?_
                      refine gx_bipush (pc := 506) hB dL_comes_506 8 (by decide) ?_
                      refine gx_icmp_ge (pc := 508) hB 573 dL_comes_508 (by decide) (fun c_30 => ?_) (fun c_30 => ?_)
                      · refine gx_aload_n (pc := 573) hB dL_comes_573 1 rfl ?_
                        refine gx_iconst (pc := 574) hB dL_comes_574 5 (by decide) ?_
                        refine gx_dup2 (pc := 575) hB dL_comes_575 rfl rfl ?_
                        refine gx_iald (pc := 576) hB dL_comes_576 23 1 rfl rfl 5 rfl (by decide) (by decide) ?_
                        refine gx_top (show G 5 = nI e from h0.2.1.1.2.2.2.2.2.1) ?_
                        refine gx_iconst (pc := 577) hB dL_comes_577 1 (by decide) ?_
                        refine gx_iadd (pc := 578) hB dL_comes_578 ?_
                        refine gx_top (show nI e + 1 = nI (e + 1) from nI_add e 1) ?_
                        refine gx_iast (pc := 579) hB dL_comes_579 23 1 rfl rfl 5 rfl (by decide) (by decide) ((wZ K ad C R od sn ++ [(ug, .inl (K.2.1.2.1, 8, .inl (upd G 5 (nI (e + 1))))), (uf, .inl (K.2.1.2.1, 60, .inl F)), (ud, .inl (K.2.1.2.1, 56, .inl D)), (uh, .inl (K.2.1.2.1, 48, .inl H)), (uv, .inl (K.2.1.2.1, 48, .inl V)), (uj, .inl (K.2.1.2.1, 48, .inl J)), (uq, .inl (K.2.1.2.1, 48, .inl Q1))])) rfl ?_
                        refine gx_aload_n (pc := 580) hB dL_comes_580 0 rfl ?_
                        refine gx_iload (pc := 581) hB dL_comes_581 10 rfl ?_
                        refine gx_iload (pc := 583) hB dL_comes_583 11 rfl ?_
                        refine gx_iload (pc := 585) hB dL_comes_585 12 rfl ?_
                        refine gx_iload (pc := 587) hB dL_comes_587 13 rfl ?_
                        refine gx_dVA (pc := 589) (r := (bPledge C (nI d) (nI p) (nI (1 + ((y / 16) % 999))) (nI (1 + ((y / 5) % 60)))).1) (W1 := wZ K ad ((bPledge C (nI d) (nI p) (nI (1 + ((y / 16) % 999))) (nI (1 + ((y / 5) % 60)))).2) (kR C R od sn) (kOd (bPledge C (nI d) (nI p) (nI (1 + ((y / 16) % 999))) (nI (1 + ((y / 5) % 60)))).1 od sn) (kSn (bPledge C (nI d) (nI p) (nI (1 + ((y / 16) % 999))) (nI (1 + ((y / 5) % 60)))).1 sn)) (wr := [(ug, .inl (K.2.1.2.1, 8, .inl (upd G 5 (nI (e + 1))))), (uf, .inl (K.2.1.2.1, 60, .inl F)), (ud, .inl (K.2.1.2.1, 56, .inl D)), (uh, .inl (K.2.1.2.1, 48, .inl H)), (uv, .inl (K.2.1.2.1, 48, .inl V)), (uj, .inl (K.2.1.2.1, 48, .inl J)), (uq, .inl (K.2.1.2.1, 48, .inl Q1))]) hB (k_pledge l K ad C R od sn (nI d) (nI p) (nI (1 + ((y / 16) % 999))) (nI (1 + ((y / 5) % 60))) ho hsn) mX4_pledge dL_comes_589 tb_285 pX4_pledge ⟨Nat.le_of_ble_eq_true rfl, Nat.le_of_ble_eq_true rfl⟩ ⟨rfl, rfl⟩ ⟨Nat.le_of_ble_eq_true rfl, Nat.le_of_ble_eq_true rfl⟩ rfl (Nat.le_of_ble_eq_true rfl) (List.range 23) (List.range' 23 7) rfl rfl (by decide) (by decide) (by decide) rfl rfl (List.range' 7 23 ++ List.range 7) (by decide) rfl ?_
                        obtain ⟨e_1, hI⟩ := t_pl_ok (m := 1 + ((y / 16) % 999)) (u := 1 + ((y / 5) % 60)) h0 hd hp ⟨by omega, by omega⟩ ⟨by omega, by omega⟩ c_26 c_29
                        refine gx_top (x := (bPledge C (nI d) (nI p) (nI (1 + ((y / 16) % 999))) (nI (1 + ((y / 5) % 60)))).1) (y := nI e) e_1 ?_
                        have hF2 : Q1 = rowK Q e (nI d) (nI p) (nI (1 + ((y / 16) % 999))) (nI (1 + ((y / 5) % 60))) 8 := by rw [hF, hz504]
                        rw [← hF2] at hI
                        refine gx_aload_n (pc := 592) hB dL_comes_592 1 rfl ?_
                        refine gx_iconst (pc := 593) hB dL_comes_593 5 (by decide) ?_
                        refine gx_iald (pc := 594) hB dL_comes_594 23 1 rfl rfl 5 rfl (by decide) (by decide) ?_
                        refine gx_top (show (upd G 5 (nI (e + 1))) 5 = nI (e + 1) from pk_us) ?_
                        refine gx_iconst (pc := 595) hB dL_comes_595 1 (by decide) ?_
                        refine gx_isub (pc := 596) hB dL_comes_596 ?_
                        refine gx_top (show (nI (e + 1)) - 1 = nI e from nI_pred e) ?_
                        refine gx_icmp_ne (pc := 597) hB 604 dL_comes_597 (by decide) (fun c_31 => ?_) (fun c_31 => ?_)
                        · exact absurd rfl c_31
                        · refine gx_iconst (pc := 600) hB dL_comes_600 1 (by decide) ?_
                          refine gx_goto (pc := 601) hB 605 dL_comes_601 (by decide) ?_
                          exact gx_zret (pc := 605) hC dL_comes_605 (Nat.zero_le _) (Nat.zero_le _) (by decide) ⟨rfl, _, _, _, _, _, _, _, _, _, _, _, rfl, hI⟩
                      · exact absurd (lpTn (c := 8) (by omega) hi504) c_30
                    | succ dq ih504 =>
                      intro i Q1 hi504 hF
                      refine gx_iload (pc := 504) hB dL_comes_504 14 rfl ?_
                      refine gx_bipush (pc := 506) hB dL_comes_506 8 (by decide) ?_
                      refine gx_icmp_ge (pc := 508) hB 573 dL_comes_508 (by decide) (fun c_32 => ?_) (fun c_32 => ?_)
                      · exact absurd c_32 (lpFn (c := 8) (by omega) hi504)
                      · refine gx_aload (pc := 511) hB dL_comes_511 7 rfl ?_
                        refine gx_bipush (pc := 513) hB dL_comes_513 8 (by decide) ?_
                        refine gx_aload_n (pc := 515) hB dL_comes_515 1 rfl ?_
                        refine gx_iconst (pc := 516) hB dL_comes_516 5 (by decide) ?_
                        refine gx_iald (pc := 517) hB dL_comes_517 23 1 rfl rfl 5 rfl (by decide) (by decide) ?_
                        refine gx_top (show G 5 = nI e from h0.2.1.1.2.2.2.2.2.1) ?_
                        refine gx_imul (pc := 518) hB dL_comes_518 ?_
                        refine gx_top (show 8 * nI e = nI (8 * e) from pk_mul 8 e) ?_
                        refine gx_iload (pc := 519) hB dL_comes_519 14 rfl ?_
                        refine gx_iadd (pc := 521) hB dL_comes_521 ?_
                        refine gx_top (show (nI (8 * e)) + nI i = nI (8 * e + i) from nI_add (8 * e) i) ?_
                        refine gx_iload (pc := 522) hB dL_comes_522 14 rfl ?_
                        refine gx_if_ne (pc := 524) hB 532 dL_comes_524 (by decide) (fun c_33 => ?_) (fun c_33 => ?_)
                        · refine gx_iload (pc := 532) hB dL_comes_532 14 rfl ?_
                          refine gx_iconst (pc := 534) hB dL_comes_534 1 (by decide) ?_
                          refine gx_icmp_ne (pc := 535) hB 543 dL_comes_535 (by decide) (fun c_34 => ?_) (fun c_34 => ?_)
                          · refine gx_iload (pc := 543) hB dL_comes_543 14 rfl ?_
                            refine gx_iconst (pc := 545) hB dL_comes_545 2 (by decide) ?_
                            refine gx_icmp_ne (pc := 546) hB 554 dL_comes_546 (by decide) (fun c_35 => ?_) (fun c_35 => ?_)
                            · refine gx_iload (pc := 554) hB dL_comes_554 14 rfl ?_
                              refine gx_iconst (pc := 556) hB dL_comes_556 3 (by decide) ?_
                              refine gx_icmp_ne (pc := 557) hB 565 dL_comes_557 (by decide) (fun c_36 => ?_) (fun c_36 => ?_)
                              · refine gx_iconst (pc := 565) hB dL_comes_565 0 (by decide) ?_
                                refine gx_iast (pc := 566) hB dL_comes_566 29 1 rfl rfl (8 * e + i) rfl (by omega) (by decide) ((wZ K ad C R od sn ++ [(ug, .inl (K.2.1.2.1, 8, .inl G)), (uf, .inl (K.2.1.2.1, 60, .inl F)), (ud, .inl (K.2.1.2.1, 56, .inl D)), (uh, .inl (K.2.1.2.1, 48, .inl H)), (uv, .inl (K.2.1.2.1, 48, .inl V)), (uj, .inl (K.2.1.2.1, 48, .inl J)), (uq, .inl (K.2.1.2.1, 48, .inl (upd Q1 (8 * e + i) 0)))])) rfl ?_
                                refine gx_iinc (pc := 567) hB dL_comes_567 14 (by decide) rfl (nI (i + 1)) (nI_1 _) [(14, .int (nI (i + 1))), (0, .ref (ad 0)), (1, .ref ug), (2, .ref uf), (3, .ref ud), (4, .ref uh), (5, .ref uv), (6, .ref uj), (7, .ref uq), (8, .int way), (9, .int (nI y)), (10, .int (nI d)), (11, .int (nI p)), (12, .int (nI (1 + ((y / 16) % 999)))), (13, .int (nI (1 + ((y / 5) % 60))))] rfl ?_
                                refine gx_goto (pc := 570) hB 504 dL_comes_570 (by decide) ?_
                                refine gx_sub hB (lv' := [(0, .ref (ad 0)), (1, .ref ug), (2, .ref uf), (3, .ref ud), (4, .ref uh), (5, .ref uv), (6, .ref uj), (7, .ref uq), (8, .int way), (9, .int (nI y)), (10, .int (nI d)), (11, .int (nI p)), (12, .int (nI (1 + ((y / 16) % 999)))), (13, .int (nI (1 + ((y / 5) % 60)))), (14, .int (nI (i + 1)))]) [1, 2, 3, 4, 5, 6, 7, 8, 9, 10, 11, 12, 13, 14, 0] rfl ?_
                                exact ih504 (i + 1) (upd Q1 (8 * e + i) 0) (by omega) (by rw [hF]; exact congrArg (upd (rowK Q e (nI d) (nI p) (nI (1 + ((y / 16) % 999))) (nI (1 + ((y / 5) % 60))) i) (8 * e + i)) (by rw [if_neg c_33, if_neg c_34, if_neg c_35, if_neg c_36]))
                              · refine gx_iload (pc := 560) hB dL_comes_560 13 rfl ?_
                                refine gx_goto (pc := 562) hB 566 dL_comes_562 (by decide) ?_
                                refine gx_iast (pc := 566) hB dL_comes_566 29 1 rfl rfl (8 * e + i) rfl (by omega) (by decide) ((wZ K ad C R od sn ++ [(ug, .inl (K.2.1.2.1, 8, .inl G)), (uf, .inl (K.2.1.2.1, 60, .inl F)), (ud, .inl (K.2.1.2.1, 56, .inl D)), (uh, .inl (K.2.1.2.1, 48, .inl H)), (uv, .inl (K.2.1.2.1, 48, .inl V)), (uj, .inl (K.2.1.2.1, 48, .inl J)), (uq, .inl (K.2.1.2.1, 48, .inl (upd Q1 (8 * e + i) (nI (1 + ((y / 5) % 60))))))])) rfl ?_
                                refine gx_iinc (pc := 567) hB dL_comes_567 14 (by decide) rfl (nI (i + 1)) (nI_1 _) [(14, .int (nI (i + 1))), (0, .ref (ad 0)), (1, .ref ug), (2, .ref uf), (3, .ref ud), (4, .ref uh), (5, .ref uv), (6, .ref uj), (7, .ref uq), (8, .int way), (9, .int (nI y)), (10, .int (nI d)), (11, .int (nI p)), (12, .int (nI (1 + ((y / 16) % 999)))), (13, .int (nI (1 + ((y / 5) % 60))))] rfl ?_
                                refine gx_goto (pc := 570) hB 504 dL_comes_570 (by decide) ?_
                                refine gx_sub hB (lv' := [(0, .ref (ad 0)), (1, .ref ug), (2, .ref uf), (3, .ref ud), (4, .ref uh), (5, .ref uv), (6, .ref uj), (7, .ref uq), (8, .int way), (9, .int (nI y)), (10, .int (nI d)), (11, .int (nI p)), (12, .int (nI (1 + ((y / 16) % 999)))), (13, .int (nI (1 + ((y / 5) % 60)))), (14, .int (nI (i + 1)))]) [1, 2, 3, 4, 5, 6, 7, 8, 9, 10, 11, 12, 13, 14, 0] rfl ?_
                                exact ih504 (i + 1) (upd Q1 (8 * e + i) (nI (1 + ((y / 5) % 60)))) (by omega) (by rw [hF]; exact congrArg (upd (rowK Q e (nI d) (nI p) (nI (1 + ((y / 16) % 999))) (nI (1 + ((y / 5) % 60))) i) (8 * e + i)) (by rw [if_neg c_33, if_neg c_34, if_neg c_35, if_pos c_36]))
                            · refine gx_iload (pc := 549) hB dL_comes_549 12 rfl ?_
                              refine gx_goto (pc := 551) hB 566 dL_comes_551 (by decide) ?_
                              refine gx_iast (pc := 566) hB dL_comes_566 29 1 rfl rfl (8 * e + i) rfl (by omega) (by decide) ((wZ K ad C R od sn ++ [(ug, .inl (K.2.1.2.1, 8, .inl G)), (uf, .inl (K.2.1.2.1, 60, .inl F)), (ud, .inl (K.2.1.2.1, 56, .inl D)), (uh, .inl (K.2.1.2.1, 48, .inl H)), (uv, .inl (K.2.1.2.1, 48, .inl V)), (uj, .inl (K.2.1.2.1, 48, .inl J)), (uq, .inl (K.2.1.2.1, 48, .inl (upd Q1 (8 * e + i) (nI (1 + ((y / 16) % 999))))))])) rfl ?_
                              refine gx_iinc (pc := 567) hB dL_comes_567 14 (by decide) rfl (nI (i + 1)) (nI_1 _) [(14, .int (nI (i + 1))), (0, .ref (ad 0)), (1, .ref ug), (2, .ref uf), (3, .ref ud), (4, .ref uh), (5, .ref uv), (6, .ref uj), (7, .ref uq), (8, .int way), (9, .int (nI y)), (10, .int (nI d)), (11, .int (nI p)), (12, .int (nI (1 + ((y / 16) % 999)))), (13, .int (nI (1 + ((y / 5) % 60))))] rfl ?_
                              refine gx_goto (pc := 570) hB 504 dL_comes_570 (by decide) ?_
                              refine gx_sub hB (lv' := [(0, .ref (ad 0)), (1, .ref ug), (2, .ref uf), (3, .ref ud), (4, .ref uh), (5, .ref uv), (6, .ref uj), (7, .ref uq), (8, .int way), (9, .int (nI y)), (10, .int (nI d)), (11, .int (nI p)), (12, .int (nI (1 + ((y / 16) % 999)))), (13, .int (nI (1 + ((y / 5) % 60)))), (14, .int (nI (i + 1)))]) [1, 2, 3, 4, 5, 6, 7, 8, 9, 10, 11, 12, 13, 14, 0] rfl ?_
                              exact ih504 (i + 1) (upd Q1 (8 * e + i) (nI (1 + ((y / 16) % 999)))) (by omega) (by rw [hF]; exact congrArg (upd (rowK Q e (nI d) (nI p) (nI (1 + ((y / 16) % 999))) (nI (1 + ((y / 5) % 60))) i) (8 * e + i)) (by rw [if_neg c_33, if_neg c_34, if_pos c_35]))
                          · refine gx_iload (pc := 538) hB dL_comes_538 11 rfl ?_
                            refine gx_goto (pc := 540) hB 566 dL_comes_540 (by decide) ?_
                            refine gx_iast (pc := 566) hB dL_comes_566 29 1 rfl rfl (8 * e + i) rfl (by omega) (by decide) ((wZ K ad C R od sn ++ [(ug, .inl (K.2.1.2.1, 8, .inl G)), (uf, .inl (K.2.1.2.1, 60, .inl F)), (ud, .inl (K.2.1.2.1, 56, .inl D)), (uh, .inl (K.2.1.2.1, 48, .inl H)), (uv, .inl (K.2.1.2.1, 48, .inl V)), (uj, .inl (K.2.1.2.1, 48, .inl J)), (uq, .inl (K.2.1.2.1, 48, .inl (upd Q1 (8 * e + i) (nI p))))])) rfl ?_
                            refine gx_iinc (pc := 567) hB dL_comes_567 14 (by decide) rfl (nI (i + 1)) (nI_1 _) [(14, .int (nI (i + 1))), (0, .ref (ad 0)), (1, .ref ug), (2, .ref uf), (3, .ref ud), (4, .ref uh), (5, .ref uv), (6, .ref uj), (7, .ref uq), (8, .int way), (9, .int (nI y)), (10, .int (nI d)), (11, .int (nI p)), (12, .int (nI (1 + ((y / 16) % 999)))), (13, .int (nI (1 + ((y / 5) % 60))))] rfl ?_
                            refine gx_goto (pc := 570) hB 504 dL_comes_570 (by decide) ?_
                            refine gx_sub hB (lv' := [(0, .ref (ad 0)), (1, .ref ug), (2, .ref uf), (3, .ref ud), (4, .ref uh), (5, .ref uv), (6, .ref uj), (7, .ref uq), (8, .int way), (9, .int (nI y)), (10, .int (nI d)), (11, .int (nI p)), (12, .int (nI (1 + ((y / 16) % 999)))), (13, .int (nI (1 + ((y / 5) % 60)))), (14, .int (nI (i + 1)))]) [1, 2, 3, 4, 5, 6, 7, 8, 9, 10, 11, 12, 13, 14, 0] rfl ?_
                            exact ih504 (i + 1) (upd Q1 (8 * e + i) (nI p)) (by omega) (by rw [hF]; exact congrArg (upd (rowK Q e (nI d) (nI p) (nI (1 + ((y / 16) % 999))) (nI (1 + ((y / 5) % 60))) i) (8 * e + i)) (by rw [if_neg c_33, if_pos c_34]))
                        · refine gx_iload (pc := 527) hB dL_comes_527 10 rfl ?_
                          refine gx_goto (pc := 529) hB 566 dL_comes_529 (by decide) ?_
                          refine gx_iast (pc := 566) hB dL_comes_566 29 1 rfl rfl (8 * e + i) rfl (by omega) (by decide) ((wZ K ad C R od sn ++ [(ug, .inl (K.2.1.2.1, 8, .inl G)), (uf, .inl (K.2.1.2.1, 60, .inl F)), (ud, .inl (K.2.1.2.1, 56, .inl D)), (uh, .inl (K.2.1.2.1, 48, .inl H)), (uv, .inl (K.2.1.2.1, 48, .inl V)), (uj, .inl (K.2.1.2.1, 48, .inl J)), (uq, .inl (K.2.1.2.1, 48, .inl (upd Q1 (8 * e + i) (nI d))))])) rfl ?_
                          refine gx_iinc (pc := 567) hB dL_comes_567 14 (by decide) rfl (nI (i + 1)) (nI_1 _) [(14, .int (nI (i + 1))), (0, .ref (ad 0)), (1, .ref ug), (2, .ref uf), (3, .ref ud), (4, .ref uh), (5, .ref uv), (6, .ref uj), (7, .ref uq), (8, .int way), (9, .int (nI y)), (10, .int (nI d)), (11, .int (nI p)), (12, .int (nI (1 + ((y / 16) % 999)))), (13, .int (nI (1 + ((y / 5) % 60))))] rfl ?_
                          refine gx_goto (pc := 570) hB 504 dL_comes_570 (by decide) ?_
                          refine gx_sub hB (lv' := [(0, .ref (ad 0)), (1, .ref ug), (2, .ref uf), (3, .ref ud), (4, .ref uh), (5, .ref uv), (6, .ref uj), (7, .ref uq), (8, .int way), (9, .int (nI y)), (10, .int (nI d)), (11, .int (nI p)), (12, .int (nI (1 + ((y / 16) % 999)))), (13, .int (nI (1 + ((y / 5) % 60)))), (14, .int (nI (i + 1)))]) [1, 2, 3, 4, 5, 6, 7, 8, 9, 10, 11, 12, 13, 14, 0] rfl ?_
                          exact ih504 (i + 1) (upd Q1 (8 * e + i) (nI d)) (by omega) (by rw [hF]; exact congrArg (upd (rowK Q e (nI d) (nI p) (nI (1 + ((y / 16) % 999))) (nI (1 + ((y / 5) % 60))) i) (8 * e + i)) (by rw [if_pos c_33]))
                  refine gx_sub hB (lv' := [(0, .ref (ad 0)), (1, .ref ug), (2, .ref uf), (3, .ref ud), (4, .ref uh), (5, .ref uv), (6, .ref uj), (7, .ref uq), (8, .int way), (9, .int (nI y)), (10, .int (nI d)), (11, .int (nI p)), (12, .int (nI (1 + ((y / 16) % 999)))), (13, .int (nI (1 + ((y / 5) % 60)))), (14, .int 0)]) [5, 6, 7, 8, 9, 10, 11, 12, 13, 14, 4, 3, 2, 1, 0] rfl ?_
                  exact loop_504 (8) 0 Q (by omega) rfl
                · refine gx_aload_n (pc := 460) hB dL_comes_460 4 rfl ?_
                  refine gx_iload (pc := 461) hB dL_comes_461 3 rfl ?_
                  refine gx_iload (pc := 463) hB dL_comes_463 2 rfl ?_
                  refine gx_iload (pc := 465) hB dL_comes_465 1 rfl ?_
                  refine gx_iload (pc := 467) hB dL_comes_467 0 rfl ?_
                  refine gx_dVA (pc := 469) (r := (bPledge C (nI d) (nI p) (nI (1 + ((y / 16) % 999))) (nI (1 + ((y / 5) % 60)))).1) (W1 := wZ K ad ((bPledge C (nI d) (nI p) (nI (1 + ((y / 16) % 999))) (nI (1 + ((y / 5) % 60)))).2) (kR C R od sn) (kOd (bPledge C (nI d) (nI p) (nI (1 + ((y / 16) % 999))) (nI (1 + ((y / 5) % 60)))).1 od sn) (kSn (bPledge C (nI d) (nI p) (nI (1 + ((y / 16) % 999))) (nI (1 + ((y / 5) % 60)))).1 sn)) (wr := [(ug, .inl (K.2.1.2.1, 8, .inl G)), (uf, .inl (K.2.1.2.1, 60, .inl F)), (ud, .inl (K.2.1.2.1, 56, .inl D)), (uh, .inl (K.2.1.2.1, 48, .inl H)), (uv, .inl (K.2.1.2.1, 48, .inl V)), (uj, .inl (K.2.1.2.1, 48, .inl J)), (uq, .inl (K.2.1.2.1, 48, .inl Q))]) hB (k_pledge l K ad C R od sn (nI d) (nI p) (nI (1 + ((y / 16) % 999))) (nI (1 + ((y / 5) % 60))) ho hsn) mX4_pledge dL_comes_469 tb_285 pX4_pledge ⟨Nat.le_of_ble_eq_true rfl, Nat.le_of_ble_eq_true rfl⟩ ⟨rfl, rfl⟩ ⟨Nat.le_of_ble_eq_true rfl, Nat.le_of_ble_eq_true rfl⟩ rfl (Nat.le_of_ble_eq_true rfl) (List.range 23) (List.range' 23 7) rfl rfl (by decide) (by decide) (by decide) rfl rfl (List.range' 7 23 ++ List.range 7) (by decide) rfl ?_
                  obtain ⟨e_1, hI⟩ := t_pl_no2 (m := 1 + ((y / 16) % 999)) (u := 1 + ((y / 5) % 60)) h0 hd hp ⟨by omega, by omega⟩ ⟨by omega, by omega⟩ c_26 c_29
                  refine gx_top (x := (bPledge C (nI d) (nI p) (nI (1 + ((y / 16) % 999))) (nI (1 + ((y / 5) % 60)))).1) (y := (-3)) e_1 ?_
                  refine gx_aload_n (pc := 472) hB dL_comes_472 6 rfl ?_
                  refine gx_bipush (pc := 473) hB dL_comes_473 10 (by decide) ?_
                  refine gx_iload (pc := 475) hB dL_comes_475 2 rfl ?_
                  refine gx_imul (pc := 477) hB dL_comes_477 ?_
                  refine gx_top (show 10 * nI p = nI (10 * p) from pk_mul 10 p) ?_
                  refine gx_bipush (pc := 478) hB dL_comes_478 9 (by decide) ?_
                  refine gx_iadd (pc := 480) hB dL_comes_480 ?_
                  refine gx_top (show (nI (10 * p)) + 9 = nI (10 * p + 9) from nI_add (10 * p) 9) ?_
                  refine gx_iald (pc := 481) hB dL_comes_481 24 1 rfl rfl (10 * p + 9) rfl (by omega) (by decide) ?_
                  refine gx_if_lt (pc := 482) hB 490 dL_comes_482 (by decide) (fun c_37 => ?_) (fun c_37 => ?_)
                  · refine gx_bipush (pc := 490) hB dL_comes_490 (-3) (by decide) ?_
                    refine gx_icmp_ne (pc := 492) hB 499 dL_comes_492 (by decide) (fun c_38 => ?_) (fun c_38 => ?_)
                    · exact absurd c_38 (by decide)
                    · refine gx_iconst (pc := 495) hB dL_comes_495 1 (by decide) ?_
                      refine gx_goto (pc := 496) hB 500 dL_comes_496 (by decide) ?_
                      exact gx_zret (pc := 500) hC dL_comes_500 (Nat.zero_le _) (Nat.zero_le _) (by decide) ⟨rfl, _, _, _, _, _, _, _, _, _, _, _, rfl, hI⟩
                  · exact (by first | exact absurd c_26 c_37 | exact absurd c_37 c_26 | exact absurd c_26 (Int32.not_le.mpr c_37) | exact absurd c_26 (Int32.not_lt.mpr c_37) | exact absurd (Int32.not_le.mp c_26) c_37 | exact absurd (Int32.not_lt.mp c_26) c_37)
          · refine gx_iconst (pc := 275) hB dL_comes_275 1 (by decide) ?_
            refine gx_iload (pc := 276) hB dL_comes_276 11 rfl ?_
            refine gx_bipush (pc := 278) hB dL_comes_278 16 (by decide) ?_
            refine gx_idiv (pc := 280) hB dL_comes_280 (by decide) ?_
            refine gx_top (show nI y / 16 = nI (y / 16) from pk_div (a := y) (d := 16) (by omega) (by omega) (by omega)) ?_
            refine gx_iload (pc := 281) hB dL_comes_281 11 rfl ?_
            refine gx_iconst (pc := 283) hB dL_comes_283 4 (by decide) ?_
            refine gx_irem (pc := 284) hB dL_comes_284 (by decide) ?_
            refine gx_top (show nI y - nI y / 4 * 4 = nI (y % 4) from pk_rem (a := y) (d := 4) (by omega) (by omega) (by omega)) ?_
            refine gx_if_ne (pc := 285) hB 294 dL_comes_285 (by decide) (fun c_39 => ?_) (fun c_39 => ?_)
            · refine gx_sipush (pc := 294) hB dL_comes_294 300 (by decide) ?_
              refine gx_irem (pc := 297) hB dL_comes_297 (by decide) ?_
              refine gx_top (show (nI (y / 16)) - (nI (y / 16)) / 300 * 300 = nI ((y / 16) % 300) from pk_rem (a := y / 16) (d := 300) (by omega) (by omega) (by omega)) ?_
              refine gx_iadd (pc := 298) hB dL_comes_298 ?_
              refine gx_top (show 1 + (nI ((y / 16) % 300)) = nI (1 + ((y / 16) % 300)) from nI_add 1 ((y / 16) % 300)) ?_
              refine gx_istore (pc := 299) hB dL_comes_299 (by decide) [(12, .int (nI (1 + ((y / 16) % 300)))), (11, .int (nI p)), (10, .int (nI d)), (0, .ref (ad 0)), (1, .ref ug), (2, .ref uf), (3, .ref ud), (4, .ref uh), (5, .ref uv), (6, .ref uj), (7, .ref uq), (8, .int way), (9, .int (nI y))] rfl ?_
              refine gx_aload_n (pc := 301) hB dL_comes_301 5 rfl ?_
              refine gx_bipush (pc := 302) hB dL_comes_302 10 (by decide) ?_
              refine gx_iload (pc := 304) hB dL_comes_304 1 rfl ?_
              refine gx_imul (pc := 306) hB dL_comes_306 ?_
              refine gx_top (show 10 * nI p = nI (10 * p) from pk_mul 10 p) ?_
              refine gx_bipush (pc := 307) hB dL_comes_307 9 (by decide) ?_
              refine gx_iadd (pc := 309) hB dL_comes_309 ?_
              refine gx_top (show (nI (10 * p)) + 9 = nI (10 * p + 9) from nI_add (10 * p) 9) ?_
              refine gx_iald (pc := 310) hB dL_comes_310 24 1 rfl rfl (10 * p + 9) rfl (by omega) (by decide) ?_
              refine gx_if_ge (pc := 311) hB 322 dL_comes_311 (by decide) (fun c_40 => ?_) (fun c_40 => ?_)
              · refine gx_aload_n (pc := 322) hB dL_comes_322 3 rfl ?_
                refine gx_iload (pc := 323) hB dL_comes_323 2 rfl ?_
                refine gx_iload (pc := 325) hB dL_comes_325 1 rfl ?_
                refine gx_iload (pc := 327) hB dL_comes_327 0 rfl ?_
                refine gx_dVA (pc := 329) (r := (bGive C (nI d) (nI p) (nI (1 + ((y / 16) % 300)))).1) (W1 := wZ K ad ((bGive C (nI d) (nI p) (nI (1 + ((y / 16) % 300)))).2) (kR C R od sn) (kOd (bGive C (nI d) (nI p) (nI (1 + ((y / 16) % 300)))).1 od sn) (kSn (bGive C (nI d) (nI p) (nI (1 + ((y / 16) % 300)))).1 sn)) (wr := [(ug, .inl (K.2.1.2.1, 8, .inl G)), (uf, .inl (K.2.1.2.1, 60, .inl F)), (ud, .inl (K.2.1.2.1, 56, .inl D)), (uh, .inl (K.2.1.2.1, 48, .inl H)), (uv, .inl (K.2.1.2.1, 48, .inl V)), (uj, .inl (K.2.1.2.1, 48, .inl J)), (uq, .inl (K.2.1.2.1, 48, .inl Q))]) hB (k_give l K ad C R od sn (nI d) (nI p) (nI (1 + ((y / 16) % 300))) ho hsn) mX4_give dL_comes_329 tb_262 pX4_give ⟨Nat.le_of_ble_eq_true rfl, Nat.le_of_ble_eq_true rfl⟩ ⟨rfl, rfl⟩ ⟨Nat.le_of_ble_eq_true rfl, Nat.le_of_ble_eq_true rfl⟩ rfl (Nat.le_of_ble_eq_true rfl) (List.range 23) (List.range' 23 7) rfl rfl (by decide) (by decide) (by decide) rfl rfl (List.range' 7 23 ++ List.range 7) (by decide) rfl ?_
                obtain ⟨e_1, hI⟩ := t_give_no1 (m := 1 + ((y / 16) % 300)) h0 hd hp ⟨by omega, by omega⟩ c_40
                refine gx_top (x := (bGive C (nI d) (nI p) (nI (1 + ((y / 16) % 300)))).1) (y := (-2)) e_1 ?_
                refine gx_aload_n (pc := 332) hB dL_comes_332 5 rfl ?_
                refine gx_bipush (pc := 333) hB dL_comes_333 10 (by decide) ?_
                refine gx_iload (pc := 335) hB dL_comes_335 1 rfl ?_
                refine gx_imul (pc := 337) hB dL_comes_337 ?_
                refine gx_top (show 10 * nI p = nI (10 * p) from pk_mul 10 p) ?_
                refine gx_bipush (pc := 338) hB dL_comes_338 9 (by decide) ?_
                refine gx_iadd (pc := 340) hB dL_comes_340 ?_
                refine gx_top (show (nI (10 * p)) + 9 = nI (10 * p + 9) from nI_add (10 * p) 9) ?_
                refine gx_iald (pc := 341) hB dL_comes_341 24 1 rfl rfl (10 * p + 9) rfl (by omega) (by decide) ?_
                refine gx_if_lt (pc := 342) hB 350 dL_comes_342 (by decide) (fun c_41 => ?_) (fun c_41 => ?_)
                · exact (by first | exact absurd c_40 c_41 | exact absurd c_41 c_40 | exact absurd c_40 (Int32.not_le.mpr c_41) | exact absurd c_40 (Int32.not_lt.mpr c_41) | exact absurd (Int32.not_le.mp c_40) c_41 | exact absurd (Int32.not_lt.mp c_40) c_41)
                · refine gx_bipush (pc := 345) hB dL_comes_345 (-2) (by decide) ?_
                  refine gx_goto (pc := 347) hB 352 dL_comes_347 (by decide) ?_
                  refine gx_icmp_ne (pc := 352) hB 359 dL_comes_352 (by decide) (fun c_42 => ?_) (fun c_42 => ?_)
                  · exact absurd c_42 (by decide)
                  · refine gx_iconst (pc := 355) hB dL_comes_355 1 (by decide) ?_
                    refine gx_goto (pc := 356) hB 360 dL_comes_356 (by decide) ?_
                    exact gx_zret (pc := 360) hC dL_comes_360 (Nat.zero_le _) (Nat.zero_le _) (by decide) ⟨rfl, _, _, _, _, _, _, _, _, _, _, _, rfl, hI⟩
              · refine gx_aload_n (pc := 314) hB dL_comes_314 4 rfl ?_
                refine gx_iconst (pc := 315) hB dL_comes_315 4 (by decide) ?_
                refine gx_iald (pc := 316) hB dL_comes_316 23 1 rfl rfl 4 rfl (by decide) (by decide) ?_
                refine gx_top (show G 4 = nI c from h0.2.1.1.2.2.2.2.1) ?_
                refine gx_bipush (pc := 317) hB dL_comes_317 24 (by decide) ?_
                refine gx_icmp_ne (pc := 319) hB 361 dL_comes_319 (by decide) (fun c_43 => ?_) (fun c_43 => ?_)
                · refine gx_aload_n (pc := 361) hB dL_comes_361 4 rfl ?_
                  refine gx_aload_n (pc := 362) hB dL_comes_362 5 rfl ?_
                  refine gx_aload (pc := 363) hB dL_comes_363 7 rfl ?_
                  refine gx_aload (pc := 365) hB dL_comes_365 8 rfl ?_
                  refine gx_aload (pc := 367) hB dL_comes_367 9 rfl ?_
                  refine gx_iload (pc := 369) hB dL_comes_369 2 rfl ?_
                  refine gx_iload (pc := 371) hB dL_comes_371 1 rfl ?_
                  refine gx_iload (pc := 373) hB dL_comes_373 0 rfl ?_
                  refine gx_bipush (pc := 375) hB dL_comes_375 (-4) (by decide) ?_
                  refine gx_dSi (pc := 377) (r := nI c) (wr := (wZ K ad C R od sn ++ [(ud, .inl (K.2.1.2.1, 56, .inl D)), (uq, .inl (K.2.1.2.1, 48, .inl Q))])) hB (c_L_gift l K ug uf uh uv uj G F H V J c p (nI d) (nI (1 + ((y / 16) % 300))) (-4) h0.2.1.1.2.2.2.2.1 (nI_ne (n := 24) c_43 (by omega)) (by first | assumption | omega | decide)) mL_gift dL_comes_377 tb_282 pL_gift ⟨Nat.le_of_ble_eq_true rfl, Nat.le_of_ble_eq_true rfl⟩ ⟨rfl, rfl⟩ ⟨Nat.le_of_ble_eq_true rfl, Nat.le_of_ble_eq_true rfl⟩ rfl (Nat.le_of_ble_eq_true rfl) [23, 24, 26, 27, 28] [0, 1, 2, 3, 4, 5, 6, 7, 8, 9, 10, 11, 12, 13, 14, 15, 16, 17, 18, 19, 20, 21, 22, 25, 29] rfl rfl (by decide) (by decide) (by decide) [0, 1, 2, 3, 4, 5, 6, 7, 8, 9, 10, 11, 12, 13, 14, 15, 16, 17, 18, 19, 20, 21, 22, 25, 26, 23, 27, 28, 29, 24] (by decide) ((wZ K ad C R od sn ++ [(ug, .inl (K.2.1.2.1, 8, .inl (upd G 4 (nI (c + 1))))), (uf, .inl (K.2.1.2.1, 60, .inl (upd (upd F (10 * p) ((F (10 * p)) + (nI (1 + ((y / 16) % 300))))) (10 * p + 1) (((upd F (10 * p) ((F (10 * p)) + (nI (1 + ((y / 16) % 300))))) (10 * p + 1)) + (nI (1 + ((y / 16) % 300))))))), (ud, .inl (K.2.1.2.1, 56, .inl D)), (uh, .inl (K.2.1.2.1, 48, .inl (upd (upd H (2 * c) (nI d)) (2 * c + 1) (nI p)))), (uv, .inl (K.2.1.2.1, 48, .inl (upd (upd V (2 * c) (nI (1 + ((y / 16) % 300)))) (2 * c + 1) (G 6)))), (uj, .inl (K.2.1.2.1, 48, .inl (upd (upd J (2 * c) 0) (2 * c + 1) (-4)))), (uq, .inl (K.2.1.2.1, 48, .inl Q))])) rfl ?_
                  refine gx_istore (pc := 380) hB dL_comes_380 (by decide) [(13, .int (nI c)), (12, .int (nI (1 + ((y / 16) % 300)))), (11, .int (nI p)), (10, .int (nI d)), (0, .ref (ad 0)), (1, .ref ug), (2, .ref uf), (3, .ref ud), (4, .ref uh), (5, .ref uv), (6, .ref uj), (7, .ref uq), (8, .int way), (9, .int (nI y))] rfl ?_
                  refine gx_aload_n (pc := 382) hB dL_comes_382 4 rfl ?_
                  refine gx_iload (pc := 383) hB dL_comes_383 3 rfl ?_
                  refine gx_iload (pc := 385) hB dL_comes_385 2 rfl ?_
                  refine gx_iload (pc := 387) hB dL_comes_387 1 rfl ?_
                  refine gx_dVA (pc := 389) (r := (bGive C (nI d) (nI p) (nI (1 + ((y / 16) % 300)))).1) (W1 := wZ K ad ((bGive C (nI d) (nI p) (nI (1 + ((y / 16) % 300)))).2) (kR C R od sn) (kOd (bGive C (nI d) (nI p) (nI (1 + ((y / 16) % 300)))).1 od sn) (kSn (bGive C (nI d) (nI p) (nI (1 + ((y / 16) % 300)))).1 sn)) (wr := [(ug, .inl (K.2.1.2.1, 8, .inl (upd G 4 (nI (c + 1))))), (uf, .inl (K.2.1.2.1, 60, .inl (upd (upd F (10 * p) ((F (10 * p)) + (nI (1 + ((y / 16) % 300))))) (10 * p + 1) (((upd F (10 * p) ((F (10 * p)) + (nI (1 + ((y / 16) % 300))))) (10 * p + 1)) + (nI (1 + ((y / 16) % 300))))))), (ud, .inl (K.2.1.2.1, 56, .inl D)), (uh, .inl (K.2.1.2.1, 48, .inl (upd (upd H (2 * c) (nI d)) (2 * c + 1) (nI p)))), (uv, .inl (K.2.1.2.1, 48, .inl (upd (upd V (2 * c) (nI (1 + ((y / 16) % 300)))) (2 * c + 1) (G 6)))), (uj, .inl (K.2.1.2.1, 48, .inl (upd (upd J (2 * c) 0) (2 * c + 1) (-4)))), (uq, .inl (K.2.1.2.1, 48, .inl Q))]) hB (k_give l K ad C R od sn (nI d) (nI p) (nI (1 + ((y / 16) % 300))) ho hsn) mX4_give dL_comes_389 tb_262 pX4_give ⟨Nat.le_of_ble_eq_true rfl, Nat.le_of_ble_eq_true rfl⟩ ⟨rfl, rfl⟩ ⟨Nat.le_of_ble_eq_true rfl, Nat.le_of_ble_eq_true rfl⟩ rfl (Nat.le_of_ble_eq_true rfl) (List.range 23) (List.range' 23 7) rfl rfl (by decide) (by decide) (by decide) rfl rfl (List.range' 7 23 ++ List.range 7) (by decide) rfl ?_
                  obtain ⟨e_1, hI⟩ := t_give_ok (m := 1 + ((y / 16) % 300)) h0 hd hp ⟨by omega, by omega⟩ c_40 c_43
                  refine gx_top (x := (bGive C (nI d) (nI p) (nI (1 + ((y / 16) % 300)))).1) (y := nI c) e_1 ?_
                  refine gx_iload (pc := 392) hB dL_comes_392 0 rfl ?_
                  refine gx_icmp_ne (pc := 394) hB 401 dL_comes_394 (by decide) (fun c_44 => ?_) (fun c_44 => ?_)
                  · exact absurd rfl c_44
                  · refine gx_iconst (pc := 397) hB dL_comes_397 1 (by decide) ?_
                    refine gx_goto (pc := 398) hB 402 dL_comes_398 (by decide) ?_
                    exact gx_zret (pc := 402) hC dL_comes_402 (Nat.zero_le _) (Nat.zero_le _) (by decide) ⟨rfl, _, _, _, _, _, _, _, _, _, _, _, rfl, hI⟩
                · refine gx_aload_n (pc := 322) hB dL_comes_322 3 rfl ?_
                  refine gx_iload (pc := 323) hB dL_comes_323 2 rfl ?_
                  refine gx_iload (pc := 325) hB dL_comes_325 1 rfl ?_
                  refine gx_iload (pc := 327) hB dL_comes_327 0 rfl ?_
                  refine gx_dVA (pc := 329) (r := (bGive C (nI d) (nI p) (nI (1 + ((y / 16) % 300)))).1) (W1 := wZ K ad ((bGive C (nI d) (nI p) (nI (1 + ((y / 16) % 300)))).2) (kR C R od sn) (kOd (bGive C (nI d) (nI p) (nI (1 + ((y / 16) % 300)))).1 od sn) (kSn (bGive C (nI d) (nI p) (nI (1 + ((y / 16) % 300)))).1 sn)) (wr := [(ug, .inl (K.2.1.2.1, 8, .inl G)), (uf, .inl (K.2.1.2.1, 60, .inl F)), (ud, .inl (K.2.1.2.1, 56, .inl D)), (uh, .inl (K.2.1.2.1, 48, .inl H)), (uv, .inl (K.2.1.2.1, 48, .inl V)), (uj, .inl (K.2.1.2.1, 48, .inl J)), (uq, .inl (K.2.1.2.1, 48, .inl Q))]) hB (k_give l K ad C R od sn (nI d) (nI p) (nI (1 + ((y / 16) % 300))) ho hsn) mX4_give dL_comes_329 tb_262 pX4_give ⟨Nat.le_of_ble_eq_true rfl, Nat.le_of_ble_eq_true rfl⟩ ⟨rfl, rfl⟩ ⟨Nat.le_of_ble_eq_true rfl, Nat.le_of_ble_eq_true rfl⟩ rfl (Nat.le_of_ble_eq_true rfl) (List.range 23) (List.range' 23 7) rfl rfl (by decide) (by decide) (by decide) rfl rfl (List.range' 7 23 ++ List.range 7) (by decide) rfl ?_
                  obtain ⟨e_1, hI⟩ := t_give_no2 (m := 1 + ((y / 16) % 300)) h0 hd hp ⟨by omega, by omega⟩ c_40 c_43
                  refine gx_top (x := (bGive C (nI d) (nI p) (nI (1 + ((y / 16) % 300)))).1) (y := (-3)) e_1 ?_
                  refine gx_aload_n (pc := 332) hB dL_comes_332 5 rfl ?_
                  refine gx_bipush (pc := 333) hB dL_comes_333 10 (by decide) ?_
                  refine gx_iload (pc := 335) hB dL_comes_335 1 rfl ?_
                  refine gx_imul (pc := 337) hB dL_comes_337 ?_
                  refine gx_top (show 10 * nI p = nI (10 * p) from pk_mul 10 p) ?_
                  refine gx_bipush (pc := 338) hB dL_comes_338 9 (by decide) ?_
                  refine gx_iadd (pc := 340) hB dL_comes_340 ?_
                  refine gx_top (show (nI (10 * p)) + 9 = nI (10 * p + 9) from nI_add (10 * p) 9) ?_
                  refine gx_iald (pc := 341) hB dL_comes_341 24 1 rfl rfl (10 * p + 9) rfl (by omega) (by decide) ?_
                  refine gx_if_lt (pc := 342) hB 350 dL_comes_342 (by decide) (fun c_45 => ?_) (fun c_45 => ?_)
                  · refine gx_bipush (pc := 350) hB dL_comes_350 (-3) (by decide) ?_
                    refine gx_icmp_ne (pc := 352) hB 359 dL_comes_352 (by decide) (fun c_46 => ?_) (fun c_46 => ?_)
                    · exact absurd c_46 (by decide)
                    · refine gx_iconst (pc := 355) hB dL_comes_355 1 (by decide) ?_
                      refine gx_goto (pc := 356) hB 360 dL_comes_356 (by decide) ?_
                      exact gx_zret (pc := 360) hC dL_comes_360 (Nat.zero_le _) (Nat.zero_le _) (by decide) ⟨rfl, _, _, _, _, _, _, _, _, _, _, _, rfl, hI⟩
                  · exact (by first | exact absurd c_40 c_45 | exact absurd c_45 c_40 | exact absurd c_40 (Int32.not_le.mpr c_45) | exact absurd c_40 (Int32.not_lt.mpr c_45) | exact absurd (Int32.not_le.mp c_40) c_45 | exact absurd (Int32.not_lt.mp c_40) c_45)
            · refine gx_sipush (pc := 288) hB dL_comes_288 9999 (by decide) ?_
              refine gx_goto (pc := 291) hB 297 dL_comes_291 (by decide) ?_
              refine gx_irem (pc := 297) hB dL_comes_297 (by decide) ?_
              refine gx_top (show (nI (y / 16)) - (nI (y / 16)) / 9999 * 9999 = nI ((y / 16) % 9999) from pk_rem (a := y / 16) (d := 9999) (by omega) (by omega) (by omega)) ?_
              refine gx_iadd (pc := 298) hB dL_comes_298 ?_
              refine gx_top (show 1 + (nI ((y / 16) % 9999)) = nI (1 + ((y / 16) % 9999)) from nI_add 1 ((y / 16) % 9999)) ?_
              refine gx_istore (pc := 299) hB dL_comes_299 (by decide) [(12, .int (nI (1 + ((y / 16) % 9999)))), (11, .int (nI p)), (10, .int (nI d)), (0, .ref (ad 0)), (1, .ref ug), (2, .ref uf), (3, .ref ud), (4, .ref uh), (5, .ref uv), (6, .ref uj), (7, .ref uq), (8, .int way), (9, .int (nI y))] rfl ?_
              refine gx_aload_n (pc := 301) hB dL_comes_301 5 rfl ?_
              refine gx_bipush (pc := 302) hB dL_comes_302 10 (by decide) ?_
              refine gx_iload (pc := 304) hB dL_comes_304 1 rfl ?_
              refine gx_imul (pc := 306) hB dL_comes_306 ?_
              refine gx_top (show 10 * nI p = nI (10 * p) from pk_mul 10 p) ?_
              refine gx_bipush (pc := 307) hB dL_comes_307 9 (by decide) ?_
              refine gx_iadd (pc := 309) hB dL_comes_309 ?_
              refine gx_top (show (nI (10 * p)) + 9 = nI (10 * p + 9) from nI_add (10 * p) 9) ?_
              refine gx_iald (pc := 310) hB dL_comes_310 24 1 rfl rfl (10 * p + 9) rfl (by omega) (by decide) ?_
              refine gx_if_ge (pc := 311) hB 322 dL_comes_311 (by decide) (fun c_47 => ?_) (fun c_47 => ?_)
              · refine gx_aload_n (pc := 322) hB dL_comes_322 3 rfl ?_
                refine gx_iload (pc := 323) hB dL_comes_323 2 rfl ?_
                refine gx_iload (pc := 325) hB dL_comes_325 1 rfl ?_
                refine gx_iload (pc := 327) hB dL_comes_327 0 rfl ?_
                refine gx_dVA (pc := 329) (r := (bGive C (nI d) (nI p) (nI (1 + ((y / 16) % 9999)))).1) (W1 := wZ K ad ((bGive C (nI d) (nI p) (nI (1 + ((y / 16) % 9999)))).2) (kR C R od sn) (kOd (bGive C (nI d) (nI p) (nI (1 + ((y / 16) % 9999)))).1 od sn) (kSn (bGive C (nI d) (nI p) (nI (1 + ((y / 16) % 9999)))).1 sn)) (wr := [(ug, .inl (K.2.1.2.1, 8, .inl G)), (uf, .inl (K.2.1.2.1, 60, .inl F)), (ud, .inl (K.2.1.2.1, 56, .inl D)), (uh, .inl (K.2.1.2.1, 48, .inl H)), (uv, .inl (K.2.1.2.1, 48, .inl V)), (uj, .inl (K.2.1.2.1, 48, .inl J)), (uq, .inl (K.2.1.2.1, 48, .inl Q))]) hB (k_give l K ad C R od sn (nI d) (nI p) (nI (1 + ((y / 16) % 9999))) ho hsn) mX4_give dL_comes_329 tb_262 pX4_give ⟨Nat.le_of_ble_eq_true rfl, Nat.le_of_ble_eq_true rfl⟩ ⟨rfl, rfl⟩ ⟨Nat.le_of_ble_eq_true rfl, Nat.le_of_ble_eq_true rfl⟩ rfl (Nat.le_of_ble_eq_true rfl) (List.range 23) (List.range' 23 7) rfl rfl (by decide) (by decide) (by decide) rfl rfl (List.range' 7 23 ++ List.range 7) (by decide) rfl ?_
                obtain ⟨e_1, hI⟩ := t_give_no1 (m := 1 + ((y / 16) % 9999)) h0 hd hp ⟨by omega, by omega⟩ c_47
                refine gx_top (x := (bGive C (nI d) (nI p) (nI (1 + ((y / 16) % 9999)))).1) (y := (-2)) e_1 ?_
                refine gx_aload_n (pc := 332) hB dL_comes_332 5 rfl ?_
                refine gx_bipush (pc := 333) hB dL_comes_333 10 (by decide) ?_
                refine gx_iload (pc := 335) hB dL_comes_335 1 rfl ?_
                refine gx_imul (pc := 337) hB dL_comes_337 ?_
                refine gx_top (show 10 * nI p = nI (10 * p) from pk_mul 10 p) ?_
                refine gx_bipush (pc := 338) hB dL_comes_338 9 (by decide) ?_
                refine gx_iadd (pc := 340) hB dL_comes_340 ?_
                refine gx_top (show (nI (10 * p)) + 9 = nI (10 * p + 9) from nI_add (10 * p) 9) ?_
                refine gx_iald (pc := 341) hB dL_comes_341 24 1 rfl rfl (10 * p + 9) rfl (by omega) (by decide) ?_
                refine gx_if_lt (pc := 342) hB 350 dL_comes_342 (by decide) (fun c_48 => ?_) (fun c_48 => ?_)
                · exact (by first | exact absurd c_47 c_48 | exact absurd c_48 c_47 | exact absurd c_47 (Int32.not_le.mpr c_48) | exact absurd c_47 (Int32.not_lt.mpr c_48) | exact absurd (Int32.not_le.mp c_47) c_48 | exact absurd (Int32.not_lt.mp c_47) c_48)
                · refine gx_bipush (pc := 345) hB dL_comes_345 (-2) (by decide) ?_
                  refine gx_goto (pc := 347) hB 352 dL_comes_347 (by decide) ?_
                  refine gx_icmp_ne (pc := 352) hB 359 dL_comes_352 (by decide) (fun c_49 => ?_) (fun c_49 => ?_)
                  · exact absurd c_49 (by decide)
                  · refine gx_iconst (pc := 355) hB dL_comes_355 1 (by decide) ?_
                    refine gx_goto (pc := 356) hB 360 dL_comes_356 (by decide) ?_
                    exact gx_zret (pc := 360) hC dL_comes_360 (Nat.zero_le _) (Nat.zero_le _) (by decide) ⟨rfl, _, _, _, _, _, _, _, _, _, _, _, rfl, hI⟩
              · refine gx_aload_n (pc := 314) hB dL_comes_314 4 rfl ?_
                refine gx_iconst (pc := 315) hB dL_comes_315 4 (by decide) ?_
                refine gx_iald (pc := 316) hB dL_comes_316 23 1 rfl rfl 4 rfl (by decide) (by decide) ?_
                refine gx_top (show G 4 = nI c from h0.2.1.1.2.2.2.2.1) ?_
                refine gx_bipush (pc := 317) hB dL_comes_317 24 (by decide) ?_
                refine gx_icmp_ne (pc := 319) hB 361 dL_comes_319 (by decide) (fun c_50 => ?_) (fun c_50 => ?_)
                · refine gx_aload_n (pc := 361) hB dL_comes_361 4 rfl ?_
                  refine gx_aload_n (pc := 362) hB dL_comes_362 5 rfl ?_
                  refine gx_aload (pc := 363) hB dL_comes_363 7 rfl ?_
                  refine gx_aload (pc := 365) hB dL_comes_365 8 rfl ?_
                  refine gx_aload (pc := 367) hB dL_comes_367 9 rfl ?_
                  refine gx_iload (pc := 369) hB dL_comes_369 2 rfl ?_
                  refine gx_iload (pc := 371) hB dL_comes_371 1 rfl ?_
                  refine gx_iload (pc := 373) hB dL_comes_373 0 rfl ?_
                  refine gx_bipush (pc := 375) hB dL_comes_375 (-4) (by decide) ?_
                  refine gx_dSi (pc := 377) (r := nI c) (wr := (wZ K ad C R od sn ++ [(ud, .inl (K.2.1.2.1, 56, .inl D)), (uq, .inl (K.2.1.2.1, 48, .inl Q))])) hB (c_L_gift l K ug uf uh uv uj G F H V J c p (nI d) (nI (1 + ((y / 16) % 9999))) (-4) h0.2.1.1.2.2.2.2.1 (nI_ne (n := 24) c_50 (by omega)) (by first | assumption | omega | decide)) mL_gift dL_comes_377 tb_282 pL_gift ⟨Nat.le_of_ble_eq_true rfl, Nat.le_of_ble_eq_true rfl⟩ ⟨rfl, rfl⟩ ⟨Nat.le_of_ble_eq_true rfl, Nat.le_of_ble_eq_true rfl⟩ rfl (Nat.le_of_ble_eq_true rfl) [23, 24, 26, 27, 28] [0, 1, 2, 3, 4, 5, 6, 7, 8, 9, 10, 11, 12, 13, 14, 15, 16, 17, 18, 19, 20, 21, 22, 25, 29] rfl rfl (by decide) (by decide) (by decide) [0, 1, 2, 3, 4, 5, 6, 7, 8, 9, 10, 11, 12, 13, 14, 15, 16, 17, 18, 19, 20, 21, 22, 25, 26, 23, 27, 28, 29, 24] (by decide) ((wZ K ad C R od sn ++ [(ug, .inl (K.2.1.2.1, 8, .inl (upd G 4 (nI (c + 1))))), (uf, .inl (K.2.1.2.1, 60, .inl (upd (upd F (10 * p) ((F (10 * p)) + (nI (1 + ((y / 16) % 9999))))) (10 * p + 1) (((upd F (10 * p) ((F (10 * p)) + (nI (1 + ((y / 16) % 9999))))) (10 * p + 1)) + (nI (1 + ((y / 16) % 9999))))))), (ud, .inl (K.2.1.2.1, 56, .inl D)), (uh, .inl (K.2.1.2.1, 48, .inl (upd (upd H (2 * c) (nI d)) (2 * c + 1) (nI p)))), (uv, .inl (K.2.1.2.1, 48, .inl (upd (upd V (2 * c) (nI (1 + ((y / 16) % 9999)))) (2 * c + 1) (G 6)))), (uj, .inl (K.2.1.2.1, 48, .inl (upd (upd J (2 * c) 0) (2 * c + 1) (-4)))), (uq, .inl (K.2.1.2.1, 48, .inl Q))])) rfl ?_
                  refine gx_istore (pc := 380) hB dL_comes_380 (by decide) [(13, .int (nI c)), (12, .int (nI (1 + ((y / 16) % 9999)))), (11, .int (nI p)), (10, .int (nI d)), (0, .ref (ad 0)), (1, .ref ug), (2, .ref uf), (3, .ref ud), (4, .ref uh), (5, .ref uv), (6, .ref uj), (7, .ref uq), (8, .int way), (9, .int (nI y))] rfl ?_
                  refine gx_aload_n (pc := 382) hB dL_comes_382 4 rfl ?_
                  refine gx_iload (pc := 383) hB dL_comes_383 3 rfl ?_
                  refine gx_iload (pc := 385) hB dL_comes_385 2 rfl ?_
                  refine gx_iload (pc := 387) hB dL_comes_387 1 rfl ?_
                  refine gx_dVA (pc := 389) (r := (bGive C (nI d) (nI p) (nI (1 + ((y / 16) % 9999)))).1) (W1 := wZ K ad ((bGive C (nI d) (nI p) (nI (1 + ((y / 16) % 9999)))).2) (kR C R od sn) (kOd (bGive C (nI d) (nI p) (nI (1 + ((y / 16) % 9999)))).1 od sn) (kSn (bGive C (nI d) (nI p) (nI (1 + ((y / 16) % 9999)))).1 sn)) (wr := [(ug, .inl (K.2.1.2.1, 8, .inl (upd G 4 (nI (c + 1))))), (uf, .inl (K.2.1.2.1, 60, .inl (upd (upd F (10 * p) ((F (10 * p)) + (nI (1 + ((y / 16) % 9999))))) (10 * p + 1) (((upd F (10 * p) ((F (10 * p)) + (nI (1 + ((y / 16) % 9999))))) (10 * p + 1)) + (nI (1 + ((y / 16) % 9999))))))), (ud, .inl (K.2.1.2.1, 56, .inl D)), (uh, .inl (K.2.1.2.1, 48, .inl (upd (upd H (2 * c) (nI d)) (2 * c + 1) (nI p)))), (uv, .inl (K.2.1.2.1, 48, .inl (upd (upd V (2 * c) (nI (1 + ((y / 16) % 9999)))) (2 * c + 1) (G 6)))), (uj, .inl (K.2.1.2.1, 48, .inl (upd (upd J (2 * c) 0) (2 * c + 1) (-4)))), (uq, .inl (K.2.1.2.1, 48, .inl Q))]) hB (k_give l K ad C R od sn (nI d) (nI p) (nI (1 + ((y / 16) % 9999))) ho hsn) mX4_give dL_comes_389 tb_262 pX4_give ⟨Nat.le_of_ble_eq_true rfl, Nat.le_of_ble_eq_true rfl⟩ ⟨rfl, rfl⟩ ⟨Nat.le_of_ble_eq_true rfl, Nat.le_of_ble_eq_true rfl⟩ rfl (Nat.le_of_ble_eq_true rfl) (List.range 23) (List.range' 23 7) rfl rfl (by decide) (by decide) (by decide) rfl rfl (List.range' 7 23 ++ List.range 7) (by decide) rfl ?_
                  obtain ⟨e_1, hI⟩ := t_give_ok (m := 1 + ((y / 16) % 9999)) h0 hd hp ⟨by omega, by omega⟩ c_47 c_50
                  refine gx_top (x := (bGive C (nI d) (nI p) (nI (1 + ((y / 16) % 9999)))).1) (y := nI c) e_1 ?_
                  refine gx_iload (pc := 392) hB dL_comes_392 0 rfl ?_
                  refine gx_icmp_ne (pc := 394) hB 401 dL_comes_394 (by decide) (fun c_51 => ?_) (fun c_51 => ?_)
                  · exact absurd rfl c_51
                  · refine gx_iconst (pc := 397) hB dL_comes_397 1 (by decide) ?_
                    refine gx_goto (pc := 398) hB 402 dL_comes_398 (by decide) ?_
                    exact gx_zret (pc := 402) hC dL_comes_402 (Nat.zero_le _) (Nat.zero_le _) (by decide) ⟨rfl, _, _, _, _, _, _, _, _, _, _, _, rfl, hI⟩
                · refine gx_aload_n (pc := 322) hB dL_comes_322 3 rfl ?_
                  refine gx_iload (pc := 323) hB dL_comes_323 2 rfl ?_
                  refine gx_iload (pc := 325) hB dL_comes_325 1 rfl ?_
                  refine gx_iload (pc := 327) hB dL_comes_327 0 rfl ?_
                  refine gx_dVA (pc := 329) (r := (bGive C (nI d) (nI p) (nI (1 + ((y / 16) % 9999)))).1) (W1 := wZ K ad ((bGive C (nI d) (nI p) (nI (1 + ((y / 16) % 9999)))).2) (kR C R od sn) (kOd (bGive C (nI d) (nI p) (nI (1 + ((y / 16) % 9999)))).1 od sn) (kSn (bGive C (nI d) (nI p) (nI (1 + ((y / 16) % 9999)))).1 sn)) (wr := [(ug, .inl (K.2.1.2.1, 8, .inl G)), (uf, .inl (K.2.1.2.1, 60, .inl F)), (ud, .inl (K.2.1.2.1, 56, .inl D)), (uh, .inl (K.2.1.2.1, 48, .inl H)), (uv, .inl (K.2.1.2.1, 48, .inl V)), (uj, .inl (K.2.1.2.1, 48, .inl J)), (uq, .inl (K.2.1.2.1, 48, .inl Q))]) hB (k_give l K ad C R od sn (nI d) (nI p) (nI (1 + ((y / 16) % 9999))) ho hsn) mX4_give dL_comes_329 tb_262 pX4_give ⟨Nat.le_of_ble_eq_true rfl, Nat.le_of_ble_eq_true rfl⟩ ⟨rfl, rfl⟩ ⟨Nat.le_of_ble_eq_true rfl, Nat.le_of_ble_eq_true rfl⟩ rfl (Nat.le_of_ble_eq_true rfl) (List.range 23) (List.range' 23 7) rfl rfl (by decide) (by decide) (by decide) rfl rfl (List.range' 7 23 ++ List.range 7) (by decide) rfl ?_
                  obtain ⟨e_1, hI⟩ := t_give_no2 (m := 1 + ((y / 16) % 9999)) h0 hd hp ⟨by omega, by omega⟩ c_47 c_50
                  refine gx_top (x := (bGive C (nI d) (nI p) (nI (1 + ((y / 16) % 9999)))).1) (y := (-3)) e_1 ?_
                  refine gx_aload_n (pc := 332) hB dL_comes_332 5 rfl ?_
                  refine gx_bipush (pc := 333) hB dL_comes_333 10 (by decide) ?_
                  refine gx_iload (pc := 335) hB dL_comes_335 1 rfl ?_
                  refine gx_imul (pc := 337) hB dL_comes_337 ?_
                  refine gx_top (show 10 * nI p = nI (10 * p) from pk_mul 10 p) ?_
                  refine gx_bipush (pc := 338) hB dL_comes_338 9 (by decide) ?_
                  refine gx_iadd (pc := 340) hB dL_comes_340 ?_
                  refine gx_top (show (nI (10 * p)) + 9 = nI (10 * p + 9) from nI_add (10 * p) 9) ?_
                  refine gx_iald (pc := 341) hB dL_comes_341 24 1 rfl rfl (10 * p + 9) rfl (by omega) (by decide) ?_
                  refine gx_if_lt (pc := 342) hB 350 dL_comes_342 (by decide) (fun c_52 => ?_) (fun c_52 => ?_)
                  · refine gx_bipush (pc := 350) hB dL_comes_350 (-3) (by decide) ?_
                    refine gx_icmp_ne (pc := 352) hB 359 dL_comes_352 (by decide) (fun c_53 => ?_) (fun c_53 => ?_)
                    · exact absurd c_53 (by decide)
                    · refine gx_iconst (pc := 355) hB dL_comes_355 1 (by decide) ?_
                      refine gx_goto (pc := 356) hB 360 dL_comes_356 (by decide) ?_
                      exact gx_zret (pc := 360) hC dL_comes_360 (Nat.zero_le _) (Nat.zero_le _) (by decide) ⟨rfl, _, _, _, _, _, _, _, _, _, _, _, rfl, hI⟩
                  · exact (by first | exact absurd c_47 c_52 | exact absurd c_52 c_47 | exact absurd c_47 (Int32.not_le.mpr c_52) | exact absurd c_47 (Int32.not_lt.mpr c_52) | exact absurd (Int32.not_le.mp c_47) c_52 | exact absurd (Int32.not_lt.mp c_47) c_52)
        · refine gx_aload_n (pc := 205) hB dL_comes_205 4 rfl ?_
          refine gx_bipush (pc := 206) hB dL_comes_206 7 (by decide) ?_
          refine gx_iload (pc := 208) hB dL_comes_208 0 rfl ?_
          refine gx_imul (pc := 210) hB dL_comes_210 ?_
          refine gx_top (show 7 * nI d = nI (7 * d) from pk_mul 7 d) ?_
          refine gx_iald (pc := 211) hB dL_comes_211 25 1 rfl rfl (7 * d) rfl (by omega) (by decide) ?_
          refine gx_istore (pc := 212) hB dL_comes_212 (by decide) [(11, .int (D (7 * d))), (10, .int (nI d)), (0, .ref (ad 0)), (1, .ref ug), (2, .ref uf), (3, .ref ud), (4, .ref uh), (5, .ref uv), (6, .ref uj), (7, .ref uq), (8, .int way), (9, .int (nI y))] rfl ?_
          refine gx_aload_n (pc := 214) hB dL_comes_214 5 rfl ?_
          refine gx_bipush (pc := 215) hB dL_comes_215 7 (by decide) ?_
          refine gx_iload (pc := 217) hB dL_comes_217 1 rfl ?_
          refine gx_imul (pc := 219) hB dL_comes_219 ?_
          refine gx_top (show 7 * nI d = nI (7 * d) from pk_mul 7 d) ?_
          refine gx_iload (pc := 220) hB dL_comes_220 11 rfl ?_
          refine gx_iconst (pc := 222) hB dL_comes_222 5 (by decide) ?_
          refine gx_irem (pc := 223) hB dL_comes_223 (by decide) ?_
          refine gx_top (show nI y - nI y / 5 * 5 = nI (y % 5) from pk_rem (a := y) (d := 5) (by omega) (by omega) (by omega)) ?_
          refine gx_if_le (pc := 224) hB 231 dL_comes_224 (by decide) (fun c_54 => ?_) (fun c_54 => ?_)
          · refine gx_iconst (pc := 231) hB dL_comes_231 0 (by decide) ?_
            refine gx_iast (pc := 232) hB dL_comes_232 25 1 rfl rfl (7 * d) rfl (by omega) (by decide) ((wZ K ad C R od sn ++ [(ug, .inl (K.2.1.2.1, 8, .inl G)), (uf, .inl (K.2.1.2.1, 60, .inl F)), (ud, .inl (K.2.1.2.1, 56, .inl (upd D (7 * d) 0))), (uh, .inl (K.2.1.2.1, 48, .inl H)), (uv, .inl (K.2.1.2.1, 48, .inl V)), (uj, .inl (K.2.1.2.1, 48, .inl J)), (uq, .inl (K.2.1.2.1, 48, .inl Q))])) rfl ?_
            refine gx_aload_n (pc := 233) hB dL_comes_233 2 rfl ?_
            refine gx_iload (pc := 234) hB dL_comes_234 1 rfl ?_
            refine gx_aload_n (pc := 236) hB dL_comes_236 5 rfl ?_
            refine gx_bipush (pc := 237) hB dL_comes_237 7 (by decide) ?_
            refine gx_iload (pc := 239) hB dL_comes_239 1 rfl ?_
            refine gx_imul (pc := 241) hB dL_comes_241 ?_
            refine gx_top (show 7 * nI d = nI (7 * d) from pk_mul 7 d) ?_
            refine gx_iald (pc := 242) hB dL_comes_242 25 1 rfl rfl (7 * d) rfl (by omega) (by decide) ?_
            refine gx_top (show (upd D (7 * d) 0) (7 * d) = 0 from pk_us) ?_
            refine gx_dVA (pc := 243) (r := (bDeclare C (nI d) 0).1) (W1 := wZ K ad ((bDeclare C (nI d) 0).2) (kR C R od sn) (kOd (bDeclare C (nI d) 0).1 od sn) (kSn (bDeclare C (nI d) 0).1 sn)) (wr := [(ug, .inl (K.2.1.2.1, 8, .inl G)), (uf, .inl (K.2.1.2.1, 60, .inl F)), (ud, .inl (K.2.1.2.1, 56, .inl (upd D (7 * d) 0))), (uh, .inl (K.2.1.2.1, 48, .inl H)), (uv, .inl (K.2.1.2.1, 48, .inl V)), (uj, .inl (K.2.1.2.1, 48, .inl J)), (uq, .inl (K.2.1.2.1, 48, .inl Q))]) hB (k_declare l K ad C R od sn (nI d) 0 ho hsn) mX4_declare dL_comes_243 tb_251 pX4_declare ⟨Nat.le_of_ble_eq_true rfl, Nat.le_of_ble_eq_true rfl⟩ ⟨rfl, rfl⟩ ⟨Nat.le_of_ble_eq_true rfl, Nat.le_of_ble_eq_true rfl⟩ rfl (Nat.le_of_ble_eq_true rfl) (List.range 23) (List.range' 23 7) rfl rfl (by decide) (by decide) (by decide) rfl rfl (List.range' 7 23 ++ List.range 7) (by decide) rfl ?_
            obtain ⟨e_1, hI⟩ := t_decl h0 hd (v := 0) (Or.inl rfl)
            refine gx_top (x := (bDeclare C (nI d) 0).1) (y := D (7 * d)) e_1 ?_
            refine gx_iload (pc := 246) hB dL_comes_246 0 rfl ?_
            refine gx_icmp_ne (pc := 248) hB 255 dL_comes_248 (by decide) (fun c_55 => ?_) (fun c_55 => ?_)
            · exact absurd rfl c_55
            · refine gx_iconst (pc := 251) hB dL_comes_251 1 (by decide) ?_
              refine gx_goto (pc := 252) hB 256 dL_comes_252 (by decide) ?_
              exact gx_zret (pc := 256) hC dL_comes_256 (Nat.zero_le _) (Nat.zero_le _) (by decide) ⟨rfl, _, _, _, _, _, _, _, _, _, _, _, rfl, hI⟩
          · refine gx_iconst (pc := 227) hB dL_comes_227 1 (by decide) ?_
            refine gx_goto (pc := 228) hB 232 dL_comes_228 (by decide) ?_
            refine gx_iast (pc := 232) hB dL_comes_232 25 1 rfl rfl (7 * d) rfl (by omega) (by decide) ((wZ K ad C R od sn ++ [(ug, .inl (K.2.1.2.1, 8, .inl G)), (uf, .inl (K.2.1.2.1, 60, .inl F)), (ud, .inl (K.2.1.2.1, 56, .inl (upd D (7 * d) 1))), (uh, .inl (K.2.1.2.1, 48, .inl H)), (uv, .inl (K.2.1.2.1, 48, .inl V)), (uj, .inl (K.2.1.2.1, 48, .inl J)), (uq, .inl (K.2.1.2.1, 48, .inl Q))])) rfl ?_
            refine gx_aload_n (pc := 233) hB dL_comes_233 2 rfl ?_
            refine gx_iload (pc := 234) hB dL_comes_234 1 rfl ?_
            refine gx_aload_n (pc := 236) hB dL_comes_236 5 rfl ?_
            refine gx_bipush (pc := 237) hB dL_comes_237 7 (by decide) ?_
            refine gx_iload (pc := 239) hB dL_comes_239 1 rfl ?_
            refine gx_imul (pc := 241) hB dL_comes_241 ?_
            refine gx_top (show 7 * nI d = nI (7 * d) from pk_mul 7 d) ?_
            refine gx_iald (pc := 242) hB dL_comes_242 25 1 rfl rfl (7 * d) rfl (by omega) (by decide) ?_
            refine gx_top (show (upd D (7 * d) 1) (7 * d) = 1 from pk_us) ?_
            refine gx_dVA (pc := 243) (r := (bDeclare C (nI d) 1).1) (W1 := wZ K ad ((bDeclare C (nI d) 1).2) (kR C R od sn) (kOd (bDeclare C (nI d) 1).1 od sn) (kSn (bDeclare C (nI d) 1).1 sn)) (wr := [(ug, .inl (K.2.1.2.1, 8, .inl G)), (uf, .inl (K.2.1.2.1, 60, .inl F)), (ud, .inl (K.2.1.2.1, 56, .inl (upd D (7 * d) 1))), (uh, .inl (K.2.1.2.1, 48, .inl H)), (uv, .inl (K.2.1.2.1, 48, .inl V)), (uj, .inl (K.2.1.2.1, 48, .inl J)), (uq, .inl (K.2.1.2.1, 48, .inl Q))]) hB (k_declare l K ad C R od sn (nI d) 1 ho hsn) mX4_declare dL_comes_243 tb_251 pX4_declare ⟨Nat.le_of_ble_eq_true rfl, Nat.le_of_ble_eq_true rfl⟩ ⟨rfl, rfl⟩ ⟨Nat.le_of_ble_eq_true rfl, Nat.le_of_ble_eq_true rfl⟩ rfl (Nat.le_of_ble_eq_true rfl) (List.range 23) (List.range' 23 7) rfl rfl (by decide) (by decide) (by decide) rfl rfl (List.range' 7 23 ++ List.range 7) (by decide) rfl ?_
            obtain ⟨e_1, hI⟩ := t_decl h0 hd (v := 1) (Or.inr rfl)
            refine gx_top (x := (bDeclare C (nI d) 1).1) (y := D (7 * d)) e_1 ?_
            refine gx_iload (pc := 246) hB dL_comes_246 0 rfl ?_
            refine gx_icmp_ne (pc := 248) hB 255 dL_comes_248 (by decide) (fun c_56 => ?_) (fun c_56 => ?_)
            · exact absurd rfl c_56
            · refine gx_iconst (pc := 251) hB dL_comes_251 1 (by decide) ?_
              refine gx_goto (pc := 252) hB 256 dL_comes_252 (by decide) ?_
              exact gx_zret (pc := 256) hC dL_comes_256 (Nat.zero_le _) (Nat.zero_le _) (by decide) ⟨rfl, _, _, _, _, _, _, _, _, _, _, _, rfl, hI⟩
      · refine gx_aload_n (pc := 105) hB dL_comes_105 1 rfl ?_
        refine gx_iconst (pc := 106) hB dL_comes_106 3 (by decide) ?_
        refine gx_iald (pc := 107) hB dL_comes_107 23 1 rfl rfl 3 rfl (by decide) (by decide) ?_
        refine gx_top (show G 3 = nI b from h0.2.1.1.2.2.2.1) ?_
        refine gx_bipush (pc := 108) hB dL_comes_108 8 (by decide) ?_
        refine gx_icmp_ne (pc := 110) hB 128 dL_comes_110 (by decide) (fun c_57 => ?_) (fun c_57 => ?_)
        · have hbl : b < 8 := nI_ne (n := 8) c_57 (by omega)
          refine gx_iconst (pc := 128) hB dL_comes_128 0 (by decide) ?_
          refine gx_istore (pc := 129) hB dL_comes_129 (by decide) [(10, .int 0), (0, .ref (ad 0)), (1, .ref ug), (2, .ref uf), (3, .ref ud), (4, .ref uh), (5, .ref uv), (6, .ref uj), (7, .ref uq), (8, .int way), (9, .int (nI y))] rfl ?_
          have loop_131 : ∀ (dq i : Nat) (D1 : Nat → Int32), i + dq = 7 → (D1 = rowD D b i) → GG 0 0 ((wZ K ad C R od sn ++ [(ug, .inl (K.2.1.2.1, 8, .inl G)), (uf, .inl (K.2.1.2.1, 60, .inl F)), (ud, .inl (K.2.1.2.1, 56, .inl D1)), (uh, .inl (K.2.1.2.1, 48, .inl H)), (uv, .inl (K.2.1.2.1, 48, .inl V)), (uj, .inl (K.2.1.2.1, 48, .inl J)), (uq, .inl (K.2.1.2.1, 48, .inl Q))])) [(0, .ref (ad 0)), (1, .ref ug), (2, .ref uf), (3, .ref ud), (4, .ref uh), (5, .ref uv), (6, .ref uj), (7, .ref uq), (8, .int way), (9, .int (nI y)), (10, .int (nI i))] 131 [] := by
            intro dq
            induction dq with
            | zero =>
              intro i D1 hi131 hF
              have hz131 : i = 7 := by omega
              refine gx_iload (pc := 131) hB dL_comes_131 10 rfl ?_
              refine gx_bipush (pc := 133) hB dL_comes_133 7 (by decide) ?_
              refine gx_icmp_ge (pc := 135) hB 166 dL_comes_135 (by decide) (fun c_58 => ?_) (fun c_58 => ?_)
              · refine gx_aload_n (pc := 166) hB dL_comes_166 1 rfl ?_
                refine gx_iconst (pc := 167) hB dL_comes_167 3 (by decide) ?_
                refine gx_dup2 (pc := 168) hB dL_comes_168 rfl rfl ?_
                refine gx_iald (pc := 169) hB dL_comes_169 23 1 rfl rfl 3 rfl (by decide) (by decide) ?_
                refine gx_top (show G 3 = nI b from h0.2.1.1.2.2.2.1) ?_
                refine gx_iconst (pc := 170) hB dL_comes_170 1 (by decide) ?_
                refine gx_iadd (pc := 171) hB dL_comes_171 ?_
                refine gx_top (show nI b + 1 = nI (b + 1) from nI_add b 1) ?_
                refine gx_iast (pc := 172) hB dL_comes_172 23 1 rfl rfl 3 rfl (by decide) (by decide) ((wZ K ad C R od sn ++ [(ug, .inl (K.2.1.2.1, 8, .inl (upd G 3 (nI (b + 1))))), (uf, .inl (K.2.1.2.1, 60, .inl F)), (ud, .inl (K.2.1.2.1, 56, .inl D1)), (uh, .inl (K.2.1.2.1, 48, .inl H)), (uv, .inl (K.2.1.2.1, 48, .inl V)), (uj, .inl (K.2.1.2.1, 48, .inl J)), (uq, .inl (K.2.1.2.1, 48, .inl Q))])) rfl ?_
                refine gx_aload_n (pc := 173) hB dL_comes_173 0 rfl ?_
                refine gx_dVA (pc := 174) (r := (bAddDonor C).1) (W1 := wZ K ad ((bAddDonor C).2) (kR C R od sn) (kOd (bAddDonor C).1 od sn) (kSn (bAddDonor C).1 sn)) (wr := [(ug, .inl (K.2.1.2.1, 8, .inl (upd G 3 (nI (b + 1))))), (uf, .inl (K.2.1.2.1, 60, .inl F)), (ud, .inl (K.2.1.2.1, 56, .inl D1)), (uh, .inl (K.2.1.2.1, 48, .inl H)), (uv, .inl (K.2.1.2.1, 48, .inl V)), (uj, .inl (K.2.1.2.1, 48, .inl J)), (uq, .inl (K.2.1.2.1, 48, .inl Q))]) hB (k_donor l K ad C R od sn ho hsn) mX4_donor dL_comes_174 tb_243 pX4_donor ⟨Nat.le_of_ble_eq_true rfl, Nat.le_of_ble_eq_true rfl⟩ ⟨rfl, rfl⟩ ⟨Nat.le_of_ble_eq_true rfl, Nat.le_of_ble_eq_true rfl⟩ rfl (Nat.le_of_ble_eq_true rfl) (List.range 23) (List.range' 23 7) rfl rfl (by decide) (by decide) (by decide) rfl rfl (List.range' 7 23 ++ List.range 7) (by decide) rfl ?_
                obtain ⟨e_1, hI⟩ := t_don_ok h0 c_57
                refine gx_top (x := (bAddDonor C).1) (y := nI b) e_1 ?_
                have hF2 : D1 = rowD D b 7 := by rw [hF, hz131]
                rw [← hF2] at hI
                refine gx_aload_n (pc := 177) hB dL_comes_177 1 rfl ?_
                refine gx_iconst (pc := 178) hB dL_comes_178 3 (by decide) ?_
                refine gx_iald (pc := 179) hB dL_comes_179 23 1 rfl rfl 3 rfl (by decide) (by decide) ?_
                refine gx_top (show (upd G 3 (nI (b + 1))) 3 = nI (b + 1) from pk_us) ?_
                refine gx_iconst (pc := 180) hB dL_comes_180 1 (by decide) ?_
                refine gx_isub (pc := 181) hB dL_comes_181 ?_
                refine gx_top (show (nI (b + 1)) - 1 = nI b from nI_pred b) ?_
                refine gx_icmp_ne (pc := 182) hB 189 dL_comes_182 (by decide) (fun c_59 => ?_) (fun c_59 => ?_)
                · exact absurd rfl c_59
                · refine gx_iconst (pc := 185) hB dL_comes_185 1 (by decide) ?_
                  refine gx_goto (pc := 186) hB 190 dL_comes_186 (by decide) ?_
                  exact gx_zret (pc := 190) hC dL_comes_190 (Nat.zero_le _) (Nat.zero_le _) (by decide) ⟨rfl, _, _, _, _, _, _, _, _, _, _, _, rfl, hI⟩
              · exact absurd (lpTn (c := 7) (by omega) hi131) c_58
            | succ dq ih131 =>
              intro i D1 hi131 hF
              refine gx_iload (pc := 131) hB dL_comes_131 10 rfl ?_
              refine gx_bipush (pc := 133) hB dL_comes_133 7 (by decide) ?_
              refine gx_icmp_ge (pc := 135) hB 166 dL_comes_135 (by decide) (fun c_60 => ?_) (fun c_60 => ?_)
              · exact absurd c_60 (lpFn (c := 7) (by omega) hi131)
              · refine gx_aload_n (pc := 138) hB dL_comes_138 3 rfl ?_
                refine gx_bipush (pc := 139) hB dL_comes_139 7 (by decide) ?_
                refine gx_aload_n (pc := 141) hB dL_comes_141 1 rfl ?_
                refine gx_iconst (pc := 142) hB dL_comes_142 3 (by decide) ?_
                refine gx_iald (pc := 143) hB dL_comes_143 23 1 rfl rfl 3 rfl (by decide) (by decide) ?_
                refine gx_top (show G 3 = nI b from h0.2.1.1.2.2.2.1) ?_
                refine gx_imul (pc := 144) hB dL_comes_144 ?_
                refine gx_top (show 7 * nI b = nI (7 * b) from pk_mul 7 b) ?_
                refine gx_iload (pc := 145) hB dL_comes_145 10 rfl ?_
                refine gx_iadd (pc := 147) hB dL_comes_147 ?_
                refine gx_top (show (nI (7 * b)) + nI i = nI (7 * b + i) from nI_add (7 * b) i) ?_
                refine gx_iload (pc := 148) hB dL_comes_148 10 rfl ?_
                refine gx_if_ne (pc := 150) hB 157 dL_comes_150 (by decide) (fun c_61 => ?_) (fun c_61 => ?_)
                · refine gx_bipush (pc := 157) hB dL_comes_157 (-4) (by decide) ?_
                  refine gx_iast (pc := 159) hB dL_comes_159 25 1 rfl rfl (7 * b + i) rfl (by omega) (by decide) ((wZ K ad C R od sn ++ [(ug, .inl (K.2.1.2.1, 8, .inl G)), (uf, .inl (K.2.1.2.1, 60, .inl F)), (ud, .inl (K.2.1.2.1, 56, .inl (upd D1 (7 * b + i) (-4)))), (uh, .inl (K.2.1.2.1, 48, .inl H)), (uv, .inl (K.2.1.2.1, 48, .inl V)), (uj, .inl (K.2.1.2.1, 48, .inl J)), (uq, .inl (K.2.1.2.1, 48, .inl Q))])) rfl ?_
                  refine gx_iinc (pc := 160) hB dL_comes_160 10 (by decide) rfl (nI (i + 1)) (nI_1 _) [(10, .int (nI (i + 1))), (0, .ref (ad 0)), (1, .ref ug), (2, .ref uf), (3, .ref ud), (4, .ref uh), (5, .ref uv), (6, .ref uj), (7, .ref uq), (8, .int way), (9, .int (nI y))] rfl ?_
                  refine gx_goto (pc := 163) hB 131 dL_comes_163 (by decide) ?_
                  refine gx_sub hB (lv' := [(0, .ref (ad 0)), (1, .ref ug), (2, .ref uf), (3, .ref ud), (4, .ref uh), (5, .ref uv), (6, .ref uj), (7, .ref uq), (8, .int way), (9, .int (nI y)), (10, .int (nI (i + 1)))]) [1, 2, 3, 4, 5, 6, 7, 8, 9, 10, 0] rfl ?_
                  exact ih131 (i + 1) (upd D1 (7 * b + i) (-4)) (by omega) (by rw [hF]; exact congrArg (upd (rowD D b i) (7 * b + i)) (if_neg c_61).symm)
                · refine gx_iconst (pc := 153) hB dL_comes_153 0 (by decide) ?_
                  refine gx_goto (pc := 154) hB 159 dL_comes_154 (by decide) ?_
                  refine gx_iast (pc := 159) hB dL_comes_159 25 1 rfl rfl (7 * b + i) rfl (by omega) (by decide) ((wZ K ad C R od sn ++ [(ug, .inl (K.2.1.2.1, 8, .inl G)), (uf, .inl (K.2.1.2.1, 60, .inl F)), (ud, .inl (K.2.1.2.1, 56, .inl (upd D1 (7 * b + i) 0))), (uh, .inl (K.2.1.2.1, 48, .inl H)), (uv, .inl (K.2.1.2.1, 48, .inl V)), (uj, .inl (K.2.1.2.1, 48, .inl J)), (uq, .inl (K.2.1.2.1, 48, .inl Q))])) rfl ?_
                  refine gx_iinc (pc := 160) hB dL_comes_160 10 (by decide) rfl (nI (i + 1)) (nI_1 _) [(10, .int (nI (i + 1))), (0, .ref (ad 0)), (1, .ref ug), (2, .ref uf), (3, .ref ud), (4, .ref uh), (5, .ref uv), (6, .ref uj), (7, .ref uq), (8, .int way), (9, .int (nI y))] rfl ?_
                  refine gx_goto (pc := 163) hB 131 dL_comes_163 (by decide) ?_
                  refine gx_sub hB (lv' := [(0, .ref (ad 0)), (1, .ref ug), (2, .ref uf), (3, .ref ud), (4, .ref uh), (5, .ref uv), (6, .ref uj), (7, .ref uq), (8, .int way), (9, .int (nI y)), (10, .int (nI (i + 1)))]) [1, 2, 3, 4, 5, 6, 7, 8, 9, 10, 0] rfl ?_
                  exact ih131 (i + 1) (upd D1 (7 * b + i) 0) (by omega) (by rw [hF]; exact congrArg (upd (rowD D b i) (7 * b + i)) (if_pos c_61).symm)
          refine gx_sub hB (lv' := [(0, .ref (ad 0)), (1, .ref ug), (2, .ref uf), (3, .ref ud), (4, .ref uh), (5, .ref uv), (6, .ref uj), (7, .ref uq), (8, .int way), (9, .int (nI y)), (10, .int 0)]) [1, 2, 3, 4, 5, 6, 7, 8, 9, 10, 0] rfl ?_
          exact loop_131 (7) 0 D (by omega) rfl
        · refine gx_aload_n (pc := 113) hB dL_comes_113 0 rfl ?_
          refine gx_dVA (pc := 114) (r := (bAddDonor C).1) (W1 := wZ K ad ((bAddDonor C).2) (kR C R od sn) (kOd (bAddDonor C).1 od sn) (kSn (bAddDonor C).1 sn)) (wr := [(ug, .inl (K.2.1.2.1, 8, .inl G)), (uf, .inl (K.2.1.2.1, 60, .inl F)), (ud, .inl (K.2.1.2.1, 56, .inl D)), (uh, .inl (K.2.1.2.1, 48, .inl H)), (uv, .inl (K.2.1.2.1, 48, .inl V)), (uj, .inl (K.2.1.2.1, 48, .inl J)), (uq, .inl (K.2.1.2.1, 48, .inl Q))]) hB (k_donor l K ad C R od sn ho hsn) mX4_donor dL_comes_114 tb_243 pX4_donor ⟨Nat.le_of_ble_eq_true rfl, Nat.le_of_ble_eq_true rfl⟩ ⟨rfl, rfl⟩ ⟨Nat.le_of_ble_eq_true rfl, Nat.le_of_ble_eq_true rfl⟩ rfl (Nat.le_of_ble_eq_true rfl) (List.range 23) (List.range' 23 7) rfl rfl (by decide) (by decide) (by decide) rfl rfl (List.range' 7 23 ++ List.range 7) (by decide) rfl ?_
          obtain ⟨e_1, hI⟩ := t_don_no h0 c_57
          refine gx_top (x := (bAddDonor C).1) (y := (-3)) e_1 ?_
          refine gx_bipush (pc := 117) hB dL_comes_117 (-3) (by decide) ?_
          refine gx_icmp_ne (pc := 119) hB 126 dL_comes_119 (by decide) (fun c_62 => ?_) (fun c_62 => ?_)
          · exact absurd c_62 (by decide)
          · refine gx_iconst (pc := 122) hB dL_comes_122 1 (by decide) ?_
            refine gx_goto (pc := 123) hB 127 dL_comes_123 (by decide) ?_
            exact gx_zret (pc := 127) hC dL_comes_127 (Nat.zero_le _) (Nat.zero_le _) (by decide) ⟨rfl, _, _, _, _, _, _, _, _, _, _, _, rfl, hI⟩
  · refine gx_aload_n (pc := 5) hB dL_comes_5 1 rfl ?_
    refine gx_iconst (pc := 6) hB dL_comes_6 2 (by decide) ?_
    refine gx_iald (pc := 7) hB dL_comes_7 23 1 rfl rfl 2 rfl (by decide) (by decide) ?_
    refine gx_top (show G 2 = nI a from h0.2.1.1.2.2.1) ?_
    refine gx_bipush (pc := 8) hB dL_comes_8 6 (by decide) ?_
    refine gx_icmp_ne (pc := 10) hB 28 dL_comes_10 (by decide) (fun c_63 => ?_) (fun c_63 => ?_)
    · have hal : a < 6 := nI_ne (n := 6) c_63 (by omega)
      refine gx_iconst (pc := 28) hB dL_comes_28 0 (by decide) ?_
      refine gx_istore (pc := 29) hB dL_comes_29 (by decide) [(10, .int 0), (0, .ref (ad 0)), (1, .ref ug), (2, .ref uf), (3, .ref ud), (4, .ref uh), (5, .ref uv), (6, .ref uj), (7, .ref uq), (8, .int way), (9, .int (nI y))] rfl ?_
      have loop_31 : ∀ (dq i : Nat) (F1 : Nat → Int32), i + dq = 10 → (F1 = rowP F a i) → GG 0 0 ((wZ K ad C R od sn ++ [(ug, .inl (K.2.1.2.1, 8, .inl G)), (uf, .inl (K.2.1.2.1, 60, .inl F1)), (ud, .inl (K.2.1.2.1, 56, .inl D)), (uh, .inl (K.2.1.2.1, 48, .inl H)), (uv, .inl (K.2.1.2.1, 48, .inl V)), (uj, .inl (K.2.1.2.1, 48, .inl J)), (uq, .inl (K.2.1.2.1, 48, .inl Q))])) [(0, .ref (ad 0)), (1, .ref ug), (2, .ref uf), (3, .ref ud), (4, .ref uh), (5, .ref uv), (6, .ref uj), (7, .ref uq), (8, .int way), (9, .int (nI y)), (10, .int (nI i))] 31 [] := by
        intro dq
        induction dq with
        | zero =>
          intro i F1 hi31 hF
          have hz31 : i = 10 := by omega
          refine gx_iload (pc := 31) hB dL_comes_31 10 rfl ?_
          refine gx_bipush (pc := 33) hB dL_comes_33 10 (by decide) ?_
          refine gx_icmp_ge (pc := 35) hB 68 dL_comes_35 (by decide) (fun c_64 => ?_) (fun c_64 => ?_)
          · refine gx_aload_n (pc := 68) hB dL_comes_68 1 rfl ?_
            refine gx_iconst (pc := 69) hB dL_comes_69 2 (by decide) ?_
            refine gx_dup2 (pc := 70) hB dL_comes_70 rfl rfl ?_
            refine gx_iald (pc := 71) hB dL_comes_71 23 1 rfl rfl 2 rfl (by decide) (by decide) ?_
            refine gx_top (show G 2 = nI a from h0.2.1.1.2.2.1) ?_
            refine gx_iconst (pc := 72) hB dL_comes_72 1 (by decide) ?_
            refine gx_iadd (pc := 73) hB dL_comes_73 ?_
            refine gx_top (show nI a + 1 = nI (a + 1) from nI_add a 1) ?_
            refine gx_iast (pc := 74) hB dL_comes_74 23 1 rfl rfl 2 rfl (by decide) (by decide) ((wZ K ad C R od sn ++ [(ug, .inl (K.2.1.2.1, 8, .inl (upd G 2 (nI (a + 1))))), (uf, .inl (K.2.1.2.1, 60, .inl F1)), (ud, .inl (K.2.1.2.1, 56, .inl D)), (uh, .inl (K.2.1.2.1, 48, .inl H)), (uv, .inl (K.2.1.2.1, 48, .inl V)), (uj, .inl (K.2.1.2.1, 48, .inl J)), (uq, .inl (K.2.1.2.1, 48, .inl Q))])) rfl ?_
            refine gx_aload_n (pc := 75) hB dL_comes_75 0 rfl ?_
            refine gx_dVA (pc := 76) (r := (bAddPurpose C).1) (W1 := wZ K ad ((bAddPurpose C).2) (kR C R od sn) (kOd (bAddPurpose C).1 od sn) (kSn (bAddPurpose C).1 sn)) (wr := [(ug, .inl (K.2.1.2.1, 8, .inl (upd G 2 (nI (a + 1))))), (uf, .inl (K.2.1.2.1, 60, .inl F1)), (ud, .inl (K.2.1.2.1, 56, .inl D)), (uh, .inl (K.2.1.2.1, 48, .inl H)), (uv, .inl (K.2.1.2.1, 48, .inl V)), (uj, .inl (K.2.1.2.1, 48, .inl J)), (uq, .inl (K.2.1.2.1, 48, .inl Q))]) hB (k_purpose l K ad C R od sn ho hsn) mX4_purpose dL_comes_76 tb_223 pX4_purpose ⟨Nat.le_of_ble_eq_true rfl, Nat.le_of_ble_eq_true rfl⟩ ⟨rfl, rfl⟩ ⟨Nat.le_of_ble_eq_true rfl, Nat.le_of_ble_eq_true rfl⟩ rfl (Nat.le_of_ble_eq_true rfl) (List.range 23) (List.range' 23 7) rfl rfl (by decide) (by decide) (by decide) rfl rfl (List.range' 7 23 ++ List.range 7) (by decide) rfl ?_
            obtain ⟨e_1, hI⟩ := t_pur_ok h0 c_63
            refine gx_top (x := (bAddPurpose C).1) (y := nI a) e_1 ?_
            have hF2 : F1 = rowP F a 10 := by rw [hF, hz31]
            rw [← hF2] at hI
            refine gx_aload_n (pc := 79) hB dL_comes_79 1 rfl ?_
            refine gx_iconst (pc := 80) hB dL_comes_80 2 (by decide) ?_
            refine gx_iald (pc := 81) hB dL_comes_81 23 1 rfl rfl 2 rfl (by decide) (by decide) ?_
            refine gx_top (show (upd G 2 (nI (a + 1))) 2 = nI (a + 1) from pk_us) ?_
            refine gx_iconst (pc := 82) hB dL_comes_82 1 (by decide) ?_
            refine gx_isub (pc := 83) hB dL_comes_83 ?_
            refine gx_top (show (nI (a + 1)) - 1 = nI a from nI_pred a) ?_
            refine gx_icmp_ne (pc := 84) hB 91 dL_comes_84 (by decide) (fun c_65 => ?_) (fun c_65 => ?_)
            · exact absurd rfl c_65
            · refine gx_iconst (pc := 87) hB dL_comes_87 1 (by decide) ?_
              refine gx_goto (pc := 88) hB 92 dL_comes_88 (by decide) ?_
              exact gx_zret (pc := 92) hC dL_comes_92 (Nat.zero_le _) (Nat.zero_le _) (by decide) ⟨rfl, _, _, _, _, _, _, _, _, _, _, _, rfl, hI⟩
          · exact absurd (lpTn (c := 10) (by omega) hi31) c_64
        | succ dq ih31 =>
          intro i F1 hi31 hF
          refine gx_iload (pc := 31) hB dL_comes_31 10 rfl ?_
          refine gx_bipush (pc := 33) hB dL_comes_33 10 (by decide) ?_
          refine gx_icmp_ge (pc := 35) hB 68 dL_comes_35 (by decide) (fun c_66 => ?_) (fun c_66 => ?_)
          · exact absurd c_66 (lpFn (c := 10) (by omega) hi31)
          · refine gx_aload_n (pc := 38) hB dL_comes_38 2 rfl ?_
            refine gx_bipush (pc := 39) hB dL_comes_39 10 (by decide) ?_
            refine gx_aload_n (pc := 41) hB dL_comes_41 1 rfl ?_
            refine gx_iconst (pc := 42) hB dL_comes_42 2 (by decide) ?_
            refine gx_iald (pc := 43) hB dL_comes_43 23 1 rfl rfl 2 rfl (by decide) (by decide) ?_
            refine gx_top (show G 2 = nI a from h0.2.1.1.2.2.1) ?_
            refine gx_imul (pc := 44) hB dL_comes_44 ?_
            refine gx_top (show 10 * nI a = nI (10 * a) from pk_mul 10 a) ?_
            refine gx_iload (pc := 45) hB dL_comes_45 10 rfl ?_
            refine gx_iadd (pc := 47) hB dL_comes_47 ?_
            refine gx_top (show (nI (10 * a)) + nI i = nI (10 * a + i) from nI_add (10 * a) i) ?_
            refine gx_iload (pc := 48) hB dL_comes_48 10 rfl ?_
            refine gx_bipush (pc := 50) hB dL_comes_50 9 (by decide) ?_
            refine gx_icmp_ne (pc := 52) hB 60 dL_comes_52 (by decide) (fun c_67 => ?_) (fun c_67 => ?_)
            · refine gx_iconst (pc := 60) hB dL_comes_60 0 (by decide) ?_
              refine gx_iast (pc := 61) hB dL_comes_61 24 1 rfl rfl (10 * a + i) rfl (by omega) (by decide) ((wZ K ad C R od sn ++ [(ug, .inl (K.2.1.2.1, 8, .inl G)), (uf, .inl (K.2.1.2.1, 60, .inl (upd F1 (10 * a + i) 0))), (ud, .inl (K.2.1.2.1, 56, .inl D)), (uh, .inl (K.2.1.2.1, 48, .inl H)), (uv, .inl (K.2.1.2.1, 48, .inl V)), (uj, .inl (K.2.1.2.1, 48, .inl J)), (uq, .inl (K.2.1.2.1, 48, .inl Q))])) rfl ?_
              refine gx_iinc (pc := 62) hB dL_comes_62 10 (by decide) rfl (nI (i + 1)) (nI_1 _) [(10, .int (nI (i + 1))), (0, .ref (ad 0)), (1, .ref ug), (2, .ref uf), (3, .ref ud), (4, .ref uh), (5, .ref uv), (6, .ref uj), (7, .ref uq), (8, .int way), (9, .int (nI y))] rfl ?_
              refine gx_goto (pc := 65) hB 31 dL_comes_65 (by decide) ?_
              refine gx_sub hB (lv' := [(0, .ref (ad 0)), (1, .ref ug), (2, .ref uf), (3, .ref ud), (4, .ref uh), (5, .ref uv), (6, .ref uj), (7, .ref uq), (8, .int way), (9, .int (nI y)), (10, .int (nI (i + 1)))]) [1, 2, 3, 4, 5, 6, 7, 8, 9, 10, 0] rfl ?_
              exact ih31 (i + 1) (upd F1 (10 * a + i) 0) (by omega) (by rw [hF]; exact congrArg (upd (rowP F a i) (10 * a + i)) (if_neg c_67).symm)
            · refine gx_bipush (pc := 55) hB dL_comes_55 (-4) (by decide) ?_
              refine gx_goto (pc := 57) hB 61 dL_comes_57 (by decide) ?_
              refine gx_iast (pc := 61) hB dL_comes_61 24 1 rfl rfl (10 * a + i) rfl (by omega) (by decide) ((wZ K ad C R od sn ++ [(ug, .inl (K.2.1.2.1, 8, .inl G)), (uf, .inl (K.2.1.2.1, 60, .inl (upd F1 (10 * a + i) (-4)))), (ud, .inl (K.2.1.2.1, 56, .inl D)), (uh, .inl (K.2.1.2.1, 48, .inl H)), (uv, .inl (K.2.1.2.1, 48, .inl V)), (uj, .inl (K.2.1.2.1, 48, .inl J)), (uq, .inl (K.2.1.2.1, 48, .inl Q))])) rfl ?_
              refine gx_iinc (pc := 62) hB dL_comes_62 10 (by decide) rfl (nI (i + 1)) (nI_1 _) [(10, .int (nI (i + 1))), (0, .ref (ad 0)), (1, .ref ug), (2, .ref uf), (3, .ref ud), (4, .ref uh), (5, .ref uv), (6, .ref uj), (7, .ref uq), (8, .int way), (9, .int (nI y))] rfl ?_
              refine gx_goto (pc := 65) hB 31 dL_comes_65 (by decide) ?_
              refine gx_sub hB (lv' := [(0, .ref (ad 0)), (1, .ref ug), (2, .ref uf), (3, .ref ud), (4, .ref uh), (5, .ref uv), (6, .ref uj), (7, .ref uq), (8, .int way), (9, .int (nI y)), (10, .int (nI (i + 1)))]) [1, 2, 3, 4, 5, 6, 7, 8, 9, 10, 0] rfl ?_
              exact ih31 (i + 1) (upd F1 (10 * a + i) (-4)) (by omega) (by rw [hF]; exact congrArg (upd (rowP F a i) (10 * a + i)) (if_pos c_67).symm)
      refine gx_sub hB (lv' := [(0, .ref (ad 0)), (1, .ref ug), (2, .ref uf), (3, .ref ud), (4, .ref uh), (5, .ref uv), (6, .ref uj), (7, .ref uq), (8, .int way), (9, .int (nI y)), (10, .int 0)]) [1, 2, 3, 4, 5, 6, 7, 8, 9, 10, 0] rfl ?_
      exact loop_31 (10) 0 F (by omega) rfl
    · refine gx_aload_n (pc := 13) hB dL_comes_13 0 rfl ?_
      refine gx_dVA (pc := 14) (r := (bAddPurpose C).1) (W1 := wZ K ad ((bAddPurpose C).2) (kR C R od sn) (kOd (bAddPurpose C).1 od sn) (kSn (bAddPurpose C).1 sn)) (wr := [(ug, .inl (K.2.1.2.1, 8, .inl G)), (uf, .inl (K.2.1.2.1, 60, .inl F)), (ud, .inl (K.2.1.2.1, 56, .inl D)), (uh, .inl (K.2.1.2.1, 48, .inl H)), (uv, .inl (K.2.1.2.1, 48, .inl V)), (uj, .inl (K.2.1.2.1, 48, .inl J)), (uq, .inl (K.2.1.2.1, 48, .inl Q))]) hB (k_purpose l K ad C R od sn ho hsn) mX4_purpose dL_comes_14 tb_223 pX4_purpose ⟨Nat.le_of_ble_eq_true rfl, Nat.le_of_ble_eq_true rfl⟩ ⟨rfl, rfl⟩ ⟨Nat.le_of_ble_eq_true rfl, Nat.le_of_ble_eq_true rfl⟩ rfl (Nat.le_of_ble_eq_true rfl) (List.range 23) (List.range' 23 7) rfl rfl (by decide) (by decide) (by decide) rfl rfl (List.range' 7 23 ++ List.range 7) (by decide) rfl ?_
      obtain ⟨e_1, hI⟩ := t_pur_no h0 c_63
      refine gx_top (x := (bAddPurpose C).1) (y := (-3)) e_1 ?_
      refine gx_bipush (pc := 17) hB dL_comes_17 (-3) (by decide) ?_
      refine gx_icmp_ne (pc := 19) hB 26 dL_comes_19 (by decide) (fun c_68 => ?_) (fun c_68 => ?_)
      · exact absurd c_68 (by decide)
      · refine gx_iconst (pc := 22) hB dL_comes_22 1 (by decide) ?_
        refine gx_goto (pc := 23) hB 27 dL_comes_23 (by decide) ?_
        exact gx_zret (pc := 27) hC dL_comes_27 (Nat.zero_le _) (Nat.zero_le _) (by decide) ⟨rfl, _, _, _, _, _, _, _, _, _, _, _, rfl, hI⟩
