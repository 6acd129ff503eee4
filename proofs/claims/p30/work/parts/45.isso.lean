/-! What the law asks of the class stands in its house. -/
theorem pL_areGifts : (parseMethodDescriptor yL_areGifts.desc).map (fun d => d.parameters.length) = some 6 := by decide +kernel
theorem mL_areGifts : gx_MS yL_areGifts cL_areGifts 9 (some .boolean) := ⟨tb_494, tb_26, tb_495, by decide, by decide⟩
set_option maxHeartbeats 4000000 in
set_option maxRecDepth 100000 in
theorem c_L_areGifts (l : Launch) (K : gx_K) (ad : Nat → Nat) (ug uf ud uh uv uj uq : Nat) (C : Nat → Int32) (R : Nat → Nat → Int32) (od sn : Nat) (G F D H V J Q S : Nat → Int32) (a b c e : Nat) (h0 : LJ C G F D H V J Q S a b c e od sn) : gx_Ctr l K yL_areGifts cL_areGifts 9 (some .boolean) (rmm 5 88) [.ref (ad 0), .ref ug, .ref uh, .ref uv, .ref uj, .ref uq] ((wZ K ad C R od sn ++ [(ug, .inl (K.2.1.2.1, 8, .inl G)), (uh, .inl (K.2.1.2.1, 48, .inl H)), (uv, .inl (K.2.1.2.1, 48, .inl V)), (uj, .inl (K.2.1.2.1, 48, .inl J)), (uq, .inl (K.2.1.2.1, 48, .inl Q))])) (gx_D (some (.int 1)) ((wZ K ad C R od sn ++ [(ug, .inl (K.2.1.2.1, 8, .inl G)), (uh, .inl (K.2.1.2.1, 48, .inl H)), (uv, .inl (K.2.1.2.1, 48, .inl V)), (uj, .inl (K.2.1.2.1, 48, .inl J)), (uq, .inl (K.2.1.2.1, 48, .inl Q))]))) := by
  refine gx_of (by decide) (Nat.le_of_ble_eq_true rfl) (fun GG hC => ?_)
  have hB := hC.b
  refine gx_lv (lv' := [(0, .ref (ad 0)), (1, .ref ug), (2, .ref uh), (3, .ref uv), (4, .ref uj), (5, .ref uq)]) rfl ?_
  have hb := LJ_b h0
  have ho := h0.2.2.2.2.1
  have hsn := h0.2.2.2.2.2
  refine gx_iconst (pc := 0) hB dL_areGifts_0 1 (by decide) ?_
  refine gx_istore (pc := 1) hB dL_areGifts_1 (by decide) [(6, .int 1), (0, .ref (ad 0)), (1, .ref ug), (2, .ref uh), (3, .ref uv), (4, .ref uj), (5, .ref uq)] rfl ?_
  refine gx_iconst (pc := 3) hB dL_areGifts_3 0 (by decide) ?_
  refine gx_istore (pc := 4) hB dL_areGifts_4 (by decide) [(7, .int 0), (6, .int 1), (0, .ref (ad 0)), (1, .ref ug), (2, .ref uh), (3, .ref uv), (4, .ref uj), (5, .ref uq)] rfl ?_
  have loop_6 : ∀ (dq i : Nat) , i + dq = c → GG 0 0 ((wZ K ad C R od sn ++ [(ug, .inl (K.2.1.2.1, 8, .inl G)), (uh, .inl (K.2.1.2.1, 48, .inl H)), (uv, .inl (K.2.1.2.1, 48, .inl V)), (uj, .inl (K.2.1.2.1, 48, .inl J)), (uq, .inl (K.2.1.2.1, 48, .inl Q))])) [(0, .ref (ad 0)), (1, .ref ug), (2, .ref uh), (3, .ref uv), (4, .ref uj), (5, .ref uq), (6, .int 1), (7, .int (nI i))] 6 [] := by
    intro dq
    induction dq with
    | zero =>
      intro i hi6
      have hz6 : i = c := by omega
      refine gx_iload (pc := 6) hB dL_areGifts_6 7 rfl ?_
      refine gx_aload_n (pc := 8) hB dL_areGifts_8 1 rfl ?_
      refine gx_iconst (pc := 9) hB dL_areGifts_9 4 (by decide) ?_
      refine gx_iald (pc := 10) hB dL_areGifts_10 23 1 rfl rfl 4 rfl (by decide) (by decide) ?_
      refine gx_top (show G 4 = nI c from h0.2.1.1.2.2.2.2.1) ?_
      refine gx_icmp_ge (pc := 11) hB 179 dL_areGifts_11 (by decide) (fun c_1 => ?_) (fun c_1 => ?_)
      · refine gx_iconst (pc := 179) hB dL_areGifts_179 0 (by decide) ?_
        refine gx_istore (pc := 180) hB dL_areGifts_180 (by decide) [(7, .int 0), (0, .ref (ad 0)), (1, .ref ug), (2, .ref uh), (3, .ref uv), (4, .ref uj), (5, .ref uq), (6, .int 1)] rfl ?_
        have loop_182 : ∀ (dq i : Nat) , i + dq = 8 * e → GG 0 0 ((wZ K ad C R od sn ++ [(ug, .inl (K.2.1.2.1, 8, .inl G)), (uh, .inl (K.2.1.2.1, 48, .inl H)), (uv, .inl (K.2.1.2.1, 48, .inl V)), (uj, .inl (K.2.1.2.1, 48, .inl J)), (uq, .inl (K.2.1.2.1, 48, .inl Q))])) [(0, .ref (ad 0)), (1, .ref ug), (2, .ref uh), (3, .ref uv), (4, .ref uj), (5, .ref uq), (6, .int 1), (7, .int (nI i))] 182 [] := by
          intro dq
          induction dq with
          | zero =>
            intro i hi182
            have hz182 : i = 8 * e := by omega
            refine gx_iload (pc := 182) hB dL_areGifts_182 7 rfl ?_
            refine gx_bipush (pc := 184) hB dL_areGifts_184 8 (by decide) ?_
            refine gx_aload_n (pc := 186) hB dL_areGifts_186 1 rfl ?_
            refine gx_iconst (pc := 187) hB dL_areGifts_187 5 (by decide) ?_
            refine gx_iald (pc := 188) hB dL_areGifts_188 23 1 rfl rfl 5 rfl (by decide) (by decide) ?_
            refine gx_top (show G 5 = nI e from h0.2.1.1.2.2.2.2.2.1) ?_
            refine gx_imul (pc := 189) hB dL_areGifts_189 ?_
            refine gx_top (show 8 * nI e = nI (8 * e) from pk_mul 8 e) ?_
            refine gx_icmp_ge (pc := 190) hB 248 dL_areGifts_190 (by decide) (fun c_2 => ?_) (fun c_2 => ?_)
            · refine gx_iload (pc := 248) hB dL_areGifts_248 6 rfl ?_
              refine gx_if_eq (pc := 250) hB 281 dL_areGifts_250 (by decide) (fun c_3 => ?_) (fun c_3 => ?_)
              · exact absurd c_3 (by decide)
              · refine gx_aload_n (pc := 253) hB dL_areGifts_253 0 rfl ?_
                refine gx_aload_n (pc := 254) hB dL_areGifts_254 1 rfl ?_
                refine gx_iconst (pc := 255) hB dL_areGifts_255 4 (by decide) ?_
                refine gx_iald (pc := 256) hB dL_areGifts_256 23 1 rfl rfl 4 rfl (by decide) (by decide) ?_
                refine gx_top (show G 4 = nI c from h0.2.1.1.2.2.2.2.1) ?_
                refine gx_iconst (pc := 257) hB dL_areGifts_257 0 (by decide) ?_
                refine gx_dVA (pc := 258) (r := bTellG C (nI c) 0) (W1 := wZ K ad C R od sn) (wr := [(ug, .inl (K.2.1.2.1, 8, .inl G)), (uh, .inl (K.2.1.2.1, 48, .inl H)), (uv, .inl (K.2.1.2.1, 48, .inl V)), (uj, .inl (K.2.1.2.1, 48, .inl J)), (uq, .inl (K.2.1.2.1, 48, .inl Q))]) hB (k_giftOf l K ad C R od sn (nI c) 0 ho hsn) mX4_giftOf dL_areGifts_258 tb_496 pX4_giftOf ⟨Nat.le_of_ble_eq_true rfl, Nat.le_of_ble_eq_true rfl⟩ ⟨rfl, rfl⟩ ⟨Nat.le_of_ble_eq_true rfl, Nat.le_of_ble_eq_true rfl⟩ rfl (Nat.le_of_ble_eq_true rfl) (List.range 23) (List.range' 23 5) rfl rfl (by decide) (by decide) (by decide) rfl rfl (List.range' 5 23 ++ List.range 5) (by decide) rfl ?_
                have e_1 := tg_end h0
                refine gx_top (x := bTellG C (nI c) 0) (y := (-1)) e_1 ?_
                refine gx_iconst (pc := 261) hB dL_areGifts_261 (-1) (by decide) ?_
                refine gx_icmp_ne (pc := 262) hB 281 dL_areGifts_262 (by decide) (fun c_4 => ?_) (fun c_4 => ?_)
                · exact absurd c_4 (by decide)
                · refine gx_aload_n (pc := 265) hB dL_areGifts_265 0 rfl ?_
                  refine gx_aload_n (pc := 266) hB dL_areGifts_266 1 rfl ?_
                  refine gx_iconst (pc := 267) hB dL_areGifts_267 5 (by decide) ?_
                  refine gx_iald (pc := 268) hB dL_areGifts_268 23 1 rfl rfl 5 rfl (by decide) (by decide) ?_
                  refine gx_top (show G 5 = nI e from h0.2.1.1.2.2.2.2.2.1) ?_
                  refine gx_iconst (pc := 269) hB dL_areGifts_269 0 (by decide) ?_
                  refine gx_dVA (pc := 270) (r := bTellK C (nI e) 0) (W1 := wZ K ad C R od sn) (wr := [(ug, .inl (K.2.1.2.1, 8, .inl G)), (uh, .inl (K.2.1.2.1, 48, .inl H)), (uv, .inl (K.2.1.2.1, 48, .inl V)), (uj, .inl (K.2.1.2.1, 48, .inl J)), (uq, .inl (K.2.1.2.1, 48, .inl Q))]) hB (k_pledgeOf l K ad C R od sn (nI e) 0 ho hsn) mX4_pledgeOf dL_areGifts_270 tb_504 pX4_pledgeOf ⟨Nat.le_of_ble_eq_true rfl, Nat.le_of_ble_eq_true rfl⟩ ⟨rfl, rfl⟩ ⟨Nat.le_of_ble_eq_true rfl, Nat.le_of_ble_eq_true rfl⟩ rfl (Nat.le_of_ble_eq_true rfl) (List.range 23) (List.range' 23 5) rfl rfl (by decide) (by decide) (by decide) rfl rfl (List.range' 5 23 ++ List.range 5) (by decide) rfl ?_
                  have e_1 := tk_end h0
                  refine gx_top (x := bTellK C (nI e) 0) (y := (-1)) e_1 ?_
                  refine gx_iconst (pc := 273) hB dL_areGifts_273 (-1) (by decide) ?_
                  refine gx_icmp_ne (pc := 274) hB 281 dL_areGifts_274 (by decide) (fun c_5 => ?_) (fun c_5 => ?_)
                  · exact absurd c_5 (by decide)
                  · refine gx_iconst (pc := 277) hB dL_areGifts_277 1 (by decide) ?_
                    refine gx_goto (pc := 278) hB 282 dL_areGifts_278 (by decide) ?_
                    exact gx_zret (pc := 282) hC dL_areGifts_282 (Nat.le_of_ble_eq_true rfl) (Nat.le_of_ble_eq_true rfl) (by decide) ⟨rfl, rfl⟩
            · exact absurd (lpTn (c := 8 * e) (by omega) hi182) c_2
          | succ dq ih182 =>
            intro i hi182
            have hi : i < 8 * e := by omega
            refine gx_iload (pc := 182) hB dL_areGifts_182 7 rfl ?_
            refine gx_bipush (pc := 184) hB dL_areGifts_184 8 (by decide) ?_
            refine gx_aload_n (pc := 186) hB dL_areGifts_186 1 rfl ?_
            refine gx_iconst (pc := 187) hB dL_areGifts_187 5 (by decide) ?_
            refine gx_iald (pc := 188) hB dL_areGifts_188 23 1 rfl rfl 5 rfl (by decide) (by decide) ?_
            refine gx_top (show G 5 = nI e from h0.2.1.1.2.2.2.2.2.1) ?_
            refine gx_imul (pc := 189) hB dL_areGifts_189 ?_
            refine gx_top (show 8 * nI e = nI (8 * e) from pk_mul 8 e) ?_
            refine gx_icmp_ge (pc := 190) hB 248 dL_areGifts_190 (by decide) (fun c_6 => ?_) (fun c_6 => ?_)
            · exact absurd c_6 (lpFn (c := 8 * e) (by omega) hi182)
            · refine gx_iload (pc := 193) hB dL_areGifts_193 6 rfl ?_
              refine gx_if_eq (pc := 195) hB 248 dL_areGifts_195 (by decide) (fun c_7 => ?_) (fun c_7 => ?_)
              · exact absurd c_7 (by decide)
              · refine gx_aload_n (pc := 198) hB dL_areGifts_198 0 rfl ?_
                refine gx_iload (pc := 199) hB dL_areGifts_199 7 rfl ?_
                refine gx_bipush (pc := 201) hB dL_areGifts_201 8 (by decide) ?_
                refine gx_idiv (pc := 203) hB dL_areGifts_203 (by decide) ?_
                refine gx_top (show nI i / 8 = nI (i / 8) from pk_div (a := i) (d := 8) (by omega) (by omega) (by omega)) ?_
                refine gx_iload (pc := 204) hB dL_areGifts_204 7 rfl ?_
                refine gx_bipush (pc := 206) hB dL_areGifts_206 8 (by decide) ?_
                refine gx_irem (pc := 208) hB dL_areGifts_208 (by decide) ?_
                refine gx_top (show nI i - nI i / 8 * 8 = nI (i % 8) from pk_rem (a := i) (d := 8) (by omega) (by omega) (by omega)) ?_
                refine gx_dVA (pc := 209) (r := bTellK C (nI (i / 8)) (nI (i % 8))) (W1 := wZ K ad C R od sn) (wr := [(ug, .inl (K.2.1.2.1, 8, .inl G)), (uh, .inl (K.2.1.2.1, 48, .inl H)), (uv, .inl (K.2.1.2.1, 48, .inl V)), (uj, .inl (K.2.1.2.1, 48, .inl J)), (uq, .inl (K.2.1.2.1, 48, .inl Q))]) hB (k_pledgeOf l K ad C R od sn (nI (i / 8)) (nI (i % 8)) ho hsn) mX4_pledgeOf dL_areGifts_209 tb_504 pX4_pledgeOf ⟨Nat.le_of_ble_eq_true rfl, Nat.le_of_ble_eq_true rfl⟩ ⟨rfl, rfl⟩ ⟨Nat.le_of_ble_eq_true rfl, Nat.le_of_ble_eq_true rfl⟩ rfl (Nat.le_of_ble_eq_true rfl) (List.range 23) (List.range' 23 5) rfl rfl (by decide) (by decide) (by decide) rfl rfl (List.range' 5 23 ++ List.range 5) (by decide) rfl ?_
                have e_1 := (tk h0 hi).1
                refine gx_top (x := bTellK C (nI (i / 8)) (nI (i % 8))) (y := Q i) e_1 ?_
                refine gx_aload (pc := 212) hB dL_areGifts_212 5 rfl ?_
                refine gx_iload (pc := 214) hB dL_areGifts_214 7 rfl ?_
                refine gx_iald (pc := 216) hB dL_areGifts_216 27 1 rfl rfl i rfl (by omega) (by decide) ?_
                refine gx_icmp_ne (pc := 217) hB 239 dL_areGifts_217 (by decide) (fun c_8 => ?_) (fun c_8 => ?_)
                · exact absurd rfl c_8
                · refine gx_aload_n (pc := 220) hB dL_areGifts_220 0 rfl ?_
                  refine gx_iload (pc := 221) hB dL_areGifts_221 7 rfl ?_
                  refine gx_bipush (pc := 223) hB dL_areGifts_223 8 (by decide) ?_
                  refine gx_idiv (pc := 225) hB dL_areGifts_225 (by decide) ?_
                  refine gx_top (show nI i / 8 = nI (i / 8) from pk_div (a := i) (d := 8) (by omega) (by omega) (by omega)) ?_
                  refine gx_bipush (pc := 226) hB dL_areGifts_226 8 (by decide) ?_
                  refine gx_dVA (pc := 228) (r := bTellK C (nI (i / 8)) 8) (W1 := wZ K ad C R od sn) (wr := [(ug, .inl (K.2.1.2.1, 8, .inl G)), (uh, .inl (K.2.1.2.1, 48, .inl H)), (uv, .inl (K.2.1.2.1, 48, .inl V)), (uj, .inl (K.2.1.2.1, 48, .inl J)), (uq, .inl (K.2.1.2.1, 48, .inl Q))]) hB (k_pledgeOf l K ad C R od sn (nI (i / 8)) 8 ho hsn) mX4_pledgeOf dL_areGifts_228 tb_504 pX4_pledgeOf ⟨Nat.le_of_ble_eq_true rfl, Nat.le_of_ble_eq_true rfl⟩ ⟨rfl, rfl⟩ ⟨Nat.le_of_ble_eq_true rfl, Nat.le_of_ble_eq_true rfl⟩ rfl (Nat.le_of_ble_eq_true rfl) (List.range 23) (List.range' 23 5) rfl rfl (by decide) (by decide) (by decide) rfl rfl (List.range' 5 23 ++ List.range 5) (by decide) rfl ?_
                  have e_1 := (tk h0 hi).2
                  refine gx_top (x := bTellK C (nI (i / 8)) 8) (y := (-1)) e_1 ?_
                  refine gx_iconst (pc := 231) hB dL_areGifts_231 (-1) (by decide) ?_
                  refine gx_icmp_ne (pc := 232) hB 239 dL_areGifts_232 (by decide) (fun c_9 => ?_) (fun c_9 => ?_)
                  · exact absurd c_9 (by decide)
                  · refine gx_iconst (pc := 235) hB dL_areGifts_235 1 (by decide) ?_
                    refine gx_goto (pc := 236) hB 240 dL_areGifts_236 (by decide) ?_
                    refine gx_istore (pc := 240) hB dL_areGifts_240 (by decide) [(6, .int 1), (0, .ref (ad 0)), (1, .ref ug), (2, .ref uh), (3, .ref uv), (4, .ref uj), (5, .ref uq), (7, .int (nI i))] rfl ?_
                    refine gx_iinc (pc := 242) hB dL_areGifts_242 7 (by decide) rfl (nI (i + 1)) (nI_1 _) [(7, .int (nI (i + 1))), (6, .int 1), (0, .ref (ad 0)), (1, .ref ug), (2, .ref uh), (3, .ref uv), (4, .ref uj), (5, .ref uq)] rfl ?_
                    refine gx_goto (pc := 245) hB 182 dL_areGifts_245 (by decide) ?_
                    refine gx_sub hB (lv' := [(0, .ref (ad 0)), (1, .ref ug), (2, .ref uh), (3, .ref uv), (4, .ref uj), (5, .ref uq), (6, .int 1), (7, .int (nI (i + 1)))]) [2, 3, 4, 5, 6, 7, 1, 0] rfl ?_
                    exact ih182 (i + 1)  (by omega) 
        refine gx_sub hB (lv' := [(0, .ref (ad 0)), (1, .ref ug), (2, .ref uh), (3, .ref uv), (4, .ref uj), (5, .ref uq), (6, .int 1), (7, .int 0)]) [1, 2, 3, 4, 5, 6, 7, 0] rfl ?_
        exact loop_182 (8 * e) 0  (by omega) 
      · exact absurd (lpTn (c := c) (by omega) hi6) c_1
    | succ dq ih6 =>
      intro i hi6
      have hi : i < c := by omega
      refine gx_iload (pc := 6) hB dL_areGifts_6 7 rfl ?_
      refine gx_aload_n (pc := 8) hB dL_areGifts_8 1 rfl ?_
      refine gx_iconst (pc := 9) hB dL_areGifts_9 4 (by decide) ?_
      refine gx_iald (pc := 10) hB dL_areGifts_10 23 1 rfl rfl 4 rfl (by decide) (by decide) ?_
      refine gx_top (show G 4 = nI c from h0.2.1.1.2.2.2.2.1) ?_
      refine gx_icmp_ge (pc := 11) hB 179 dL_areGifts_11 (by decide) (fun c_10 => ?_) (fun c_10 => ?_)
      · exact absurd c_10 (lpFn (c := c) (by omega) hi6)
      · refine gx_iload (pc := 14) hB dL_areGifts_14 6 rfl ?_
        refine gx_if_eq (pc := 16) hB 179 dL_areGifts_16 (by decide) (fun c_11 => ?_) (fun c_11 => ?_)
        · exact absurd c_11 (by decide)
        · refine gx_iconst (pc := 19) hB dL_areGifts_19 2 (by decide) ?_
          refine gx_iload (pc := 20) hB dL_areGifts_20 7 rfl ?_
          refine gx_imul (pc := 22) hB dL_areGifts_22 ?_
          refine gx_top (show 2 * nI i = nI (2 * i) from pk_mul 2 i) ?_
          refine gx_istore (pc := 23) hB dL_areGifts_23 (by decide) [(8, .int (nI (2 * i))), (0, .ref (ad 0)), (1, .ref ug), (2, .ref uh), (3, .ref uv), (4, .ref uj), (5, .ref uq), (6, .int 1), (7, .int (nI i))] rfl ?_
          refine gx_aload_n (pc := 25) hB dL_areGifts_25 1 rfl ?_
          refine gx_iload (pc := 26) hB dL_areGifts_26 8 rfl ?_
          refine gx_iconst (pc := 28) hB dL_areGifts_28 0 (by decide) ?_
          refine gx_dVA (pc := 29) (r := bTellG C (nI i) 0) (W1 := wZ K ad C R od sn) (wr := [(ug, .inl (K.2.1.2.1, 8, .inl G)), (uh, .inl (K.2.1.2.1, 48, .inl H)), (uv, .inl (K.2.1.2.1, 48, .inl V)), (uj, .inl (K.2.1.2.1, 48, .inl J)), (uq, .inl (K.2.1.2.1, 48, .inl Q))]) hB (k_giftOf l K ad C R od sn (nI i) 0 ho hsn) mX4_giftOf dL_areGifts_29 tb_496 pX4_giftOf ⟨Nat.le_of_ble_eq_true rfl, Nat.le_of_ble_eq_true rfl⟩ ⟨rfl, rfl⟩ ⟨Nat.le_of_ble_eq_true rfl, Nat.le_of_ble_eq_true rfl⟩ rfl (Nat.le_of_ble_eq_true rfl) (List.range 23) (List.range' 23 5) rfl rfl (by decide) (by decide) (by decide) rfl rfl (List.range' 5 23 ++ List.range 5) (by decide) rfl ?_
          have e_1 := (tg h0 hi).1
          refine gx_top (x := bTellG C (nI i) 0) (y := H (2 * i)) e_1 ?_
          refine gx_aload_n (pc := 32) hB dL_areGifts_32 3 rfl ?_
          refine gx_iload (pc := 33) hB dL_areGifts_33 0 rfl ?_
          refine gx_iald (pc := 35) hB dL_areGifts_35 24 1 rfl rfl (2 * i) rfl (by omega) (by decide) ?_
          refine gx_icmp_ne (pc := 36) hB 170 dL_areGifts_36 (by decide) (fun c_12 => ?_) (fun c_12 => ?_)
          · exact absurd rfl c_12
          · refine gx_aload_n (pc := 39) hB dL_areGifts_39 1 rfl ?_
            refine gx_iload (pc := 40) hB dL_areGifts_40 8 rfl ?_
            refine gx_iconst (pc := 42) hB dL_areGifts_42 1 (by decide) ?_
            refine gx_dVA (pc := 43) (r := bTellG C (nI i) 1) (W1 := wZ K ad C R od sn) (wr := [(ug, .inl (K.2.1.2.1, 8, .inl G)), (uh, .inl (K.2.1.2.1, 48, .inl H)), (uv, .inl (K.2.1.2.1, 48, .inl V)), (uj, .inl (K.2.1.2.1, 48, .inl J)), (uq, .inl (K.2.1.2.1, 48, .inl Q))]) hB (k_giftOf l K ad C R od sn (nI i) 1 ho hsn) mX4_giftOf dL_areGifts_43 tb_496 pX4_giftOf ⟨Nat.le_of_ble_eq_true rfl, Nat.le_of_ble_eq_true rfl⟩ ⟨rfl, rfl⟩ ⟨Nat.le_of_ble_eq_true rfl, Nat.le_of_ble_eq_true rfl⟩ rfl (Nat.le_of_ble_eq_true rfl) (List.range 23) (List.range' 23 5) rfl rfl (by decide) (by decide) (by decide) rfl rfl (List.range' 5 23 ++ List.range 5) (by decide) rfl ?_
            have e_1 := (tg h0 hi).2.1
            refine gx_top (x := bTellG C (nI i) 1) (y := H (2 * i + 1)) e_1 ?_
            refine gx_aload_n (pc := 46) hB dL_areGifts_46 3 rfl ?_
            refine gx_iload (pc := 47) hB dL_areGifts_47 0 rfl ?_
            refine gx_iconst (pc := 49) hB dL_areGifts_49 1 (by decide) ?_
            refine gx_iadd (pc := 50) hB dL_areGifts_50 ?_
            refine gx_top (show (nI (2 * i)) + 1 = nI (2 * i + 1) from nI_add (2 * i) 1) ?_
            refine gx_iald (pc := 51) hB dL_areGifts_51 24 1 rfl rfl (2 * i + 1) rfl (by omega) (by decide) ?_
            refine gx_icmp_ne (pc := 52) hB 170 dL_areGifts_52 (by decide) (fun c_13 => ?_) (fun c_13 => ?_)
            · exact absurd rfl c_13
            · refine gx_aload_n (pc := 55) hB dL_areGifts_55 1 rfl ?_
              refine gx_iload (pc := 56) hB dL_areGifts_56 8 rfl ?_
              refine gx_iconst (pc := 58) hB dL_areGifts_58 2 (by decide) ?_
              refine gx_dVA (pc := 59) (r := bTellG C (nI i) 2) (W1 := wZ K ad C R od sn) (wr := [(ug, .inl (K.2.1.2.1, 8, .inl G)), (uh, .inl (K.2.1.2.1, 48, .inl H)), (uv, .inl (K.2.1.2.1, 48, .inl V)), (uj, .inl (K.2.1.2.1, 48, .inl J)), (uq, .inl (K.2.1.2.1, 48, .inl Q))]) hB (k_giftOf l K ad C R od sn (nI i) 2 ho hsn) mX4_giftOf dL_areGifts_59 tb_496 pX4_giftOf ⟨Nat.le_of_ble_eq_true rfl, Nat.le_of_ble_eq_true rfl⟩ ⟨rfl, rfl⟩ ⟨Nat.le_of_ble_eq_true rfl, Nat.le_of_ble_eq_true rfl⟩ rfl (Nat.le_of_ble_eq_true rfl) (List.range 23) (List.range' 23 5) rfl rfl (by decide) (by decide) (by decide) rfl rfl (List.range' 5 23 ++ List.range 5) (by decide) rfl ?_
              have e_1 := (tg h0 hi).2.2.1
              refine gx_top (x := bTellG C (nI i) 2) (y := V (2 * i)) e_1 ?_
              refine gx_aload_n (pc := 62) hB dL_areGifts_62 4 rfl ?_
              refine gx_iload (pc := 63) hB dL_areGifts_63 0 rfl ?_
              refine gx_iald (pc := 65) hB dL_areGifts_65 25 1 rfl rfl (2 * i) rfl (by omega) (by decide) ?_
              refine gx_icmp_ne (pc := 66) hB 170 dL_areGifts_66 (by decide) (fun c_14 => ?_) (fun c_14 => ?_)
              · exact absurd rfl c_14
              · refine gx_aload_n (pc := 69) hB dL_areGifts_69 1 rfl ?_
                refine gx_iload (pc := 70) hB dL_areGifts_70 8 rfl ?_
                refine gx_iconst (pc := 72) hB dL_areGifts_72 3 (by decide) ?_
                refine gx_dVA (pc := 73) (r := bTellG C (nI i) 3) (W1 := wZ K ad C R od sn) (wr := [(ug, .inl (K.2.1.2.1, 8, .inl G)), (uh, .inl (K.2.1.2.1, 48, .inl H)), (uv, .inl (K.2.1.2.1, 48, .inl V)), (uj, .inl (K.2.1.2.1, 48, .inl J)), (uq, .inl (K.2.1.2.1, 48, .inl Q))]) hB (k_giftOf l K ad C R od sn (nI i) 3 ho hsn) mX4_giftOf dL_areGifts_73 tb_496 pX4_giftOf ⟨Nat.le_of_ble_eq_true rfl, Nat.le_of_ble_eq_true rfl⟩ ⟨rfl, rfl⟩ ⟨Nat.le_of_ble_eq_true rfl, Nat.le_of_ble_eq_true rfl⟩ rfl (Nat.le_of_ble_eq_true rfl) (List.range 23) (List.range' 23 5) rfl rfl (by decide) (by decide) (by decide) rfl rfl (List.range' 5 23 ++ List.range 5) (by decide) rfl ?_
                have e_1 := (tg h0 hi).2.2.2.1
                refine gx_top (x := bTellG C (nI i) 3) (y := V (2 * i + 1)) e_1 ?_
                refine gx_aload_n (pc := 76) hB dL_areGifts_76 4 rfl ?_
                refine gx_iload (pc := 77) hB dL_areGifts_77 0 rfl ?_
                refine gx_iconst (pc := 79) hB dL_areGifts_79 1 (by decide) ?_
                refine gx_iadd (pc := 80) hB dL_areGifts_80 ?_
                refine gx_top (show (nI (2 * i)) + 1 = nI (2 * i + 1) from nI_add (2 * i) 1) ?_
                refine gx_iald (pc := 81) hB dL_areGifts_81 25 1 rfl rfl (2 * i + 1) rfl (by omega) (by decide) ?_
                refine gx_icmp_ne (pc := 82) hB 170 dL_areGifts_82 (by decide) (fun c_15 => ?_) (fun c_15 => ?_)
                · exact absurd rfl c_15
                · refine gx_aload_n (pc := 85) hB dL_areGifts_85 1 rfl ?_
                  refine gx_iload (pc := 86) hB dL_areGifts_86 8 rfl ?_
                  refine gx_iconst (pc := 88) hB dL_areGifts_88 4 (by decide) ?_
                  refine gx_dVA (pc := 89) (r := bTellG C (nI i) 4) (W1 := wZ K ad C R od sn) (wr := [(ug, .inl (K.2.1.2.1, 8, .inl G)), (uh, .inl (K.2.1.2.1, 48, .inl H)), (uv, .inl (K.2.1.2.1, 48, .inl V)), (uj, .inl (K.2.1.2.1, 48, .inl J)), (uq, .inl (K.2.1.2.1, 48, .inl Q))]) hB (k_giftOf l K ad C R od sn (nI i) 4 ho hsn) mX4_giftOf dL_areGifts_89 tb_496 pX4_giftOf ⟨Nat.le_of_ble_eq_true rfl, Nat.le_of_ble_eq_true rfl⟩ ⟨rfl, rfl⟩ ⟨Nat.le_of_ble_eq_true rfl, Nat.le_of_ble_eq_true rfl⟩ rfl (Nat.le_of_ble_eq_true rfl) (List.range 23) (List.range' 23 5) rfl rfl (by decide) (by decide) (by decide) rfl rfl (List.range' 5 23 ++ List.range 5) (by decide) rfl ?_
                  have e_1 := (tg h0 hi).2.2.2.2.1
                  refine gx_top (x := bTellG C (nI i) 4) (y := (J (2 * i)) &&& 1) e_1 ?_
                  refine gx_aload (pc := 92) hB dL_areGifts_92 5 rfl ?_
                  refine gx_iload (pc := 94) hB dL_areGifts_94 0 rfl ?_
                  refine gx_iald (pc := 96) hB dL_areGifts_96 26 1 rfl rfl (2 * i) rfl (by omega) (by decide) ?_
                  refine gx_iconst (pc := 97) hB dL_areGifts_97 1 (by decide) ?_
                  refine gx_iand (pc := 98) hB dL_areGifts_98 ?_
                  refine gx_icmp_ne (pc := 99) hB 170 dL_areGifts_99 (by decide) (fun c_16 => ?_) (fun c_16 => ?_)
                  · exact absurd rfl c_16
                  · refine gx_aload_n (pc := 102) hB dL_areGifts_102 1 rfl ?_
                    refine gx_iload (pc := 103) hB dL_areGifts_103 8 rfl ?_
                    refine gx_iconst (pc := 105) hB dL_areGifts_105 5 (by decide) ?_
                    refine gx_dVA (pc := 106) (r := bTellG C (nI i) 5) (W1 := wZ K ad C R od sn) (wr := [(ug, .inl (K.2.1.2.1, 8, .inl G)), (uh, .inl (K.2.1.2.1, 48, .inl H)), (uv, .inl (K.2.1.2.1, 48, .inl V)), (uj, .inl (K.2.1.2.1, 48, .inl J)), (uq, .inl (K.2.1.2.1, 48, .inl Q))]) hB (k_giftOf l K ad C R od sn (nI i) 5 ho hsn) mX4_giftOf dL_areGifts_106 tb_496 pX4_giftOf ⟨Nat.le_of_ble_eq_true rfl, Nat.le_of_ble_eq_true rfl⟩ ⟨rfl, rfl⟩ ⟨Nat.le_of_ble_eq_true rfl, Nat.le_of_ble_eq_true rfl⟩ rfl (Nat.le_of_ble_eq_true rfl) (List.range 23) (List.range' 23 5) rfl rfl (by decide) (by decide) (by decide) rfl rfl (List.range' 5 23 ++ List.range 5) (by decide) rfl ?_
                    have e_1 := (tg h0 hi).2.2.2.2.2.1
                    refine gx_top (x := bTellG C (nI i) 5) (y := (J (2 * i)) / 2) e_1 ?_
                    refine gx_aload (pc := 109) hB dL_areGifts_109 5 rfl ?_
                    refine gx_iload (pc := 111) hB dL_areGifts_111 0 rfl ?_
                    refine gx_iald (pc := 113) hB dL_areGifts_113 26 1 rfl rfl (2 * i) rfl (by omega) (by decide) ?_
                    refine gx_iconst (pc := 114) hB dL_areGifts_114 2 (by decide) ?_
                    refine gx_idiv (pc := 115) hB dL_areGifts_115 (by decide) ?_
                    refine gx_icmp_ne (pc := 116) hB 170 dL_areGifts_116 (by decide) (fun c_17 => ?_) (fun c_17 => ?_)
                    · exact absurd rfl c_17
                    · refine gx_aload_n (pc := 119) hB dL_areGifts_119 1 rfl ?_
                      refine gx_iload (pc := 120) hB dL_areGifts_120 8 rfl ?_
                      refine gx_bipush (pc := 122) hB dL_areGifts_122 6 (by decide) ?_
                      refine gx_dVA (pc := 124) (r := bTellG C (nI i) 6) (W1 := wZ K ad C R od sn) (wr := [(ug, .inl (K.2.1.2.1, 8, .inl G)), (uh, .inl (K.2.1.2.1, 48, .inl H)), (uv, .inl (K.2.1.2.1, 48, .inl V)), (uj, .inl (K.2.1.2.1, 48, .inl J)), (uq, .inl (K.2.1.2.1, 48, .inl Q))]) hB (k_giftOf l K ad C R od sn (nI i) 6 ho hsn) mX4_giftOf dL_areGifts_124 tb_496 pX4_giftOf ⟨Nat.le_of_ble_eq_true rfl, Nat.le_of_ble_eq_true rfl⟩ ⟨rfl, rfl⟩ ⟨Nat.le_of_ble_eq_true rfl, Nat.le_of_ble_eq_true rfl⟩ rfl (Nat.le_of_ble_eq_true rfl) (List.range 23) (List.range' 23 5) rfl rfl (by decide) (by decide) (by decide) rfl rfl (List.range' 5 23 ++ List.range 5) (by decide) rfl ?_
                      have e_1 := (tg h0 hi).2.2.2.2.2.2.1
                      refine gx_top (x := bTellG C (nI i) 6) (y := J (2 * i + 1)) e_1 ?_
                      refine gx_aload (pc := 127) hB dL_areGifts_127 5 rfl ?_
                      refine gx_iload (pc := 129) hB dL_areGifts_129 0 rfl ?_
                      refine gx_iconst (pc := 131) hB dL_areGifts_131 1 (by decide) ?_
                      refine gx_iadd (pc := 132) hB dL_areGifts_132 ?_
                      refine gx_top (show (nI (2 * i)) + 1 = nI (2 * i + 1) from nI_add (2 * i) 1) ?_
                      refine gx_iald (pc := 133) hB dL_areGifts_133 26 1 rfl rfl (2 * i + 1) rfl (by omega) (by decide) ?_
                      refine gx_icmp_ne (pc := 134) hB 170 dL_areGifts_134 (by decide) (fun c_18 => ?_) (fun c_18 => ?_)
                      · exact absurd rfl c_18
                      · refine gx_aload_n (pc := 137) hB dL_areGifts_137 1 rfl ?_
                        refine gx_iload (pc := 138) hB dL_areGifts_138 8 rfl ?_
                        refine gx_bipush (pc := 140) hB dL_areGifts_140 7 (by decide) ?_
                        refine gx_dVA (pc := 142) (r := bTellG C (nI i) 7) (W1 := wZ K ad C R od sn) (wr := [(ug, .inl (K.2.1.2.1, 8, .inl G)), (uh, .inl (K.2.1.2.1, 48, .inl H)), (uv, .inl (K.2.1.2.1, 48, .inl V)), (uj, .inl (K.2.1.2.1, 48, .inl J)), (uq, .inl (K.2.1.2.1, 48, .inl Q))]) hB (k_giftOf l K ad C R od sn (nI i) 7 ho hsn) mX4_giftOf dL_areGifts_142 tb_496 pX4_giftOf ⟨Nat.le_of_ble_eq_true rfl, Nat.le_of_ble_eq_true rfl⟩ ⟨rfl, rfl⟩ ⟨Nat.le_of_ble_eq_true rfl, Nat.le_of_ble_eq_true rfl⟩ rfl (Nat.le_of_ble_eq_true rfl) (List.range 23) (List.range' 23 5) rfl rfl (by decide) (by decide) (by decide) rfl rfl (List.range' 5 23 ++ List.range 5) (by decide) rfl ?_
                        have e_1 := (tg h0 hi).2.2.2.2.2.2.2.1
                        refine gx_top (x := bTellG C (nI i) 7) (y := (V (2 * i)) / 4) e_1 ?_
                        refine gx_aload_n (pc := 145) hB dL_areGifts_145 4 rfl ?_
                        refine gx_iload (pc := 146) hB dL_areGifts_146 0 rfl ?_
                        refine gx_iald (pc := 148) hB dL_areGifts_148 25 1 rfl rfl (2 * i) rfl (by omega) (by decide) ?_
                        refine gx_iconst (pc := 149) hB dL_areGifts_149 4 (by decide) ?_
                        refine gx_idiv (pc := 150) hB dL_areGifts_150 (by decide) ?_
                        refine gx_icmp_ne (pc := 151) hB 170 dL_areGifts_151 (by decide) (fun c_19 => ?_) (fun c_19 => ?_)
                        · exact absurd rfl c_19
                        · refine gx_aload_n (pc := 154) hB dL_areGifts_154 1 rfl ?_
                          refine gx_iload (pc := 155) hB dL_areGifts_155 8 rfl ?_
                          refine gx_bipush (pc := 157) hB dL_areGifts_157 8 (by decide) ?_
                          refine gx_dVA (pc := 159) (r := bTellG C (nI i) 8) (W1 := wZ K ad C R od sn) (wr := [(ug, .inl (K.2.1.2.1, 8, .inl G)), (uh, .inl (K.2.1.2.1, 48, .inl H)), (uv, .inl (K.2.1.2.1, 48, .inl V)), (uj, .inl (K.2.1.2.1, 48, .inl J)), (uq, .inl (K.2.1.2.1, 48, .inl Q))]) hB (k_giftOf l K ad C R od sn (nI i) 8 ho hsn) mX4_giftOf dL_areGifts_159 tb_496 pX4_giftOf ⟨Nat.le_of_ble_eq_true rfl, Nat.le_of_ble_eq_true rfl⟩ ⟨rfl, rfl⟩ ⟨Nat.le_of_ble_eq_true rfl, Nat.le_of_ble_eq_true rfl⟩ rfl (Nat.le_of_ble_eq_true rfl) (List.range 23) (List.range' 23 5) rfl rfl (by decide) (by decide) (by decide) rfl rfl (List.range' 5 23 ++ List.range 5) (by decide) rfl ?_
                          have e_1 := (tg h0 hi).2.2.2.2.2.2.2.2
                          refine gx_top (x := bTellG C (nI i) 8) (y := (-1)) e_1 ?_
                          refine gx_iconst (pc := 162) hB dL_areGifts_162 (-1) (by decide) ?_
                          refine gx_icmp_ne (pc := 163) hB 170 dL_areGifts_163 (by decide) (fun c_20 => ?_) (fun c_20 => ?_)
                          · exact absurd c_20 (by decide)
                          · refine gx_iconst (pc := 166) hB dL_areGifts_166 1 (by decide) ?_
                            refine gx_goto (pc := 167) hB 171 dL_areGifts_167 (by decide) ?_
                            refine gx_istore (pc := 171) hB dL_areGifts_171 (by decide) [(6, .int 1), (8, .int (nI (2 * i))), (0, .ref (ad 0)), (1, .ref ug), (2, .ref uh), (3, .ref uv), (4, .ref uj), (5, .ref uq), (7, .int (nI i))] rfl ?_
                            refine gx_iinc (pc := 173) hB dL_areGifts_173 8 (by decide) rfl (nI (i + 1)) (nI_1 _) [(7, .int (nI (i + 1))), (6, .int 1), (8, .int (nI (2 * i))), (0, .ref (ad 0)), (1, .ref ug), (2, .ref uh), (3, .ref uv), (4, .ref uj), (5, .ref uq)] rfl ?_
                            refine gx_goto (pc := 176) hB 6 dL_areGifts_176 (by decide) ?_
                            refine gx_sub hB (lv' := [(0, .ref (ad 0)), (1, .ref ug), (2, .ref uh), (3, .ref uv), (4, .ref uj), (5, .ref uq), (6, .int 1), (7, .int (nI (i + 1)))]) [3, 4, 5, 6, 7, 8, 1, 0] rfl ?_
                            exact ih6 (i + 1)  (by omega) 
  refine gx_sub hB (lv' := [(0, .ref (ad 0)), (1, .ref ug), (2, .ref uh), (3, .ref uv), (4, .ref uj), (5, .ref uq), (6, .int 1), (7, .int 0)]) [2, 3, 4, 5, 6, 7, 1, 0] rfl ?_
  exact loop_6 (c) 0  (by omega) 
theorem pL_areDonors : (parseMethodDescriptor yL_areDonors.desc).map (fun d => d.parameters.length) = some 7 := by decide +kernel
theorem mL_areDonors : gx_MS yL_areDonors cL_areDonors 14 (some .boolean) := ⟨tb_513, tb_26, tb_514, by decide, by decide⟩
set_option maxHeartbeats 4000000 in
set_option maxRecDepth 100000 in
theorem c_L_areDonors (l : Launch) (K : gx_K) (ad : Nat → Nat) (ug uf ud uh uv uj uq : Nat) (C : Nat → Int32) (R : Nat → Nat → Int32) (od sn : Nat) (G F D H V J Q S : Nat → Int32) (a b c e : Nat) (h0 : LJ C G F D H V J Q S a b c e od sn) : gx_Ctr l K yL_areDonors cL_areDonors 14 (some .boolean) (rmm 6 113) [.ref (ad 0), .ref ug, .ref ud, .ref uh, .ref uv, .ref uj, .ref uq] ((wZ K ad C R od sn ++ [(ug, .inl (K.2.1.2.1, 8, .inl G)), (ud, .inl (K.2.1.2.1, 56, .inl D)), (uh, .inl (K.2.1.2.1, 48, .inl H)), (uv, .inl (K.2.1.2.1, 48, .inl V)), (uj, .inl (K.2.1.2.1, 48, .inl J)), (uq, .inl (K.2.1.2.1, 48, .inl Q))])) (gx_D (some (.int 1)) ((wZ K ad C R od sn ++ [(ug, .inl (K.2.1.2.1, 8, .inl G)), (ud, .inl (K.2.1.2.1, 56, .inl D)), (uh, .inl (K.2.1.2.1, 48, .inl H)), (uv, .inl (K.2.1.2.1, 48, .inl V)), (uj, .inl (K.2.1.2.1, 48, .inl J)), (uq, .inl (K.2.1.2.1, 48, .inl Q))]))) := by
  refine gx_of (by decide) (Nat.le_of_ble_eq_true rfl) (fun GG hC => ?_)
  have hB := hC.b
  refine gx_lv (lv' := [(0, .ref (ad 0)), (1, .ref ug), (2, .ref ud), (3, .ref uh), (4, .ref uv), (5, .ref uj), (6, .ref uq)]) rfl ?_
  have hb := LJ_b h0
  have ho := h0.2.2.2.2.1
  have hsn := h0.2.2.2.2.2
  refine gx_iconst (pc := 0) hB dL_areDonors_0 1 (by decide) ?_
  refine gx_istore (pc := 1) hB dL_areDonors_1 (by decide) [(7, .int 1), (0, .ref (ad 0)), (1, .ref ug), (2, .ref ud), (3, .ref uh), (4, .ref uv), (5, .ref uj), (6, .ref uq)] rfl ?_
  refine gx_iconst (pc := 3) hB dL_areDonors_3 0 (by decide) ?_
  refine gx_istore (pc := 4) hB dL_areDonors_4 (by decide) [(8, .int 0), (7, .int 1), (0, .ref (ad 0)), (1, .ref ug), (2, .ref ud), (3, .ref uh), (4, .ref uv), (5, .ref uj), (6, .ref uq)] rfl ?_
  have loop_6 : ∀ (dq i : Nat) , i + dq = b → GG 0 0 ((wZ K ad C R od sn ++ [(ug, .inl (K.2.1.2.1, 8, .inl G)), (ud, .inl (K.2.1.2.1, 56, .inl D)), (uh, .inl (K.2.1.2.1, 48, .inl H)), (uv, .inl (K.2.1.2.1, 48, .inl V)), (uj, .inl (K.2.1.2.1, 48, .inl J)), (uq, .inl (K.2.1.2.1, 48, .inl Q))])) [(0, .ref (ad 0)), (1, .ref ug), (2, .ref ud), (3, .ref uh), (4, .ref uv), (5, .ref uj), (6, .ref uq), (7, .int 1), (8, .int (nI i))] 6 [] := by
    intro dq
    induction dq with
    | zero =>
      intro i hi6
      have hz6 : i = b := by omega
      refine gx_iload (pc := 6) hB dL_areDonors_6 8 rfl ?_
      refine gx_aload_n (pc := 8) hB dL_areDonors_8 1 rfl ?_
      refine gx_iconst (pc := 9) hB dL_areDonors_9 3 (by decide) ?_
      refine gx_iald (pc := 10) hB dL_areDonors_10 23 1 rfl rfl 3 rfl (by decide) (by decide) ?_
      refine gx_top (show G 3 = nI b from h0.2.1.1.2.2.2.1) ?_
      refine gx_icmp_ge (pc := 11) hB 367 dL_areDonors_11 (by decide) (fun c_1 => ?_) (fun c_1 => ?_)
      · refine gx_iload (pc := 367) hB dL_areDonors_367 7 rfl ?_
        refine gx_if_eq (pc := 369) hB 388 dL_areDonors_369 (by decide) (fun c_2 => ?_) (fun c_2 => ?_)
        · exact absurd c_2 (by decide)
        · refine gx_aload_n (pc := 372) hB dL_areDonors_372 0 rfl ?_
          refine gx_aload_n (pc := 373) hB dL_areDonors_373 1 rfl ?_
          refine gx_iconst (pc := 374) hB dL_areDonors_374 3 (by decide) ?_
          refine gx_iald (pc := 375) hB dL_areDonors_375 23 1 rfl rfl 3 rfl (by decide) (by decide) ?_
          refine gx_top (show G 3 = nI b from h0.2.1.1.2.2.2.1) ?_
          refine gx_iconst (pc := 376) hB dL_areDonors_376 0 (by decide) ?_
          refine gx_dVA (pc := 377) (r := bTellD C (nI b) 0) (W1 := wZ K ad C R od sn) (wr := [(ug, .inl (K.2.1.2.1, 8, .inl G)), (ud, .inl (K.2.1.2.1, 56, .inl D)), (uh, .inl (K.2.1.2.1, 48, .inl H)), (uv, .inl (K.2.1.2.1, 48, .inl V)), (uj, .inl (K.2.1.2.1, 48, .inl J)), (uq, .inl (K.2.1.2.1, 48, .inl Q))]) hB (k_donorOf l K ad C R od sn (nI b) 0 ho hsn) mX4_donorOf dL_areDonors_377 tb_515 pX4_donorOf ⟨Nat.le_of_ble_eq_true rfl, Nat.le_of_ble_eq_true rfl⟩ ⟨rfl, rfl⟩ ⟨Nat.le_of_ble_eq_true rfl, Nat.le_of_ble_eq_true rfl⟩ rfl (Nat.le_of_ble_eq_true rfl) (List.range 23) (List.range' 23 6) rfl rfl (by decide) (by decide) (by decide) rfl rfl (List.range' 6 23 ++ List.range 6) (by decide) rfl ?_
          have e_1 := td_end h0
          refine gx_top (x := bTellD C (nI b) 0) (y := (-1)) e_1 ?_
          refine gx_iconst (pc := 380) hB dL_areDonors_380 (-1) (by decide) ?_
          refine gx_icmp_ne (pc := 381) hB 388 dL_areDonors_381 (by decide) (fun c_3 => ?_) (fun c_3 => ?_)
          · exact absurd c_3 (by decide)
          · refine gx_iconst (pc := 384) hB dL_areDonors_384 1 (by decide) ?_
            refine gx_goto (pc := 385) hB 389 dL_areDonors_385 (by decide) ?_
            exact gx_zret (pc := 389) hC dL_areDonors_389 (Nat.le_of_ble_eq_true rfl) (Nat.le_of_ble_eq_true rfl) (by decide) ⟨rfl, rfl⟩
      · exact absurd (lpTn (c := b) (by omega) hi6) c_1
    | succ dq ih6 =>
      intro i hi6
      have hi : i < b := by omega
      refine gx_iload (pc := 6) hB dL_areDonors_6 8 rfl ?_
      refine gx_aload_n (pc := 8) hB dL_areDonors_8 1 rfl ?_
      refine gx_iconst (pc := 9) hB dL_areDonors_9 3 (by decide) ?_
      refine gx_iald (pc := 10) hB dL_areDonors_10 23 1 rfl rfl 3 rfl (by decide) (by decide) ?_
      refine gx_top (show G 3 = nI b from h0.2.1.1.2.2.2.1) ?_
      refine gx_icmp_ge (pc := 11) hB 367 dL_areDonors_11 (by decide) (fun c_4 => ?_) (fun c_4 => ?_)
      · exact absurd c_4 (lpFn (c := b) (by omega) hi6)
      · refine gx_iload (pc := 14) hB dL_areDonors_14 7 rfl ?_
        refine gx_if_eq (pc := 16) hB 367 dL_areDonors_16 (by decide) (fun c_5 => ?_) (fun c_5 => ?_)
        · exact absurd c_5 (by decide)
        · refine gx_iconst (pc := 19) hB dL_areDonors_19 0 (by decide) ?_
          refine gx_istore (pc := 20) hB dL_areDonors_20 (by decide) [(9, .int 0), (0, .ref (ad 0)), (1, .ref ug), (2, .ref ud), (3, .ref uh), (4, .ref uv), (5, .ref uj), (6, .ref uq), (7, .int 1), (8, .int (nI i))] rfl ?_
          refine gx_iconst (pc := 22) hB dL_areDonors_22 0 (by decide) ?_
          refine gx_istore (pc := 23) hB dL_areDonors_23 (by decide) [(10, .int 0), (9, .int 0), (0, .ref (ad 0)), (1, .ref ug), (2, .ref ud), (3, .ref uh), (4, .ref uv), (5, .ref uj), (6, .ref uq), (7, .int 1), (8, .int (nI i))] rfl ?_
          refine gx_iconst (pc := 25) hB dL_areDonors_25 0 (by decide) ?_
          refine gx_istore (pc := 26) hB dL_areDonors_26 (by decide) [(11, .int 0), (10, .int 0), (9, .int 0), (0, .ref (ad 0)), (1, .ref ug), (2, .ref ud), (3, .ref uh), (4, .ref uv), (5, .ref uj), (6, .ref uq), (7, .int 1), (8, .int (nI i))] rfl ?_
          refine gx_iconst (pc := 28) hB dL_areDonors_28 0 (by decide) ?_
          refine gx_istore (pc := 29) hB dL_areDonors_29 (by decide) [(12, .int 0), (11, .int 0), (10, .int 0), (9, .int 0), (0, .ref (ad 0)), (1, .ref ug), (2, .ref ud), (3, .ref uh), (4, .ref uv), (5, .ref uj), (6, .ref uq), (7, .int 1), (8, .int (nI i))] rfl ?_
          refine gx_iconst (pc := 31) hB dL_areDonors_31 0 (by decide) ?_
          refine gx_istore (pc := 32) hB dL_areDonors_32 (by decide) [(13, .int 0), (12, .int 0), (11, .int 0), (10, .int 0), (9, .int 0), (0, .ref (ad 0)), (1, .ref ug), (2, .ref ud), (3, .ref uh), (4, .ref uv), (5, .ref uj), (6, .ref uq), (7, .int 1), (8, .int (nI i))] rfl ?_
          have loop_34 : ∀ (dq r : Nat) (gv : Int32) (bk : Int32) (cd : Int32), r + dq = c → (gv = gvN S (nI i) r) → (bk = bkN S (nI i) r) → (cd = cdN S (nI i) r) → GG 0 0 ((wZ K ad C R od sn ++ [(ug, .inl (K.2.1.2.1, 8, .inl G)), (ud, .inl (K.2.1.2.1, 56, .inl D)), (uh, .inl (K.2.1.2.1, 48, .inl H)), (uv, .inl (K.2.1.2.1, 48, .inl V)), (uj, .inl (K.2.1.2.1, 48, .inl J)), (uq, .inl (K.2.1.2.1, 48, .inl Q))])) [(0, .ref (ad 0)), (1, .ref ug), (2, .ref ud), (3, .ref uh), (4, .ref uv), (5, .ref uj), (6, .ref uq), (7, .int 1), (8, .int (nI i)), (9, .int gv), (10, .int bk), (11, .int cd), (12, .int 0), (13, .int (nI r))] 34 [] := by
            intro dq
            induction dq with
            | zero =>
              intro r gv bk cd hi34 hg hk hd
              have hz34 : r = c := by omega
              refine gx_iload (pc := 34) hB dL_areDonors_34 13 rfl ?_
              refine gx_aload_n (pc := 36) hB dL_areDonors_36 1 rfl ?_
              refine gx_iconst (pc := 37) hB dL_areDonors_37 4 (by decide) ?_
              refine gx_iald (pc := 38) hB dL_areDonors_38 23 1 rfl rfl 4 rfl (by decide) (by decide) ?_
              refine gx_top (show G 4 = nI c from h0.2.1.1.2.2.2.2.1) ?_
              refine gx_icmp_ge (pc := 39) hB 151 dL_areDonors_39 (by decide) (fun c_6 => ?_) (fun c_6 => ?_)
              · rw [hz34] at hg hk hd
                refine gx_iconst (pc := 151) hB dL_areDonors_151 0 (by decide) ?_
                refine gx_istore (pc := 152) hB dL_areDonors_152 (by decide) [(13, .int 0), (0, .ref (ad 0)), (1, .ref ug), (2, .ref ud), (3, .ref uh), (4, .ref uv), (5, .ref uj), (6, .ref uq), (7, .int 1), (8, .int (nI i)), (9, .int gv), (10, .int bk), (11, .int cd), (12, .int 0)] rfl ?_
                have loop_154 : ∀ (dq r : Nat) (rn : Int32), r + dq = e → (rn = rnN S (nI i) r) → GG 0 0 ((wZ K ad C R od sn ++ [(ug, .inl (K.2.1.2.1, 8, .inl G)), (ud, .inl (K.2.1.2.1, 56, .inl D)), (uh, .inl (K.2.1.2.1, 48, .inl H)), (uv, .inl (K.2.1.2.1, 48, .inl V)), (uj, .inl (K.2.1.2.1, 48, .inl J)), (uq, .inl (K.2.1.2.1, 48, .inl Q))])) [(0, .ref (ad 0)), (1, .ref ug), (2, .ref ud), (3, .ref uh), (4, .ref uv), (5, .ref uj), (6, .ref uq), (7, .int 1), (8, .int (nI i)), (9, .int gv), (10, .int bk), (11, .int cd), (12, .int rn), (13, .int (nI r))] 154 [] := by
                  intro dq
                  induction dq with
                  | zero =>
                    intro r rn hi154 hm
                    have hz154 : r = e := by omega
                    refine gx_iload (pc := 154) hB dL_areDonors_154 13 rfl ?_
                    refine gx_aload_n (pc := 156) hB dL_areDonors_156 1 rfl ?_
                    refine gx_iconst (pc := 157) hB dL_areDonors_157 5 (by decide) ?_
                    refine gx_iald (pc := 158) hB dL_areDonors_158 23 1 rfl rfl 5 rfl (by decide) (by decide) ?_
                    refine gx_top (show G 5 = nI e from h0.2.1.1.2.2.2.2.2.1) ?_
                    refine gx_icmp_ge (pc := 159) hB 207 dL_areDonors_159 (by decide) (fun c_7 => ?_) (fun c_7 => ?_)
                    · rw [hz154] at hm
                      refine gx_aload_n (pc := 207) hB dL_areDonors_207 0 rfl ?_
                      refine gx_iload (pc := 208) hB dL_areDonors_208 8 rfl ?_
                      refine gx_iconst (pc := 210) hB dL_areDonors_210 0 (by decide) ?_
                      refine gx_dVA (pc := 211) (r := bTellD C (nI i) 0) (W1 := wZ K ad C R od sn) (wr := [(ug, .inl (K.2.1.2.1, 8, .inl G)), (ud, .inl (K.2.1.2.1, 56, .inl D)), (uh, .inl (K.2.1.2.1, 48, .inl H)), (uv, .inl (K.2.1.2.1, 48, .inl V)), (uj, .inl (K.2.1.2.1, 48, .inl J)), (uq, .inl (K.2.1.2.1, 48, .inl Q))]) hB (k_donorOf l K ad C R od sn (nI i) 0 ho hsn) mX4_donorOf dL_areDonors_211 tb_515 pX4_donorOf ⟨Nat.le_of_ble_eq_true rfl, Nat.le_of_ble_eq_true rfl⟩ ⟨rfl, rfl⟩ ⟨Nat.le_of_ble_eq_true rfl, Nat.le_of_ble_eq_true rfl⟩ rfl (Nat.le_of_ble_eq_true rfl) (List.range 23) (List.range' 23 6) rfl rfl (by decide) (by decide) (by decide) rfl rfl (List.range' 6 23 ++ List.range 6) (by decide) rfl ?_
                      have e_1 := (td h0 hi).1
                      refine gx_top (x := bTellD C (nI i) 0) (y := D (7 * i)) e_1 ?_
                      refine gx_aload_n (pc := 214) hB dL_areDonors_214 2 rfl ?_
                      refine gx_bipush (pc := 215) hB dL_areDonors_215 7 (by decide) ?_
                      refine gx_iload (pc := 217) hB dL_areDonors_217 8 rfl ?_
                      refine gx_imul (pc := 219) hB dL_areDonors_219 ?_
                      refine gx_top (show 7 * nI i = nI (7 * i) from pk_mul 7 i) ?_
                      refine gx_iald (pc := 220) hB dL_areDonors_220 24 1 rfl rfl (7 * i) rfl (by omega) (by decide) ?_
                      refine gx_icmp_ne (pc := 221) hB 303 dL_areDonors_221 (by decide) (fun c_8 => ?_) (fun c_8 => ?_)
                      · exact absurd rfl c_8
                      · refine gx_aload_n (pc := 224) hB dL_areDonors_224 0 rfl ?_
                        refine gx_iload (pc := 225) hB dL_areDonors_225 8 rfl ?_
                        refine gx_iconst (pc := 227) hB dL_areDonors_227 1 (by decide) ?_
                        refine gx_dVA (pc := 228) (r := bTellD C (nI i) 1) (W1 := wZ K ad C R od sn) (wr := [(ug, .inl (K.2.1.2.1, 8, .inl G)), (ud, .inl (K.2.1.2.1, 56, .inl D)), (uh, .inl (K.2.1.2.1, 48, .inl H)), (uv, .inl (K.2.1.2.1, 48, .inl V)), (uj, .inl (K.2.1.2.1, 48, .inl J)), (uq, .inl (K.2.1.2.1, 48, .inl Q))]) hB (k_donorOf l K ad C R od sn (nI i) 1 ho hsn) mX4_donorOf dL_areDonors_228 tb_515 pX4_donorOf ⟨Nat.le_of_ble_eq_true rfl, Nat.le_of_ble_eq_true rfl⟩ ⟨rfl, rfl⟩ ⟨Nat.le_of_ble_eq_true rfl, Nat.le_of_ble_eq_true rfl⟩ rfl (Nat.le_of_ble_eq_true rfl) (List.range 23) (List.range' 23 6) rfl rfl (by decide) (by decide) (by decide) rfl rfl (List.range' 6 23 ++ List.range 6) (by decide) rfl ?_
                        have e_1 := (td h0 hi).2.1.trans hg.symm
                        refine gx_top (x := bTellD C (nI i) 1) (y := gv) e_1 ?_
                        refine gx_iload (pc := 231) hB dL_areDonors_231 9 rfl ?_
                        refine gx_icmp_ne (pc := 233) hB 303 dL_areDonors_233 (by decide) (fun c_9 => ?_) (fun c_9 => ?_)
                        · exact absurd rfl c_9
                        · refine gx_aload_n (pc := 236) hB dL_areDonors_236 0 rfl ?_
                          refine gx_iload (pc := 237) hB dL_areDonors_237 8 rfl ?_
                          refine gx_iconst (pc := 239) hB dL_areDonors_239 2 (by decide) ?_
                          refine gx_dVA (pc := 240) (r := bTellD C (nI i) 2) (W1 := wZ K ad C R od sn) (wr := [(ug, .inl (K.2.1.2.1, 8, .inl G)), (ud, .inl (K.2.1.2.1, 56, .inl D)), (uh, .inl (K.2.1.2.1, 48, .inl H)), (uv, .inl (K.2.1.2.1, 48, .inl V)), (uj, .inl (K.2.1.2.1, 48, .inl J)), (uq, .inl (K.2.1.2.1, 48, .inl Q))]) hB (k_donorOf l K ad C R od sn (nI i) 2 ho hsn) mX4_donorOf dL_areDonors_240 tb_515 pX4_donorOf ⟨Nat.le_of_ble_eq_true rfl, Nat.le_of_ble_eq_true rfl⟩ ⟨rfl, rfl⟩ ⟨Nat.le_of_ble_eq_true rfl, Nat.le_of_ble_eq_true rfl⟩ rfl (Nat.le_of_ble_eq_true rfl) (List.range 23) (List.range' 23 6) rfl rfl (by decide) (by decide) (by decide) rfl rfl (List.range' 6 23 ++ List.range 6) (by decide) rfl ?_
                          have e_1 := (td h0 hi).2.2.1.trans hk.symm
                          refine gx_top (x := bTellD C (nI i) 2) (y := bk) e_1 ?_
                          refine gx_iload (pc := 243) hB dL_areDonors_243 10 rfl ?_
                          refine gx_icmp_ne (pc := 245) hB 303 dL_areDonors_245 (by decide) (fun c_10 => ?_) (fun c_10 => ?_)
                          · exact absurd rfl c_10
                          · refine gx_aload_n (pc := 248) hB dL_areDonors_248 0 rfl ?_
                            refine gx_iload (pc := 249) hB dL_areDonors_249 8 rfl ?_
                            refine gx_iconst (pc := 251) hB dL_areDonors_251 3 (by decide) ?_
                            refine gx_dVA (pc := 252) (r := bTellD C (nI i) 3) (W1 := wZ K ad C R od sn) (wr := [(ug, .inl (K.2.1.2.1, 8, .inl G)), (ud, .inl (K.2.1.2.1, 56, .inl D)), (uh, .inl (K.2.1.2.1, 48, .inl H)), (uv, .inl (K.2.1.2.1, 48, .inl V)), (uj, .inl (K.2.1.2.1, 48, .inl J)), (uq, .inl (K.2.1.2.1, 48, .inl Q))]) hB (k_donorOf l K ad C R od sn (nI i) 3 ho hsn) mX4_donorOf dL_areDonors_252 tb_515 pX4_donorOf ⟨Nat.le_of_ble_eq_true rfl, Nat.le_of_ble_eq_true rfl⟩ ⟨rfl, rfl⟩ ⟨Nat.le_of_ble_eq_true rfl, Nat.le_of_ble_eq_true rfl⟩ rfl (Nat.le_of_ble_eq_true rfl) (List.range 23) (List.range' 23 6) rfl rfl (by decide) (by decide) (by decide) rfl rfl (List.range' 6 23 ++ List.range 6) (by decide) rfl ?_
                            have e_1 := (td h0 hi).2.2.2.1.trans hd.symm
                            refine gx_top (x := bTellD C (nI i) 3) (y := cd) e_1 ?_
                            refine gx_iload (pc := 255) hB dL_areDonors_255 11 rfl ?_
                            refine gx_icmp_ne (pc := 257) hB 303 dL_areDonors_257 (by decide) (fun c_11 => ?_) (fun c_11 => ?_)
                            · exact absurd rfl c_11
                            · refine gx_aload_n (pc := 260) hB dL_areDonors_260 0 rfl ?_
                              refine gx_iload (pc := 261) hB dL_areDonors_261 8 rfl ?_
                              refine gx_iconst (pc := 263) hB dL_areDonors_263 4 (by decide) ?_
                              refine gx_dVA (pc := 264) (r := bTellD C (nI i) 4) (W1 := wZ K ad C R od sn) (wr := [(ug, .inl (K.2.1.2.1, 8, .inl G)), (ud, .inl (K.2.1.2.1, 56, .inl D)), (uh, .inl (K.2.1.2.1, 48, .inl H)), (uv, .inl (K.2.1.2.1, 48, .inl V)), (uj, .inl (K.2.1.2.1, 48, .inl J)), (uq, .inl (K.2.1.2.1, 48, .inl Q))]) hB (k_donorOf l K ad C R od sn (nI i) 4 ho hsn) mX4_donorOf dL_areDonors_264 tb_515 pX4_donorOf ⟨Nat.le_of_ble_eq_true rfl, Nat.le_of_ble_eq_true rfl⟩ ⟨rfl, rfl⟩ ⟨Nat.le_of_ble_eq_true rfl, Nat.le_of_ble_eq_true rfl⟩ rfl (Nat.le_of_ble_eq_true rfl) (List.range 23) (List.range' 23 6) rfl rfl (by decide) (by decide) (by decide) rfl rfl (List.range' 6 23 ++ List.range 6) (by decide) rfl ?_
                              have e_1 := (td h0 hi).2.2.2.2.1.trans hm.symm
                              refine gx_top (x := bTellD C (nI i) 4) (y := rn) e_1 ?_
                              refine gx_iload (pc := 267) hB dL_areDonors_267 12 rfl ?_
                              refine gx_icmp_ne (pc := 269) hB 303 dL_areDonors_269 (by decide) (fun c_12 => ?_) (fun c_12 => ?_)
                              · exact absurd rfl c_12
                              · refine gx_aload_n (pc := 272) hB dL_areDonors_272 0 rfl ?_
                                refine gx_iload (pc := 273) hB dL_areDonors_273 8 rfl ?_
                                refine gx_iconst (pc := 275) hB dL_areDonors_275 5 (by decide) ?_
                                refine gx_dVA (pc := 276) (r := bTellD C (nI i) 5) (W1 := wZ K ad C R od sn) (wr := [(ug, .inl (K.2.1.2.1, 8, .inl G)), (ud, .inl (K.2.1.2.1, 56, .inl D)), (uh, .inl (K.2.1.2.1, 48, .inl H)), (uv, .inl (K.2.1.2.1, 48, .inl V)), (uj, .inl (K.2.1.2.1, 48, .inl J)), (uq, .inl (K.2.1.2.1, 48, .inl Q))]) hB (k_donorOf l K ad C R od sn (nI i) 5 ho hsn) mX4_donorOf dL_areDonors_276 tb_515 pX4_donorOf ⟨Nat.le_of_ble_eq_true rfl, Nat.le_of_ble_eq_true rfl⟩ ⟨rfl, rfl⟩ ⟨Nat.le_of_ble_eq_true rfl, Nat.le_of_ble_eq_true rfl⟩ rfl (Nat.le_of_ble_eq_true rfl) (List.range 23) (List.range' 23 6) rfl rfl (by decide) (by decide) (by decide) rfl rfl (List.range' 6 23 ++ List.range 6) (by decide) rfl ?_
                                have e_1 := (td h0 hi).2.2.2.2.2.1
                                refine gx_top (x := bTellD C (nI i) 5) (y := (-1)) e_1 ?_
                                refine gx_iconst (pc := 279) hB dL_areDonors_279 (-1) (by decide) ?_
                                refine gx_icmp_ne (pc := 280) hB 303 dL_areDonors_280 (by decide) (fun c_13 => ?_) (fun c_13 => ?_)
                                · exact absurd c_13 (by decide)
                                · refine gx_aload_n (pc := 283) hB dL_areDonors_283 0 rfl ?_
                                  refine gx_iload (pc := 284) hB dL_areDonors_284 8 rfl ?_
                                  refine gx_bipush (pc := 286) hB dL_areDonors_286 10 (by decide) ?_
                                  refine gx_aload_n (pc := 288) hB dL_areDonors_288 1 rfl ?_
                                  refine gx_iconst (pc := 289) hB dL_areDonors_289 2 (by decide) ?_
                                  refine gx_iald (pc := 290) hB dL_areDonors_290 23 1 rfl rfl 2 rfl (by decide) (by decide) ?_
                                  refine gx_top (show G 2 = nI a from h0.2.1.1.2.2.1) ?_
                                  refine gx_iadd (pc := 291) hB dL_areDonors_291 ?_
                                  refine gx_top (show 10 + nI a = nI (10 + a) from nI_add 10 a) ?_
                                  refine gx_dVA (pc := 292) (r := bTellD C (nI i) (nI (10 + a))) (W1 := wZ K ad C R od sn) (wr := [(ug, .inl (K.2.1.2.1, 8, .inl G)), (ud, .inl (K.2.1.2.1, 56, .inl D)), (uh, .inl (K.2.1.2.1, 48, .inl H)), (uv, .inl (K.2.1.2.1, 48, .inl V)), (uj, .inl (K.2.1.2.1, 48, .inl J)), (uq, .inl (K.2.1.2.1, 48, .inl Q))]) hB (k_donorOf l K ad C R od sn (nI i) (nI (10 + a)) ho hsn) mX4_donorOf dL_areDonors_292 tb_515 pX4_donorOf ⟨Nat.le_of_ble_eq_true rfl, Nat.le_of_ble_eq_true rfl⟩ ⟨rfl, rfl⟩ ⟨Nat.le_of_ble_eq_true rfl, Nat.le_of_ble_eq_true rfl⟩ rfl (Nat.le_of_ble_eq_true rfl) (List.range 23) (List.range' 23 6) rfl rfl (by decide) (by decide) (by decide) rfl rfl (List.range' 6 23 ++ List.range 6) (by decide) rfl ?_
                                  have e_1 := (td h0 hi).2.2.2.2.2.2
                                  refine gx_top (x := bTellD C (nI i) (nI (10 + a))) (y := (-1)) e_1 ?_
                                  refine gx_iconst (pc := 295) hB dL_areDonors_295 (-1) (by decide) ?_
                                  refine gx_icmp_ne (pc := 296) hB 303 dL_areDonors_296 (by decide) (fun c_14 => ?_) (fun c_14 => ?_)
                                  · exact absurd c_14 (by decide)
                                  · refine gx_iconst (pc := 299) hB dL_areDonors_299 1 (by decide) ?_
                                    refine gx_goto (pc := 300) hB 304 dL_areDonors_300 (by decide) ?_
                                    refine gx_istore (pc := 304) hB dL_areDonors_304 (by decide) [(7, .int 1), (0, .ref (ad 0)), (1, .ref ug), (2, .ref ud), (3, .ref uh), (4, .ref uv), (5, .ref uj), (6, .ref uq), (8, .int (nI i)), (9, .int gv), (10, .int bk), (11, .int cd), (12, .int rn), (13, .int (nI r))] rfl ?_
                                    refine gx_iconst (pc := 306) hB dL_areDonors_306 0 (by decide) ?_
                                    refine gx_istore (pc := 307) hB dL_areDonors_307 (by decide) [(13, .int 0), (7, .int 1), (0, .ref (ad 0)), (1, .ref ug), (2, .ref ud), (3, .ref uh), (4, .ref uv), (5, .ref uj), (6, .ref uq), (8, .int (nI i)), (9, .int gv), (10, .int bk), (11, .int cd), (12, .int rn)] rfl ?_
                                    have loop_309 : ∀ (dq r : Nat) , r + dq = a → GG 0 0 ((wZ K ad C R od sn ++ [(ug, .inl (K.2.1.2.1, 8, .inl G)), (ud, .inl (K.2.1.2.1, 56, .inl D)), (uh, .inl (K.2.1.2.1, 48, .inl H)), (uv, .inl (K.2.1.2.1, 48, .inl V)), (uj, .inl (K.2.1.2.1, 48, .inl J)), (uq, .inl (K.2.1.2.1, 48, .inl Q))])) [(0, .ref (ad 0)), (1, .ref ug), (2, .ref ud), (3, .ref uh), (4, .ref uv), (5, .ref uj), (6, .ref uq), (7, .int 1), (8, .int (nI i)), (13, .int (nI r))] 309 [] := by
                                      intro dq
                                      induction dq with
                                      | zero =>
                                        intro r hi309
                                        have hz309 : r = a := by omega
                                        refine gx_iload (pc := 309) hB dL_areDonors_309 9 rfl ?_
                                        refine gx_aload_n (pc := 311) hB dL_areDonors_311 1 rfl ?_
                                        refine gx_iconst (pc := 312) hB dL_areDonors_312 2 (by decide) ?_
                                        refine gx_iald (pc := 313) hB dL_areDonors_313 23 1 rfl rfl 2 rfl (by decide) (by decide) ?_
                                        refine gx_top (show G 2 = nI a from h0.2.1.1.2.2.1) ?_
                                        refine gx_icmp_ge (pc := 314) hB 361 dL_areDonors_314 (by decide) (fun c_15 => ?_) (fun c_15 => ?_)
                                        · refine gx_iinc (pc := 361) hB dL_areDonors_361 8 (by decide) rfl (nI (i + 1)) (nI_1 _) [(8, .int (nI (i + 1))), (0, .ref (ad 0)), (1, .ref ug), (2, .ref ud), (3, .ref uh), (4, .ref uv), (5, .ref uj), (6, .ref uq), (7, .int 1), (13, .int (nI r))] rfl ?_
                                          refine gx_goto (pc := 364) hB 6 dL_areDonors_364 (by decide) ?_
                                          refine gx_sub hB (lv' := [(0, .ref (ad 0)), (1, .ref ug), (2, .ref ud), (3, .ref uh), (4, .ref uv), (5, .ref uj), (6, .ref uq), (7, .int 1), (8, .int (nI (i + 1)))]) [1, 2, 3, 4, 5, 6, 7, 8, 0] rfl ?_
                                          exact ih6 (i + 1)  (by omega) 
                                        · exact absurd (lpTn (c := a) (by omega) hi309) c_15
                                      | succ dq ih309 =>
                                        intro r hi309
                                        have hr : r < a := by omega
                                        refine gx_iload (pc := 309) hB dL_areDonors_309 9 rfl ?_
                                        refine gx_aload_n (pc := 311) hB dL_areDonors_311 1 rfl ?_
                                        refine gx_iconst (pc := 312) hB dL_areDonors_312 2 (by decide) ?_
                                        refine gx_iald (pc := 313) hB dL_areDonors_313 23 1 rfl rfl 2 rfl (by decide) (by decide) ?_
                                        refine gx_top (show G 2 = nI a from h0.2.1.1.2.2.1) ?_
                                        refine gx_icmp_ge (pc := 314) hB 361 dL_areDonors_314 (by decide) (fun c_16 => ?_) (fun c_16 => ?_)
                                        · exact absurd c_16 (lpFn (c := a) (by omega) hi309)
                                        · refine gx_iload (pc := 317) hB dL_areDonors_317 7 rfl ?_
                                          refine gx_if_eq (pc := 319) hB 361 dL_areDonors_319 (by decide) (fun c_17 => ?_) (fun c_17 => ?_)
                                          · exact absurd c_17 (by decide)
                                          · refine gx_aload_n (pc := 322) hB dL_areDonors_322 0 rfl ?_
                                            refine gx_iload (pc := 323) hB dL_areDonors_323 8 rfl ?_
                                            refine gx_bipush (pc := 325) hB dL_areDonors_325 10 (by decide) ?_
                                            refine gx_iload (pc := 327) hB dL_areDonors_327 9 rfl ?_
                                            refine gx_iadd (pc := 329) hB dL_areDonors_329 ?_
                                            refine gx_top (show 10 + nI r = nI (10 + r) from nI_add 10 r) ?_
                                            refine gx_dVA (pc := 330) (r := bTellD C (nI i) (nI (10 + r))) (W1 := wZ K ad C R od sn) (wr := [(ug, .inl (K.2.1.2.1, 8, .inl G)), (ud, .inl (K.2.1.2.1, 56, .inl D)), (uh, .inl (K.2.1.2.1, 48, .inl H)), (uv, .inl (K.2.1.2.1, 48, .inl V)), (uj, .inl (K.2.1.2.1, 48, .inl J)), (uq, .inl (K.2.1.2.1, 48, .inl Q))]) hB (k_donorOf l K ad C R od sn (nI i) (nI (10 + r)) ho hsn) mX4_donorOf dL_areDonors_330 tb_515 pX4_donorOf ⟨Nat.le_of_ble_eq_true rfl, Nat.le_of_ble_eq_true rfl⟩ ⟨rfl, rfl⟩ ⟨Nat.le_of_ble_eq_true rfl, Nat.le_of_ble_eq_true rfl⟩ rfl (Nat.le_of_ble_eq_true rfl) (List.range 23) (List.range' 23 6) rfl rfl (by decide) (by decide) (by decide) rfl rfl (List.range' 6 23 ++ List.range 6) (by decide) rfl ?_
                                            have e_1 := td_c h0 hi hr
                                            refine gx_top (x := bTellD C (nI i) (nI (10 + r))) (y := D (7 * i + 1 + r)) e_1 ?_
                                            refine gx_aload_n (pc := 333) hB dL_areDonors_333 2 rfl ?_
                                            refine gx_bipush (pc := 334) hB dL_areDonors_334 7 (by decide) ?_
                                            refine gx_iload (pc := 336) hB dL_areDonors_336 8 rfl ?_
                                            refine gx_imul (pc := 338) hB dL_areDonors_338 ?_
                                            refine gx_top (show 7 * nI i = nI (7 * i) from pk_mul 7 i) ?_
                                            refine gx_iconst (pc := 339) hB dL_areDonors_339 1 (by decide) ?_
                                            refine gx_iadd (pc := 340) hB dL_areDonors_340 ?_
                                            refine gx_top (show (nI (7 * i)) + 1 = nI (7 * i + 1) from nI_add (7 * i) 1) ?_
                                            refine gx_iload (pc := 341) hB dL_areDonors_341 9 rfl ?_
                                            refine gx_iadd (pc := 343) hB dL_areDonors_343 ?_
                                            refine gx_top (show (nI (7 * i + 1)) + nI r = nI (7 * i + 1 + r) from nI_add (7 * i + 1) r) ?_
                                            refine gx_iald (pc := 344) hB dL_areDonors_344 24 1 rfl rfl (7 * i + 1 + r) rfl (by omega) (by decide) ?_
                                            refine gx_icmp_ne (pc := 345) hB 352 dL_areDonors_345 (by decide) (fun c_18 => ?_) (fun c_18 => ?_)
                                            · exact absurd rfl c_18
                                            · refine gx_iconst (pc := 348) hB dL_areDonors_348 1 (by decide) ?_
                                              refine gx_goto (pc := 349) hB 353 dL_areDonors_349 (by decide) ?_
                                              refine gx_istore (pc := 353) hB dL_areDonors_353 (by decide) [(7, .int 1), (0, .ref (ad 0)), (1, .ref ug), (2, .ref ud), (3, .ref uh), (4, .ref uv), (5, .ref uj), (6, .ref uq), (8, .int (nI i)), (13, .int (nI r))] rfl ?_
                                              refine gx_iinc (pc := 355) hB dL_areDonors_355 9 (by decide) rfl (nI (r + 1)) (nI_1 _) [(13, .int (nI (r + 1))), (7, .int 1), (0, .ref (ad 0)), (1, .ref ug), (2, .ref ud), (3, .ref uh), (4, .ref uv), (5, .ref uj), (6, .ref uq), (8, .int (nI i))] rfl ?_
                                              refine gx_goto (pc := 358) hB 309 dL_areDonors_358 (by decide) ?_
                                              refine gx_sub hB (lv' := [(0, .ref (ad 0)), (1, .ref ug), (2, .ref ud), (3, .ref uh), (4, .ref uv), (5, .ref uj), (6, .ref uq), (7, .int 1), (8, .int (nI i)), (13, .int (nI (r + 1)))]) [2, 3, 4, 5, 6, 7, 8, 1, 9, 0] rfl ?_
                                              exact ih309 (r + 1)  (by omega) 
                                    refine gx_sub hB (lv' := [(0, .ref (ad 0)), (1, .ref ug), (2, .ref ud), (3, .ref uh), (4, .ref uv), (5, .ref uj), (6, .ref uq), (7, .int 1), (8, .int (nI i)), (13, .int 0)]) [2, 3, 4, 5, 6, 7, 8, 1, 9, 0] rfl ?_
                                    exact loop_309 (a) 0  (by omega) 
                    · exact absurd (lpTn (c := e) (by omega) hi154) c_7
                  | succ dq ih154 =>
                    intro r rn hi154 hm
                    have hr : r < e := by omega
                    refine gx_iload (pc := 154) hB dL_areDonors_154 13 rfl ?_
                    refine gx_aload_n (pc := 156) hB dL_areDonors_156 1 rfl ?_
                    refine gx_iconst (pc := 157) hB dL_areDonors_157 5 (by decide) ?_
                    refine gx_iald (pc := 158) hB dL_areDonors_158 23 1 rfl rfl 5 rfl (by decide) (by decide) ?_
                    refine gx_top (show G 5 = nI e from h0.2.1.1.2.2.2.2.2.1) ?_
                    refine gx_icmp_ge (pc := 159) hB 207 dL_areDonors_159 (by decide) (fun c_19 => ?_) (fun c_19 => ?_)
                    · exact absurd c_19 (lpFn (c := e) (by omega) hi154)
                    · refine gx_iload (pc := 162) hB dL_areDonors_162 12 rfl ?_
                      refine gx_aload (pc := 164) hB dL_areDonors_164 6 rfl ?_
                      refine gx_bipush (pc := 166) hB dL_areDonors_166 8 (by decide) ?_
                      refine gx_iload (pc := 168) hB dL_areDonors_168 13 rfl ?_
                      refine gx_imul (pc := 170) hB dL_areDonors_170 ?_
                      refine gx_top (show 8 * nI r = nI (8 * r) from pk_mul 8 r) ?_
                      refine gx_iald (pc := 171) hB dL_areDonors_171 28 1 rfl rfl (8 * r) rfl (by omega) (by decide) ?_
                      refine gx_top (show Q (8 * r) = sK S r 0 from h0.2.1.2.2.2.2 r hr 0 (by omega)) ?_
                      refine gx_iload (pc := 172) hB dL_areDonors_172 8 rfl ?_
                      refine gx_icmp_ne (pc := 174) hB 197 dL_areDonors_174 (by decide) (fun c_20 => ?_) (fun c_20 => ?_)
                      · refine gx_iconst (pc := 197) hB dL_areDonors_197 0 (by decide) ?_
                        refine gx_iadd (pc := 198) hB dL_areDonors_198 ?_
                        refine gx_top (show rn + 0 = rn from Int32.add_zero _) ?_
                        refine gx_istore (pc := 199) hB dL_areDonors_199 (by decide) [(12, .int rn), (0, .ref (ad 0)), (1, .ref ug), (2, .ref ud), (3, .ref uh), (4, .ref uv), (5, .ref uj), (6, .ref uq), (7, .int 1), (8, .int (nI i)), (9, .int gv), (10, .int bk), (11, .int cd), (13, .int (nI r))] rfl ?_
                        refine gx_iinc (pc := 201) hB dL_areDonors_201 13 (by decide) rfl (nI (r + 1)) (nI_1 _) [(13, .int (nI (r + 1))), (12, .int rn), (0, .ref (ad 0)), (1, .ref ug), (2, .ref ud), (3, .ref uh), (4, .ref uv), (5, .ref uj), (6, .ref uq), (7, .int 1), (8, .int (nI i)), (9, .int gv), (10, .int bk), (11, .int cd)] rfl ?_
                        refine gx_goto (pc := 204) hB 154 dL_areDonors_204 (by decide) ?_
                        refine gx_sub hB (lv' := [(0, .ref (ad 0)), (1, .ref ug), (2, .ref ud), (3, .ref uh), (4, .ref uv), (5, .ref uj), (6, .ref uq), (7, .int 1), (8, .int (nI i)), (9, .int gv), (10, .int bk), (11, .int cd), (12, .int rn), (13, .int (nI (r + 1)))]) [2, 3, 4, 5, 6, 7, 8, 9, 10, 11, 12, 13, 1, 0] rfl ?_
                        exact ih154 (r + 1) rn (by omega) (by rw [hm]; simp [rnN, Int32.not_le.mp c_4, eq_false c_4, c_6, eq_false (Int32.not_lt.mpr c_6), Int32.not_le.mp c_19, eq_false c_19, eq_false c_20])
                      · refine gx_aload (pc := 177) hB dL_areDonors_177 6 rfl ?_
                        refine gx_bipush (pc := 179) hB dL_areDonors_179 8 (by decide) ?_
                        refine gx_iload (pc := 181) hB dL_areDonors_181 13 rfl ?_
                        refine gx_imul (pc := 183) hB dL_areDonors_183 ?_
                        refine gx_top (show 8 * nI r = nI (8 * r) from pk_mul 8 r) ?_
                        refine gx_iconst (pc := 184) hB dL_areDonors_184 5 (by decide) ?_
                        refine gx_iadd (pc := 185) hB dL_areDonors_185 ?_
                        refine gx_top (show (nI (8 * r)) + 5 = nI (8 * r + 5) from nI_add (8 * r) 5) ?_
                        refine gx_iald (pc := 186) hB dL_areDonors_186 28 1 rfl rfl (8 * r + 5) rfl (by omega) (by decide) ?_
                        refine gx_top (show Q (8 * r + 5) = sK S r 5 from h0.2.1.2.2.2.2 r hr 5 (by omega)) ?_
                        refine gx_if_ne (pc := 187) hB 197 dL_areDonors_187 (by decide) (fun c_21 => ?_) (fun c_21 => ?_)
                        · refine gx_iconst (pc := 197) hB dL_areDonors_197 0 (by decide) ?_
                          refine gx_iadd (pc := 198) hB dL_areDonors_198 ?_
                          refine gx_top (show rn + 0 = rn from Int32.add_zero _) ?_
                          refine gx_istore (pc := 199) hB dL_areDonors_199 (by decide) [(12, .int rn), (0, .ref (ad 0)), (1, .ref ug), (2, .ref ud), (3, .ref uh), (4, .ref uv), (5, .ref uj), (6, .ref uq), (7, .int 1), (8, .int (nI i)), (9, .int gv), (10, .int bk), (11, .int cd), (13, .int (nI r))] rfl ?_
                          refine gx_iinc (pc := 201) hB dL_areDonors_201 13 (by decide) rfl (nI (r + 1)) (nI_1 _) [(13, .int (nI (r + 1))), (12, .int rn), (0, .ref (ad 0)), (1, .ref ug), (2, .ref ud), (3, .ref uh), (4, .ref uv), (5, .ref uj), (6, .ref uq), (7, .int 1), (8, .int (nI i)), (9, .int gv), (10, .int bk), (11, .int cd)] rfl ?_
                          refine gx_goto (pc := 204) hB 154 dL_areDonors_204 (by decide) ?_
                          refine gx_sub hB (lv' := [(0, .ref (ad 0)), (1, .ref ug), (2, .ref ud), (3, .ref uh), (4, .ref uv), (5, .ref uj), (6, .ref uq), (7, .int 1), (8, .int (nI i)), (9, .int gv), (10, .int bk), (11, .int cd), (12, .int rn), (13, .int (nI (r + 1)))]) [2, 3, 4, 5, 6, 7, 8, 9, 10, 11, 12, 13, 1, 0] rfl ?_
                          exact ih154 (r + 1) rn (by omega) (by rw [hm]; simp [rnN, Int32.not_le.mp c_4, eq_false c_4, c_6, eq_false (Int32.not_lt.mpr c_6), Int32.not_le.mp c_19, eq_false c_19, eq_true c_20, eq_false c_21])
                        · refine gx_iconst (pc := 190) hB dL_areDonors_190 1 (by decide) ?_
                          refine gx_iload (pc := 191) hB dL_areDonors_191 13 rfl ?_
                          refine gx_ishl (pc := 193) hB dL_areDonors_193 ?_
                          refine gx_goto (pc := 194) hB 198 dL_areDonors_194 (by decide) ?_
                          refine gx_iadd (pc := 198) hB dL_areDonors_198 ?_
                          refine gx_istore (pc := 199) hB dL_areDonors_199 (by decide) [(12, .int (rn + (1 <<< (nI r &&& 31)))), (0, .ref (ad 0)), (1, .ref ug), (2, .ref ud), (3, .ref uh), (4, .ref uv), (5, .ref uj), (6, .ref uq), (7, .int 1), (8, .int (nI i)), (9, .int gv), (10, .int bk), (11, .int cd), (13, .int (nI r))] rfl ?_
                          refine gx_iinc (pc := 201) hB dL_areDonors_201 13 (by decide) rfl (nI (r + 1)) (nI_1 _) [(13, .int (nI (r + 1))), (12, .int (rn + (1 <<< (nI r &&& 31)))), (0, .ref (ad 0)), (1, .ref ug), (2, .ref ud), (3, .ref uh), (4, .ref uv), (5, .ref uj), (6, .ref uq), (7, .int 1), (8, .int (nI i)), (9, .int gv), (10, .int bk), (11, .int cd)] rfl ?_
                          refine gx_goto (pc := 204) hB 154 dL_areDonors_204 (by decide) ?_
                          refine gx_sub hB (lv' := [(0, .ref (ad 0)), (1, .ref ug), (2, .ref ud), (3, .ref uh), (4, .ref uv), (5, .ref uj), (6, .ref uq), (7, .int 1), (8, .int (nI i)), (9, .int gv), (10, .int bk), (11, .int cd), (12, .int (rn + (1 <<< (nI r &&& 31)))), (13, .int (nI (r + 1)))]) [2, 3, 4, 5, 6, 7, 8, 9, 10, 11, 12, 13, 1, 0] rfl ?_
                          exact ih154 (r + 1) (rn + (1 <<< (nI r &&& 31))) (by omega) (by rw [hm]; simp [rnN, Int32.not_le.mp c_4, eq_false c_4, c_6, eq_false (Int32.not_lt.mpr c_6), Int32.not_le.mp c_19, eq_false c_19, eq_true c_20, eq_true c_21])
                refine gx_sub hB (lv' := [(0, .ref (ad 0)), (1, .ref ug), (2, .ref ud), (3, .ref uh), (4, .ref uv), (5, .ref uj), (6, .ref uq), (7, .int 1), (8, .int (nI i)), (9, .int gv), (10, .int bk), (11, .int cd), (12, .int 0), (13, .int 0)]) [1, 2, 3, 4, 5, 6, 7, 8, 9, 10, 11, 12, 13, 0] rfl ?_
                exact loop_154 (e) 0 0 (by omega) rfl
              · exact absurd (lpTn (c := c) (by omega) hi34) c_6
            | succ dq ih34 =>
              intro r gv bk cd hi34 hg hk hd
              have hr : r < c := by omega
              refine gx_iload (pc := 34) hB dL_areDonors_34 13 rfl ?_
              refine gx_aload_n (pc := 36) hB dL_areDonors_36 1 rfl ?_
              refine gx_iconst (pc := 37) hB dL_areDonors_37 4 (by decide) ?_
              refine gx_iald (pc := 38) hB dL_areDonors_38 23 1 rfl rfl 4 rfl (by decide) (by decide) ?_
              refine gx_top (show G 4 = nI c from h0.2.1.1.2.2.2.2.1) ?_
              refine gx_icmp_ge (pc := 39) hB 151 dL_areDonors_39 (by decide) (fun c_22 => ?_) (fun c_22 => ?_)
              · exact absurd c_22 (lpFn (c := c) (by omega) hi34)
              · refine gx_iload (pc := 42) hB dL_areDonors_42 9 rfl ?_
                refine gx_aload_n (pc := 44) hB dL_areDonors_44 3 rfl ?_
                refine gx_iconst (pc := 45) hB dL_areDonors_45 2 (by decide) ?_
                refine gx_iload (pc := 46) hB dL_areDonors_46 13 rfl ?_
                refine gx_imul (pc := 48) hB dL_areDonors_48 ?_
                refine gx_top (show 2 * nI r = nI (2 * r) from pk_mul 2 r) ?_
                refine gx_iald (pc := 49) hB dL_areDonors_49 25 1 rfl rfl (2 * r) rfl (by omega) (by decide) ?_
                refine gx_top (show H (2 * r) = sG S r 0 from (h0.2.1.2.2.2.1 r (by omega)).1.1) ?_
                refine gx_iload (pc := 50) hB dL_areDonors_50 8 rfl ?_
                refine gx_icmp_ne (pc := 52) hB 65 dL_areDonors_52 (by decide) (fun c_23 => ?_) (fun c_23 => ?_)
                · refine gx_iconst (pc := 65) hB dL_areDonors_65 0 (by decide) ?_
                  refine gx_iadd (pc := 66) hB dL_areDonors_66 ?_
                  refine gx_top (show gv + 0 = gv from Int32.add_zero _) ?_
                  refine gx_istore (pc := 67) hB dL_areDonors_67 (by decide) [(9, .int gv), (0, .ref (ad 0)), (1, .ref ug), (2, .ref ud), (3, .ref uh), (4, .ref uv), (5, .ref uj), (6, .ref uq), (7, .int 1), (8, .int (nI i)), (10, .int bk), (11, .int cd), (12, .int 0), (13, .int (nI r))] rfl ?_
                  refine gx_iload (pc := 69) hB dL_areDonors_69 10 rfl ?_
                  refine gx_aload_n (pc := 71) hB dL_areDonors_71 4 rfl ?_
                  refine gx_iconst (pc := 72) hB dL_areDonors_72 2 (by decide) ?_
                  refine gx_iload (pc := 73) hB dL_areDonors_73 13 rfl ?_
                  refine gx_imul (pc := 75) hB dL_areDonors_75 ?_
                  refine gx_top (show 2 * nI r = nI (2 * r) from pk_mul 2 r) ?_
                  refine gx_iald (pc := 76) hB dL_areDonors_76 25 1 rfl rfl (2 * r) rfl (by omega) (by decide) ?_
                  refine gx_top (show H (2 * r) = sG S r 0 from (h0.2.1.2.2.2.1 r (by omega)).1.1) ?_
                  refine gx_iload (pc := 77) hB dL_areDonors_77 9 rfl ?_
                  refine gx_icmp_ne (pc := 79) hB 103 dL_areDonors_79 (by decide) (fun c_24 => ?_) (fun c_24 => ?_)
                  · refine gx_iconst (pc := 103) hB dL_areDonors_103 0 (by decide) ?_
                    refine gx_iadd (pc := 104) hB dL_areDonors_104 ?_
                    refine gx_top (show bk + 0 = bk from Int32.add_zero _) ?_
                    refine gx_istore (pc := 105) hB dL_areDonors_105 (by decide) [(10, .int bk), (9, .int gv), (0, .ref (ad 0)), (1, .ref ug), (2, .ref ud), (3, .ref uh), (4, .ref uv), (5, .ref uj), (6, .ref uq), (7, .int 1), (8, .int (nI i)), (11, .int cd), (12, .int 0), (13, .int (nI r))] rfl ?_
                    refine gx_iload (pc := 107) hB dL_areDonors_107 11 rfl ?_
                    refine gx_aload_n (pc := 109) hB dL_areDonors_109 5 rfl ?_
                    refine gx_iconst (pc := 110) hB dL_areDonors_110 2 (by decide) ?_
                    refine gx_iload (pc := 111) hB dL_areDonors_111 13 rfl ?_
                    refine gx_imul (pc := 113) hB dL_areDonors_113 ?_
                    refine gx_top (show 2 * nI r = nI (2 * r) from pk_mul 2 r) ?_
                    refine gx_iald (pc := 114) hB dL_areDonors_114 25 1 rfl rfl (2 * r) rfl (by omega) (by decide) ?_
                    refine gx_top (show H (2 * r) = sG S r 0 from (h0.2.1.2.2.2.1 r (by omega)).1.1) ?_
                    refine gx_iload (pc := 115) hB dL_areDonors_115 10 rfl ?_
                    refine gx_icmp_ne (pc := 117) hB 141 dL_areDonors_117 (by decide) (fun c_25 => ?_) (fun c_25 => ?_)
                    · refine gx_iconst (pc := 141) hB dL_areDonors_141 0 (by decide) ?_
                      refine gx_iadd (pc := 142) hB dL_areDonors_142 ?_
                      refine gx_top (show cd + 0 = cd from Int32.add_zero _) ?_
                      refine gx_istore (pc := 143) hB dL_areDonors_143 (by decide) [(11, .int cd), (10, .int bk), (9, .int gv), (0, .ref (ad 0)), (1, .ref ug), (2, .ref ud), (3, .ref uh), (4, .ref uv), (5, .ref uj), (6, .ref uq), (7, .int 1), (8, .int (nI i)), (12, .int 0), (13, .int (nI r))] rfl ?_
                      refine gx_iinc (pc := 145) hB dL_areDonors_145 13 (by decide) rfl (nI (r + 1)) (nI_1 _) [(13, .int (nI (r + 1))), (11, .int cd), (10, .int bk), (9, .int gv), (0, .ref (ad 0)), (1, .ref ug), (2, .ref ud), (3, .ref uh), (4, .ref uv), (5, .ref uj), (6, .ref uq), (7, .int 1), (8, .int (nI i)), (12, .int 0)] rfl ?_
                      refine gx_goto (pc := 148) hB 34 dL_areDonors_148 (by decide) ?_
                      refine gx_sub hB (lv' := [(0, .ref (ad 0)), (1, .ref ug), (2, .ref ud), (3, .ref uh), (4, .ref uv), (5, .ref uj), (6, .ref uq), (7, .int 1), (8, .int (nI i)), (9, .int gv), (10, .int bk), (11, .int cd), (12, .int 0), (13, .int (nI (r + 1)))]) [4, 5, 6, 7, 8, 9, 10, 11, 12, 3, 2, 1, 13, 0] rfl ?_
                      exact ih34 (r + 1) gv bk cd (by omega) (by rw [hg]; simp [gvN, Int32.not_le.mp c_4, eq_false c_4, Int32.not_le.mp c_22, eq_false c_22, eq_false c_23, eq_false c_24, eq_false c_25]) (by rw [hk]; simp [bkN, Int32.not_le.mp c_4, eq_false c_4, Int32.not_le.mp c_22, eq_false c_22, eq_false c_23, eq_false c_24, eq_false c_25]) (by rw [hd]; simp [cdN, Int32.not_le.mp c_4, eq_false c_4, Int32.not_le.mp c_22, eq_false c_22, eq_false c_23, eq_false c_24, eq_false c_25])
                    · exact (by first | exact absurd c_24 c_25 | exact absurd c_25 c_24 | exact absurd c_24 (Int32.not_le.mpr c_25) | exact absurd c_24 (Int32.not_lt.mpr c_25) | exact absurd (Int32.not_le.mp c_24) c_25 | exact absurd (Int32.not_lt.mp c_24) c_25)
                  · exact (by first | exact absurd c_23 c_24 | exact absurd c_24 c_23 | exact absurd c_23 (Int32.not_le.mpr c_24) | exact absurd c_23 (Int32.not_lt.mpr c_24) | exact absurd (Int32.not_le.mp c_23) c_24 | exact absurd (Int32.not_lt.mp c_23) c_24)
                · refine gx_aload (pc := 55) hB dL_areDonors_55 4 rfl ?_
                  refine gx_iconst (pc := 57) hB dL_areDonors_57 2 (by decide) ?_
                  refine gx_iload (pc := 58) hB dL_areDonors_58 13 rfl ?_
                  refine gx_imul (pc := 60) hB dL_areDonors_60 ?_
                  refine gx_top (show 2 * nI r = nI (2 * r) from pk_mul 2 r) ?_
                  refine gx_iald (pc := 61) hB dL_areDonors_61 26 1 rfl rfl (2 * r) rfl (by omega) (by decide) ?_
                  refine gx_top (show V (2 * r) = sG S r 2 from (h0.2.1.2.2.2.1 r (by omega)).1.2.2.1) ?_
                  refine gx_goto (pc := 62) hB 66 dL_areDonors_62 (by decide) ?_
                  refine gx_iadd (pc := 66) hB dL_areDonors_66 ?_
                  refine gx_istore (pc := 67) hB dL_areDonors_67 (by decide) [(9, .int (gv + sG S r 2)), (0, .ref (ad 0)), (1, .ref ug), (2, .ref ud), (3, .ref uh), (4, .ref uv), (5, .ref uj), (6, .ref uq), (7, .int 1), (8, .int (nI i)), (10, .int bk), (11, .int cd), (12, .int 0), (13, .int (nI r))] rfl ?_
                  refine gx_iload (pc := 69) hB dL_areDonors_69 10 rfl ?_
                  refine gx_aload_n (pc := 71) hB dL_areDonors_71 4 rfl ?_
                  refine gx_iconst (pc := 72) hB dL_areDonors_72 2 (by decide) ?_
                  refine gx_iload (pc := 73) hB dL_areDonors_73 13 rfl ?_
                  refine gx_imul (pc := 75) hB dL_areDonors_75 ?_
                  refine gx_top (show 2 * nI r = nI (2 * r) from pk_mul 2 r) ?_
                  refine gx_iald (pc := 76) hB dL_areDonors_76 25 1 rfl rfl (2 * r) rfl (by omega) (by decide) ?_
                  refine gx_top (show H (2 * r) = sG S r 0 from (h0.2.1.2.2.2.1 r (by omega)).1.1) ?_
                  refine gx_iload (pc := 77) hB dL_areDonors_77 9 rfl ?_
                  refine gx_icmp_ne (pc := 79) hB 103 dL_areDonors_79 (by decide) (fun c_26 => ?_) (fun c_26 => ?_)
                  · exact (by first | exact absurd c_23 c_26 | exact absurd c_26 c_23 | exact absurd c_23 (Int32.not_le.mpr c_26) | exact absurd c_23 (Int32.not_lt.mpr c_26) | exact absurd (Int32.not_le.mp c_23) c_26 | exact absurd (Int32.not_lt.mp c_23) c_26)
                  · refine gx_aload (pc := 82) hB dL_areDonors_82 6 rfl ?_
                    refine gx_iconst (pc := 84) hB dL_areDonors_84 2 (by decide) ?_
                    refine gx_iload (pc := 85) hB dL_areDonors_85 13 rfl ?_
                    refine gx_imul (pc := 87) hB dL_areDonors_87 ?_
                    refine gx_top (show 2 * nI r = nI (2 * r) from pk_mul 2 r) ?_
                    refine gx_iald (pc := 88) hB dL_areDonors_88 27 1 rfl rfl (2 * r) rfl (by omega) (by decide) ?_
                    refine gx_top (show J (2 * r) = hJ (sG S r 4) (sG S r 5) from (h0.2.1.2.2.2.1 r (by omega)).2.1) ?_
                    refine gx_iconst (pc := 89) hB dL_areDonors_89 1 (by decide) ?_
                    refine gx_icmp_le (pc := 90) hB 103 dL_areDonors_90 (by decide) (fun c_27 => ?_) (fun c_27 => ?_)
                    · refine gx_iconst (pc := 103) hB dL_areDonors_103 0 (by decide) ?_
                      refine gx_iadd (pc := 104) hB dL_areDonors_104 ?_
                      refine gx_top (show bk + 0 = bk from Int32.add_zero _) ?_
                      refine gx_istore (pc := 105) hB dL_areDonors_105 (by decide) [(10, .int bk), (9, .int (gv + sG S r 2)), (0, .ref (ad 0)), (1, .ref ug), (2, .ref ud), (3, .ref uh), (4, .ref uv), (5, .ref uj), (6, .ref uq), (7, .int 1), (8, .int (nI i)), (11, .int cd), (12, .int 0), (13, .int (nI r))] rfl ?_
                      refine gx_iload (pc := 107) hB dL_areDonors_107 11 rfl ?_
                      refine gx_aload_n (pc := 109) hB dL_areDonors_109 5 rfl ?_
                      refine gx_iconst (pc := 110) hB dL_areDonors_110 2 (by decide) ?_
                      refine gx_iload (pc := 111) hB dL_areDonors_111 13 rfl ?_
                      refine gx_imul (pc := 113) hB dL_areDonors_113 ?_
                      refine gx_top (show 2 * nI r = nI (2 * r) from pk_mul 2 r) ?_
                      refine gx_iald (pc := 114) hB dL_areDonors_114 25 1 rfl rfl (2 * r) rfl (by omega) (by decide) ?_
                      refine gx_top (show H (2 * r) = sG S r 0 from (h0.2.1.2.2.2.1 r (by omega)).1.1) ?_
                      refine gx_iload (pc := 115) hB dL_areDonors_115 10 rfl ?_
                      refine gx_icmp_ne (pc := 117) hB 141 dL_areDonors_117 (by decide) (fun c_28 => ?_) (fun c_28 => ?_)
                      · exact (by first | exact absurd c_26 c_28 | exact absurd c_28 c_26 | exact absurd c_26 (Int32.not_le.mpr c_28) | exact absurd c_26 (Int32.not_lt.mpr c_28) | exact absurd (Int32.not_le.mp c_26) c_28 | exact absurd (Int32.not_lt.mp c_26) c_28)
                      · refine gx_aload (pc := 120) hB dL_areDonors_120 7 rfl ?_
                        refine gx_iconst (pc := 122) hB dL_areDonors_122 2 (by decide) ?_
                        refine gx_iload (pc := 123) hB dL_areDonors_123 13 rfl ?_
                        refine gx_imul (pc := 125) hB dL_areDonors_125 ?_
                        refine gx_top (show 2 * nI r = nI (2 * r) from pk_mul 2 r) ?_
                        refine gx_iald (pc := 126) hB dL_areDonors_126 27 1 rfl rfl (2 * r) rfl (by omega) (by decide) ?_
                        refine gx_top (show J (2 * r) = hJ (sG S r 4) (sG S r 5) from (h0.2.1.2.2.2.1 r (by omega)).2.1) ?_
                        refine gx_iconst (pc := 127) hB dL_areDonors_127 1 (by decide) ?_
                        refine gx_icmp_ne (pc := 128) hB 141 dL_areDonors_128 (by decide) (fun c_29 => ?_) (fun c_29 => ?_)
                        · refine gx_iconst (pc := 141) hB dL_areDonors_141 0 (by decide) ?_
                          refine gx_iadd (pc := 142) hB dL_areDonors_142 ?_
                          refine gx_top (show cd + 0 = cd from Int32.add_zero _) ?_
                          refine gx_istore (pc := 143) hB dL_areDonors_143 (by decide) [(11, .int cd), (10, .int bk), (9, .int (gv + sG S r 2)), (0, .ref (ad 0)), (1, .ref ug), (2, .ref ud), (3, .ref uh), (4, .ref uv), (5, .ref uj), (6, .ref uq), (7, .int 1), (8, .int (nI i)), (12, .int 0), (13, .int (nI r))] rfl ?_
                          refine gx_iinc (pc := 145) hB dL_areDonors_145 13 (by decide) rfl (nI (r + 1)) (nI_1 _) [(13, .int (nI (r + 1))), (11, .int cd), (10, .int bk), (9, .int (gv + sG S r 2)), (0, .ref (ad 0)), (1, .ref ug), (2, .ref ud), (3, .ref uh), (4, .ref uv), (5, .ref uj), (6, .ref uq), (7, .int 1), (8, .int (nI i)), (12, .int 0)] rfl ?_
                          refine gx_goto (pc := 148) hB 34 dL_areDonors_148 (by decide) ?_
                          refine gx_sub hB (lv' := [(0, .ref (ad 0)), (1, .ref ug), (2, .ref ud), (3, .ref uh), (4, .ref uv), (5, .ref uj), (6, .ref uq), (7, .int 1), (8, .int (nI i)), (9, .int (gv + sG S r 2)), (10, .int bk), (11, .int cd), (12, .int 0), (13, .int (nI (r + 1)))]) [4, 5, 6, 7, 8, 9, 10, 11, 12, 3, 2, 1, 13, 0] rfl ?_
                          exact ih34 (r + 1) (gv + sG S r 2) bk cd (by omega) (by rw [hg]; simp [gvN, Int32.not_le.mp c_4, eq_false c_4, Int32.not_le.mp c_22, eq_false c_22, eq_true c_23, eq_true c_26, c_27, eq_false (Int32.not_lt.mpr c_27), eq_true c_28, eq_false c_29]) (by rw [hk]; simp [bkN, Int32.not_le.mp c_4, eq_false c_4, Int32.not_le.mp c_22, eq_false c_22, eq_true c_23, eq_true c_26, c_27, eq_false (Int32.not_lt.mpr c_27), eq_true c_28, eq_false c_29]) (by rw [hd]; simp [cdN, Int32.not_le.mp c_4, eq_false c_4, Int32.not_le.mp c_22, eq_false c_22, eq_true c_23, eq_true c_26, c_27, eq_false (Int32.not_lt.mpr c_27), eq_true c_28, eq_false c_29])
                        · refine gx_aload (pc := 131) hB dL_areDonors_131 6 rfl ?_
                          refine gx_iconst (pc := 133) hB dL_areDonors_133 2 (by decide) ?_
                          refine gx_iload (pc := 134) hB dL_areDonors_134 13 rfl ?_
                          refine gx_imul (pc := 136) hB dL_areDonors_136 ?_
                          refine gx_top (show 2 * nI r = nI (2 * r) from pk_mul 2 r) ?_
                          refine gx_iald (pc := 137) hB dL_areDonors_137 26 1 rfl rfl (2 * r) rfl (by omega) (by decide) ?_
                          refine gx_top (show V (2 * r) = sG S r 2 from (h0.2.1.2.2.2.1 r (by omega)).1.2.2.1) ?_
                          refine gx_goto (pc := 138) hB 142 dL_areDonors_138 (by decide) ?_
                          refine gx_iadd (pc := 142) hB dL_areDonors_142 ?_
                          refine gx_istore (pc := 143) hB dL_areDonors_143 (by decide) [(11, .int (cd + sG S r 2)), (10, .int bk), (9, .int (gv + sG S r 2)), (0, .ref (ad 0)), (1, .ref ug), (2, .ref ud), (3, .ref uh), (4, .ref uv), (5, .ref uj), (6, .ref uq), (7, .int 1), (8, .int (nI i)), (12, .int 0), (13, .int (nI r))] rfl ?_
                          refine gx_iinc (pc := 145) hB dL_areDonors_145 13 (by decide) rfl (nI (r + 1)) (nI_1 _) [(13, .int (nI (r + 1))), (11, .int (cd + sG S r 2)), (10, .int bk), (9, .int (gv + sG S r 2)), (0, .ref (ad 0)), (1, .ref ug), (2, .ref ud), (3, .ref uh), (4, .ref uv), (5, .ref uj), (6, .ref uq), (7, .int 1), (8, .int (nI i)), (12, .int 0)] rfl ?_
                          refine gx_goto (pc := 148) hB 34 dL_areDonors_148 (by decide) ?_
                          refine gx_sub hB (lv' := [(0, .ref (ad 0)), (1, .ref ug), (2, .ref ud), (3, .ref uh), (4, .ref uv), (5, .ref uj), (6, .ref uq), (7, .int 1), (8, .int (nI i)), (9, .int (gv + sG S r 2)), (10, .int bk), (11, .int (cd + sG S r 2)), (12, .int 0), (13, .int (nI (r + 1)))]) [4, 5, 6, 7, 8, 9, 10, 11, 12, 3, 2, 1, 13, 0] rfl ?_
                          exact ih34 (r + 1) (gv + sG S r 2) bk (cd + sG S r 2) (by omega) (by rw [hg]; simp [gvN, Int32.not_le.mp c_4, eq_false c_4, Int32.not_le.mp c_22, eq_false c_22, eq_true c_23, eq_true c_26, c_27, eq_false (Int32.not_lt.mpr c_27), eq_true c_28, eq_true c_29]) (by rw [hk]; simp [bkN, Int32.not_le.mp c_4, eq_false c_4, Int32.not_le.mp c_22, eq_false c_22, eq_true c_23, eq_true c_26, c_27, eq_false (Int32.not_lt.mpr c_27), eq_true c_28, eq_true c_29]) (by rw [hd]; simp [cdN, Int32.not_le.mp c_4, eq_false c_4, Int32.not_le.mp c_22, eq_false c_22, eq_true c_23, eq_true c_26, c_27, eq_false (Int32.not_lt.mpr c_27), eq_true c_28, eq_true c_29])
                    · refine gx_aload (pc := 93) hB dL_areDonors_93 5 rfl ?_
                      refine gx_iconst (pc := 95) hB dL_areDonors_95 2 (by decide) ?_
                      refine gx_iload (pc := 96) hB dL_areDonors_96 13 rfl ?_
                      refine gx_imul (pc := 98) hB dL_areDonors_98 ?_
                      refine gx_top (show 2 * nI r = nI (2 * r) from pk_mul 2 r) ?_
                      refine gx_iald (pc := 99) hB dL_areDonors_99 26 1 rfl rfl (2 * r) rfl (by omega) (by decide) ?_
                      refine gx_top (show V (2 * r) = sG S r 2 from (h0.2.1.2.2.2.1 r (by omega)).1.2.2.1) ?_
                      refine gx_goto (pc := 100) hB 104 dL_areDonors_100 (by decide) ?_
                      refine gx_iadd (pc := 104) hB dL_areDonors_104 ?_
                      refine gx_istore (pc := 105) hB dL_areDonors_105 (by decide) [(10, .int (bk + sG S r 2)), (9, .int (gv + sG S r 2)), (0, .ref (ad 0)), (1, .ref ug), (2, .ref ud), (3, .ref uh), (4, .ref uv), (5, .ref uj), (6, .ref uq), (7, .int 1), (8, .int (nI i)), (11, .int cd), (12, .int 0), (13, .int (nI r))] rfl ?_
                      refine gx_iload (pc := 107) hB dL_areDonors_107 11 rfl ?_
                      refine gx_aload_n (pc := 109) hB dL_areDonors_109 5 rfl ?_
                      refine gx_iconst (pc := 110) hB dL_areDonors_110 2 (by decide) ?_
                      refine gx_iload (pc := 111) hB dL_areDonors_111 13 rfl ?_
                      refine gx_imul (pc := 113) hB dL_areDonors_113 ?_
                      refine gx_top (show 2 * nI r = nI (2 * r) from pk_mul 2 r) ?_
                      refine gx_iald (pc := 114) hB dL_areDonors_114 25 1 rfl rfl (2 * r) rfl (by omega) (by decide) ?_
                      refine gx_top (show H (2 * r) = sG S r 0 from (h0.2.1.2.2.2.1 r (by omega)).1.1) ?_
                      refine gx_iload (pc := 115) hB dL_areDonors_115 10 rfl ?_
                      refine gx_icmp_ne (pc := 117) hB 141 dL_areDonors_117 (by decide) (fun c_30 => ?_) (fun c_30 => ?_)
                      · exact (by first | exact absurd c_26 c_30 | exact absurd c_30 c_26 | exact absurd c_26 (Int32.not_le.mpr c_30) | exact absurd c_26 (Int32.not_lt.mpr c_30) | exact absurd (Int32.not_le.mp c_26) c_30 | exact absurd (Int32.not_lt.mp c_26) c_30)
                      · refine gx_aload (pc := 120) hB dL_areDonors_120 7 rfl ?_
                        refine gx_iconst (pc := 122) hB dL_areDonors_122 2 (by decide) ?_
                        refine gx_iload (pc := 123) hB dL_areDonors_123 13 rfl ?_
                        refine gx_imul (pc := 125) hB dL_areDonors_125 ?_
                        refine gx_top (show 2 * nI r = nI (2 * r) from pk_mul 2 r) ?_
                        refine gx_iald (pc := 126) hB dL_areDonors_126 27 1 rfl rfl (2 * r) rfl (by omega) (by decide) ?_
                        refine gx_top (show J (2 * r) = hJ (sG S r 4) (sG S r 5) from (h0.2.1.2.2.2.1 r (by omega)).2.1) ?_
                        refine gx_iconst (pc := 127) hB dL_areDonors_127 1 (by decide) ?_
                        refine gx_icmp_ne (pc := 128) hB 141 dL_areDonors_128 (by decide) (fun c_31 => ?_) (fun c_31 => ?_)
                        · refine gx_iconst (pc := 141) hB dL_areDonors_141 0 (by decide) ?_
                          refine gx_iadd (pc := 142) hB dL_areDonors_142 ?_
                          refine gx_top (show cd + 0 = cd from Int32.add_zero _) ?_
                          refine gx_istore (pc := 143) hB dL_areDonors_143 (by decide) [(11, .int cd), (10, .int (bk + sG S r 2)), (9, .int (gv + sG S r 2)), (0, .ref (ad 0)), (1, .ref ug), (2, .ref ud), (3, .ref uh), (4, .ref uv), (5, .ref uj), (6, .ref uq), (7, .int 1), (8, .int (nI i)), (12, .int 0), (13, .int (nI r))] rfl ?_
                          refine gx_iinc (pc := 145) hB dL_areDonors_145 13 (by decide) rfl (nI (r + 1)) (nI_1 _) [(13, .int (nI (r + 1))), (11, .int cd), (10, .int (bk + sG S r 2)), (9, .int (gv + sG S r 2)), (0, .ref (ad 0)), (1, .ref ug), (2, .ref ud), (3, .ref uh), (4, .ref uv), (5, .ref uj), (6, .ref uq), (7, .int 1), (8, .int (nI i)), (12, .int 0)] rfl ?_
                          refine gx_goto (pc := 148) hB 34 dL_areDonors_148 (by decide) ?_
                          refine gx_sub hB (lv' := [(0, .ref (ad 0)), (1, .ref ug), (2, .ref ud), (3, .ref uh), (4, .ref uv), (5, .ref uj), (6, .ref uq), (7, .int 1), (8, .int (nI i)), (9, .int (gv + sG S r 2)), (10, .int (bk + sG S r 2)), (11, .int cd), (12, .int 0), (13, .int (nI (r + 1)))]) [4, 5, 6, 7, 8, 9, 10, 11, 12, 3, 2, 1, 13, 0] rfl ?_
                          exact ih34 (r + 1) (gv + sG S r 2) (bk + sG S r 2) cd (by omega) (by rw [hg]; simp [gvN, Int32.not_le.mp c_4, eq_false c_4, Int32.not_le.mp c_22, eq_false c_22, eq_true c_23, eq_true c_26, Int32.not_le.mp c_27, eq_false c_27, eq_true c_30, eq_false c_31]) (by rw [hk]; simp [bkN, Int32.not_le.mp c_4, eq_false c_4, Int32.not_le.mp c_22, eq_false c_22, eq_true c_23, eq_true c_26, Int32.not_le.mp c_27, eq_false c_27, eq_true c_30, eq_false c_31]) (by rw [hd]; simp [cdN, Int32.not_le.mp c_4, eq_false c_4, Int32.not_le.mp c_22, eq_false c_22, eq_true c_23, eq_true c_26, Int32.not_le.mp c_27, eq_false c_27, eq_true c_30, eq_false c_31])
                        · refine gx_aload (pc := 131) hB dL_areDonors_131 6 rfl ?_
                          refine gx_iconst (pc := 133) hB dL_areDonors_133 2 (by decide) ?_
                          refine gx_iload (pc := 134) hB dL_areDonors_134 13 rfl ?_
                          refine gx_imul (pc := 136) hB dL_areDonors_136 ?_
                          refine gx_top (show 2 * nI r = nI (2 * r) from pk_mul 2 r) ?_
                          refine gx_iald (pc := 137) hB dL_areDonors_137 26 1 rfl rfl (2 * r) rfl (by omega) (by decide) ?_
                          refine gx_top (show V (2 * r) = sG S r 2 from (h0.2.1.2.2.2.1 r (by omega)).1.2.2.1) ?_
                          refine gx_goto (pc := 138) hB 142 dL_areDonors_138 (by decide) ?_
                          refine gx_iadd (pc := 142) hB dL_areDonors_142 ?_
                          refine gx_istore (pc := 143) hB dL_areDonors_143 (by decide) [(11, .int (cd + sG S r 2)), (10, .int (bk + sG S r 2)), (9, .int (gv + sG S r 2)), (0, .ref (ad 0)), (1, .ref ug), (2, .ref ud), (3, .ref uh), (4, .ref uv), (5, .ref uj), (6, .ref uq), (7, .int 1), (8, .int (nI i)), (12, .int 0), (13, .int (nI r))] rfl ?_
                          refine gx_iinc (pc := 145) hB dL_areDonors_145 13 (by decide) rfl (nI (r + 1)) (nI_1 _) [(13, .int (nI (r + 1))), (11, .int (cd + sG S r 2)), (10, .int (bk + sG S r 2)), (9, .int (gv + sG S r 2)), (0, .ref (ad 0)), (1, .ref ug), (2, .ref ud), (3, .ref uh), (4, .ref uv), (5, .ref uj), (6, .ref uq), (7, .int 1), (8, .int (nI i)), (12, .int 0)] rfl ?_
                          refine gx_goto (pc := 148) hB 34 dL_areDonors_148 (by decide) ?_
                          refine gx_sub hB (lv' := [(0, .ref (ad 0)), (1, .ref ug), (2, .ref ud), (3, .ref uh), (4, .ref uv), (5, .ref uj), (6, .ref uq), (7, .int 1), (8, .int (nI i)), (9, .int (gv + sG S r 2)), (10, .int (bk + sG S r 2)), (11, .int (cd + sG S r 2)), (12, .int 0), (13, .int (nI (r + 1)))]) [4, 5, 6, 7, 8, 9, 10, 11, 12, 3, 2, 1, 13, 0] rfl ?_
                          exact ih34 (r + 1) (gv + sG S r 2) (bk + sG S r 2) (cd + sG S r 2) (by omega) (by rw [hg]; simp [gvN, Int32.not_le.mp c_4, eq_false c_4, Int32.not_le.mp c_22, eq_false c_22, eq_true c_23, eq_true c_26, Int32.not_le.mp c_27, eq_false c_27, eq_true c_30, eq_true c_31]) (by rw [hk]; simp [bkN, Int32.not_le.mp c_4, eq_false c_4, Int32.not_le.mp c_22, eq_false c_22, eq_true c_23, eq_true c_26, Int32.not_le.mp c_27, eq_false c_27, eq_true c_30, eq_true c_31]) (by rw [hd]; simp [cdN, Int32.not_le.mp c_4, eq_false c_4, Int32.not_le.mp c_22, eq_false c_22, eq_true c_23, eq_true c_26, Int32.not_le.mp c_27, eq_false c_27, eq_true c_30, eq_true c_31])
          refine gx_sub hB (lv' := [(0, .ref (ad 0)), (1, .ref ug), (2, .ref ud), (3, .ref uh), (4, .ref uv), (5, .ref uj), (6, .ref uq), (7, .int 1), (8, .int (nI i)), (9, .int 0), (10, .int 0), (11, .int 0), (12, .int 0), (13, .int 0)]) [5, 6, 7, 8, 9, 10, 11, 12, 13, 4, 3, 2, 1, 0] rfl ?_
          exact loop_34 (c) 0 0 0 0 (by omega) rfl rfl rfl
  refine gx_sub hB (lv' := [(0, .ref (ad 0)), (1, .ref ug), (2, .ref ud), (3, .ref uh), (4, .ref uv), (5, .ref uj), (6, .ref uq), (7, .int 1), (8, .int 0)]) [2, 3, 4, 5, 6, 7, 8, 1, 0] rfl ?_
  exact loop_6 (b) 0  (by omega) 
theorem pL_isSo : (parseMethodDescriptor yL_isSo.desc).map (fun d => d.parameters.length) = some 8 := by decide +kernel
theorem mL_isSo : gx_MS yL_isSo cL_isSo 14 (some .boolean) := ⟨tb_491, tb_26, tb_492, by decide, by decide⟩
set_option maxHeartbeats 4000000 in
set_option maxRecDepth 100000 in
theorem c_L_isSo (l : Launch) (K : gx_K) (ad : Nat → Nat) (ug uf ud uh uv uj uq : Nat) (C : Nat → Int32) (R : Nat → Nat → Int32) (od sn : Nat) (G F D H V J Q S : Nat → Int32) (a b c e : Nat) (h0 : LJ C G F D H V J Q S a b c e od sn) : gx_Ctr l K yL_isSo cL_isSo 14 (some .boolean) (rmc 7 1 10 146) [.ref (ad 0), .ref ug, .ref uf, .ref ud, .ref uh, .ref uv, .ref uj, .ref uq] ((wZ K ad C R od sn ++ [(ug, .inl (K.2.1.2.1, 8, .inl G)), (uf, .inl (K.2.1.2.1, 60, .inl F)), (ud, .inl (K.2.1.2.1, 56, .inl D)), (uh, .inl (K.2.1.2.1, 48, .inl H)), (uv, .inl (K.2.1.2.1, 48, .inl V)), (uj, .inl (K.2.1.2.1, 48, .inl J)), (uq, .inl (K.2.1.2.1, 48, .inl Q))])) (gx_D (some (.int 1)) ((wZ K ad C R od sn ++ [(ug, .inl (K.2.1.2.1, 8, .inl G)), (uf, .inl (K.2.1.2.1, 60, .inl F)), (ud, .inl (K.2.1.2.1, 56, .inl D)), (uh, .inl (K.2.1.2.1, 48, .inl H)), (uv, .inl (K.2.1.2.1, 48, .inl V)), (uj, .inl (K.2.1.2.1, 48, .inl J)), (uq, .inl (K.2.1.2.1, 48, .inl Q))]))) := by
  refine gx_of (by decide) (Nat.le_of_ble_eq_true rfl) (fun GG hC => ?_)
  have hB := hC.b
  refine gx_lv (lv' := [(0, .ref (ad 0)), (1, .ref ug), (2, .ref uf), (3, .ref ud), (4, .ref uh), (5, .ref uv), (6, .ref uj), (7, .ref uq)]) rfl ?_
  have hb := LJ_b h0
  have ho := h0.2.2.2.2.1
  have hsn := h0.2.2.2.2.2
  refine gx_aload_n (pc := 0) hB dL_isSo_0 0 rfl ?_
  refine gx_aload_n (pc := 1) hB dL_isSo_1 1 rfl ?_
  refine gx_aload (pc := 2) hB dL_isSo_2 4 rfl ?_
  refine gx_aload (pc := 4) hB dL_isSo_4 5 rfl ?_
  refine gx_aload (pc := 6) hB dL_isSo_6 6 rfl ?_
  refine gx_aload (pc := 8) hB dL_isSo_8 7 rfl ?_
  refine gx_dSi (pc := 10) (r := 1) (wr := [(uf, .inl (K.2.1.2.1, 60, .inl F)), (ud, .inl (K.2.1.2.1, 56, .inl D))]) hB (c_L_areGifts l K ad ug uf ud uh uv uj uq C R od sn G F D H V J Q S a b c e (by first | assumption | omega | decide)) mL_areGifts dL_isSo_10 tb_493 pL_areGifts ⟨Nat.le_of_ble_eq_true rfl, Nat.le_of_ble_eq_true rfl⟩ ⟨rfl, rfl⟩ ⟨Nat.le_of_ble_eq_true rfl, Nat.le_of_ble_eq_true rfl⟩ rfl (Nat.le_of_ble_eq_true rfl) [0, 1, 2, 3, 4, 5, 6, 7, 8, 9, 10, 11, 12, 13, 14, 15, 16, 17, 18, 19, 20, 21, 22, 23, 26, 27, 28, 29] [24, 25] rfl rfl (by decide) (by decide) (by decide) [2, 3, 4, 5, 6, 7, 8, 9, 10, 11, 12, 13, 14, 15, 16, 17, 18, 19, 20, 21, 22, 23, 24, 25, 0, 1, 26, 27, 28, 29] (by decide) ((wZ K ad C R od sn ++ [(ug, .inl (K.2.1.2.1, 8, .inl G)), (uf, .inl (K.2.1.2.1, 60, .inl F)), (ud, .inl (K.2.1.2.1, 56, .inl D)), (uh, .inl (K.2.1.2.1, 48, .inl H)), (uv, .inl (K.2.1.2.1, 48, .inl V)), (uj, .inl (K.2.1.2.1, 48, .inl J)), (uq, .inl (K.2.1.2.1, 48, .inl Q))])) rfl ?_
  refine gx_if_eq (pc := 13) hB 37 dL_isSo_13 (by decide) (fun c_1 => ?_) (fun c_1 => ?_)
  · exact absurd c_1 (by decide)
  · refine gx_aload_n (pc := 16) hB dL_isSo_16 0 rfl ?_
    refine gx_aload_n (pc := 17) hB dL_isSo_17 1 rfl ?_
    refine gx_aload_n (pc := 18) hB dL_isSo_18 3 rfl ?_
    refine gx_aload (pc := 19) hB dL_isSo_19 4 rfl ?_
    refine gx_aload (pc := 21) hB dL_isSo_21 5 rfl ?_
    refine gx_aload (pc := 23) hB dL_isSo_23 6 rfl ?_
    refine gx_aload (pc := 25) hB dL_isSo_25 7 rfl ?_
    refine gx_dSi (pc := 27) (r := 1) (wr := [(uf, .inl (K.2.1.2.1, 60, .inl F))]) hB (c_L_areDonors l K ad ug uf ud uh uv uj uq C R od sn G F D H V J Q S a b c e (by first | assumption | omega | decide)) mL_areDonors dL_isSo_27 tb_512 pL_areDonors ⟨Nat.le_of_ble_eq_true rfl, Nat.le_of_ble_eq_true rfl⟩ ⟨rfl, rfl⟩ ⟨Nat.le_of_ble_eq_true rfl, Nat.le_of_ble_eq_true rfl⟩ rfl (Nat.le_of_ble_eq_true rfl) [0, 1, 2, 3, 4, 5, 6, 7, 8, 9, 10, 11, 12, 13, 14, 15, 16, 17, 18, 19, 20, 21, 22, 23, 25, 26, 27, 28, 29] [24] rfl rfl (by decide) (by decide) (by decide) [1, 2, 3, 4, 5, 6, 7, 8, 9, 10, 11, 12, 13, 14, 15, 16, 17, 18, 19, 20, 21, 22, 23, 24, 0, 25, 26, 27, 28, 29] (by decide) ((wZ K ad C R od sn ++ [(ug, .inl (K.2.1.2.1, 8, .inl G)), (uf, .inl (K.2.1.2.1, 60, .inl F)), (ud, .inl (K.2.1.2.1, 56, .inl D)), (uh, .inl (K.2.1.2.1, 48, .inl H)), (uv, .inl (K.2.1.2.1, 48, .inl V)), (uj, .inl (K.2.1.2.1, 48, .inl J)), (uq, .inl (K.2.1.2.1, 48, .inl Q))])) rfl ?_
    refine gx_if_eq (pc := 30) hB 37 dL_isSo_30 (by decide) (fun c_2 => ?_) (fun c_2 => ?_)
    · exact absurd c_2 (by decide)
    · refine gx_iconst (pc := 33) hB dL_isSo_33 1 (by decide) ?_
      refine gx_goto (pc := 34) hB 38 dL_isSo_34 (by decide) ?_
      refine gx_istore (pc := 38) hB dL_isSo_38 (by decide) [(8, .int 1), (0, .ref (ad 0)), (1, .ref ug), (2, .ref uf), (3, .ref ud), (4, .ref uh), (5, .ref uv), (6, .ref uj), (7, .ref uq)] rfl ?_
      refine gx_bipush (pc := 40) hB dL_isSo_40 10 (by decide) ?_
      refine gx_newa (pc := 42) hB dL_isSo_42 (ty := .int) rfl 1 rfl (fun _ _ h => h) tb_67 (N' := 10) (10, .inl (fun _ => 0)) (fun _ => rfl) (by decide) rfl (by decide) (Nat.le_of_ble_eq_true rfl) (Nat.le_of_ble_eq_true rfl) (fun y3 => ?_)
      refine gx_kn (k' := 1) (n' := 10) rfl rfl ?_
      refine gx_ws (ws' := (wZ K ad C R od sn ++ [(ug, .inl (K.2.1.2.1, 8, .inl G)), (uf, .inl (K.2.1.2.1, 60, .inl F)), (ud, .inl (K.2.1.2.1, 56, .inl D)), (uh, .inl (K.2.1.2.1, 48, .inl H)), (uv, .inl (K.2.1.2.1, 48, .inl V)), (uj, .inl (K.2.1.2.1, 48, .inl J)), (uq, .inl (K.2.1.2.1, 48, .inl Q)), (y3, .inl (K.2.1.2.1, 10, .inl (fun _ => 0)))])) rfl ?_
      refine gx_astore (pc := 44) hB dL_isSo_44 (by decide) [(9, .ref y3), (8, .int 1), (0, .ref (ad 0)), (1, .ref ug), (2, .ref uf), (3, .ref ud), (4, .ref uh), (5, .ref uv), (6, .ref uj), (7, .ref uq)] rfl ?_
      refine gx_iconst (pc := 46) hB dL_isSo_46 0 (by decide) ?_
      refine gx_istore (pc := 47) hB dL_isSo_47 (by decide) [(10, .int 0), (9, .ref y3), (8, .int 1), (0, .ref (ad 0)), (1, .ref ug), (2, .ref uf), (3, .ref ud), (4, .ref uh), (5, .ref uv), (6, .ref uj), (7, .ref uq)] rfl ?_
      refine gx_iconst (pc := 49) hB dL_isSo_49 0 (by decide) ?_
      refine gx_istore (pc := 50) hB dL_isSo_50 (by decide) [(11, .int 0), (10, .int 0), (9, .ref y3), (8, .int 1), (0, .ref (ad 0)), (1, .ref ug), (2, .ref uf), (3, .ref ud), (4, .ref uh), (5, .ref uv), (6, .ref uj), (7, .ref uq)] rfl ?_
      have loop_52 : ∀ (dq i : Nat) (cl : Int32) (W1 : Nat → Int32), i + dq = a → (W1 = smW S i 0) → (cl = mAllN S 9 i) → GG 1 10 ((wZ K ad C R od sn ++ [(ug, .inl (K.2.1.2.1, 8, .inl G)), (uf, .inl (K.2.1.2.1, 60, .inl F)), (ud, .inl (K.2.1.2.1, 56, .inl D)), (uh, .inl (K.2.1.2.1, 48, .inl H)), (uv, .inl (K.2.1.2.1, 48, .inl V)), (uj, .inl (K.2.1.2.1, 48, .inl J)), (uq, .inl (K.2.1.2.1, 48, .inl Q)), (y3, .inl (K.2.1.2.1, 10, .inl W1))])) [(0, .ref (ad 0)), (1, .ref ug), (2, .ref uf), (3, .ref ud), (4, .ref uh), (5, .ref uv), (6, .ref uj), (7, .ref uq), (8, .int 1), (9, .ref y3), (10, .int cl), (11, .int (nI i))] 52 [] := by
        intro dq
        induction dq with
        | zero =>
          intro i cl W1 hi52 hW hc
          have hz52 : i = a := by omega
          refine gx_iload (pc := 52) hB dL_isSo_52 11 rfl ?_
          refine gx_aload_n (pc := 54) hB dL_isSo_54 1 rfl ?_
          refine gx_iconst (pc := 55) hB dL_isSo_55 2 (by decide) ?_
          refine gx_iald (pc := 56) hB dL_isSo_56 23 1 rfl rfl 2 rfl (by decide) (by decide) ?_
          refine gx_top (show G 2 = nI a from h0.2.1.1.2.2.1) ?_
          refine gx_icmp_ge (pc := 57) hB 344 dL_isSo_57 (by decide) (fun c_4 => ?_) (fun c_4 => ?_)
          · rw [hz52] at hW hc
            refine gx_iload (pc := 344) hB dL_isSo_344 8 rfl ?_
            refine gx_if_eq (pc := 346) hB 485 dL_isSo_346 (by decide) (fun c_5 => ?_) (fun c_5 => ?_)
            · exact absurd c_5 (by decide)
            · refine gx_aload_n (pc := 349) hB dL_isSo_349 0 rfl ?_
              refine gx_iconst (pc := 350) hB dL_isSo_350 0 (by decide) ?_
              refine gx_dVA (pc := 351) (r := ctF C sn 0 0) (W1 := wZ K ad C R od sn) (wr := [(ug, .inl (K.2.1.2.1, 8, .inl G)), (uf, .inl (K.2.1.2.1, 60, .inl F)), (ud, .inl (K.2.1.2.1, 56, .inl D)), (uh, .inl (K.2.1.2.1, 48, .inl H)), (uv, .inl (K.2.1.2.1, 48, .inl V)), (uj, .inl (K.2.1.2.1, 48, .inl J)), (uq, .inl (K.2.1.2.1, 48, .inl Q)), (y3, .inl (K.2.1.2.1, 10, .inl W1))]) hB (k_count l K ad C R od sn 0 ho hsn) mX4_count dL_isSo_351 tb_179 pX4_count ⟨Nat.le_of_ble_eq_true rfl, Nat.le_of_ble_eq_true rfl⟩ ⟨rfl, rfl⟩ ⟨Nat.le_of_ble_eq_true rfl, Nat.le_of_ble_eq_true rfl⟩ rfl (Nat.le_of_ble_eq_true rfl) (List.range 23) (List.range' 23 8) rfl rfl (by decide) (by decide) (by decide) rfl rfl (List.range' 8 23 ++ List.range 8) (by decide) rfl ?_
              have e_1 := (tc h0).1
              refine gx_top (x := ctF C sn 0 0) (y := nI a) e_1 ?_
              refine gx_aload_n (pc := 354) hB dL_isSo_354 1 rfl ?_
              refine gx_iconst (pc := 355) hB dL_isSo_355 2 (by decide) ?_
              refine gx_iald (pc := 356) hB dL_isSo_356 23 1 rfl rfl 2 rfl (by decide) (by decide) ?_
              refine gx_top (show G 2 = nI a from h0.2.1.1.2.2.1) ?_
              refine gx_icmp_ne (pc := 357) hB 485 dL_isSo_357 (by decide) (fun c_6 => ?_) (fun c_6 => ?_)
              · exact absurd rfl c_6
              · refine gx_aload_n (pc := 360) hB dL_isSo_360 0 rfl ?_
                refine gx_iconst (pc := 361) hB dL_isSo_361 1 (by decide) ?_
                refine gx_dVA (pc := 362) (r := ctF C sn 0 1) (W1 := wZ K ad C R od sn) (wr := [(ug, .inl (K.2.1.2.1, 8, .inl G)), (uf, .inl (K.2.1.2.1, 60, .inl F)), (ud, .inl (K.2.1.2.1, 56, .inl D)), (uh, .inl (K.2.1.2.1, 48, .inl H)), (uv, .inl (K.2.1.2.1, 48, .inl V)), (uj, .inl (K.2.1.2.1, 48, .inl J)), (uq, .inl (K.2.1.2.1, 48, .inl Q)), (y3, .inl (K.2.1.2.1, 10, .inl W1))]) hB (k_count l K ad C R od sn 1 ho hsn) mX4_count dL_isSo_362 tb_179 pX4_count ⟨Nat.le_of_ble_eq_true rfl, Nat.le_of_ble_eq_true rfl⟩ ⟨rfl, rfl⟩ ⟨Nat.le_of_ble_eq_true rfl, Nat.le_of_ble_eq_true rfl⟩ rfl (Nat.le_of_ble_eq_true rfl) (List.range 23) (List.range' 23 8) rfl rfl (by decide) (by decide) (by decide) rfl rfl (List.range' 8 23 ++ List.range 8) (by decide) rfl ?_
                have e_1 := (tc h0).2.1
                refine gx_top (x := ctF C sn 0 1) (y := nI b) e_1 ?_
                refine gx_aload_n (pc := 365) hB dL_isSo_365 1 rfl ?_
                refine gx_iconst (pc := 366) hB dL_isSo_366 3 (by decide) ?_
                refine gx_iald (pc := 367) hB dL_isSo_367 23 1 rfl rfl 3 rfl (by decide) (by decide) ?_
                refine gx_top (show G 3 = nI b from h0.2.1.1.2.2.2.1) ?_
                refine gx_icmp_ne (pc := 368) hB 485 dL_isSo_368 (by decide) (fun c_7 => ?_) (fun c_7 => ?_)
                · exact absurd rfl c_7
                · refine gx_aload_n (pc := 371) hB dL_isSo_371 0 rfl ?_
                  refine gx_iconst (pc := 372) hB dL_isSo_372 2 (by decide) ?_
                  refine gx_dVA (pc := 373) (r := ctF C sn 0 2) (W1 := wZ K ad C R od sn) (wr := [(ug, .inl (K.2.1.2.1, 8, .inl G)), (uf, .inl (K.2.1.2.1, 60, .inl F)), (ud, .inl (K.2.1.2.1, 56, .inl D)), (uh, .inl (K.2.1.2.1, 48, .inl H)), (uv, .inl (K.2.1.2.1, 48, .inl V)), (uj, .inl (K.2.1.2.1, 48, .inl J)), (uq, .inl (K.2.1.2.1, 48, .inl Q)), (y3, .inl (K.2.1.2.1, 10, .inl W1))]) hB (k_count l K ad C R od sn 2 ho hsn) mX4_count dL_isSo_373 tb_179 pX4_count ⟨Nat.le_of_ble_eq_true rfl, Nat.le_of_ble_eq_true rfl⟩ ⟨rfl, rfl⟩ ⟨Nat.le_of_ble_eq_true rfl, Nat.le_of_ble_eq_true rfl⟩ rfl (Nat.le_of_ble_eq_true rfl) (List.range 23) (List.range' 23 8) rfl rfl (by decide) (by decide) (by decide) rfl rfl (List.range' 8 23 ++ List.range 8) (by decide) rfl ?_
                  have e_1 := (tc h0).2.2.1
                  refine gx_top (x := ctF C sn 0 2) (y := nI c) e_1 ?_
                  refine gx_aload_n (pc := 376) hB dL_isSo_376 1 rfl ?_
                  refine gx_iconst (pc := 377) hB dL_isSo_377 4 (by decide) ?_
                  refine gx_iald (pc := 378) hB dL_isSo_378 23 1 rfl rfl 4 rfl (by decide) (by decide) ?_
                  refine gx_top (show G 4 = nI c from h0.2.1.1.2.2.2.2.1) ?_
                  refine gx_icmp_ne (pc := 379) hB 485 dL_isSo_379 (by decide) (fun c_8 => ?_) (fun c_8 => ?_)
                  · exact absurd rfl c_8
                  · refine gx_aload_n (pc := 382) hB dL_isSo_382 0 rfl ?_
                    refine gx_iconst (pc := 383) hB dL_isSo_383 3 (by decide) ?_
                    refine gx_dVA (pc := 384) (r := ctF C sn 0 3) (W1 := wZ K ad C R od sn) (wr := [(ug, .inl (K.2.1.2.1, 8, .inl G)), (uf, .inl (K.2.1.2.1, 60, .inl F)), (ud, .inl (K.2.1.2.1, 56, .inl D)), (uh, .inl (K.2.1.2.1, 48, .inl H)), (uv, .inl (K.2.1.2.1, 48, .inl V)), (uj, .inl (K.2.1.2.1, 48, .inl J)), (uq, .inl (K.2.1.2.1, 48, .inl Q)), (y3, .inl (K.2.1.2.1, 10, .inl W1))]) hB (k_count l K ad C R od sn 3 ho hsn) mX4_count dL_isSo_384 tb_179 pX4_count ⟨Nat.le_of_ble_eq_true rfl, Nat.le_of_ble_eq_true rfl⟩ ⟨rfl, rfl⟩ ⟨Nat.le_of_ble_eq_true rfl, Nat.le_of_ble_eq_true rfl⟩ rfl (Nat.le_of_ble_eq_true rfl) (List.range 23) (List.range' 23 8) rfl rfl (by decide) (by decide) (by decide) rfl rfl (List.range' 8 23 ++ List.range 8) (by decide) rfl ?_
                    have e_1 := (tc h0).2.2.2.1
                    refine gx_top (x := ctF C sn 0 3) (y := nI e) e_1 ?_
                    refine gx_aload_n (pc := 387) hB dL_isSo_387 1 rfl ?_
                    refine gx_iconst (pc := 388) hB dL_isSo_388 5 (by decide) ?_
                    refine gx_iald (pc := 389) hB dL_isSo_389 23 1 rfl rfl 5 rfl (by decide) (by decide) ?_
                    refine gx_top (show G 5 = nI e from h0.2.1.1.2.2.2.2.2.1) ?_
                    refine gx_icmp_ne (pc := 390) hB 485 dL_isSo_390 (by decide) (fun c_9 => ?_) (fun c_9 => ?_)
                    · exact absurd rfl c_9
                    · refine gx_aload_n (pc := 393) hB dL_isSo_393 0 rfl ?_
                      refine gx_iconst (pc := 394) hB dL_isSo_394 4 (by decide) ?_
                      refine gx_dVA (pc := 395) (r := ctF C sn 0 4) (W1 := wZ K ad C R od sn) (wr := [(ug, .inl (K.2.1.2.1, 8, .inl G)), (uf, .inl (K.2.1.2.1, 60, .inl F)), (ud, .inl (K.2.1.2.1, 56, .inl D)), (uh, .inl (K.2.1.2.1, 48, .inl H)), (uv, .inl (K.2.1.2.1, 48, .inl V)), (uj, .inl (K.2.1.2.1, 48, .inl J)), (uq, .inl (K.2.1.2.1, 48, .inl Q)), (y3, .inl (K.2.1.2.1, 10, .inl W1))]) hB (k_count l K ad C R od sn 4 ho hsn) mX4_count dL_isSo_395 tb_179 pX4_count ⟨Nat.le_of_ble_eq_true rfl, Nat.le_of_ble_eq_true rfl⟩ ⟨rfl, rfl⟩ ⟨Nat.le_of_ble_eq_true rfl, Nat.le_of_ble_eq_true rfl⟩ rfl (Nat.le_of_ble_eq_true rfl) (List.range 23) (List.range' 23 8) rfl rfl (by decide) (by decide) (by decide) rfl rfl (List.range' 8 23 ++ List.range 8) (by decide) rfl ?_
                      have e_1 := (tc h0).2.2.2.2.1
                      refine gx_top (x := ctF C sn 0 4) (y := G 6) e_1 ?_
                      refine gx_aload_n (pc := 398) hB dL_isSo_398 1 rfl ?_
                      refine gx_bipush (pc := 399) hB dL_isSo_399 6 (by decide) ?_
                      refine gx_iald (pc := 401) hB dL_isSo_401 23 1 rfl rfl 6 rfl (by decide) (by decide) ?_
                      refine gx_icmp_ne (pc := 402) hB 485 dL_isSo_402 (by decide) (fun c_10 => ?_) (fun c_10 => ?_)
                      · exact absurd rfl c_10
                      · refine gx_aload_n (pc := 405) hB dL_isSo_405 0 rfl ?_
                        refine gx_iconst (pc := 406) hB dL_isSo_406 5 (by decide) ?_
                        refine gx_dVA (pc := 407) (r := ctF C sn 0 5) (W1 := wZ K ad C R od sn) (wr := [(ug, .inl (K.2.1.2.1, 8, .inl G)), (uf, .inl (K.2.1.2.1, 60, .inl F)), (ud, .inl (K.2.1.2.1, 56, .inl D)), (uh, .inl (K.2.1.2.1, 48, .inl H)), (uv, .inl (K.2.1.2.1, 48, .inl V)), (uj, .inl (K.2.1.2.1, 48, .inl J)), (uq, .inl (K.2.1.2.1, 48, .inl Q)), (y3, .inl (K.2.1.2.1, 10, .inl W1))]) hB (k_count l K ad C R od sn 5 ho hsn) mX4_count dL_isSo_407 tb_179 pX4_count ⟨Nat.le_of_ble_eq_true rfl, Nat.le_of_ble_eq_true rfl⟩ ⟨rfl, rfl⟩ ⟨Nat.le_of_ble_eq_true rfl, Nat.le_of_ble_eq_true rfl⟩ rfl (Nat.le_of_ble_eq_true rfl) (List.range 23) (List.range' 23 8) rfl rfl (by decide) (by decide) (by decide) rfl rfl (List.range' 8 23 ++ List.range 8) (by decide) rfl ?_
                        have e_1 := (tc h0).2.2.2.2.2.1.trans (show smW S a 0 0 = W1 0 by rw [hW])
                        refine gx_top (x := ctF C sn 0 5) (y := W1 0) e_1 ?_
                        refine gx_aload (pc := 410) hB dL_isSo_410 9 rfl ?_
                        refine gx_iconst (pc := 412) hB dL_isSo_412 0 (by decide) ?_
                        refine gx_iald (pc := 413) hB dL_isSo_413 30 1 rfl rfl 0 rfl (by decide) (by decide) ?_
                        refine gx_icmp_ne (pc := 414) hB 485 dL_isSo_414 (by decide) (fun c_11 => ?_) (fun c_11 => ?_)
                        · exact absurd rfl c_11
                        · refine gx_aload_n (pc := 417) hB dL_isSo_417 0 rfl ?_
                          refine gx_bipush (pc := 418) hB dL_isSo_418 6 (by decide) ?_
                          refine gx_dVA (pc := 420) (r := ctF C sn 0 6) (W1 := wZ K ad C R od sn) (wr := [(ug, .inl (K.2.1.2.1, 8, .inl G)), (uf, .inl (K.2.1.2.1, 60, .inl F)), (ud, .inl (K.2.1.2.1, 56, .inl D)), (uh, .inl (K.2.1.2.1, 48, .inl H)), (uv, .inl (K.2.1.2.1, 48, .inl V)), (uj, .inl (K.2.1.2.1, 48, .inl J)), (uq, .inl (K.2.1.2.1, 48, .inl Q)), (y3, .inl (K.2.1.2.1, 10, .inl W1))]) hB (k_count l K ad C R od sn 6 ho hsn) mX4_count dL_isSo_420 tb_179 pX4_count ⟨Nat.le_of_ble_eq_true rfl, Nat.le_of_ble_eq_true rfl⟩ ⟨rfl, rfl⟩ ⟨Nat.le_of_ble_eq_true rfl, Nat.le_of_ble_eq_true rfl⟩ rfl (Nat.le_of_ble_eq_true rfl) (List.range 23) (List.range' 23 8) rfl rfl (by decide) (by decide) (by decide) rfl rfl (List.range' 8 23 ++ List.range 8) (by decide) rfl ?_
                          have e_1 := (tc h0).2.2.2.2.2.2.1.trans (show smW S a 0 3 = W1 3 by rw [hW])
                          refine gx_top (x := ctF C sn 0 6) (y := W1 3) e_1 ?_
                          refine gx_aload (pc := 423) hB dL_isSo_423 9 rfl ?_
                          refine gx_iconst (pc := 425) hB dL_isSo_425 3 (by decide) ?_
                          refine gx_iald (pc := 426) hB dL_isSo_426 30 1 rfl rfl 3 rfl (by decide) (by decide) ?_
                          refine gx_icmp_ne (pc := 427) hB 485 dL_isSo_427 (by decide) (fun c_12 => ?_) (fun c_12 => ?_)
                          · exact absurd rfl c_12
                          · refine gx_aload_n (pc := 430) hB dL_isSo_430 0 rfl ?_
                            refine gx_bipush (pc := 431) hB dL_isSo_431 7 (by decide) ?_
                            refine gx_dVA (pc := 433) (r := ctF C sn 0 7) (W1 := wZ K ad C R od sn) (wr := [(ug, .inl (K.2.1.2.1, 8, .inl G)), (uf, .inl (K.2.1.2.1, 60, .inl F)), (ud, .inl (K.2.1.2.1, 56, .inl D)), (uh, .inl (K.2.1.2.1, 48, .inl H)), (uv, .inl (K.2.1.2.1, 48, .inl V)), (uj, .inl (K.2.1.2.1, 48, .inl J)), (uq, .inl (K.2.1.2.1, 48, .inl Q)), (y3, .inl (K.2.1.2.1, 10, .inl W1))]) hB (k_count l K ad C R od sn 7 ho hsn) mX4_count dL_isSo_433 tb_179 pX4_count ⟨Nat.le_of_ble_eq_true rfl, Nat.le_of_ble_eq_true rfl⟩ ⟨rfl, rfl⟩ ⟨Nat.le_of_ble_eq_true rfl, Nat.le_of_ble_eq_true rfl⟩ rfl (Nat.le_of_ble_eq_true rfl) (List.range 23) (List.range' 23 8) rfl rfl (by decide) (by decide) (by decide) rfl rfl (List.range' 8 23 ++ List.range 8) (by decide) rfl ?_
                            have e_1 := (tc h0).2.2.2.2.2.2.2.1.trans (show smW S a 0 2 = W1 2 by rw [hW])
                            refine gx_top (x := ctF C sn 0 7) (y := W1 2) e_1 ?_
                            refine gx_aload (pc := 436) hB dL_isSo_436 9 rfl ?_
                            refine gx_iconst (pc := 438) hB dL_isSo_438 2 (by decide) ?_
                            refine gx_iald (pc := 439) hB dL_isSo_439 30 1 rfl rfl 2 rfl (by decide) (by decide) ?_
                            refine gx_icmp_ne (pc := 440) hB 485 dL_isSo_440 (by decide) (fun c_13 => ?_) (fun c_13 => ?_)
                            · exact absurd rfl c_13
                            · refine gx_aload_n (pc := 443) hB dL_isSo_443 0 rfl ?_
                              refine gx_bipush (pc := 444) hB dL_isSo_444 8 (by decide) ?_
                              refine gx_dVA (pc := 446) (r := ctF C sn 0 8) (W1 := wZ K ad C R od sn) (wr := [(ug, .inl (K.2.1.2.1, 8, .inl G)), (uf, .inl (K.2.1.2.1, 60, .inl F)), (ud, .inl (K.2.1.2.1, 56, .inl D)), (uh, .inl (K.2.1.2.1, 48, .inl H)), (uv, .inl (K.2.1.2.1, 48, .inl V)), (uj, .inl (K.2.1.2.1, 48, .inl J)), (uq, .inl (K.2.1.2.1, 48, .inl Q)), (y3, .inl (K.2.1.2.1, 10, .inl W1))]) hB (k_count l K ad C R od sn 8 ho hsn) mX4_count dL_isSo_446 tb_179 pX4_count ⟨Nat.le_of_ble_eq_true rfl, Nat.le_of_ble_eq_true rfl⟩ ⟨rfl, rfl⟩ ⟨Nat.le_of_ble_eq_true rfl, Nat.le_of_ble_eq_true rfl⟩ rfl (Nat.le_of_ble_eq_true rfl) (List.range 23) (List.range' 23 8) rfl rfl (by decide) (by decide) (by decide) rfl rfl (List.range' 8 23 ++ List.range 8) (by decide) rfl ?_
                              have e_1 := (tc h0).2.2.2.2.2.2.2.2.1.trans (show smW S a 0 6 = W1 6 by rw [hW])
                              refine gx_top (x := ctF C sn 0 8) (y := W1 6) e_1 ?_
                              refine gx_aload (pc := 449) hB dL_isSo_449 9 rfl ?_
                              refine gx_bipush (pc := 451) hB dL_isSo_451 6 (by decide) ?_
                              refine gx_iald (pc := 453) hB dL_isSo_453 30 1 rfl rfl 6 rfl (by decide) (by decide) ?_
                              refine gx_icmp_ne (pc := 454) hB 485 dL_isSo_454 (by decide) (fun c_14 => ?_) (fun c_14 => ?_)
                              · exact absurd rfl c_14
                              · refine gx_aload_n (pc := 457) hB dL_isSo_457 0 rfl ?_
                                refine gx_bipush (pc := 458) hB dL_isSo_458 9 (by decide) ?_
                                refine gx_dVA (pc := 460) (r := ctF C sn 0 9) (W1 := wZ K ad C R od sn) (wr := [(ug, .inl (K.2.1.2.1, 8, .inl G)), (uf, .inl (K.2.1.2.1, 60, .inl F)), (ud, .inl (K.2.1.2.1, 56, .inl D)), (uh, .inl (K.2.1.2.1, 48, .inl H)), (uv, .inl (K.2.1.2.1, 48, .inl V)), (uj, .inl (K.2.1.2.1, 48, .inl J)), (uq, .inl (K.2.1.2.1, 48, .inl Q)), (y3, .inl (K.2.1.2.1, 10, .inl W1))]) hB (k_count l K ad C R od sn 9 ho hsn) mX4_count dL_isSo_460 tb_179 pX4_count ⟨Nat.le_of_ble_eq_true rfl, Nat.le_of_ble_eq_true rfl⟩ ⟨rfl, rfl⟩ ⟨Nat.le_of_ble_eq_true rfl, Nat.le_of_ble_eq_true rfl⟩ rfl (Nat.le_of_ble_eq_true rfl) (List.range 23) (List.range' 23 8) rfl rfl (by decide) (by decide) (by decide) rfl rfl (List.range' 8 23 ++ List.range 8) (by decide) rfl ?_
                                have e_1 := (tc h0).2.2.2.2.2.2.2.2.2.1.trans (show smW S a 0 5 = W1 5 by rw [hW])
                                refine gx_top (x := ctF C sn 0 9) (y := W1 5) e_1 ?_
                                refine gx_aload (pc := 463) hB dL_isSo_463 9 rfl ?_
                                refine gx_iconst (pc := 465) hB dL_isSo_465 5 (by decide) ?_
                                refine gx_iald (pc := 466) hB dL_isSo_466 30 1 rfl rfl 5 rfl (by decide) (by decide) ?_
                                refine gx_icmp_ne (pc := 467) hB 485 dL_isSo_467 (by decide) (fun c_15 => ?_) (fun c_15 => ?_)
                                · exact absurd rfl c_15
                                · refine gx_aload_n (pc := 470) hB dL_isSo_470 0 rfl ?_
                                  refine gx_bipush (pc := 471) hB dL_isSo_471 10 (by decide) ?_
                                  refine gx_dVA (pc := 473) (r := ctF C sn 0 10) (W1 := wZ K ad C R od sn) (wr := [(ug, .inl (K.2.1.2.1, 8, .inl G)), (uf, .inl (K.2.1.2.1, 60, .inl F)), (ud, .inl (K.2.1.2.1, 56, .inl D)), (uh, .inl (K.2.1.2.1, 48, .inl H)), (uv, .inl (K.2.1.2.1, 48, .inl V)), (uj, .inl (K.2.1.2.1, 48, .inl J)), (uq, .inl (K.2.1.2.1, 48, .inl Q)), (y3, .inl (K.2.1.2.1, 10, .inl W1))]) hB (k_count l K ad C R od sn 10 ho hsn) mX4_count dL_isSo_473 tb_179 pX4_count ⟨Nat.le_of_ble_eq_true rfl, Nat.le_of_ble_eq_true rfl⟩ ⟨rfl, rfl⟩ ⟨Nat.le_of_ble_eq_true rfl, Nat.le_of_ble_eq_true rfl⟩ rfl (Nat.le_of_ble_eq_true rfl) (List.range 23) (List.range' 23 8) rfl rfl (by decide) (by decide) (by decide) rfl rfl (List.range' 8 23 ++ List.range 8) (by decide) rfl ?_
                                  have e_1 := (tc h0).2.2.2.2.2.2.2.2.2.2.1.trans hc.symm
                                  refine gx_top (x := ctF C sn 0 10) (y := cl) e_1 ?_
                                  refine gx_iload (pc := 476) hB dL_isSo_476 10 rfl ?_
                                  refine gx_icmp_ne (pc := 478) hB 485 dL_isSo_478 (by decide) (fun c_16 => ?_) (fun c_16 => ?_)
                                  · exact absurd rfl c_16
                                  · refine gx_iconst (pc := 481) hB dL_isSo_481 1 (by decide) ?_
                                    refine gx_goto (pc := 482) hB 486 dL_isSo_482 (by decide) ?_
                                    refine gx_istore (pc := 486) hB dL_isSo_486 (by decide) [(8, .int 1), (0, .ref (ad 0)), (1, .ref ug), (2, .ref uf), (3, .ref ud), (4, .ref uh), (5, .ref uv), (6, .ref uj), (7, .ref uq), (9, .ref y3), (10, .int cl), (11, .int (nI i))] rfl ?_
                                    refine gx_iload (pc := 488) hB dL_isSo_488 0 rfl ?_
                                    refine gx_if_eq (pc := 490) hB 542 dL_isSo_490 (by decide) (fun c_17 => ?_) (fun c_17 => ?_)
                                    · exact absurd c_17 (by decide)
                                    · refine gx_aload_n (pc := 493) hB dL_isSo_493 1 rfl ?_
                                      refine gx_bipush (pc := 494) hB dL_isSo_494 12 (by decide) ?_
                                      refine gx_dVA (pc := 496) (r := ctF C sn 0 12) (W1 := wZ K ad C R od sn) (wr := [(ug, .inl (K.2.1.2.1, 8, .inl G)), (uf, .inl (K.2.1.2.1, 60, .inl F)), (ud, .inl (K.2.1.2.1, 56, .inl D)), (uh, .inl (K.2.1.2.1, 48, .inl H)), (uv, .inl (K.2.1.2.1, 48, .inl V)), (uj, .inl (K.2.1.2.1, 48, .inl J)), (uq, .inl (K.2.1.2.1, 48, .inl Q)), (y3, .inl (K.2.1.2.1, 10, .inl W1))]) hB (k_count l K ad C R od sn 12 ho hsn) mX4_count dL_isSo_496 tb_179 pX4_count ⟨Nat.le_of_ble_eq_true rfl, Nat.le_of_ble_eq_true rfl⟩ ⟨rfl, rfl⟩ ⟨Nat.le_of_ble_eq_true rfl, Nat.le_of_ble_eq_true rfl⟩ rfl (Nat.le_of_ble_eq_true rfl) (List.range 23) (List.range' 23 8) rfl rfl (by decide) (by decide) (by decide) rfl rfl (List.range' 8 23 ++ List.range 8) (by decide) rfl ?_
                                      have e_1 := (tc h0).2.2.2.2.2.2.2.2.2.2.2.1
                                      refine gx_top (x := ctF C sn 0 12) (y := 0) e_1 ?_
                                      refine gx_if_ne (pc := 499) hB 542 dL_isSo_499 (by decide) (fun c_18 => ?_) (fun c_18 => ?_)
                                      · exact absurd c_18 (by decide)
                                      · refine gx_aload_n (pc := 502) hB dL_isSo_502 1 rfl ?_
                                        refine gx_bipush (pc := 503) hB dL_isSo_503 13 (by decide) ?_
                                        refine gx_dVA (pc := 505) (r := ctF C sn 0 13) (W1 := wZ K ad C R od sn) (wr := [(ug, .inl (K.2.1.2.1, 8, .inl G)), (uf, .inl (K.2.1.2.1, 60, .inl F)), (ud, .inl (K.2.1.2.1, 56, .inl D)), (uh, .inl (K.2.1.2.1, 48, .inl H)), (uv, .inl (K.2.1.2.1, 48, .inl V)), (uj, .inl (K.2.1.2.1, 48, .inl J)), (uq, .inl (K.2.1.2.1, 48, .inl Q)), (y3, .inl (K.2.1.2.1, 10, .inl W1))]) hB (k_count l K ad C R od sn 13 ho hsn) mX4_count dL_isSo_505 tb_179 pX4_count ⟨Nat.le_of_ble_eq_true rfl, Nat.le_of_ble_eq_true rfl⟩ ⟨rfl, rfl⟩ ⟨Nat.le_of_ble_eq_true rfl, Nat.le_of_ble_eq_true rfl⟩ rfl (Nat.le_of_ble_eq_true rfl) (List.range 23) (List.range' 23 8) rfl rfl (by decide) (by decide) (by decide) rfl rfl (List.range' 8 23 ++ List.range 8) (by decide) rfl ?_
                                        have e_1 := (tc h0).2.2.2.2.2.2.2.2.2.2.2.2.1
                                        refine gx_top (x := ctF C sn 0 13) (y := G 0) e_1 ?_
                                        refine gx_aload_n (pc := 508) hB dL_isSo_508 2 rfl ?_
                                        refine gx_iconst (pc := 509) hB dL_isSo_509 0 (by decide) ?_
                                        refine gx_iald (pc := 510) hB dL_isSo_510 23 1 rfl rfl 0 rfl (by decide) (by decide) ?_
                                        refine gx_icmp_ne (pc := 511) hB 542 dL_isSo_511 (by decide) (fun c_19 => ?_) (fun c_19 => ?_)
                                        · exact absurd rfl c_19
                                        · refine gx_aload_n (pc := 514) hB dL_isSo_514 1 rfl ?_
                                          refine gx_bipush (pc := 515) hB dL_isSo_515 14 (by decide) ?_
                                          refine gx_dVA (pc := 517) (r := ctF C sn 0 14) (W1 := wZ K ad C R od sn) (wr := [(ug, .inl (K.2.1.2.1, 8, .inl G)), (uf, .inl (K.2.1.2.1, 60, .inl F)), (ud, .inl (K.2.1.2.1, 56, .inl D)), (uh, .inl (K.2.1.2.1, 48, .inl H)), (uv, .inl (K.2.1.2.1, 48, .inl V)), (uj, .inl (K.2.1.2.1, 48, .inl J)), (uq, .inl (K.2.1.2.1, 48, .inl Q)), (y3, .inl (K.2.1.2.1, 10, .inl W1))]) hB (k_count l K ad C R od sn 14 ho hsn) mX4_count dL_isSo_517 tb_179 pX4_count ⟨Nat.le_of_ble_eq_true rfl, Nat.le_of_ble_eq_true rfl⟩ ⟨rfl, rfl⟩ ⟨Nat.le_of_ble_eq_true rfl, Nat.le_of_ble_eq_true rfl⟩ rfl (Nat.le_of_ble_eq_true rfl) (List.range 23) (List.range' 23 8) rfl rfl (by decide) (by decide) (by decide) rfl rfl (List.range' 8 23 ++ List.range 8) (by decide) rfl ?_
                                          have e_1 := (tc h0).2.2.2.2.2.2.2.2.2.2.2.2.2.1
                                          refine gx_top (x := ctF C sn 0 14) (y := G 1) e_1 ?_
                                          refine gx_aload_n (pc := 520) hB dL_isSo_520 2 rfl ?_
                                          refine gx_iconst (pc := 521) hB dL_isSo_521 1 (by decide) ?_
                                          refine gx_iald (pc := 522) hB dL_isSo_522 23 1 rfl rfl 1 rfl (by decide) (by decide) ?_
                                          refine gx_icmp_ne (pc := 523) hB 542 dL_isSo_523 (by decide) (fun c_20 => ?_) (fun c_20 => ?_)
                                          · exact absurd rfl c_20
                                          · refine gx_aload_n (pc := 526) hB dL_isSo_526 1 rfl ?_
                                            refine gx_aload_n (pc := 527) hB dL_isSo_527 2 rfl ?_
                                            refine gx_iconst (pc := 528) hB dL_isSo_528 2 (by decide) ?_
                                            refine gx_iald (pc := 529) hB dL_isSo_529 23 1 rfl rfl 2 rfl (by decide) (by decide) ?_
                                            refine gx_top (show G 2 = nI a from h0.2.1.1.2.2.1) ?_
                                            refine gx_iconst (pc := 530) hB dL_isSo_530 0 (by decide) ?_
                                            refine gx_dVA (pc := 531) (r := bTellP C (nI a) 0) (W1 := wZ K ad C R od sn) (wr := [(ug, .inl (K.2.1.2.1, 8, .inl G)), (uf, .inl (K.2.1.2.1, 60, .inl F)), (ud, .inl (K.2.1.2.1, 56, .inl D)), (uh, .inl (K.2.1.2.1, 48, .inl H)), (uv, .inl (K.2.1.2.1, 48, .inl V)), (uj, .inl (K.2.1.2.1, 48, .inl J)), (uq, .inl (K.2.1.2.1, 48, .inl Q)), (y3, .inl (K.2.1.2.1, 10, .inl W1))]) hB (k_purposeOf l K ad C R od sn (nI a) 0 ho hsn) mX4_purposeOf dL_isSo_531 tb_156 pX4_purposeOf ⟨Nat.le_of_ble_eq_true rfl, Nat.le_of_ble_eq_true rfl⟩ ⟨rfl, rfl⟩ ⟨Nat.le_of_ble_eq_true rfl, Nat.le_of_ble_eq_true rfl⟩ rfl (Nat.le_of_ble_eq_true rfl) (List.range 23) (List.range' 23 8) rfl rfl (by decide) (by decide) (by decide) rfl rfl (List.range' 8 23 ++ List.range 8) (by decide) rfl ?_
                                            have e_1 := tp_end h0
                                            refine gx_top (x := bTellP C (nI a) 0) (y := (-1)) e_1 ?_
                                            refine gx_iconst (pc := 534) hB dL_isSo_534 (-1) (by decide) ?_
                                            refine gx_icmp_ne (pc := 535) hB 542 dL_isSo_535 (by decide) (fun c_21 => ?_) (fun c_21 => ?_)
                                            · exact absurd c_21 (by decide)
                                            · refine gx_iconst (pc := 538) hB dL_isSo_538 1 (by decide) ?_
                                              refine gx_goto (pc := 539) hB 543 dL_isSo_539 (by decide) ?_
                                              refine gx_perm hB (ws' := (wZ K ad C R od sn ++ [(ug, .inl (K.2.1.2.1, 8, .inl G)), (uf, .inl (K.2.1.2.1, 60, .inl F)), (ud, .inl (K.2.1.2.1, 56, .inl D)), (uh, .inl (K.2.1.2.1, 48, .inl H)), (uv, .inl (K.2.1.2.1, 48, .inl V)), (uj, .inl (K.2.1.2.1, 48, .inl J)), (uq, .inl (K.2.1.2.1, 48, .inl Q))])) (List.range 30) (by decide) rfl ?_
                                              exact gx_zret (pc := 543) hC dL_isSo_543 (Nat.le_of_ble_eq_true rfl) (Nat.le_of_ble_eq_true rfl) (by decide) ⟨rfl, rfl⟩
          · exact absurd (lpTn (c := a) (by omega) hi52) c_4
        | succ dq ih52 =>
          intro i cl W1 hi52 hW hc
          have hi : i < a := by omega
          have e9 : F (10 * i + 9) = sP S i 9 := h0.2.1.2.1 i hi 9 (by omega)
          refine gx_iload (pc := 52) hB dL_isSo_52 11 rfl ?_
          refine gx_aload_n (pc := 54) hB dL_isSo_54 1 rfl ?_
          refine gx_iconst (pc := 55) hB dL_isSo_55 2 (by decide) ?_
          refine gx_iald (pc := 56) hB dL_isSo_56 23 1 rfl rfl 2 rfl (by decide) (by decide) ?_
          refine gx_top (show G 2 = nI a from h0.2.1.1.2.2.1) ?_
          refine gx_icmp_ge (pc := 57) hB 344 dL_isSo_57 (by decide) (fun c_22 => ?_) (fun c_22 => ?_)
          · exact absurd c_22 (lpFn (c := a) (by omega) hi52)
          · refine gx_iload (pc := 60) hB dL_isSo_60 8 rfl ?_
            refine gx_if_eq (pc := 62) hB 344 dL_isSo_62 (by decide) (fun c_23 => ?_) (fun c_23 => ?_)
            · exact absurd c_23 (by decide)
            · refine gx_bipush (pc := 65) hB dL_isSo_65 10 (by decide) ?_
              refine gx_iload (pc := 67) hB dL_isSo_67 11 rfl ?_
              refine gx_imul (pc := 69) hB dL_isSo_69 ?_
              refine gx_top (show 10 * nI i = nI (10 * i) from pk_mul 10 i) ?_
              refine gx_istore (pc := 70) hB dL_isSo_70 (by decide) [(12, .int (nI (10 * i))), (0, .ref (ad 0)), (1, .ref ug), (2, .ref uf), (3, .ref ud), (4, .ref uh), (5, .ref uv), (6, .ref uj), (7, .ref uq), (8, .int 1), (9, .ref y3), (10, .int cl), (11, .int (nI i))] rfl ?_
              refine gx_iconst (pc := 72) hB dL_isSo_72 0 (by decide) ?_
              refine gx_istore (pc := 73) hB dL_isSo_73 (by decide) [(13, .int 0), (12, .int (nI (10 * i))), (0, .ref (ad 0)), (1, .ref ug), (2, .ref uf), (3, .ref ud), (4, .ref uh), (5, .ref uv), (6, .ref uj), (7, .ref uq), (8, .int 1), (9, .ref y3), (10, .int cl), (11, .int (nI i))] rfl ?_
              have loop_75 : ∀ (dq r : Nat) (W2 : Nat → Int32), r + dq = 9 → (W2 = smW S i r) → GG 1 10 ((wZ K ad C R od sn ++ [(ug, .inl (K.2.1.2.1, 8, .inl G)), (uf, .inl (K.2.1.2.1, 60, .inl F)), (ud, .inl (K.2.1.2.1, 56, .inl D)), (uh, .inl (K.2.1.2.1, 48, .inl H)), (uv, .inl (K.2.1.2.1, 48, .inl V)), (uj, .inl (K.2.1.2.1, 48, .inl J)), (uq, .inl (K.2.1.2.1, 48, .inl Q)), (y3, .inl (K.2.1.2.1, 10, .inl W2))])) [(0, .ref (ad 0)), (1, .ref ug), (2, .ref uf), (3, .ref ud), (4, .ref uh), (5, .ref uv), (6, .ref uj), (7, .ref uq), (8, .int 1), (9, .ref y3), (10, .int cl), (11, .int (nI i)), (12, .int (nI (10 * i))), (13, .int (nI r))] 75 [] := by
                intro dq
                induction dq with
                | zero =>
                  intro r W2 hi75 hV
                  have hz75 : r = 9 := by omega
                  refine gx_iload (pc := 75) hB dL_isSo_75 13 rfl ?_
                  refine gx_bipush (pc := 77) hB dL_isSo_77 9 (by decide) ?_
                  refine gx_icmp_ge (pc := 79) hB 133 dL_isSo_79 (by decide) (fun c_24 => ?_) (fun c_24 => ?_)
                  · have hV9 : W2 = smW S (i + 1) 0 := by rw [hV, hz75, smW_n]
                    refine gx_iload (pc := 133) hB dL_isSo_133 10 rfl ?_
                    refine gx_aload_n (pc := 135) hB dL_isSo_135 2 rfl ?_
                    refine gx_iload (pc := 136) hB dL_isSo_136 12 rfl ?_
                    refine gx_bipush (pc := 138) hB dL_isSo_138 9 (by decide) ?_
                    refine gx_iadd (pc := 140) hB dL_isSo_140 ?_
                    refine gx_top (show (nI (10 * i)) + 9 = nI (10 * i + 9) from nI_add (10 * i) 9) ?_
                    refine gx_iald (pc := 141) hB dL_isSo_141 24 1 rfl rfl (10 * i + 9) rfl (by omega) (by decide) ?_
                    refine gx_if_lt (pc := 142) hB 149 dL_isSo_142 (by decide) (fun c_25 => ?_) (fun c_25 => ?_)
                    · refine gx_iconst (pc := 149) hB dL_isSo_149 0 (by decide) ?_
                      refine gx_iadd (pc := 150) hB dL_isSo_150 ?_
                      refine gx_top (show cl + 0 = cl from Int32.add_zero _) ?_
                      refine gx_istore (pc := 151) hB dL_isSo_151 (by decide) [(10, .int cl), (0, .ref (ad 0)), (1, .ref ug), (2, .ref uf), (3, .ref ud), (4, .ref uh), (5, .ref uv), (6, .ref uj), (7, .ref uq), (8, .int 1), (9, .ref y3), (11, .int (nI i)), (12, .int (nI (10 * i))), (13, .int (nI r))] rfl ?_
                      refine gx_iload (pc := 153) hB dL_isSo_153 9 rfl ?_
                      refine gx_if_eq (pc := 155) hB 233 dL_isSo_155 (by decide) (fun c_26 => ?_) (fun c_26 => ?_)
                      · exact absurd c_26 (by decide)
                      · refine gx_aload_n (pc := 158) hB dL_isSo_158 1 rfl ?_
                        refine gx_iload (pc := 159) hB dL_isSo_159 11 rfl ?_
                        refine gx_bipush (pc := 161) hB dL_isSo_161 9 (by decide) ?_
                        refine gx_dVA (pc := 163) (r := bTellP C (nI i) 9) (W1 := wZ K ad C R od sn) (wr := [(ug, .inl (K.2.1.2.1, 8, .inl G)), (uf, .inl (K.2.1.2.1, 60, .inl F)), (ud, .inl (K.2.1.2.1, 56, .inl D)), (uh, .inl (K.2.1.2.1, 48, .inl H)), (uv, .inl (K.2.1.2.1, 48, .inl V)), (uj, .inl (K.2.1.2.1, 48, .inl J)), (uq, .inl (K.2.1.2.1, 48, .inl Q)), (y3, .inl (K.2.1.2.1, 10, .inl W2))]) hB (k_purposeOf l K ad C R od sn (nI i) 9 ho hsn) mX4_purposeOf dL_isSo_163 tb_156 pX4_purposeOf ⟨Nat.le_of_ble_eq_true rfl, Nat.le_of_ble_eq_true rfl⟩ ⟨rfl, rfl⟩ ⟨Nat.le_of_ble_eq_true rfl, Nat.le_of_ble_eq_true rfl⟩ rfl (Nat.le_of_ble_eq_true rfl) (List.range 23) (List.range' 23 8) rfl rfl (by decide) (by decide) (by decide) rfl rfl (List.range' 8 23 ++ List.range 8) (by decide) rfl ?_
                        have e_1 := (tp h0 hi).1
                        refine gx_top (x := bTellP C (nI i) 9) (y := F (10 * i + 9)) e_1 ?_
                        refine gx_aload_n (pc := 166) hB dL_isSo_166 3 rfl ?_
                        refine gx_iload (pc := 167) hB dL_isSo_167 12 rfl ?_
                        refine gx_bipush (pc := 169) hB dL_isSo_169 9 (by decide) ?_
                        refine gx_iadd (pc := 171) hB dL_isSo_171 ?_
                        refine gx_top (show (nI (10 * i)) + 9 = nI (10 * i + 9) from nI_add (10 * i) 9) ?_
                        refine gx_iald (pc := 172) hB dL_isSo_172 24 1 rfl rfl (10 * i + 9) rfl (by omega) (by decide) ?_
                        refine gx_icmp_ne (pc := 173) hB 233 dL_isSo_173 (by decide) (fun c_27 => ?_) (fun c_27 => ?_)
                        · exact absurd rfl c_27
                        · refine gx_aload_n (pc := 176) hB dL_isSo_176 1 rfl ?_
                          refine gx_iload (pc := 177) hB dL_isSo_177 11 rfl ?_
                          refine gx_bipush (pc := 179) hB dL_isSo_179 10 (by decide) ?_
                          refine gx_dVA (pc := 181) (r := bTellP C (nI i) 10) (W1 := wZ K ad C R od sn) (wr := [(ug, .inl (K.2.1.2.1, 8, .inl G)), (uf, .inl (K.2.1.2.1, 60, .inl F)), (ud, .inl (K.2.1.2.1, 56, .inl D)), (uh, .inl (K.2.1.2.1, 48, .inl H)), (uv, .inl (K.2.1.2.1, 48, .inl V)), (uj, .inl (K.2.1.2.1, 48, .inl J)), (uq, .inl (K.2.1.2.1, 48, .inl Q)), (y3, .inl (K.2.1.2.1, 10, .inl W2))]) hB (k_purposeOf l K ad C R od sn (nI i) 10 ho hsn) mX4_purposeOf dL_isSo_181 tb_156 pX4_purposeOf ⟨Nat.le_of_ble_eq_true rfl, Nat.le_of_ble_eq_true rfl⟩ ⟨rfl, rfl⟩ ⟨Nat.le_of_ble_eq_true rfl, Nat.le_of_ble_eq_true rfl⟩ rfl (Nat.le_of_ble_eq_true rfl) (List.range 23) (List.range' 23 8) rfl rfl (by decide) (by decide) (by decide) rfl rfl (List.range' 8 23 ++ List.range 8) (by decide) rfl ?_
                          have e_1 := (tp h0 hi).2.1
                          refine gx_top (x := bTellP C (nI i) 10) (y := nI (sHome S i)) e_1 ?_
                          refine gx_aload_n (pc := 184) hB dL_isSo_184 3 rfl ?_
                          refine gx_iload (pc := 185) hB dL_isSo_185 11 rfl ?_
                          refine gx_dSi (pc := 187) (r := nI (sHome S i)) (wr := (wZ K ad C R od sn ++ [(ug, .inl (K.2.1.2.1, 8, .inl G)), (ud, .inl (K.2.1.2.1, 56, .inl D)), (uh, .inl (K.2.1.2.1, 48, .inl H)), (uv, .inl (K.2.1.2.1, 48, .inl V)), (uj, .inl (K.2.1.2.1, 48, .inl J)), (uq, .inl (K.2.1.2.1, 48, .inl Q)), (y3, .inl (K.2.1.2.1, 10, .inl W2))])) hB (c_L_home l K uf F S a b c e i h0.1.2.1 (fun q hq => h0.2.1.2.1 q hq 9 (by omega)) (by first | assumption | omega | decide)) mL_home dL_isSo_187 tb_326 pL_home ⟨Nat.le_of_ble_eq_true rfl, Nat.le_of_ble_eq_true rfl⟩ ⟨rfl, rfl⟩ ⟨Nat.le_of_ble_eq_true rfl, Nat.le_of_ble_eq_true rfl⟩ rfl (Nat.le_of_ble_eq_true rfl) [24] [0, 1, 2, 3, 4, 5, 6, 7, 8, 9, 10, 11, 12, 13, 14, 15, 16, 17, 18, 19, 20, 21, 22, 23, 25, 26, 27, 28, 29, 30] rfl rfl (by decide) (by decide) (by decide) [0, 1, 2, 3, 4, 5, 6, 7, 8, 9, 10, 11, 12, 13, 14, 15, 16, 17, 18, 19, 20, 21, 22, 23, 30, 24, 25, 26, 27, 28, 29] (by decide) ((wZ K ad C R od sn ++ [(ug, .inl (K.2.1.2.1, 8, .inl G)), (uf, .inl (K.2.1.2.1, 60, .inl F)), (ud, .inl (K.2.1.2.1, 56, .inl D)), (uh, .inl (K.2.1.2.1, 48, .inl H)), (uv, .inl (K.2.1.2.1, 48, .inl V)), (uj, .inl (K.2.1.2.1, 48, .inl J)), (uq, .inl (K.2.1.2.1, 48, .inl Q)), (y3, .inl (K.2.1.2.1, 10, .inl W2))])) rfl ?_
                          refine gx_icmp_ne (pc := 190) hB 233 dL_isSo_190 (by decide) (fun c_28 => ?_) (fun c_28 => ?_)
                          · exact absurd rfl c_28
                          · refine gx_aload_n (pc := 193) hB dL_isSo_193 1 rfl ?_
                            refine gx_iload (pc := 194) hB dL_isSo_194 11 rfl ?_
                            refine gx_bipush (pc := 196) hB dL_isSo_196 11 (by decide) ?_
                            refine gx_dVA (pc := 198) (r := bTellP C (nI i) 11) (W1 := wZ K ad C R od sn) (wr := [(ug, .inl (K.2.1.2.1, 8, .inl G)), (uf, .inl (K.2.1.2.1, 60, .inl F)), (ud, .inl (K.2.1.2.1, 56, .inl D)), (uh, .inl (K.2.1.2.1, 48, .inl H)), (uv, .inl (K.2.1.2.1, 48, .inl V)), (uj, .inl (K.2.1.2.1, 48, .inl J)), (uq, .inl (K.2.1.2.1, 48, .inl Q)), (y3, .inl (K.2.1.2.1, 10, .inl W2))]) hB (k_purposeOf l K ad C R od sn (nI i) 11 ho hsn) mX4_purposeOf dL_isSo_198 tb_156 pX4_purposeOf ⟨Nat.le_of_ble_eq_true rfl, Nat.le_of_ble_eq_true rfl⟩ ⟨rfl, rfl⟩ ⟨Nat.le_of_ble_eq_true rfl, Nat.le_of_ble_eq_true rfl⟩ rfl (Nat.le_of_ble_eq_true rfl) (List.range 23) (List.range' 23 8) rfl rfl (by decide) (by decide) (by decide) rfl rfl (List.range' 8 23 ++ List.range 8) (by decide) rfl ?_
                            refine gx_iload (pc := 201) hB dL_isSo_201 11 rfl ?_
                            refine gx_if_ne (pc := 203) hB 213 dL_isSo_203 (by decide) (fun c_29 => ?_) (fun c_29 => ?_)
                            · refine gx_iconst (pc := 213) hB dL_isSo_213 0 (by decide) ?_
                              have e_1 := (tp h0 hi).2.2.2.1 c_29
                              refine gx_st (st' := [.int 0, .int 0]) (by rw [e_1]) ?_
                              refine gx_icmp_ne (pc := 214) hB 233 dL_isSo_214 (by decide) (fun c_30 => ?_) (fun c_30 => ?_)
                              · exact absurd c_30 (by decide)
                              · refine gx_aload_n (pc := 217) hB dL_isSo_217 1 rfl ?_
                                refine gx_iload (pc := 218) hB dL_isSo_218 11 rfl ?_
                                refine gx_bipush (pc := 220) hB dL_isSo_220 12 (by decide) ?_
                                refine gx_dVA (pc := 222) (r := bTellP C (nI i) 12) (W1 := wZ K ad C R od sn) (wr := [(ug, .inl (K.2.1.2.1, 8, .inl G)), (uf, .inl (K.2.1.2.1, 60, .inl F)), (ud, .inl (K.2.1.2.1, 56, .inl D)), (uh, .inl (K.2.1.2.1, 48, .inl H)), (uv, .inl (K.2.1.2.1, 48, .inl V)), (uj, .inl (K.2.1.2.1, 48, .inl J)), (uq, .inl (K.2.1.2.1, 48, .inl Q)), (y3, .inl (K.2.1.2.1, 10, .inl W2))]) hB (k_purposeOf l K ad C R od sn (nI i) 12 ho hsn) mX4_purposeOf dL_isSo_222 tb_156 pX4_purposeOf ⟨Nat.le_of_ble_eq_true rfl, Nat.le_of_ble_eq_true rfl⟩ ⟨rfl, rfl⟩ ⟨Nat.le_of_ble_eq_true rfl, Nat.le_of_ble_eq_true rfl⟩ rfl (Nat.le_of_ble_eq_true rfl) (List.range 23) (List.range' 23 8) rfl rfl (by decide) (by decide) (by decide) rfl rfl (List.range' 8 23 ++ List.range 8) (by decide) rfl ?_
                                have e_1 := (tp h0 hi).2.2.2.2
                                refine gx_top (x := bTellP C (nI i) 12) (y := (-1)) e_1 ?_
                                refine gx_iconst (pc := 225) hB dL_isSo_225 (-1) (by decide) ?_
                                refine gx_icmp_ne (pc := 226) hB 233 dL_isSo_226 (by decide) (fun c_31 => ?_) (fun c_31 => ?_)
                                · exact absurd c_31 (by decide)
                                · refine gx_iconst (pc := 229) hB dL_isSo_229 1 (by decide) ?_
                                  refine gx_goto (pc := 230) hB 234 dL_isSo_230 (by decide) ?_
                                  refine gx_istore (pc := 234) hB dL_isSo_234 (by decide) [(8, .int 1), (10, .int cl), (0, .ref (ad 0)), (1, .ref ug), (2, .ref uf), (3, .ref ud), (4, .ref uh), (5, .ref uv), (6, .ref uj), (7, .ref uq), (9, .ref y3), (11, .int (nI i)), (12, .int (nI (10 * i))), (13, .int (nI r))] rfl ?_
                                  refine gx_aload_n (pc := 236) hB dL_isSo_236 4 rfl ?_
                                  refine gx_iload (pc := 237) hB dL_isSo_237 12 rfl ?_
                                  refine gx_iconst (pc := 239) hB dL_isSo_239 1 (by decide) ?_
                                  refine gx_iadd (pc := 240) hB dL_isSo_240 ?_
                                  refine gx_top (show (nI (10 * i)) + 1 = nI (10 * i + 1) from nI_add (10 * i) 1) ?_
                                  refine gx_iald (pc := 241) hB dL_isSo_241 24 1 rfl rfl (10 * i + 1) rfl (by omega) (by decide) ?_
                                  refine gx_aload_n (pc := 242) hB dL_isSo_242 4 rfl ?_
                                  refine gx_iload (pc := 243) hB dL_isSo_243 12 rfl ?_
                                  refine gx_iconst (pc := 245) hB dL_isSo_245 2 (by decide) ?_
                                  refine gx_iadd (pc := 246) hB dL_isSo_246 ?_
                                  refine gx_top (show (nI (10 * i)) + 2 = nI (10 * i + 2) from nI_add (10 * i) 2) ?_
                                  refine gx_iald (pc := 247) hB dL_isSo_247 24 1 rfl rfl (10 * i + 2) rfl (by omega) (by decide) ?_
                                  refine gx_iadd (pc := 248) hB dL_isSo_248 ?_
                                  refine gx_aload_n (pc := 249) hB dL_isSo_249 4 rfl ?_
                                  refine gx_iload (pc := 250) hB dL_isSo_250 12 rfl ?_
                                  refine gx_iconst (pc := 252) hB dL_isSo_252 3 (by decide) ?_
                                  refine gx_iadd (pc := 253) hB dL_isSo_253 ?_
                                  refine gx_top (show (nI (10 * i)) + 3 = nI (10 * i + 3) from nI_add (10 * i) 3) ?_
                                  refine gx_iald (pc := 254) hB dL_isSo_254 24 1 rfl rfl (10 * i + 3) rfl (by omega) (by decide) ?_
                                  refine gx_isub (pc := 255) hB dL_isSo_255 ?_
                                  refine gx_aload_n (pc := 256) hB dL_isSo_256 4 rfl ?_
                                  refine gx_iload (pc := 257) hB dL_isSo_257 12 rfl ?_
                                  refine gx_iconst (pc := 259) hB dL_isSo_259 4 (by decide) ?_
                                  refine gx_iadd (pc := 260) hB dL_isSo_260 ?_
                                  refine gx_top (show (nI (10 * i)) + 4 = nI (10 * i + 4) from nI_add (10 * i) 4) ?_
                                  refine gx_iald (pc := 261) hB dL_isSo_261 24 1 rfl rfl (10 * i + 4) rfl (by omega) (by decide) ?_
                                  refine gx_iadd (pc := 262) hB dL_isSo_262 ?_
                                  refine gx_aload_n (pc := 263) hB dL_isSo_263 4 rfl ?_
                                  refine gx_iload (pc := 264) hB dL_isSo_264 12 rfl ?_
                                  refine gx_iconst (pc := 266) hB dL_isSo_266 5 (by decide) ?_
                                  refine gx_iadd (pc := 267) hB dL_isSo_267 ?_
                                  refine gx_top (show (nI (10 * i)) + 5 = nI (10 * i + 5) from nI_add (10 * i) 5) ?_
                                  refine gx_iald (pc := 268) hB dL_isSo_268 24 1 rfl rfl (10 * i + 5) rfl (by omega) (by decide) ?_
                                  refine gx_isub (pc := 269) hB dL_isSo_269 ?_
                                  refine gx_aload_n (pc := 270) hB dL_isSo_270 4 rfl ?_
                                  refine gx_iload (pc := 271) hB dL_isSo_271 12 rfl ?_
                                  refine gx_bipush (pc := 273) hB dL_isSo_273 6 (by decide) ?_
                                  refine gx_iadd (pc := 275) hB dL_isSo_275 ?_
                                  refine gx_top (show (nI (10 * i)) + 6 = nI (10 * i + 6) from nI_add (10 * i) 6) ?_
                                  refine gx_iald (pc := 276) hB dL_isSo_276 24 1 rfl rfl (10 * i + 6) rfl (by omega) (by decide) ?_
                                  refine gx_isub (pc := 277) hB dL_isSo_277 ?_
                                  refine gx_aload_n (pc := 278) hB dL_isSo_278 4 rfl ?_
                                  refine gx_iload (pc := 279) hB dL_isSo_279 12 rfl ?_
                                  refine gx_bipush (pc := 281) hB dL_isSo_281 7 (by decide) ?_
                                  refine gx_iadd (pc := 283) hB dL_isSo_283 ?_
                                  refine gx_top (show (nI (10 * i)) + 7 = nI (10 * i + 7) from nI_add (10 * i) 7) ?_
                                  refine gx_iald (pc := 284) hB dL_isSo_284 24 1 rfl rfl (10 * i + 7) rfl (by omega) (by decide) ?_
                                  refine gx_iadd (pc := 285) hB dL_isSo_285 ?_
                                  refine gx_aload_n (pc := 286) hB dL_isSo_286 4 rfl ?_
                                  refine gx_iload (pc := 287) hB dL_isSo_287 12 rfl ?_
                                  refine gx_bipush (pc := 289) hB dL_isSo_289 8 (by decide) ?_
                                  refine gx_iadd (pc := 291) hB dL_isSo_291 ?_
                                  refine gx_top (show (nI (10 * i)) + 8 = nI (10 * i + 8) from nI_add (10 * i) 8) ?_
                                  refine gx_iald (pc := 292) hB dL_isSo_292 24 1 rfl rfl (10 * i + 8) rfl (by omega) (by decide) ?_
                                  refine gx_isub (pc := 293) hB dL_isSo_293 ?_
                                  refine gx_iload (pc := 294) hB dL_isSo_294 11 rfl ?_
                                  refine gx_if_ne (pc := 296) hB 306 dL_isSo_296 (by decide) (fun c_32 => ?_) (fun c_32 => ?_)
                                  · refine gx_iconst (pc := 306) hB dL_isSo_306 0 (by decide) ?_
                                    refine gx_isub (pc := 307) hB dL_isSo_307 ?_
                                    refine gx_istore (pc := 308) hB dL_isSo_308 (by decide) [(13, .int (((((((((F (10 * i + 1)) + (F (10 * i + 2))) - (F (10 * i + 3))) + (F (10 * i + 4))) - (F (10 * i + 5))) - (F (10 * i + 6))) + (F (10 * i + 7))) - (F (10 * i + 8))) - 0)), (8, .int 1), (10, .int cl), (0, .ref (ad 0)), (1, .ref ug), (2, .ref uf), (3, .ref ud), (4, .ref uh), (5, .ref uv), (6, .ref uj), (7, .ref uq), (9, .ref y3), (11, .int (nI i)), (12, .int (nI (10 * i)))] rfl ?_
                                    refine gx_iload (pc := 310) hB dL_isSo_310 1 rfl ?_
                                    refine gx_if_eq (pc := 312) hB 335 dL_isSo_312 (by decide) (fun c_33 => ?_) (fun c_33 => ?_)
                                    · exact absurd c_33 (by decide)
                                    · refine gx_iload (pc := 315) hB dL_isSo_315 0 rfl ?_
                                      refine gx_aload_n (pc := 317) hB dL_isSo_317 5 rfl ?_
                                      refine gx_iload (pc := 318) hB dL_isSo_318 13 rfl ?_
                                      refine gx_iald (pc := 320) hB dL_isSo_320 24 1 rfl rfl (10 * i) rfl (by omega) (by decide) ?_
                                      have e_1 := (acc_F h0 hi).2.1 c_32
                                      refine gx_st (st' := [.int (F (10 * i)), .int (F (10 * i))]) (by rw [e_1]) ?_
                                      refine gx_icmp_ne (pc := 321) hB 335 dL_isSo_321 (by decide) (fun c_34 => ?_) (fun c_34 => ?_)
                                      · exact absurd rfl c_34
                                      · refine gx_aload_n (pc := 324) hB dL_isSo_324 5 rfl ?_
                                        refine gx_iload (pc := 325) hB dL_isSo_325 13 rfl ?_
                                        refine gx_iald (pc := 327) hB dL_isSo_327 24 1 rfl rfl (10 * i) rfl (by omega) (by decide) ?_
                                        refine gx_if_lt (pc := 328) hB 335 dL_isSo_328 (by decide) (fun c_35 => ?_) (fun c_35 => ?_)
                                        · exact absurd c_35 (acc_F h0 hi).2.2
                                        · refine gx_iconst (pc := 331) hB dL_isSo_331 1 (by decide) ?_
                                          refine gx_goto (pc := 332) hB 336 dL_isSo_332 (by decide) ?_
                                          refine gx_istore (pc := 336) hB dL_isSo_336 (by decide) [(8, .int 1), (13, .int (((((((((F (10 * i + 1)) + (F (10 * i + 2))) - (F (10 * i + 3))) + (F (10 * i + 4))) - (F (10 * i + 5))) - (F (10 * i + 6))) + (F (10 * i + 7))) - (F (10 * i + 8))) - 0)), (10, .int cl), (0, .ref (ad 0)), (1, .ref ug), (2, .ref uf), (3, .ref ud), (4, .ref uh), (5, .ref uv), (6, .ref uj), (7, .ref uq), (9, .ref y3), (11, .int (nI i)), (12, .int (nI (10 * i)))] rfl ?_
                                          refine gx_iinc (pc := 338) hB dL_isSo_338 12 (by decide) rfl (nI (i + 1)) (nI_1 _) [(11, .int (nI (i + 1))), (8, .int 1), (13, .int (((((((((F (10 * i + 1)) + (F (10 * i + 2))) - (F (10 * i + 3))) + (F (10 * i + 4))) - (F (10 * i + 5))) - (F (10 * i + 6))) + (F (10 * i + 7))) - (F (10 * i + 8))) - 0)), (10, .int cl), (0, .ref (ad 0)), (1, .ref ug), (2, .ref uf), (3, .ref ud), (4, .ref uh), (5, .ref uv), (6, .ref uj), (7, .ref uq), (9, .ref y3), (12, .int (nI (10 * i)))] rfl ?_
                                          refine gx_goto (pc := 341) hB 52 dL_isSo_341 (by decide) ?_
                                          refine gx_sub hB (lv' := [(0, .ref (ad 0)), (1, .ref ug), (2, .ref uf), (3, .ref ud), (4, .ref uh), (5, .ref uv), (6, .ref uj), (7, .ref uq), (8, .int 1), (9, .ref y3), (10, .int cl), (11, .int (nI (i + 1)))]) [4, 5, 6, 7, 8, 9, 10, 11, 1, 12, 3, 0] rfl ?_
                                          exact ih52 (i + 1) cl W2 (by omega) hV9 (by rw [hc, shut_s, ← e9, if_pos c_25, Int32.add_zero])
                                  · exact (by first | exact absurd c_29 c_32 | exact absurd c_32 c_29 | exact absurd c_29 (Int32.not_le.mpr c_32) | exact absurd c_29 (Int32.not_lt.mpr c_32) | exact absurd (Int32.not_le.mp c_29) c_32 | exact absurd (Int32.not_lt.mp c_29) c_32)
                            · refine gx_aload_n (pc := 206) hB dL_isSo_206 2 rfl ?_
                              refine gx_bipush (pc := 207) hB dL_isSo_207 7 (by decide) ?_
                              refine gx_iald (pc := 209) hB dL_isSo_209 23 1 rfl rfl 7 rfl (by decide) (by decide) ?_
                              refine gx_goto (pc := 210) hB 214 dL_isSo_210 (by decide) ?_
                              have e_1 := (tp h0 hi).2.2.1 c_29
                              refine gx_st (st' := [.int (G 7), .int (G 7)]) (by rw [e_1]) ?_
                              refine gx_icmp_ne (pc := 214) hB 233 dL_isSo_214 (by decide) (fun c_36 => ?_) (fun c_36 => ?_)
                              · exact absurd rfl c_36
                              · refine gx_aload_n (pc := 217) hB dL_isSo_217 1 rfl ?_
                                refine gx_iload (pc := 218) hB dL_isSo_218 11 rfl ?_
                                refine gx_bipush (pc := 220) hB dL_isSo_220 12 (by decide) ?_
                                refine gx_dVA (pc := 222) (r := bTellP C (nI i) 12) (W1 := wZ K ad C R od sn) (wr := [(ug, .inl (K.2.1.2.1, 8, .inl G)), (uf, .inl (K.2.1.2.1, 60, .inl F)), (ud, .inl (K.2.1.2.1, 56, .inl D)), (uh, .inl (K.2.1.2.1, 48, .inl H)), (uv, .inl (K.2.1.2.1, 48, .inl V)), (uj, .inl (K.2.1.2.1, 48, .inl J)), (uq, .inl (K.2.1.2.1, 48, .inl Q)), (y3, .inl (K.2.1.2.1, 10, .inl W2))]) hB (k_purposeOf l K ad C R od sn (nI i) 12 ho hsn) mX4_purposeOf dL_isSo_222 tb_156 pX4_purposeOf ⟨Nat.le_of_ble_eq_true rfl, Nat.le_of_ble_eq_true rfl⟩ ⟨rfl, rfl⟩ ⟨Nat.le_of_ble_eq_true rfl, Nat.le_of_ble_eq_true rfl⟩ rfl (Nat.le_of_ble_eq_true rfl) (List.range 23) (List.range' 23 8) rfl rfl (by decide) (by decide) (by decide) rfl rfl (List.range' 8 23 ++ List.range 8) (by decide) rfl ?_
                                have e_1 := (tp h0 hi).2.2.2.2
                                refine gx_top (x := bTellP C (nI i) 12) (y := (-1)) e_1 ?_
                                refine gx_iconst (pc := 225) hB dL_isSo_225 (-1) (by decide) ?_
                                refine gx_icmp_ne (pc := 226) hB 233 dL_isSo_226 (by decide) (fun c_37 => ?_) (fun c_37 => ?_)
                                · exact absurd c_37 (by decide)
                                · refine gx_iconst (pc := 229) hB dL_isSo_229 1 (by decide) ?_
                                  refine gx_goto (pc := 230) hB 234 dL_isSo_230 (by decide) ?_
                                  refine gx_istore (pc := 234) hB dL_isSo_234 (by decide) [(8, .int 1), (10, .int cl), (0, .ref (ad 0)), (1, .ref ug), (2, .ref uf), (3, .ref ud), (4, .ref uh), (5, .ref uv), (6, .ref uj), (7, .ref uq), (9, .ref y3), (11, .int (nI i)), (12, .int (nI (10 * i))), (13, .int (nI r))] rfl ?_
                                  refine gx_aload_n (pc := 236) hB dL_isSo_236 4 rfl ?_
                                  refine gx_iload (pc := 237) hB dL_isSo_237 12 rfl ?_
                                  refine gx_iconst (pc := 239) hB dL_isSo_239 1 (by decide) ?_
                                  refine gx_iadd (pc := 240) hB dL_isSo_240 ?_
                                  refine gx_top (show (nI (10 * i)) + 1 = nI (10 * i + 1) from nI_add (10 * i) 1) ?_
                                  refine gx_iald (pc := 241) hB dL_isSo_241 24 1 rfl rfl (10 * i + 1) rfl (by omega) (by decide) ?_
                                  refine gx_aload_n (pc := 242) hB dL_isSo_242 4 rfl ?_
                                  refine gx_iload (pc := 243) hB dL_isSo_243 12 rfl ?_
                                  refine gx_iconst (pc := 245) hB dL_isSo_245 2 (by decide) ?_
                                  refine gx_iadd (pc := 246) hB dL_isSo_246 ?_
                                  refine gx_top (show (nI (10 * i)) + 2 = nI (10 * i + 2) from nI_add (10 * i) 2) ?_
                                  refine gx_iald (pc := 247) hB dL_isSo_247 24 1 rfl rfl (10 * i + 2) rfl (by omega) (by decide) ?_
                                  refine gx_iadd (pc := 248) hB dL_isSo_248 ?_
                                  refine gx_aload_n (pc := 249) hB dL_isSo_249 4 rfl ?_
                                  refine gx_iload (pc := 250) hB dL_isSo_250 12 rfl ?_
                                  refine gx_iconst (pc := 252) hB dL_isSo_252 3 (by decide) ?_
                                  refine gx_iadd (pc := 253) hB dL_isSo_253 ?_
                                  refine gx_top (show (nI (10 * i)) + 3 = nI (10 * i + 3) from nI_add (10 * i) 3) ?_
                                  refine gx_iald (pc := 254) hB dL_isSo_254 24 1 rfl rfl (10 * i + 3) rfl (by omega) (by decide) ?_
                                  refine gx_isub (pc := 255) hB dL_isSo_255 ?_
                                  refine gx_aload_n (pc := 256) hB dL_isSo_256 4 rfl ?_
                                  refine gx_iload (pc := 257) hB dL_isSo_257 12 rfl ?_
                                  refine gx_iconst (pc := 259) hB dL_isSo_259 4 (by decide) ?_
                                  refine gx_iadd (pc := 260) hB dL_isSo_260 ?_
                                  refine gx_top (show (nI (10 * i)) + 4 = nI (10 * i + 4) from nI_add (10 * i) 4) ?_
                                  refine gx_iald (pc := 261) hB dL_isSo_261 24 1 rfl rfl (10 * i + 4) rfl (by omega) (by decide) ?_
                                  refine gx_iadd (pc := 262) hB dL_isSo_262 ?_
                                  refine gx_aload_n (pc := 263) hB dL_isSo_263 4 rfl ?_
                                  refine gx_iload (pc := 264) hB dL_isSo_264 12 rfl ?_
                                  refine gx_iconst (pc := 266) hB dL_isSo_266 5 (by decide) ?_
                                  refine gx_iadd (pc := 267) hB dL_isSo_267 ?_
                                  refine gx_top (show (nI (10 * i)) + 5 = nI (10 * i + 5) from nI_add (10 * i) 5) ?_
                                  refine gx_iald (pc := 268) hB dL_isSo_268 24 1 rfl rfl (10 * i + 5) rfl (by omega) (by decide) ?_
                                  refine gx_isub (pc := 269) hB dL_isSo_269 ?_
                                  refine gx_aload_n (pc := 270) hB dL_isSo_270 4 rfl ?_
                                  refine gx_iload (pc := 271) hB dL_isSo_271 12 rfl ?_
                                  refine gx_bipush (pc := 273) hB dL_isSo_273 6 (by decide) ?_
                                  refine gx_iadd (pc := 275) hB dL_isSo_275 ?_
                                  refine gx_top (show (nI (10 * i)) + 6 = nI (10 * i + 6) from nI_add (10 * i) 6) ?_
                                  refine gx_iald (pc := 276) hB dL_isSo_276 24 1 rfl rfl (10 * i + 6) rfl (by omega) (by decide) ?_
                                  refine gx_isub (pc := 277) hB dL_isSo_277 ?_
                                  refine gx_aload_n (pc := 278) hB dL_isSo_278 4 rfl ?_
                                  refine gx_iload (pc := 279) hB dL_isSo_279 12 rfl ?_
                                  refine gx_bipush (pc := 281) hB dL_isSo_281 7 (by decide) ?_
                                  refine gx_iadd (pc := 283) hB dL_isSo_283 ?_
                                  refine gx_top (show (nI (10 * i)) + 7 = nI (10 * i + 7) from nI_add (10 * i) 7) ?_
                                  refine gx_iald (pc := 284) hB dL_isSo_284 24 1 rfl rfl (10 * i + 7) rfl (by omega) (by decide) ?_
                                  refine gx_iadd (pc := 285) hB dL_isSo_285 ?_
                                  refine gx_aload_n (pc := 286) hB dL_isSo_286 4 rfl ?_
                                  refine gx_iload (pc := 287) hB dL_isSo_287 12 rfl ?_
                                  refine gx_bipush (pc := 289) hB dL_isSo_289 8 (by decide) ?_
                                  refine gx_iadd (pc := 291) hB dL_isSo_291 ?_
                                  refine gx_top (show (nI (10 * i)) + 8 = nI (10 * i + 8) from nI_add (10 * i) 8) ?_
                                  refine gx_iald (pc := 292) hB dL_isSo_292 24 1 rfl rfl (10 * i + 8) rfl (by omega) (by decide) ?_
                                  refine gx_isub (pc := 293) hB dL_isSo_293 ?_
                                  refine gx_iload (pc := 294) hB dL_isSo_294 11 rfl ?_
                                  refine gx_if_ne (pc := 296) hB 306 dL_isSo_296 (by decide) (fun c_38 => ?_) (fun c_38 => ?_)
                                  · exact (by first | exact absurd c_29 c_38 | exact absurd c_38 c_29 | exact absurd c_29 (Int32.not_le.mpr c_38) | exact absurd c_29 (Int32.not_lt.mpr c_38) | exact absurd (Int32.not_le.mp c_29) c_38 | exact absurd (Int32.not_lt.mp c_29) c_38)
                                  · refine gx_aload_n (pc := 299) hB dL_isSo_299 3 rfl ?_
                                    refine gx_bipush (pc := 300) hB dL_isSo_300 7 (by decide) ?_
                                    refine gx_iald (pc := 302) hB dL_isSo_302 23 1 rfl rfl 7 rfl (by decide) (by decide) ?_
                                    refine gx_goto (pc := 303) hB 307 dL_isSo_303 (by decide) ?_
                                    refine gx_isub (pc := 307) hB dL_isSo_307 ?_
                                    refine gx_istore (pc := 308) hB dL_isSo_308 (by decide) [(13, .int (((((((((F (10 * i + 1)) + (F (10 * i + 2))) - (F (10 * i + 3))) + (F (10 * i + 4))) - (F (10 * i + 5))) - (F (10 * i + 6))) + (F (10 * i + 7))) - (F (10 * i + 8))) - G 7)), (8, .int 1), (10, .int cl), (0, .ref (ad 0)), (1, .ref ug), (2, .ref uf), (3, .ref ud), (4, .ref uh), (5, .ref uv), (6, .ref uj), (7, .ref uq), (9, .ref y3), (11, .int (nI i)), (12, .int (nI (10 * i)))] rfl ?_
                                    refine gx_iload (pc := 310) hB dL_isSo_310 1 rfl ?_
                                    refine gx_if_eq (pc := 312) hB 335 dL_isSo_312 (by decide) (fun c_39 => ?_) (fun c_39 => ?_)
                                    · exact absurd c_39 (by decide)
                                    · refine gx_iload (pc := 315) hB dL_isSo_315 0 rfl ?_
                                      refine gx_aload_n (pc := 317) hB dL_isSo_317 5 rfl ?_
                                      refine gx_iload (pc := 318) hB dL_isSo_318 13 rfl ?_
                                      refine gx_iald (pc := 320) hB dL_isSo_320 24 1 rfl rfl (10 * i) rfl (by omega) (by decide) ?_
                                      have e_1 := (acc_F h0 hi).1 c_38
                                      refine gx_st (st' := [.int (F (10 * i)), .int (F (10 * i))]) (by rw [e_1]) ?_
                                      refine gx_icmp_ne (pc := 321) hB 335 dL_isSo_321 (by decide) (fun c_40 => ?_) (fun c_40 => ?_)
                                      · exact absurd rfl c_40
                                      · refine gx_aload_n (pc := 324) hB dL_isSo_324 5 rfl ?_
                                        refine gx_iload (pc := 325) hB dL_isSo_325 13 rfl ?_
                                        refine gx_iald (pc := 327) hB dL_isSo_327 24 1 rfl rfl (10 * i) rfl (by omega) (by decide) ?_
                                        refine gx_if_lt (pc := 328) hB 335 dL_isSo_328 (by decide) (fun c_41 => ?_) (fun c_41 => ?_)
                                        · exact absurd c_41 (acc_F h0 hi).2.2
                                        · refine gx_iconst (pc := 331) hB dL_isSo_331 1 (by decide) ?_
                                          refine gx_goto (pc := 332) hB 336 dL_isSo_332 (by decide) ?_
                                          refine gx_istore (pc := 336) hB dL_isSo_336 (by decide) [(8, .int 1), (13, .int (((((((((F (10 * i + 1)) + (F (10 * i + 2))) - (F (10 * i + 3))) + (F (10 * i + 4))) - (F (10 * i + 5))) - (F (10 * i + 6))) + (F (10 * i + 7))) - (F (10 * i + 8))) - G 7)), (10, .int cl), (0, .ref (ad 0)), (1, .ref ug), (2, .ref uf), (3, .ref ud), (4, .ref uh), (5, .ref uv), (6, .ref uj), (7, .ref uq), (9, .ref y3), (11, .int (nI i)), (12, .int (nI (10 * i)))] rfl ?_
                                          refine gx_iinc (pc := 338) hB dL_isSo_338 12 (by decide) rfl (nI (i + 1)) (nI_1 _) [(11, .int (nI (i + 1))), (8, .int 1), (13, .int (((((((((F (10 * i + 1)) + (F (10 * i + 2))) - (F (10 * i + 3))) + (F (10 * i + 4))) - (F (10 * i + 5))) - (F (10 * i + 6))) + (F (10 * i + 7))) - (F (10 * i + 8))) - G 7)), (10, .int cl), (0, .ref (ad 0)), (1, .ref ug), (2, .ref uf), (3, .ref ud), (4, .ref uh), (5, .ref uv), (6, .ref uj), (7, .ref uq), (9, .ref y3), (12, .int (nI (10 * i)))] rfl ?_
                                          refine gx_goto (pc := 341) hB 52 dL_isSo_341 (by decide) ?_
                                          refine gx_sub hB (lv' := [(0, .ref (ad 0)), (1, .ref ug), (2, .ref uf), (3, .ref ud), (4, .ref uh), (5, .ref uv), (6, .ref uj), (7, .ref uq), (8, .int 1), (9, .ref y3), (10, .int cl), (11, .int (nI (i + 1)))]) [4, 5, 6, 7, 8, 9, 10, 11, 1, 12, 3, 0] rfl ?_
                                          exact ih52 (i + 1) cl W2 (by omega) hV9 (by rw [hc, shut_s, ← e9, if_pos c_25, Int32.add_zero])
                    · refine gx_iconst (pc := 145) hB dL_isSo_145 1 (by decide) ?_
                      refine gx_goto (pc := 146) hB 150 dL_isSo_146 (by decide) ?_
                      refine gx_iadd (pc := 150) hB dL_isSo_150 ?_
                      refine gx_istore (pc := 151) hB dL_isSo_151 (by decide) [(10, .int (cl + 1)), (0, .ref (ad 0)), (1, .ref ug), (2, .ref uf), (3, .ref ud), (4, .ref uh), (5, .ref uv), (6, .ref uj), (7, .ref uq), (8, .int 1), (9, .ref y3), (11, .int (nI i)), (12, .int (nI (10 * i))), (13, .int (nI r))] rfl ?_
                      refine gx_iload (pc := 153) hB dL_isSo_153 9 rfl ?_
                      refine gx_if_eq (pc := 155) hB 233 dL_isSo_155 (by decide) (fun c_42 => ?_) (fun c_42 => ?_)
                      · exact absurd c_42 (by decide)
                      · refine gx_aload_n (pc := 158) hB dL_isSo_158 1 rfl ?_
                        refine gx_iload (pc := 159) hB dL_isSo_159 11 rfl ?_
                        refine gx_bipush (pc := 161) hB dL_isSo_161 9 (by decide) ?_
                        refine gx_dVA (pc := 163) (r := bTellP C (nI i) 9) (W1 := wZ K ad C R od sn) (wr := [(ug, .inl (K.2.1.2.1, 8, .inl G)), (uf, .inl (K.2.1.2.1, 60, .inl F)), (ud, .inl (K.2.1.2.1, 56, .inl D)), (uh, .inl (K.2.1.2.1, 48, .inl H)), (uv, .inl (K.2.1.2.1, 48, .inl V)), (uj, .inl (K.2.1.2.1, 48, .inl J)), (uq, .inl (K.2.1.2.1, 48, .inl Q)), (y3, .inl (K.2.1.2.1, 10, .inl W2))]) hB (k_purposeOf l K ad C R od sn (nI i) 9 ho hsn) mX4_purposeOf dL_isSo_163 tb_156 pX4_purposeOf ⟨Nat.le_of_ble_eq_true rfl, Nat.le_of_ble_eq_true rfl⟩ ⟨rfl, rfl⟩ ⟨Nat.le_of_ble_eq_true rfl, Nat.le_of_ble_eq_true rfl⟩ rfl (Nat.le_of_ble_eq_true rfl) (List.range 23) (List.range' 23 8) rfl rfl (by decide) (by decide) (by decide) rfl rfl (List.range' 8 23 ++ List.range 8) (by decide) rfl ?_
                        have e_1 := (tp h0 hi).1
                        refine gx_top (x := bTellP C (nI i) 9) (y := F (10 * i + 9)) e_1 ?_
                        refine gx_aload_n (pc := 166) hB dL_isSo_166 3 rfl ?_
                        refine gx_iload (pc := 167) hB dL_isSo_167 12 rfl ?_
                        refine gx_bipush (pc := 169) hB dL_isSo_169 9 (by decide) ?_
                        refine gx_iadd (pc := 171) hB dL_isSo_171 ?_
                        refine gx_top (show (nI (10 * i)) + 9 = nI (10 * i + 9) from nI_add (10 * i) 9) ?_
                        refine gx_iald (pc := 172) hB dL_isSo_172 24 1 rfl rfl (10 * i + 9) rfl (by omega) (by decide) ?_
                        refine gx_icmp_ne (pc := 173) hB 233 dL_isSo_173 (by decide) (fun c_43 => ?_) (fun c_43 => ?_)
                        · exact absurd rfl c_43
                        · refine gx_aload_n (pc := 176) hB dL_isSo_176 1 rfl ?_
                          refine gx_iload (pc := 177) hB dL_isSo_177 11 rfl ?_
                          refine gx_bipush (pc := 179) hB dL_isSo_179 10 (by decide) ?_
                          refine gx_dVA (pc := 181) (r := bTellP C (nI i) 10) (W1 := wZ K ad C R od sn) (wr := [(ug, .inl (K.2.1.2.1, 8, .inl G)), (uf, .inl (K.2.1.2.1, 60, .inl F)), (ud, .inl (K.2.1.2.1, 56, .inl D)), (uh, .inl (K.2.1.2.1, 48, .inl H)), (uv, .inl (K.2.1.2.1, 48, .inl V)), (uj, .inl (K.2.1.2.1, 48, .inl J)), (uq, .inl (K.2.1.2.1, 48, .inl Q)), (y3, .inl (K.2.1.2.1, 10, .inl W2))]) hB (k_purposeOf l K ad C R od sn (nI i) 10 ho hsn) mX4_purposeOf dL_isSo_181 tb_156 pX4_purposeOf ⟨Nat.le_of_ble_eq_true rfl, Nat.le_of_ble_eq_true rfl⟩ ⟨rfl, rfl⟩ ⟨Nat.le_of_ble_eq_true rfl, Nat.le_of_ble_eq_true rfl⟩ rfl (Nat.le_of_ble_eq_true rfl) (List.range 23) (List.range' 23 8) rfl rfl (by decide) (by decide) (by decide) rfl rfl (List.range' 8 23 ++ List.range 8) (by decide) rfl ?_
                          have e_1 := (tp h0 hi).2.1
                          refine gx_top (x := bTellP C (nI i) 10) (y := nI (sHome S i)) e_1 ?_
                          refine gx_aload_n (pc := 184) hB dL_isSo_184 3 rfl ?_
                          refine gx_iload (pc := 185) hB dL_isSo_185 11 rfl ?_
                          refine gx_dSi (pc := 187) (r := nI (sHome S i)) (wr := (wZ K ad C R od sn ++ [(ug, .inl (K.2.1.2.1, 8, .inl G)), (ud, .inl (K.2.1.2.1, 56, .inl D)), (uh, .inl (K.2.1.2.1, 48, .inl H)), (uv, .inl (K.2.1.2.1, 48, .inl V)), (uj, .inl (K.2.1.2.1, 48, .inl J)), (uq, .inl (K.2.1.2.1, 48, .inl Q)), (y3, .inl (K.2.1.2.1, 10, .inl W2))])) hB (c_L_home l K uf F S a b c e i h0.1.2.1 (fun q hq => h0.2.1.2.1 q hq 9 (by omega)) (by first | assumption | omega | decide)) mL_home dL_isSo_187 tb_326 pL_home ⟨Nat.le_of_ble_eq_true rfl, Nat.le_of_ble_eq_true rfl⟩ ⟨rfl, rfl⟩ ⟨Nat.le_of_ble_eq_true rfl, Nat.le_of_ble_eq_true rfl⟩ rfl (Nat.le_of_ble_eq_true rfl) [24] [0, 1, 2, 3, 4, 5, 6, 7, 8, 9, 10, 11, 12, 13, 14, 15, 16, 17, 18, 19, 20, 21, 22, 23, 25, 26, 27, 28, 29, 30] rfl rfl (by decide) (by decide) (by decide) [0, 1, 2, 3, 4, 5, 6, 7, 8, 9, 10, 11, 12, 13, 14, 15, 16, 17, 18, 19, 20, 21, 22, 23, 30, 24, 25, 26, 27, 28, 29] (by decide) ((wZ K ad C R od sn ++ [(ug, .inl (K.2.1.2.1, 8, .inl G)), (uf, .inl (K.2.1.2.1, 60, .inl F)), (ud, .inl (K.2.1.2.1, 56, .inl D)), (uh, .inl (K.2.1.2.1, 48, .inl H)), (uv, .inl (K.2.1.2.1, 48, .inl V)), (uj, .inl (K.2.1.2.1, 48, .inl J)), (uq, .inl (K.2.1.2.1, 48, .inl Q)), (y3, .inl (K.2.1.2.1, 10, .inl W2))])) rfl ?_
                          refine gx_icmp_ne (pc := 190) hB 233 dL_isSo_190 (by decide) (fun c_44 => ?_) (fun c_44 => ?_)
                          · exact absurd rfl c_44
                          · refine gx_aload_n (pc := 193) hB dL_isSo_193 1 rfl ?_
                            refine gx_iload (pc := 194) hB dL_isSo_194 11 rfl ?_
                            refine gx_bipush (pc := 196) hB dL_isSo_196 11 (by decide) ?_
                            refine gx_dVA (pc := 198) (r := bTellP C (nI i) 11) (W1 := wZ K ad C R od sn) (wr := [(ug, .inl (K.2.1.2.1, 8, .inl G)), (uf, .inl (K.2.1.2.1, 60, .inl F)), (ud, .inl (K.2.1.2.1, 56, .inl D)), (uh, .inl (K.2.1.2.1, 48, .inl H)), (uv, .inl (K.2.1.2.1, 48, .inl V)), (uj, .inl (K.2.1.2.1, 48, .inl J)), (uq, .inl (K.2.1.2.1, 48, .inl Q)), (y3, .inl (K.2.1.2.1, 10, .inl W2))]) hB (k_purposeOf l K ad C R od sn (nI i) 11 ho hsn) mX4_purposeOf dL_isSo_198 tb_156 pX4_purposeOf ⟨Nat.le_of_ble_eq_true rfl, Nat.le_of_ble_eq_true rfl⟩ ⟨rfl, rfl⟩ ⟨Nat.le_of_ble_eq_true rfl, Nat.le_of_ble_eq_true rfl⟩ rfl (Nat.le_of_ble_eq_true rfl) (List.range 23) (List.range' 23 8) rfl rfl (by decide) (by decide) (by decide) rfl rfl (List.range' 8 23 ++ List.range 8) (by decide) rfl ?_
                            refine gx_iload (pc := 201) hB dL_isSo_201 11 rfl ?_
                            refine gx_if_ne (pc := 203) hB 213 dL_isSo_203 (by decide) (fun c_45 => ?_) (fun c_45 => ?_)
                            · refine gx_iconst (pc := 213) hB dL_isSo_213 0 (by decide) ?_
                              have e_1 := (tp h0 hi).2.2.2.1 c_45
                              refine gx_st (st' := [.int 0, .int 0]) (by rw [e_1]) ?_
                              refine gx_icmp_ne (pc := 214) hB 233 dL_isSo_214 (by decide) (fun c_46 => ?_) (fun c_46 => ?_)
                              · exact absurd c_46 (by decide)
                              · refine gx_aload_n (pc := 217) hB dL_isSo_217 1 rfl ?_
                                refine gx_iload (pc := 218) hB dL_isSo_218 11 rfl ?_
                                refine gx_bipush (pc := 220) hB dL_isSo_220 12 (by decide) ?_
                                refine gx_dVA (pc := 222) (r := bTellP C (nI i) 12) (W1 := wZ K ad C R od sn) (wr := [(ug, .inl (K.2.1.2.1, 8, .inl G)), (uf, .inl (K.2.1.2.1, 60, .inl F)), (ud, .inl (K.2.1.2.1, 56, .inl D)), (uh, .inl (K.2.1.2.1, 48, .inl H)), (uv, .inl (K.2.1.2.1, 48, .inl V)), (uj, .inl (K.2.1.2.1, 48, .inl J)), (uq, .inl (K.2.1.2.1, 48, .inl Q)), (y3, .inl (K.2.1.2.1, 10, .inl W2))]) hB (k_purposeOf l K ad C R od sn (nI i) 12 ho hsn) mX4_purposeOf dL_isSo_222 tb_156 pX4_purposeOf ⟨Nat.le_of_ble_eq_true rfl, Nat.le_of_ble_eq_true rfl⟩ ⟨rfl, rfl⟩ ⟨Nat.le_of_ble_eq_true rfl, Nat.le_of_ble_eq_true rfl⟩ rfl (Nat.le_of_ble_eq_true rfl) (List.range 23) (List.range' 23 8) rfl rfl (by decide) (by decide) (by decide) rfl rfl (List.range' 8 23 ++ List.range 8) (by decide) rfl ?_
                                have e_1 := (tp h0 hi).2.2.2.2
                                refine gx_top (x := bTellP C (nI i) 12) (y := (-1)) e_1 ?_
                                refine gx_iconst (pc := 225) hB dL_isSo_225 (-1) (by decide) ?_
                                refine gx_icmp_ne (pc := 226) hB 233 dL_isSo_226 (by decide) (fun c_47 => ?_) (fun c_47 => ?_)
                                · exact absurd c_47 (by decide)
                                · refine gx_iconst (pc := 229) hB dL_isSo_229 1 (by decide) ?_
                                  refine gx_goto (pc := 230) hB 234 dL_isSo_230 (by decide) ?_
                                  refine gx_istore (pc := 234) hB dL_isSo_234 (by decide) [(8, .int 1), (10, .int (cl + 1)), (0, .ref (ad 0)), (1, .ref ug), (2, .ref uf), (3, .ref ud), (4, .ref uh), (5, .ref uv), (6, .ref uj), (7, .ref uq), (9, .ref y3), (11, .int (nI i)), (12, .int (nI (10 * i))), (13, .int (nI r))] rfl ?_
                                  refine gx_aload_n (pc := 236) hB dL_isSo_236 4 rfl ?_
                                  refine gx_iload (pc := 237) hB dL_isSo_237 12 rfl ?_
                                  refine gx_iconst (pc := 239) hB dL_isSo_239 1 (by decide) ?_
                                  refine gx_iadd (pc := 240) hB dL_isSo_240 ?_
                                  refine gx_top (show (nI (10 * i)) + 1 = nI (10 * i + 1) from nI_add (10 * i) 1) ?_
                                  refine gx_iald (pc := 241) hB dL_isSo_241 24 1 rfl rfl (10 * i + 1) rfl (by omega) (by decide) ?_
                                  refine gx_aload_n (pc := 242) hB dL_isSo_242 4 rfl ?_
                                  refine gx_iload (pc := 243) hB dL_isSo_243 12 rfl ?_
                                  refine gx_iconst (pc := 245) hB dL_isSo_245 2 (by decide) ?_
                                  refine gx_iadd (pc := 246) hB dL_isSo_246 ?_
                                  refine gx_top (show (nI (10 * i)) + 2 = nI (10 * i + 2) from nI_add (10 * i) 2) ?_
                                  refine gx_iald (pc := 247) hB dL_isSo_247 24 1 rfl rfl (10 * i + 2) rfl (by omega) (by decide) ?_
                                  refine gx_iadd (pc := 248) hB dL_isSo_248 ?_
                                  refine gx_aload_n (pc := 249) hB dL_isSo_249 4 rfl ?_
                                  refine gx_iload (pc := 250) hB dL_isSo_250 12 rfl ?_
                                  refine gx_iconst (pc := 252) hB dL_isSo_252 3 (by decide) ?_
                                  refine gx_iadd (pc := 253) hB dL_isSo_253 ?_
                                  refine gx_top (show (nI (10 * i)) + 3 = nI (10 * i + 3) from nI_add (10 * i) 3) ?_
                                  refine gx_iald (pc := 254) hB dL_isSo_254 24 1 rfl rfl (10 * i + 3) rfl (by omega) (by decide) ?_
                                  refine gx_isub (pc := 255) hB dL_isSo_255 ?_
                                  refine gx_aload_n (pc := 256) hB dL_isSo_256 4 rfl ?_
                                  refine gx_iload (pc := 257) hB dL_isSo_257 12 rfl ?_
                                  refine gx_iconst (pc := 259) hB dL_isSo_259 4 (by decide) ?_
                                  refine gx_iadd (pc := 260) hB dL_isSo_260 ?_
                                  refine gx_top (show (nI (10 * i)) + 4 = nI (10 * i + 4) from nI_add (10 * i) 4) ?_
                                  refine gx_iald (pc := 261) hB dL_isSo_261 24 1 rfl rfl (10 * i + 4) rfl (by omega) (by decide) ?_
                                  refine gx_iadd (pc := 262) hB dL_isSo_262 ?_
                                  refine gx_aload_n (pc := 263) hB dL_isSo_263 4 rfl ?_
                                  refine gx_iload (pc := 264) hB dL_isSo_264 12 rfl ?_
                                  refine gx_iconst (pc := 266) hB dL_isSo_266 5 (by decide) ?_
                                  refine gx_iadd (pc := 267) hB dL_isSo_267 ?_
                                  refine gx_top (show (nI (10 * i)) + 5 = nI (10 * i + 5) from nI_add (10 * i) 5) ?_
                                  refine gx_iald (pc := 268) hB dL_isSo_268 24 1 rfl rfl (10 * i + 5) rfl (by omega) (by decide) ?_
                                  refine gx_isub (pc := 269) hB dL_isSo_269 ?_
                                  refine gx_aload_n (pc := 270) hB dL_isSo_270 4 rfl ?_
                                  refine gx_iload (pc := 271) hB dL_isSo_271 12 rfl ?_
                                  refine gx_bipush (pc := 273) hB dL_isSo_273 6 (by decide) ?_
                                  refine gx_iadd (pc := 275) hB dL_isSo_275 ?_
                                  refine gx_top (show (nI (10 * i)) + 6 = nI (10 * i + 6) from nI_add (10 * i) 6) ?_
                                  refine gx_iald (pc := 276) hB dL_isSo_276 24 1 rfl rfl (10 * i + 6) rfl (by omega) (by decide) ?_
                                  refine gx_isub (pc := 277) hB dL_isSo_277 ?_
                                  refine gx_aload_n (pc := 278) hB dL_isSo_278 4 rfl ?_
                                  refine gx_iload (pc := 279) hB dL_isSo_279 12 rfl ?_
                                  refine gx_bipush (pc := 281) hB dL_isSo_281 7 (by decide) ?_
                                  refine gx_iadd (pc := 283) hB dL_isSo_283 ?_
                                  refine gx_top (show (nI (10 * i)) + 7 = nI (10 * i + 7) from nI_add (10 * i) 7) ?_
                                  refine gx_iald (pc := 284) hB dL_isSo_284 24 1 rfl rfl (10 * i + 7) rfl (by omega) (by decide) ?_
                                  refine gx_iadd (pc := 285) hB dL_isSo_285 ?_
                                  refine gx_aload_n (pc := 286) hB dL_isSo_286 4 rfl ?_
                                  refine gx_iload (pc := 287) hB dL_isSo_287 12 rfl ?_
                                  refine gx_bipush (pc := 289) hB dL_isSo_289 8 (by decide) ?_
                                  refine gx_iadd (pc := 291) hB dL_isSo_291 ?_
                                  refine gx_top (show (nI (10 * i)) + 8 = nI (10 * i + 8) from nI_add (10 * i) 8) ?_
                                  refine gx_iald (pc := 292) hB dL_isSo_292 24 1 rfl rfl (10 * i + 8) rfl (by omega) (by decide) ?_
                                  refine gx_isub (pc := 293) hB dL_isSo_293 ?_
                                  refine gx_iload (pc := 294) hB dL_isSo_294 11 rfl ?_
                                  refine gx_if_ne (pc := 296) hB 306 dL_isSo_296 (by decide) (fun c_48 => ?_) (fun c_48 => ?_)
                                  · refine gx_iconst (pc := 306) hB dL_isSo_306 0 (by decide) ?_
                                    refine gx_isub (pc := 307) hB dL_isSo_307 ?_
                                    refine gx_istore (pc := 308) hB dL_isSo_308 (by decide) [(13, .int (((((((((F (10 * i + 1)) + (F (10 * i + 2))) - (F (10 * i + 3))) + (F (10 * i + 4))) - (F (10 * i + 5))) - (F (10 * i + 6))) + (F (10 * i + 7))) - (F (10 * i + 8))) - 0)), (8, .int 1), (10, .int (cl + 1)), (0, .ref (ad 0)), (1, .ref ug), (2, .ref uf), (3, .ref ud), (4, .ref uh), (5, .ref uv), (6, .ref uj), (7, .ref uq), (9, .ref y3), (11, .int (nI i)), (12, .int (nI (10 * i)))] rfl ?_
                                    refine gx_iload (pc := 310) hB dL_isSo_310 1 rfl ?_
                                    refine gx_if_eq (pc := 312) hB 335 dL_isSo_312 (by decide) (fun c_49 => ?_) (fun c_49 => ?_)
                                    · exact absurd c_49 (by decide)
                                    · refine gx_iload (pc := 315) hB dL_isSo_315 0 rfl ?_
                                      refine gx_aload_n (pc := 317) hB dL_isSo_317 5 rfl ?_
                                      refine gx_iload (pc := 318) hB dL_isSo_318 13 rfl ?_
                                      refine gx_iald (pc := 320) hB dL_isSo_320 24 1 rfl rfl (10 * i) rfl (by omega) (by decide) ?_
                                      have e_1 := (acc_F h0 hi).2.1 c_48
                                      refine gx_st (st' := [.int (F (10 * i)), .int (F (10 * i))]) (by rw [e_1]) ?_
                                      refine gx_icmp_ne (pc := 321) hB 335 dL_isSo_321 (by decide) (fun c_50 => ?_) (fun c_50 => ?_)
                                      · exact absurd rfl c_50
                                      · refine gx_aload_n (pc := 324) hB dL_isSo_324 5 rfl ?_
                                        refine gx_iload (pc := 325) hB dL_isSo_325 13 rfl ?_
                                        refine gx_iald (pc := 327) hB dL_isSo_327 24 1 rfl rfl (10 * i) rfl (by omega) (by decide) ?_
                                        refine gx_if_lt (pc := 328) hB 335 dL_isSo_328 (by decide) (fun c_51 => ?_) (fun c_51 => ?_)
                                        · exact absurd c_51 (acc_F h0 hi).2.2
                                        · refine gx_iconst (pc := 331) hB dL_isSo_331 1 (by decide) ?_
                                          refine gx_goto (pc := 332) hB 336 dL_isSo_332 (by decide) ?_
                                          refine gx_istore (pc := 336) hB dL_isSo_336 (by decide) [(8, .int 1), (13, .int (((((((((F (10 * i + 1)) + (F (10 * i + 2))) - (F (10 * i + 3))) + (F (10 * i + 4))) - (F (10 * i + 5))) - (F (10 * i + 6))) + (F (10 * i + 7))) - (F (10 * i + 8))) - 0)), (10, .int (cl + 1)), (0, .ref (ad 0)), (1, .ref ug), (2, .ref uf), (3, .ref ud), (4, .ref uh), (5, .ref uv), (6, .ref uj), (7, .ref uq), (9, .ref y3), (11, .int (nI i)), (12, .int (nI (10 * i)))] rfl ?_
                                          refine gx_iinc (pc := 338) hB dL_isSo_338 12 (by decide) rfl (nI (i + 1)) (nI_1 _) [(11, .int (nI (i + 1))), (8, .int 1), (13, .int (((((((((F (10 * i + 1)) + (F (10 * i + 2))) - (F (10 * i + 3))) + (F (10 * i + 4))) - (F (10 * i + 5))) - (F (10 * i + 6))) + (F (10 * i + 7))) - (F (10 * i + 8))) - 0)), (10, .int (cl + 1)), (0, .ref (ad 0)), (1, .ref ug), (2, .ref uf), (3, .ref ud), (4, .ref uh), (5, .ref uv), (6, .ref uj), (7, .ref uq), (9, .ref y3), (12, .int (nI (10 * i)))] rfl ?_
                                          refine gx_goto (pc := 341) hB 52 dL_isSo_341 (by decide) ?_
                                          refine gx_sub hB (lv' := [(0, .ref (ad 0)), (1, .ref ug), (2, .ref uf), (3, .ref ud), (4, .ref uh), (5, .ref uv), (6, .ref uj), (7, .ref uq), (8, .int 1), (9, .ref y3), (10, .int (cl + 1)), (11, .int (nI (i + 1)))]) [4, 5, 6, 7, 8, 9, 10, 11, 1, 12, 3, 0] rfl ?_
                                          exact ih52 (i + 1) (cl + 1) W2 (by omega) hV9 (by rw [hc, shut_s, ← e9, if_neg c_25])
                                  · exact (by first | exact absurd c_45 c_48 | exact absurd c_48 c_45 | exact absurd c_45 (Int32.not_le.mpr c_48) | exact absurd c_45 (Int32.not_lt.mpr c_48) | exact absurd (Int32.not_le.mp c_45) c_48 | exact absurd (Int32.not_lt.mp c_45) c_48)
                            · refine gx_aload_n (pc := 206) hB dL_isSo_206 2 rfl ?_
                              refine gx_bipush (pc := 207) hB dL_isSo_207 7 (by decide) ?_
                              refine gx_iald (pc := 209) hB dL_isSo_209 23 1 rfl rfl 7 rfl (by decide) (by decide) ?_
                              refine gx_goto (pc := 210) hB 214 dL_isSo_210 (by decide) ?_
                              have e_1 := (tp h0 hi).2.2.1 c_45
                              refine gx_st (st' := [.int (G 7), .int (G 7)]) (by rw [e_1]) ?_
                              refine gx_icmp_ne (pc := 214) hB 233 dL_isSo_214 (by decide) (fun c_52 => ?_) (fun c_52 => ?_)
                              · exact absurd rfl c_52
                              · refine gx_aload_n (pc := 217) hB dL_isSo_217 1 rfl ?_
                                refine gx_iload (pc := 218) hB dL_isSo_218 11 rfl ?_
                                refine gx_bipush (pc := 220) hB dL_isSo_220 12 (by decide) ?_
                                refine gx_dVA (pc := 222) (r := bTellP C (nI i) 12) (W1 := wZ K ad C R od sn) (wr := [(ug, .inl (K.2.1.2.1, 8, .inl G)), (uf, .inl (K.2.1.2.1, 60, .inl F)), (ud, .inl (K.2.1.2.1, 56, .inl D)), (uh, .inl (K.2.1.2.1, 48, .inl H)), (uv, .inl (K.2.1.2.1, 48, .inl V)), (uj, .inl (K.2.1.2.1, 48, .inl J)), (uq, .inl (K.2.1.2.1, 48, .inl Q)), (y3, .inl (K.2.1.2.1, 10, .inl W2))]) hB (k_purposeOf l K ad C R od sn (nI i) 12 ho hsn) mX4_purposeOf dL_isSo_222 tb_156 pX4_purposeOf ⟨Nat.le_of_ble_eq_true rfl, Nat.le_of_ble_eq_true rfl⟩ ⟨rfl, rfl⟩ ⟨Nat.le_of_ble_eq_true rfl, Nat.le_of_ble_eq_true rfl⟩ rfl (Nat.le_of_ble_eq_true rfl) (List.range 23) (List.range' 23 8) rfl rfl (by decide) (by decide) (by decide) rfl rfl (List.range' 8 23 ++ List.range 8) (by decide) rfl ?_
                                have e_1 := (tp h0 hi).2.2.2.2
                                refine gx_top (x := bTellP C (nI i) 12) (y := (-1)) e_1 ?_
                                refine gx_iconst (pc := 225) hB dL_isSo_225 (-1) (by decide) ?_
                                refine gx_icmp_ne (pc := 226) hB 233 dL_isSo_226 (by decide) (fun c_53 => ?_) (fun c_53 => ?_)
                                · exact absurd c_53 (by decide)
                                · refine gx_iconst (pc := 229) hB dL_isSo_229 1 (by decide) ?_
                                  refine gx_goto (pc := 230) hB 234 dL_isSo_230 (by decide) ?_
                                  refine gx_istore (pc := 234) hB dL_isSo_234 (by decide) [(8, .int 1), (10, .int (cl + 1)), (0, .ref (ad 0)), (1, .ref ug), (2, .ref uf), (3, .ref ud), (4, .ref uh), (5, .ref uv), (6, .ref uj), (7, .ref uq), (9, .ref y3), (11, .int (nI i)), (12, .int (nI (10 * i))), (13, .int (nI r))] rfl ?_
                                  refine gx_aload_n (pc := 236) hB dL_isSo_236 4 rfl ?_
                                  refine gx_iload (pc := 237) hB dL_isSo_237 12 rfl ?_
                                  refine gx_iconst (pc := 239) hB dL_isSo_239 1 (by decide) ?_
                                  refine gx_iadd (pc := 240) hB dL_isSo_240 ?_
                                  refine gx_top (show (nI (10 * i)) + 1 = nI (10 * i + 1) from nI_add (10 * i) 1) ?_
                                  refine gx_iald (pc := 241) hB dL_isSo_241 24 1 rfl rfl (10 * i + 1) rfl (by omega) (by decide) ?_
                                  refine gx_aload_n (pc := 242) hB dL_isSo_242 4 rfl ?_
                                  refine gx_iload (pc := 243) hB dL_isSo_243 12 rfl ?_
                                  refine gx_iconst (pc := 245) hB dL_isSo_245 2 (by decide) ?_
                                  refine gx_iadd (pc := 246) hB dL_isSo_246 ?_
                                  refine gx_top (show (nI (10 * i)) + 2 = nI (10 * i + 2) from nI_add (10 * i) 2) ?_
                                  refine gx_iald (pc := 247) hB dL_isSo_247 24 1 rfl rfl (10 * i + 2) rfl (by omega) (by decide) ?_
                                  refine gx_iadd (pc := 248) hB dL_isSo_248 ?_
                                  refine gx_aload_n (pc := 249) hB dL_isSo_249 4 rfl ?_
                                  refine gx_iload (pc := 250) hB dL_isSo_250 12 rfl ?_
                                  refine gx_iconst (pc := 252) hB dL_isSo_252 3 (by decide) ?_
                                  refine gx_iadd (pc := 253) hB dL_isSo_253 ?_
                                  refine gx_top (show (nI (10 * i)) + 3 = nI (10 * i + 3) from nI_add (10 * i) 3) ?_
                                  refine gx_iald (pc := 254) hB dL_isSo_254 24 1 rfl rfl (10 * i + 3) rfl (by omega) (by decide) ?_
                                  refine gx_isub (pc := 255) hB dL_isSo_255 ?_
                                  refine gx_aload_n (pc := 256) hB dL_isSo_256 4 rfl ?_
                                  refine gx_iload (pc := 257) hB dL_isSo_257 12 rfl ?_
                                  refine gx_iconst (pc := 259) hB dL_isSo_259 4 (by decide) ?_
                                  refine gx_iadd (pc := 260) hB dL_isSo_260 ?_
                                  refine gx_top (show (nI (10 * i)) + 4 = nI (10 * i + 4) from nI_add (10 * i) 4) ?_
                                  refine gx_iald (pc := 261) hB dL_isSo_261 24 1 rfl rfl (10 * i + 4) rfl (by omega) (by decide) ?_
                                  refine gx_iadd (pc := 262) hB dL_isSo_262 ?_
                                  refine gx_aload_n (pc := 263) hB dL_isSo_263 4 rfl ?_
                                  refine gx_iload (pc := 264) hB dL_isSo_264 12 rfl ?_
                                  refine gx_iconst (pc := 266) hB dL_isSo_266 5 (by decide) ?_
                                  refine gx_iadd (pc := 267) hB dL_isSo_267 ?_
                                  refine gx_top (show (nI (10 * i)) + 5 = nI (10 * i + 5) from nI_add (10 * i) 5) ?_
                                  refine gx_iald (pc := 268) hB dL_isSo_268 24 1 rfl rfl (10 * i + 5) rfl (by omega) (by decide) ?_
                                  refine gx_isub (pc := 269) hB dL_isSo_269 ?_
                                  refine gx_aload_n (pc := 270) hB dL_isSo_270 4 rfl ?_
                                  refine gx_iload (pc := 271) hB dL_isSo_271 12 rfl ?_
                                  refine gx_bipush (pc := 273) hB dL_isSo_273 6 (by decide) ?_
                                  refine gx_iadd (pc := 275) hB dL_isSo_275 ?_
                                  refine gx_top (show (nI (10 * i)) + 6 = nI (10 * i + 6) from nI_add (10 * i) 6) ?_
                                  refine gx_iald (pc := 276) hB dL_isSo_276 24 1 rfl rfl (10 * i + 6) rfl (by omega) (by decide) ?_
                                  refine gx_isub (pc := 277) hB dL_isSo_277 ?_
                                  refine gx_aload_n (pc := 278) hB dL_isSo_278 4 rfl ?_
                                  refine gx_iload (pc := 279) hB dL_isSo_279 12 rfl ?_
                                  refine gx_bipush (pc := 281) hB dL_isSo_281 7 (by decide) ?_
                                  refine gx_iadd (pc := 283) hB dL_isSo_283 ?_
                                  refine gx_top (show (nI (10 * i)) + 7 = nI (10 * i + 7) from nI_add (10 * i) 7) ?_
                                  refine gx_iald (pc := 284) hB dL_isSo_284 24 1 rfl rfl (10 * i + 7) rfl (by omega) (by decide) ?_
                                  refine gx_iadd (pc := 285) hB dL_isSo_285 ?_
                                  refine gx_aload_n (pc := 286) hB dL_isSo_286 4 rfl ?_
                                  refine gx_iload (pc := 287) hB dL_isSo_287 12 rfl ?_
                                  refine gx_bipush (pc := 289) hB dL_isSo_289 8 (by decide) ?_
                                  refine gx_iadd (pc := 291) hB dL_isSo_291 ?_
                                  refine gx_top (show (nI (10 * i)) + 8 = nI (10 * i + 8) from nI_add (10 * i) 8) ?_
                                  refine gx_iald (pc := 292) hB dL_isSo_292 24 1 rfl rfl (10 * i + 8) rfl (by omega) (by decide) ?_
                                  refine gx_isub (pc := 293) hB dL_isSo_293 ?_
                                  refine gx_iload (pc := 294) hB dL_isSo_294 11 rfl ?_
                                  refine gx_if_ne (pc := 296) hB 306 dL_isSo_296 (by decide) (fun c_54 => ?_) (fun c_54 => ?_)
                                  · exact (by first | exact absurd c_45 c_54 | exact absurd c_54 c_45 | exact absurd c_45 (Int32.not_le.mpr c_54) | exact absurd c_45 (Int32.not_lt.mpr c_54) | exact absurd (Int32.not_le.mp c_45) c_54 | exact absurd (Int32.not_lt.mp c_45) c_54)
                                  · refine gx_aload_n (pc := 299) hB dL_isSo_299 3 rfl ?_
                                    refine gx_bipush (pc := 300) hB dL_isSo_300 7 (by decide) ?_
                                    refine gx_iald (pc := 302) hB dL_isSo_302 23 1 rfl rfl 7 rfl (by decide) (by decide) ?_
                                    refine gx_goto (pc := 303) hB 307 dL_isSo_303 (by decide) ?_
                                    refine gx_isub (pc := 307) hB dL_isSo_307 ?_
                                    refine gx_istore (pc := 308) hB dL_isSo_308 (by decide) [(13, .int (((((((((F (10 * i + 1)) + (F (10 * i + 2))) - (F (10 * i + 3))) + (F (10 * i + 4))) - (F (10 * i + 5))) - (F (10 * i + 6))) + (F (10 * i + 7))) - (F (10 * i + 8))) - G 7)), (8, .int 1), (10, .int (cl + 1)), (0, .ref (ad 0)), (1, .ref ug), (2, .ref uf), (3, .ref ud), (4, .ref uh), (5, .ref uv), (6, .ref uj), (7, .ref uq), (9, .ref y3), (11, .int (nI i)), (12, .int (nI (10 * i)))] rfl ?_
                                    refine gx_iload (pc := 310) hB dL_isSo_310 1 rfl ?_
                                    refine gx_if_eq (pc := 312) hB 335 dL_isSo_312 (by decide) (fun c_55 => ?_) (fun c_55 => ?_)
                                    · exact absurd c_55 (by decide)
                                    · refine gx_iload (pc := 315) hB dL_isSo_315 0 rfl ?_
                                      refine gx_aload_n (pc := 317) hB dL_isSo_317 5 rfl ?_
                                      refine gx_iload (pc := 318) hB dL_isSo_318 13 rfl ?_
                                      refine gx_iald (pc := 320) hB dL_isSo_320 24 1 rfl rfl (10 * i) rfl (by omega) (by decide) ?_
                                      have e_1 := (acc_F h0 hi).1 c_54
                                      refine gx_st (st' := [.int (F (10 * i)), .int (F (10 * i))]) (by rw [e_1]) ?_
                                      refine gx_icmp_ne (pc := 321) hB 335 dL_isSo_321 (by decide) (fun c_56 => ?_) (fun c_56 => ?_)
                                      · exact absurd rfl c_56
                                      · refine gx_aload_n (pc := 324) hB dL_isSo_324 5 rfl ?_
                                        refine gx_iload (pc := 325) hB dL_isSo_325 13 rfl ?_
                                        refine gx_iald (pc := 327) hB dL_isSo_327 24 1 rfl rfl (10 * i) rfl (by omega) (by decide) ?_
                                        refine gx_if_lt (pc := 328) hB 335 dL_isSo_328 (by decide) (fun c_57 => ?_) (fun c_57 => ?_)
                                        · exact absurd c_57 (acc_F h0 hi).2.2
                                        · refine gx_iconst (pc := 331) hB dL_isSo_331 1 (by decide) ?_
                                          refine gx_goto (pc := 332) hB 336 dL_isSo_332 (by decide) ?_
                                          refine gx_istore (pc := 336) hB dL_isSo_336 (by decide) [(8, .int 1), (13, .int (((((((((F (10 * i + 1)) + (F (10 * i + 2))) - (F (10 * i + 3))) + (F (10 * i + 4))) - (F (10 * i + 5))) - (F (10 * i + 6))) + (F (10 * i + 7))) - (F (10 * i + 8))) - G 7)), (10, .int (cl + 1)), (0, .ref (ad 0)), (1, .ref ug), (2, .ref uf), (3, .ref ud), (4, .ref uh), (5, .ref uv), (6, .ref uj), (7, .ref uq), (9, .ref y3), (11, .int (nI i)), (12, .int (nI (10 * i)))] rfl ?_
                                          refine gx_iinc (pc := 338) hB dL_isSo_338 12 (by decide) rfl (nI (i + 1)) (nI_1 _) [(11, .int (nI (i + 1))), (8, .int 1), (13, .int (((((((((F (10 * i + 1)) + (F (10 * i + 2))) - (F (10 * i + 3))) + (F (10 * i + 4))) - (F (10 * i + 5))) - (F (10 * i + 6))) + (F (10 * i + 7))) - (F (10 * i + 8))) - G 7)), (10, .int (cl + 1)), (0, .ref (ad 0)), (1, .ref ug), (2, .ref uf), (3, .ref ud), (4, .ref uh), (5, .ref uv), (6, .ref uj), (7, .ref uq), (9, .ref y3), (12, .int (nI (10 * i)))] rfl ?_
                                          refine gx_goto (pc := 341) hB 52 dL_isSo_341 (by decide) ?_
                                          refine gx_sub hB (lv' := [(0, .ref (ad 0)), (1, .ref ug), (2, .ref uf), (3, .ref ud), (4, .ref uh), (5, .ref uv), (6, .ref uj), (7, .ref uq), (8, .int 1), (9, .ref y3), (10, .int (cl + 1)), (11, .int (nI (i + 1)))]) [4, 5, 6, 7, 8, 9, 10, 11, 1, 12, 3, 0] rfl ?_
                                          exact ih52 (i + 1) (cl + 1) W2 (by omega) hV9 (by rw [hc, shut_s, ← e9, if_neg c_25])
                  · exact absurd (lpTn (c := 9) (by omega) hi75) c_24
                | succ dq ih75 =>
                  intro r W2 hi75 hV
                  have hr : r < 9 := by omega
                  refine gx_iload (pc := 75) hB dL_isSo_75 13 rfl ?_
                  refine gx_bipush (pc := 77) hB dL_isSo_77 9 (by decide) ?_
                  refine gx_icmp_ge (pc := 79) hB 133 dL_isSo_79 (by decide) (fun c_58 => ?_) (fun c_58 => ?_)
                  · exact absurd c_58 (lpFn (c := 9) (by omega) hi75)
                  · refine gx_aload (pc := 82) hB dL_isSo_82 9 rfl ?_
                    refine gx_iload (pc := 84) hB dL_isSo_84 13 rfl ?_
                    refine gx_dup2 (pc := 86) hB dL_isSo_86 rfl rfl ?_
                    refine gx_iald (pc := 87) hB dL_isSo_87 30 1 rfl rfl r rfl (by omega) (by decide) ?_
                    refine gx_aload_n (pc := 88) hB dL_isSo_88 2 rfl ?_
                    refine gx_iload (pc := 89) hB dL_isSo_89 12 rfl ?_
                    refine gx_iload (pc := 91) hB dL_isSo_91 13 rfl ?_
                    refine gx_iadd (pc := 93) hB dL_isSo_93 ?_
                    refine gx_top (show (nI (10 * i)) + nI r = nI (10 * i + r) from nI_add (10 * i) r) ?_
                    refine gx_iald (pc := 94) hB dL_isSo_94 24 1 rfl rfl (10 * i + r) rfl (by omega) (by decide) ?_
                    refine gx_iadd (pc := 95) hB dL_isSo_95 ?_
                    refine gx_iast (pc := 96) hB dL_isSo_96 30 1 rfl rfl r rfl (by omega) (by decide) ((wZ K ad C R od sn ++ [(ug, .inl (K.2.1.2.1, 8, .inl G)), (uf, .inl (K.2.1.2.1, 60, .inl F)), (ud, .inl (K.2.1.2.1, 56, .inl D)), (uh, .inl (K.2.1.2.1, 48, .inl H)), (uv, .inl (K.2.1.2.1, 48, .inl V)), (uj, .inl (K.2.1.2.1, 48, .inl J)), (uq, .inl (K.2.1.2.1, 48, .inl Q)), (y3, .inl (K.2.1.2.1, 10, .inl (upd W2 r (W2 r + (F (10 * i + r))))))])) rfl ?_
                    refine gx_iload (pc := 97) hB dL_isSo_97 8 rfl ?_
                    refine gx_if_eq (pc := 99) hB 124 dL_isSo_99 (by decide) (fun c_59 => ?_) (fun c_59 => ?_)
                    · exact absurd c_59 (by decide)
                    · refine gx_aload_n (pc := 102) hB dL_isSo_102 0 rfl ?_
                      refine gx_iload (pc := 103) hB dL_isSo_103 11 rfl ?_
                      refine gx_iload (pc := 105) hB dL_isSo_105 13 rfl ?_
                      refine gx_dVA (pc := 107) (r := bTellP C (nI i) (nI r)) (W1 := wZ K ad C R od sn) (wr := [(ug, .inl (K.2.1.2.1, 8, .inl G)), (uf, .inl (K.2.1.2.1, 60, .inl F)), (ud, .inl (K.2.1.2.1, 56, .inl D)), (uh, .inl (K.2.1.2.1, 48, .inl H)), (uv, .inl (K.2.1.2.1, 48, .inl V)), (uj, .inl (K.2.1.2.1, 48, .inl J)), (uq, .inl (K.2.1.2.1, 48, .inl Q)), (y3, .inl (K.2.1.2.1, 10, .inl (upd W2 r (W2 r + (F (10 * i + r))))))]) hB (k_purposeOf l K ad C R od sn (nI i) (nI r) ho hsn) mX4_purposeOf dL_isSo_107 tb_156 pX4_purposeOf ⟨Nat.le_of_ble_eq_true rfl, Nat.le_of_ble_eq_true rfl⟩ ⟨rfl, rfl⟩ ⟨Nat.le_of_ble_eq_true rfl, Nat.le_of_ble_eq_true rfl⟩ rfl (Nat.le_of_ble_eq_true rfl) (List.range 23) (List.range' 23 8) rfl rfl (by decide) (by decide) (by decide) rfl rfl (List.range' 8 23 ++ List.range 8) (by decide) rfl ?_
                      have e_1 := tp_j h0 hi (i := r) (by omega)
                      refine gx_top (x := bTellP C (nI i) (nI r)) (y := F (10 * i + r)) e_1 ?_
                      refine gx_aload_n (pc := 110) hB dL_isSo_110 2 rfl ?_
                      refine gx_iload (pc := 111) hB dL_isSo_111 12 rfl ?_
                      refine gx_iload (pc := 113) hB dL_isSo_113 13 rfl ?_
                      refine gx_iadd (pc := 115) hB dL_isSo_115 ?_
                      refine gx_top (show (nI (10 * i)) + nI r = nI (10 * i + r) from nI_add (10 * i) r) ?_
                      refine gx_iald (pc := 116) hB dL_isSo_116 24 1 rfl rfl (10 * i + r) rfl (by omega) (by decide) ?_
                      refine gx_icmp_ne (pc := 117) hB 124 dL_isSo_117 (by decide) (fun c_60 => ?_) (fun c_60 => ?_)
                      · exact absurd rfl c_60
                      · refine gx_iconst (pc := 120) hB dL_isSo_120 1 (by decide) ?_
                        refine gx_goto (pc := 121) hB 125 dL_isSo_121 (by decide) ?_
                        refine gx_istore (pc := 125) hB dL_isSo_125 (by decide) [(8, .int 1), (0, .ref (ad 0)), (1, .ref ug), (2, .ref uf), (3, .ref ud), (4, .ref uh), (5, .ref uv), (6, .ref uj), (7, .ref uq), (9, .ref y3), (10, .int cl), (11, .int (nI i)), (12, .int (nI (10 * i))), (13, .int (nI r))] rfl ?_
                        refine gx_iinc (pc := 127) hB dL_isSo_127 13 (by decide) rfl (nI (r + 1)) (nI_1 _) [(13, .int (nI (r + 1))), (8, .int 1), (0, .ref (ad 0)), (1, .ref ug), (2, .ref uf), (3, .ref ud), (4, .ref uh), (5, .ref uv), (6, .ref uj), (7, .ref uq), (9, .ref y3), (10, .int cl), (11, .int (nI i)), (12, .int (nI (10 * i)))] rfl ?_
                        refine gx_goto (pc := 130) hB 75 dL_isSo_130 (by decide) ?_
                        refine gx_sub hB (lv' := [(0, .ref (ad 0)), (1, .ref ug), (2, .ref uf), (3, .ref ud), (4, .ref uh), (5, .ref uv), (6, .ref uj), (7, .ref uq), (8, .int 1), (9, .ref y3), (10, .int cl), (11, .int (nI i)), (12, .int (nI (10 * i))), (13, .int (nI (r + 1)))]) [2, 3, 4, 5, 6, 7, 8, 9, 1, 10, 11, 12, 13, 0] rfl ?_
                        exact ih75 (r + 1) (upd W2 r (W2 r + (F (10 * i + r)))) (by omega) (by rw [hV]; exact smW_s (by omega) (h0.2.1.2.1 i hi r (by omega)))
              refine gx_sub hB (lv' := [(0, .ref (ad 0)), (1, .ref ug), (2, .ref uf), (3, .ref ud), (4, .ref uh), (5, .ref uv), (6, .ref uj), (7, .ref uq), (8, .int 1), (9, .ref y3), (10, .int cl), (11, .int (nI i)), (12, .int (nI (10 * i))), (13, .int 0)]) [2, 3, 4, 5, 6, 7, 8, 9, 10, 11, 12, 13, 1, 0] rfl ?_
              exact loop_75 (9) 0 W1 (by omega) hW
      refine gx_sub hB (lv' := [(0, .ref (ad 0)), (1, .ref ug), (2, .ref uf), (3, .ref ud), (4, .ref uh), (5, .ref uv), (6, .ref uj), (7, .ref uq), (8, .int 1), (9, .ref y3), (10, .int 0), (11, .int 0)]) [4, 5, 6, 7, 8, 9, 10, 11, 3, 2, 1, 0] rfl ?_
      exact loop_52 (a) 0 0 (fun _ => 0) (by omega) smW_0 rfl
