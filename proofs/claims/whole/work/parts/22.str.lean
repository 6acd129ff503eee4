/-! String constants and the JDK's methods on them. -/
section GX5
variable {cc : ByteArray} {nL : Nat} {own nm : String} {l : Launch} {R : Room} {K : gx_K} {ret : Option FieldType} {Post : Option Value → va_W → Prop} {G : gx_J} {k n pc : Nat} {ws : va_W} {lv : List (Nat × Value)} {st : List Value}
theorem gx_strV (B : gx_B cc nL own l R K G) {index : Nat} (i : Nat) (hi : i < 9) (hd : decode cc pc = .ok (.getfield index, 3)) (hl1 : Cond.fieldLink own index "java/lang/String" "value" "[B" ∈ gx_TB) (kk : G k n ws lv (pc + 3) (.ref (K.2.2.2.1 i) :: st)) : G k n ws lv pc (.ref (K.2.2.1 i) :: st) := by
  obtain ⟨p, e, s, m, args, below, meth, c, A, Q, rfl, hx, hb, hml, hown, hts, hK, hA, hX⟩ := B
  intro H locs ls hP hD hS hl
  exact vk_getf hx hb (hX.2.2.2.1.1 i hi).2.2.1 hS hown (hts _ hl1) (fun _ h => h) hd (kk H locs ls hP hD hS hl)
theorem gx_strC (B : gx_B cc nL own l R K G) {index : Nat} (i : Nat) (hi : i < 9) (hd : decode cc pc = .ok (.getfield index, 3)) (hl1 : Cond.fieldLink own index "java/lang/String" "coder" "B" ∈ gx_TB) (kk : G k n ws lv (pc + 3) (.int 0 :: st)) : G k n ws lv pc (.ref (K.2.2.1 i) :: st) := by
  obtain ⟨p, e, s, m, args, below, meth, c, A, Q, rfl, hx, hb, hml, hown, hts, hK, hA, hX⟩ := B
  intro H locs ls hP hD hS hl
  exact vk_getf hx hb (hX.2.2.2.1.1 i hi).2.1 hS hown (hts _ hl1) (fun _ h => h) hd (kk H locs ls hP hD hS hl)
theorem gx_strL (B : gx_B cc nL own l R K G) (i : Nat) (hi : i < 9) (hd : decode cc pc = .ok (.arraylength, 1)) (kk : G k n ws lv (pc + 1) (.int (nI (gx_len.getD i 0)) :: st)) : G k n ws lv pc (.ref (K.2.2.2.1 i) :: st) := by
  obtain ⟨p, e, s, m, args, below, meth, c, A, Q, rfl, hx, hb, hml, hown, hts, hK, hA, hX⟩ := B
  intro H locs ls hP hD hS hl
  exact va_tlen hx hb (hX.2.2.2.1.1 i hi).2.2.2 hS rfl hd (kk H locs ls hP hD hS hl)
theorem gx_strB (B : gx_B cc nL own l R K G) (i j : Nat) (hi : i < 9) (hj : j < gx_len.getD i 0) (hj2 : j < 2 ^ 31) (hd : decode cc pc = .ok (.baload, 1)) (kk : G k n ws lv (pc + 1) (.int ((gx_byt.getD i []).getD j 0) :: st)) : G k n ws lv pc (.int (nI j) :: .ref (K.2.2.2.1 i) :: st) := by
  obtain ⟨p, e, s, m, args, below, meth, c, A, Q, rfl, hx, hb, hml, hown, hts, hK, hA, hX⟩ := B
  intro H locs ls hP hD hS hl
  exact va_tb hx hb (hX.2.2.2.1.1 i hi).2.2.2 hS (i := nI j) (fun h => by rw [nI_clamp hj2] at h; rcases h with h | h; exact nI_pos hj2 h; omega) (by rw [nI_clamp hj2]) hd (kk H locs ls hP hD hS hl)
theorem gx_cs (B : gx_B cc nL own l R K G) {index : Nat} (hd : decode cc pc = .ok (.getstatic index, 3)) (hl1 : Cond.fieldLink own index RJ0 "COMPACT_STRINGS" "Z" ∈ gx_TB) (kk : G k n ws lv (pc + 3) (.int 1 :: st)) : G k n ws lv pc st := by
  obtain ⟨p, e, s, m, args, below, meth, c, A, Q, rfl, hx, hb, hml, hown, hts, hK, hA, hX⟩ := B
  intro H locs ls hP hD hS hl
  exact va_gets hx hb hX.2.2.2.2.1 hS hown (hts _ hl1) (fun _ h => h) hd (kk H locs ls hP hD hS hl)
theorem gx_sf (B : gx_B cc nL own l R K G) {index : Nat} (hd : decode cc pc = .ok (.getstatic index, 3)) (hl1 : Cond.fieldLink own index RJ3 "SIOOBE_FORMATTER" "Ljava/util/function/BiFunction;" ∈ gx_TB) (kk : G k n ws lv (pc + 3) (gx_fv K.2.2.2.2 :: st)) : G k n ws lv pc st := by
  obtain ⟨p, e, s, m, args, below, meth, c, A, Q, rfl, hx, hb, hml, hown, hts, hK, hA, hX⟩ := B
  intro H locs ls hP hD hS hl
  exact va_gets hx hb hX.2.2.2.2.2 hS hown (hts _ hl1) (fun _ h => h) hd (kk H locs ls hP hD hS hl)
theorem gx_ishr (B : gx_B cc nL own l R K G) (hd : decode cc pc = .ok (.ishr, 1)) {x y : Int32} (kk : G k n ws lv (pc + 1) (.int (x >>> (y &&& 31)) :: st)) : G k n ws lv pc (.int y :: .int x :: st) := by
  obtain ⟨p, e, s, m, args, below, meth, c, A, Q, rfl, hx, hb, hml, hown, hts, hK, hA, hX⟩ := B
  intro H locs ls hP hD hS hl
  exact lv_ishr hx hb hd (kk H locs ls hP hD hS hl)
theorem gx_ldcS (B : gx_B cc nL RX2 l R K G) (i : Nat) (hi : i < 9) (hd : decode cc pc = .ok (.ldc (121 + 2 * i), 2)) (kk : G k n ws lv (pc + 2) (.ref (K.2.2.1 i) :: st)) : G k n ws lv pc st := by
  obtain ⟨p, e, s, m, args, below, meth, c, A, Q, rfl, hx, hb, hml, hown, hts, hK, hA, hX⟩ := B
  intro H locs ls hP hD hS hl
  exact va_ldcS hx hb hown (hX.2.2.1 i hi) hd (kk H locs ls hP hD hS hl)
theorem gx_bret (C : gx_C cc nL own nm l R K (some .byte) Post G) (hd : decode cc pc = .ok (.ireturn, 1)) (hk : k ≤ R.cells) (hn : n ≤ R.slots) {v : Int32} (hv : narrow .byte (.int v) = .int v) (hp : Post (some (.int v)) ws) : G k n ws lv pc [.int v] := by
  obtain ⟨p, e, s, m, args, below, meth, c, A, rfl, hx, hb, hml, hown, hts, hK, hA, hX, hlocks, hr, -⟩ := C
  intro H locs ls hP hD hS hl
  refine W.widen hk hn ?_
  exact W.zret (v := v) (ty := .byte) hx hb hr hv (fun t ht hW => ⟨⟨_, ws, rfl, hp, by rw [ht]; exact hP, va_K.moved hW.alike hK, hD⟩, hS.F ht⟩) hS.2.2 hd hlocks
/-- a call on a String constant -/
theorem gx_dT (B : gx_B cc nL own l R K G) {y : MethodName} {rm : Room} {bytes : ByteArray} {maxL : Nat} {ret' : Option FieldType} {index : Nat} {rest : List Value} (i : Nat) (hi : i < 9) {As : List Value} {r : Int32} (hM : gx_Ctr l K y bytes maxL ret' rm (.ref (K.2.2.1 i) :: As) [] (gx_D (some (.int r)) [])) (hm : gx_M y bytes maxL ret') (hdg : decode cc pc = .ok (.invokevirtual index, 3)) (hlk : Cond.methodLink own index y ∈ gx_TB) (hnA : (parseMethodDescriptor y.desc).map (fun d => d.parameters.length) = some As.length) (hcl : y.cls = "java/lang/String") (hRm : rm.frames + 1 ≤ R.frames ∧ 8 + (maxL + 11) + rm.locals ≤ R.locals) (h0 : rm.cells = 0 ∧ rm.slots = 0) (hkn : k ≤ R.cells ∧ n ≤ R.slots) (hst : st = As.reverse ++ .ref (K.2.2.1 i) :: rest) (hcat : (rest.map fun v => v.category).sum ≤ 8)
    (isR : List Nat) (hR : isR.map (fun i => ws[i]?) = ws.map some) (hn : va_nd isR = true) (kk : G k n ws lv (pc + 3) (.int r :: rest)) : G k n ws lv pc st := by
  obtain ⟨p, e, s, m, args, below, meth, c, A, Q, rfl, hx, hb, hml, hown, hts, hK, hA, hX⟩ := B
  intro H locs ls hP hD hS hl
  obtain ⟨m1, m2, m3, m4, m5, m6⟩ := hm
  refine gx_core (W0 := []) (wr := ws) hA hP hD hS hl [] isR rfl hR hn (fun _ _ h => absurd h List.not_mem_nil) (va_runV (C := y.cls) (As := As) (rest := rest) ⟨hx, hb, hml, hown, hts⟩ (hM H.size) (cwV As.length hts (gx_good1 (gx_all4 hlk m1 m2 m3) m4) rfl rfl rfl ⟨rfl, m5, m6, hnA⟩ ⟨hRm.1, hRm.2⟩) ⟨gx_blind, by rw [hcl]; exact vk_recv hX.2.2.2.1 hi hS, fun U hU hW2 => ⟨rfl, by rw [hU], fun k q h => (by cases h), va_K.moved hW2.alike hK, ⟨fun i j p q h => (by cases h), fun k q h => (by cases h)⟩, by rw [hU]; exact hX.on hW2 hS.2.1 (va_free hD hS hA [] rfl)⟩⟩ rfl rfl hl.1 hst (lv_room hcat) hdg ⟨by rw [h0.1]; exact hkn.1, by rw [h0.2]; exact hkn.2⟩) (fun v w h => ?_)
  obtain ⟨rfl, rfl⟩ := h
  rw [h0.1, h0.2, List.append_nil]
  exact kk
end GX5
theorem gx_chars : ∀ i, i < 9 → ∀ j, j < gx_len.getD i 0 → ((((gx_byt.getD i []).getD j 0) &&& 255).toUInt32 % 65536).toInt32 = (gx_byt.getD i []).getD j 0 := by decide +kernel
theorem gx_charN : ∀ i, i < 9 → ∀ j, j < gx_len.getD i 0 → narrow .char (.int ((gx_byt.getD i []).getD j 0)) = .int ((gx_byt.getD i []).getD j 0) := by decide +kernel
theorem gx_len_le : ∀ i, i < 9 → gx_len.getD i 0 ≤ 6 ∧ 4 ≤ gx_len.getD i 0 := by decide +kernel
