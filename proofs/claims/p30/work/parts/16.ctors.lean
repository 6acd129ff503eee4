/-! Constructors. -/
abbrev rmc (f c s lo : Nat) : Room := { frames := f, cells := c, slots := s, locals := lo }
section GX8
variable {cc : ByteArray} {nL : Nat} {own nm : String} {l : Launch} {R : Room} {K : gx_K} {G : gx_J} {k n pc : Nat} {ws : va_W} {lv : List (Nat × Value)} {st : List Value}
theorem gx_newa (B : gx_B cc nL own l R K G) {atype : ArrayType} (hd : decode cc pc = .ok (.newarray atype, 2)) {ty : FieldType} (hty : newarray.typeOf atype = ty) (t : Nat) {cA : ClassId} (ht : (gx_ty K)[t]? = some (cA, ty)) (hra : ∀ (U : State) (c : ClassId), va_RA U c ty → U.vm.findClass ("[" ++ ty.toString) = some c) (harr : Cond.arrayClass (newarray.typeOf atype) ∈ gx_TB) {nn : Int32} {N' : Nat} (a0 : vp_A) (ha : ∀ cA : ClassId, vp_cell cA a0 = arrV cA N' (fun _ => defaultValue ty)) (hn : ¬ nn < 0) (hN : nn.toNatClampNeg = N') (hby : N' * componentBytes ty ≤ 536870912) (hk : k + 1 ≤ R.cells) (hs : n + N' ≤ R.slots) (kk : ∀ q : Nat, G (k + 1) (n + N') (ws ++ [(q, .inl (cA, a0))]) lv (pc + 2) (.ref q :: st)) : G k n ws lv pc (.int nn :: st) := by
  obtain ⟨p, e, s, m, args, below, meth, c, A, Q, rfl, hx, hb, hml, hown, hts, hK, hA, hX⟩ := B
  intro H locs ls hP hD hS hl
  refine va_newa hx hb (hts _ harr) hty hK hP hD hS hA ha hn hN hby hk hs hd (fun q cA' H1 hK1 hP1 hD1 hS1 => ?_)
  have e1 := (hK1.2 4 (cA', ty) rfl).2
  have e2 := (hK.2 t (cA, ty) ht).2
  have e3 : cA' = cA := Option.some.inj ((hra _ _ e1).symm.trans (hra _ _ e2))
  subst e3
  exact kk q H1 locs ls hP1 hD1 hS1 hl
end GX8
theorem gx_arrJ {cc : ByteArray} {nL : Nat} {own : String} {l : Launch} {R : Room} {K : gx_K} {G : gx_J} {k n pc : Nat} {ws : va_W} {lv : List (Nat × Value)} {st : List Value} (B : gx_B cc nL own l R K G) (q : Nat) {a N : Nat} {cA : ClassId} {f : Nat → Int64} (hq : ws[q]? = some (a, .inl (cA, N, .inr (.inl f)))) (g : Nat → Int64) (h : ∀ j, j < N → f j = g j) (ws' : va_W) (hw : ws.set q (a, .inl (cA, N, .inr (.inl g))) = ws') (kk : G k n ws' lv pc st) : G k n ws lv pc st := by
  obtain ⟨p, e, s, m, args, below, meth, c, A, Q, rfl, hx, hb, hml, hown, hts, hK, hA, hX⟩ := B
  intro H locs ls hP hD hS hl
  subst hw
  have hcell : vp_cell cA (N, .inr (.inl f)) = vp_cell cA (N, .inr (.inl g)) := by
    show arrV cA N (fun j => .long (f j)) = arrV cA N (fun j => .long (g j))
    unfold arrV
    have e : (fun j : Fin N => Value.long (f j.val)) = (fun j : Fin N => Value.long (g j.val)) := funext fun j => congrArg Value.long (h j.val j.isLt)
    rw [e]
  refine kk H locs ls (fun j x hj => ?_) (hD.set hq) hS hl
  rw [List.getElem?_set] at hj
  by_cases e : q = j
  · subst e
    rw [if_pos rfl] at hj
    split at hj
    · cases hj
      have h1 := hP q _ hq
      show H[a]? = some (vp_cell cA (N, .inr (.inl g)))
      rw [← hcell]
      exact h1
    · cases hj
  · rw [if_neg e] at hj
    exact hP j x hj
theorem pX3_init : (parseMethodDescriptor yX3_init.desc).map (fun d => d.parameters.length) = some 4 := by decide +kernel
theorem mX3_init : gx_MI yX3_init cX3_init 5 := ⟨tb_51, tb_29, tb_52, by decide, by decide, rfl⟩
set_option maxHeartbeats 4000000 in
set_option maxRecDepth 100000 in
theorem c_X3_init (l : Launch) (K : gx_K) (q c : Nat) (x y z : Int32) : gx_Ctr l K yX3_init cX3_init 5 none (rmc 1 0 0 24) [.ref q, .ref c, .int x, .int y, .int z] [(q, .inr (3, [.null, .int 0, .int 0, .int 0]))] (gx_D none [(q, .inr (3, [.ref c, .int x, .int y, .int z]))]) := by
  refine gx_of (by decide) (Nat.le_of_ble_eq_true rfl) (fun G hC => ?_)
  have hB := hC.b
  refine gx_lv (lv' := [(0, .ref q), (1, .ref c), (2, .int x), (3, .int y), (4, .int z)]) rfl ?_
  refine gx_aload_n (pc := 0) hB dX3_init_0 0 rfl ?_
  refine gx_objInit (pc := 1) hB dX3_init_1 tb_53 tb_40 tb_41 (by decide) (Nat.le_of_ble_eq_true rfl) ?_
  refine gx_aload_n (pc := 4) hB dX3_init_4 0 rfl ?_
  refine gx_aload_n (pc := 5) hB dX3_init_5 1 rfl ?_
  refine gx_putF (pc := 6) hC dX3_init_6 inX3 rfl tyX3 tyX3_ok nmX3 0 rfl 0 (by decide) tb_54 rfl rfl rfl rfl (Nat.le_of_ble_eq_true rfl) ([(q, .inr (3, [.ref c, .int 0, .int 0, .int 0]))]) rfl ?_
  refine gx_aload_n (pc := 9) hB dX3_init_9 0 rfl ?_
  refine gx_iload_n (pc := 10) hB dX3_init_10 2 rfl ?_
  refine gx_putF (pc := 11) hC dX3_init_11 inX3 rfl tyX3 tyX3_ok nmX3 0 rfl 1 (by decide) tb_55 rfl rfl rfl rfl (Nat.le_of_ble_eq_true rfl) ([(q, .inr (3, [.ref c, .int x, .int 0, .int 0]))]) rfl ?_
  refine gx_aload_n (pc := 14) hB dX3_init_14 0 rfl ?_
  refine gx_iload_n (pc := 15) hB dX3_init_15 3 rfl ?_
  refine gx_putF (pc := 16) hC dX3_init_16 inX3 rfl tyX3 tyX3_ok nmX3 0 rfl 2 (by decide) tb_56 rfl rfl rfl rfl (Nat.le_of_ble_eq_true rfl) ([(q, .inr (3, [.ref c, .int x, .int y, .int 0]))]) rfl ?_
  refine gx_aload_n (pc := 19) hB dX3_init_19 0 rfl ?_
  refine gx_iload (pc := 20) hB dX3_init_20 4 rfl ?_
  refine gx_putF (pc := 22) hC dX3_init_22 inX3 rfl tyX3 tyX3_ok nmX3 0 rfl 3 (by decide) tb_57 rfl rfl rfl rfl (Nat.le_of_ble_eq_true rfl) ([(q, .inr (3, [.ref c, .int x, .int y, .int z]))]) rfl ?_
  exact gx_vret (pc := 25) hC dX3_init_25 (Nat.le_of_ble_eq_true rfl) (Nat.le_of_ble_eq_true rfl) ⟨rfl, rfl⟩
/-- the cells of new books -/
def cNew : Nat → Int32 := (bAddPurpose (upd (upd (fun _ => 0) 1 60) 2 5000)).2
theorem pX0_init : (parseMethodDescriptor yX0_init.desc).map (fun d => d.parameters.length) = some 1 := by decide +kernel
theorem mX0_init : gx_MI yX0_init cX0_init 2 := ⟨tb_45, tb_28, tb_46, by decide, by decide, rfl⟩
set_option maxHeartbeats 4000000 in
set_option maxRecDepth 100000 in
theorem c_X0_init (l : Launch) (K : gx_K) (h c : Nat) : gx_Ctr l K yX0_init cX0_init 2 none (rmc 4 4 16 100) [.ref h, .ref c] [(h, .inr (0, [.null, .null, .null, .null, .null])), (c, .inl (K.2.1.2.1, 351, .inl (fun _ => 0)))] (fun v w => v = none ∧ ∃ t1 t2 t3 t4 : Nat, w = wB K h t1 t2 t3 t4 c cNew) := by
  refine gx_of (by decide) (Nat.le_of_ble_eq_true rfl) (fun G hC => ?_)
  have hB := hC.b
  refine gx_lv (lv' := [(0, .ref h), (1, .ref c)]) rfl ?_
  refine gx_aload_n (pc := 0) hB dX0_init_0 0 rfl ?_
  refine gx_objInit (pc := 1) hB dX0_init_1 tb_47 tb_40 tb_41 (by decide) (Nat.le_of_ble_eq_true rfl) ?_
  refine gx_aload_n (pc := 4) hB dX0_init_4 0 rfl ?_
  refine gx_aload_n (pc := 5) hB dX0_init_5 1 rfl ?_
  refine gx_putF (pc := 6) hC dX0_init_6 inX0 rfl tyX0 tyX0_ok nmX0 0 rfl 0 (by decide) tb_80 rfl rfl rfl rfl (Nat.le_of_ble_eq_true rfl) ([(h, .inr (0, [.ref c, .null, .null, .null, .null])), (c, .inl (K.2.1.2.1, 351, .inl (fun _ => 0)))]) rfl ?_
  refine gx_aload_n (pc := 9) hB dX0_init_9 0 rfl ?_
  refine gx_new (pc := 10) hB dX0_init_10 3 rfl inX3 tyX3 tyX3_ok tb_48 tb_49 tb_29 [.null, .int 0, .int 0, .int 0] (by intro j hj; rcases j with _|_|_|_|j; rfl; rfl; rfl; rfl; exact absurd hj (by omega)) (Nat.le_of_ble_eq_true rfl) (Nat.le_of_ble_eq_true rfl) (fun y1 => ?_)
  refine gx_ws (ws' := [(h, .inr (0, [.ref c, .null, .null, .null, .null])), (c, .inl (K.2.1.2.1, 351, .inl (fun _ => 0))), (y1, .inr (3, [.null, .int 0, .int 0, .int 0]))]) rfl ?_
  refine gx_dup (pc := 13) hB dX0_init_13 rfl ?_
  refine gx_aload_n (pc := 14) hB dX0_init_14 1 rfl ?_
  refine gx_iconst (pc := 15) hB dX0_init_15 3 (by decide) ?_
  refine gx_bipush (pc := 16) hB dX0_init_16 6 (by decide) ?_
  refine gx_bipush (pc := 18) hB dX0_init_18 12 (by decide) ?_
  refine gx_callI (pc := 20) (wr := [(h, .inr (0, [.ref c, .null, .null, .null, .null])), (c, .inl (K.2.1.2.1, 351, .inl (fun _ => 0)))]) hB (c_X3_init l K y1 c 3 6 12) mX3_init dX0_init_20 tb_50 pX3_init ⟨Nat.le_of_ble_eq_true rfl, Nat.le_of_ble_eq_true rfl, Nat.le_of_ble_eq_true rfl, Nat.le_of_ble_eq_true rfl⟩ (rest := [.ref y1, .ref h]) rfl (Nat.le_of_ble_eq_true rfl) [2] [0, 1] rfl rfl (by decide) (by decide) (by decide) (fun v w hp => ?_)
  obtain ⟨rfl, rfl⟩ := hp
  refine gx_ws (ws' := [(h, .inr (0, [.ref c, .null, .null, .null, .null])), (c, .inl (K.2.1.2.1, 351, .inl (fun _ => 0))), (y1, .inr (3, [.ref c, .int (nI 3), .int (nI 6), .int (nI 12)]))]) rfl ?_
  refine gx_st (st' := [.ref y1, .ref h]) rfl ?_
  refine gx_putF (pc := 23) hC dX0_init_23 inX0 rfl tyX0 tyX0_ok nmX0 0 rfl 1 (by decide) tb_81 rfl rfl rfl rfl (Nat.le_of_ble_eq_true rfl) ([(h, .inr (0, [.ref c, .ref y1, .null, .null, .null])), (c, .inl (K.2.1.2.1, 351, .inl (fun _ => 0))), (y1, .inr (3, [.ref c, .int (nI 3), .int (nI 6), .int (nI 12)]))]) rfl ?_
  refine gx_aload_n (pc := 26) hB dX0_init_26 0 rfl ?_
  refine gx_new (pc := 27) hB dX0_init_27 3 rfl inX3 tyX3 tyX3_ok tb_48 tb_49 tb_29 [.null, .int 0, .int 0, .int 0] (by intro j hj; rcases j with _|_|_|_|j; rfl; rfl; rfl; rfl; exact absurd hj (by omega)) (Nat.le_of_ble_eq_true rfl) (Nat.le_of_ble_eq_true rfl) (fun y2 => ?_)
  refine gx_ws (ws' := [(h, .inr (0, [.ref c, .ref y1, .null, .null, .null])), (c, .inl (K.2.1.2.1, 351, .inl (fun _ => 0))), (y1, .inr (3, [.ref c, .int (nI 3), .int (nI 6), .int (nI 12)])), (y2, .inr (3, [.null, .int 0, .int 0, .int 0]))]) rfl ?_
  refine gx_dup (pc := 30) hB dX0_init_30 rfl ?_
  refine gx_aload_n (pc := 31) hB dX0_init_31 1 rfl ?_
  refine gx_bipush (pc := 32) hB dX0_init_32 76 (by decide) ?_
  refine gx_bipush (pc := 34) hB dX0_init_34 8 (by decide) ?_
  refine gx_bipush (pc := 36) hB dX0_init_36 7 (by decide) ?_
  refine gx_callI (pc := 38) (wr := [(h, .inr (0, [.ref c, .ref y1, .null, .null, .null])), (c, .inl (K.2.1.2.1, 351, .inl (fun _ => 0))), (y1, .inr (3, [.ref c, .int (nI 3), .int (nI 6), .int (nI 12)]))]) hB (c_X3_init l K y2 c 76 8 7) mX3_init dX0_init_38 tb_50 pX3_init ⟨Nat.le_of_ble_eq_true rfl, Nat.le_of_ble_eq_true rfl, Nat.le_of_ble_eq_true rfl, Nat.le_of_ble_eq_true rfl⟩ (rest := [.ref y2, .ref h]) rfl (Nat.le_of_ble_eq_true rfl) [3] [0, 1, 2] rfl rfl (by decide) (by decide) (by decide) (fun v w hp => ?_)
  obtain ⟨rfl, rfl⟩ := hp
  refine gx_ws (ws' := [(h, .inr (0, [.ref c, .ref y1, .null, .null, .null])), (c, .inl (K.2.1.2.1, 351, .inl (fun _ => 0))), (y1, .inr (3, [.ref c, .int (nI 3), .int (nI 6), .int (nI 12)])), (y2, .inr (3, [.ref c, .int (nI 76), .int (nI 8), .int (nI 7)]))]) rfl ?_
  refine gx_st (st' := [.ref y2, .ref h]) rfl ?_
  refine gx_putF (pc := 41) hC dX0_init_41 inX0 rfl tyX0 tyX0_ok nmX0 0 rfl 2 (by decide) tb_82 rfl rfl rfl rfl (Nat.le_of_ble_eq_true rfl) ([(h, .inr (0, [.ref c, .ref y1, .ref y2, .null, .null])), (c, .inl (K.2.1.2.1, 351, .inl (fun _ => 0))), (y1, .inr (3, [.ref c, .int (nI 3), .int (nI 6), .int (nI 12)])), (y2, .inr (3, [.ref c, .int (nI 76), .int (nI 8), .int (nI 7)]))]) rfl ?_
  refine gx_aload_n (pc := 44) hB dX0_init_44 0 rfl ?_
  refine gx_new (pc := 45) hB dX0_init_45 3 rfl inX3 tyX3 tyX3_ok tb_48 tb_49 tb_29 [.null, .int 0, .int 0, .int 0] (by intro j hj; rcases j with _|_|_|_|j; rfl; rfl; rfl; rfl; exact absurd hj (by omega)) (Nat.le_of_ble_eq_true rfl) (Nat.le_of_ble_eq_true rfl) (fun y3 => ?_)
  refine gx_ws (ws' := [(h, .inr (0, [.ref c, .ref y1, .ref y2, .null, .null])), (c, .inl (K.2.1.2.1, 351, .inl (fun _ => 0))), (y1, .inr (3, [.ref c, .int (nI 3), .int (nI 6), .int (nI 12)])), (y2, .inr (3, [.ref c, .int (nI 76), .int (nI 8), .int (nI 7)])), (y3, .inr (3, [.null, .int 0, .int 0, .int 0]))]) rfl ?_
  refine gx_dup (pc := 48) hB dX0_init_48 rfl ?_
  refine gx_aload_n (pc := 49) hB dX0_init_49 1 rfl ?_
  refine gx_sipush (pc := 50) hB dX0_init_50 133 (by decide) ?_
  refine gx_bipush (pc := 53) hB dX0_init_53 24 (by decide) ?_
  refine gx_bipush (pc := 55) hB dX0_init_55 7 (by decide) ?_
  refine gx_callI (pc := 57) (wr := [(h, .inr (0, [.ref c, .ref y1, .ref y2, .null, .null])), (c, .inl (K.2.1.2.1, 351, .inl (fun _ => 0))), (y1, .inr (3, [.ref c, .int (nI 3), .int (nI 6), .int (nI 12)])), (y2, .inr (3, [.ref c, .int (nI 76), .int (nI 8), .int (nI 7)]))]) hB (c_X3_init l K y3 c 133 24 7) mX3_init dX0_init_57 tb_50 pX3_init ⟨Nat.le_of_ble_eq_true rfl, Nat.le_of_ble_eq_true rfl, Nat.le_of_ble_eq_true rfl, Nat.le_of_ble_eq_true rfl⟩ (rest := [.ref y3, .ref h]) rfl (Nat.le_of_ble_eq_true rfl) [4] [0, 1, 2, 3] rfl rfl (by decide) (by decide) (by decide) (fun v w hp => ?_)
  obtain ⟨rfl, rfl⟩ := hp
  refine gx_ws (ws' := [(h, .inr (0, [.ref c, .ref y1, .ref y2, .null, .null])), (c, .inl (K.2.1.2.1, 351, .inl (fun _ => 0))), (y1, .inr (3, [.ref c, .int (nI 3), .int (nI 6), .int (nI 12)])), (y2, .inr (3, [.ref c, .int (nI 76), .int (nI 8), .int (nI 7)])), (y3, .inr (3, [.ref c, .int (nI 133), .int (nI 24), .int (nI 7)]))]) rfl ?_
  refine gx_st (st' := [.ref y3, .ref h]) rfl ?_
  refine gx_putF (pc := 60) hC dX0_init_60 inX0 rfl tyX0 tyX0_ok nmX0 0 rfl 3 (by decide) tb_83 rfl rfl rfl rfl (Nat.le_of_ble_eq_true rfl) ([(h, .inr (0, [.ref c, .ref y1, .ref y2, .ref y3, .null])), (c, .inl (K.2.1.2.1, 351, .inl (fun _ => 0))), (y1, .inr (3, [.ref c, .int (nI 3), .int (nI 6), .int (nI 12)])), (y2, .inr (3, [.ref c, .int (nI 76), .int (nI 8), .int (nI 7)])), (y3, .inr (3, [.ref c, .int (nI 133), .int (nI 24), .int (nI 7)]))]) rfl ?_
  refine gx_aload_n (pc := 63) hB dX0_init_63 0 rfl ?_
  refine gx_new (pc := 64) hB dX0_init_64 3 rfl inX3 tyX3 tyX3_ok tb_48 tb_49 tb_29 [.null, .int 0, .int 0, .int 0] (by intro j hj; rcases j with _|_|_|_|j; rfl; rfl; rfl; rfl; exact absurd hj (by omega)) (Nat.le_of_ble_eq_true rfl) (Nat.le_of_ble_eq_true rfl) (fun y4 => ?_)
  refine gx_ws (ws' := [(h, .inr (0, [.ref c, .ref y1, .ref y2, .ref y3, .null])), (c, .inl (K.2.1.2.1, 351, .inl (fun _ => 0))), (y1, .inr (3, [.ref c, .int (nI 3), .int (nI 6), .int (nI 12)])), (y2, .inr (3, [.ref c, .int (nI 76), .int (nI 8), .int (nI 7)])), (y3, .inr (3, [.ref c, .int (nI 133), .int (nI 24), .int (nI 7)])), (y4, .inr (3, [.null, .int 0, .int 0, .int 0]))]) rfl ?_
  refine gx_dup (pc := 67) hB dX0_init_67 rfl ?_
  refine gx_aload_n (pc := 68) hB dX0_init_68 1 rfl ?_
  refine gx_sipush (pc := 69) hB dX0_init_69 302 (by decide) ?_
  refine gx_bipush (pc := 72) hB dX0_init_72 6 (by decide) ?_
  refine gx_bipush (pc := 74) hB dX0_init_74 8 (by decide) ?_
  refine gx_callI (pc := 76) (wr := [(h, .inr (0, [.ref c, .ref y1, .ref y2, .ref y3, .null])), (c, .inl (K.2.1.2.1, 351, .inl (fun _ => 0))), (y1, .inr (3, [.ref c, .int (nI 3), .int (nI 6), .int (nI 12)])), (y2, .inr (3, [.ref c, .int (nI 76), .int (nI 8), .int (nI 7)])), (y3, .inr (3, [.ref c, .int (nI 133), .int (nI 24), .int (nI 7)]))]) hB (c_X3_init l K y4 c 302 6 8) mX3_init dX0_init_76 tb_50 pX3_init ⟨Nat.le_of_ble_eq_true rfl, Nat.le_of_ble_eq_true rfl, Nat.le_of_ble_eq_true rfl, Nat.le_of_ble_eq_true rfl⟩ (rest := [.ref y4, .ref h]) rfl (Nat.le_of_ble_eq_true rfl) [5] [0, 1, 2, 3, 4] rfl rfl (by decide) (by decide) (by decide) (fun v w hp => ?_)
  obtain ⟨rfl, rfl⟩ := hp
  refine gx_ws (ws' := [(h, .inr (0, [.ref c, .ref y1, .ref y2, .ref y3, .null])), (c, .inl (K.2.1.2.1, 351, .inl (fun _ => 0))), (y1, .inr (3, [.ref c, .int (nI 3), .int (nI 6), .int (nI 12)])), (y2, .inr (3, [.ref c, .int (nI 76), .int (nI 8), .int (nI 7)])), (y3, .inr (3, [.ref c, .int (nI 133), .int (nI 24), .int (nI 7)])), (y4, .inr (3, [.ref c, .int (nI 302), .int (nI 6), .int (nI 8)]))]) rfl ?_
  refine gx_st (st' := [.ref y4, .ref h]) rfl ?_
  refine gx_putF (pc := 79) hC dX0_init_79 inX0 rfl tyX0 tyX0_ok nmX0 0 rfl 4 (by decide) tb_84 rfl rfl rfl rfl (Nat.le_of_ble_eq_true rfl) ([(h, .inr (0, [.ref c, .ref y1, .ref y2, .ref y3, .ref y4])), (c, .inl (K.2.1.2.1, 351, .inl (fun _ => 0))), (y1, .inr (3, [.ref c, .int (nI 3), .int (nI 6), .int (nI 12)])), (y2, .inr (3, [.ref c, .int (nI 76), .int (nI 8), .int (nI 7)])), (y3, .inr (3, [.ref c, .int (nI 133), .int (nI 24), .int (nI 7)])), (y4, .inr (3, [.ref c, .int (nI 302), .int (nI 6), .int (nI 8)]))]) rfl ?_
  refine gx_aload_n (pc := 82) hB dX0_init_82 1 rfl ?_
  refine gx_iconst (pc := 83) hB dX0_init_83 1 (by decide) ?_
  refine gx_bipush (pc := 84) hB dX0_init_84 60 (by decide) ?_
  refine gx_iast (pc := 86) hB dX0_init_86 1 1 rfl rfl 1 rfl (by decide) (by decide) ([(h, .inr (0, [.ref c, .ref y1, .ref y2, .ref y3, .ref y4])), (c, .inl (K.2.1.2.1, 351, .inl (upd (fun _ => 0) 1 60))), (y1, .inr (3, [.ref c, .int (nI 3), .int (nI 6), .int (nI 12)])), (y2, .inr (3, [.ref c, .int (nI 76), .int (nI 8), .int (nI 7)])), (y3, .inr (3, [.ref c, .int (nI 133), .int (nI 24), .int (nI 7)])), (y4, .inr (3, [.ref c, .int (nI 302), .int (nI 6), .int (nI 8)]))]) rfl ?_
  refine gx_aload_n (pc := 87) hB dX0_init_87 1 rfl ?_
  refine gx_iconst (pc := 88) hB dX0_init_88 2 (by decide) ?_
  refine gx_sipush (pc := 89) hB dX0_init_89 5000 (by decide) ?_
  refine gx_iast (pc := 92) hB dX0_init_92 1 1 rfl rfl 2 rfl (by decide) (by decide) ([(h, .inr (0, [.ref c, .ref y1, .ref y2, .ref y3, .ref y4])), (c, .inl (K.2.1.2.1, 351, .inl (upd (upd (fun _ => 0) 1 60) 2 5000))), (y1, .inr (3, [.ref c, .int (nI 3), .int (nI 6), .int (nI 12)])), (y2, .inr (3, [.ref c, .int (nI 76), .int (nI 8), .int (nI 7)])), (y3, .inr (3, [.ref c, .int (nI 133), .int (nI 24), .int (nI 7)])), (y4, .inr (3, [.ref c, .int (nI 302), .int (nI 6), .int (nI 8)]))]) rfl ?_
  refine gx_aload_n (pc := 93) hB dX0_init_93 0 rfl ?_
  refine gx_dVi (pc := 94) (r := (bAddPurpose (upd (upd (fun _ => 0) 1 60) 2 5000)).1) (wr := []) hB (c_X0_addPurpose l K h y1 y2 y3 y4 c (upd (upd (fun _ => 0) 1 60) 2 5000)) mX0_addPurpose dX0_init_94 tb_68 pX0_addPurpose ⟨Nat.le_of_ble_eq_true rfl, Nat.le_of_ble_eq_true rfl⟩ ⟨rfl, rfl⟩ ⟨Nat.le_of_ble_eq_true rfl, Nat.le_of_ble_eq_true rfl⟩ rfl (Nat.le_of_ble_eq_true rfl) [0, 2, 3, 4, 5, 1] [] rfl rfl (by decide) (by decide) (by decide) rfl rfl [0, 1, 2, 3, 4, 5] (by decide) ([(h, .inr (0, [.ref c, .ref y1, .ref y2, .ref y3, .ref y4])), (y1, .inr (3, [.ref c, .int (nI 3), .int (nI 6), .int (nI 12)])), (y2, .inr (3, [.ref c, .int (nI 76), .int (nI 8), .int (nI 7)])), (y3, .inr (3, [.ref c, .int (nI 133), .int (nI 24), .int (nI 7)])), (y4, .inr (3, [.ref c, .int (nI 302), .int (nI 6), .int (nI 8)])), (c, .inl (K.2.1.2.1, 351, .inl ((bAddPurpose (upd (upd (fun _ => 0) 1 60) 2 5000)).2)))]) rfl ?_
  refine gx_pop (pc := 97) hB dX0_init_97 rfl ?_
  exact gx_vret (pc := 98) hC dX0_init_98 (Nat.le_of_ble_eq_true rfl) (Nat.le_of_ble_eq_true rfl) ⟨rfl, y1, y2, y3, y4, rfl⟩
theorem pX2_init : (parseMethodDescriptor yX2_init.desc).map (fun d => d.parameters.length) = some 0 := by decide +kernel
theorem mX2_init : gx_MI yX2_init cX2_init 1 := ⟨tb_117, tb_31, tb_118, by decide, by decide, rfl⟩
set_option maxHeartbeats 4000000 in
set_option maxRecDepth 100000 in
theorem c_X2_init (l : Launch) (K : gx_K) (v : Nat) : gx_Ctr l K yX2_init cX2_init 1 none (rmc 1 2 84 24) [.ref v] [(v, .inr (2, [.null, .int 0, .null, .int 0, .int 0, .int 0, .int 0]))] (fun u w => u = none ∧ ∃ sg nu : Nat, w = wSc K v sg nu (fun _ => 0) 0 (fun _ => 0) 0 0 0 0) := by
  refine gx_of (by decide) (Nat.le_of_ble_eq_true rfl) (fun G hC => ?_)
  have hB := hC.b
  refine gx_lv (lv' := [(0, .ref v)]) rfl ?_
  refine gx_aload_n (pc := 0) hB dX2_init_0 0 rfl ?_
  refine gx_objInit (pc := 1) hB dX2_init_1 tb_119 tb_40 tb_41 (by decide) (Nat.le_of_ble_eq_true rfl) ?_
  refine gx_aload_n (pc := 4) hB dX2_init_4 0 rfl ?_
  refine gx_bipush (pc := 5) hB dX2_init_5 80 (by decide) ?_
  refine gx_newa (pc := 7) hB dX2_init_7 (ty := .char) rfl 0 rfl (fun _ _ h => h) tb_142 (N' := 80) (80, .inl (fun _ => 0)) (fun _ => rfl) (by decide) (by decide) (by decide) (Nat.le_of_ble_eq_true rfl) (Nat.le_of_ble_eq_true rfl) (fun y1 => ?_)
  refine gx_ws (ws' := [(v, .inr (2, [.null, .int 0, .null, .int 0, .int 0, .int 0, .int 0])), (y1, .inl (K.2.1.1, 80, .inl (fun _ => 0)))]) rfl ?_
  refine gx_putF (pc := 9) hC dX2_init_9 inX2 rfl tyX2 tyX2_ok nmX2 0 rfl 0 (by decide) tb_120 rfl rfl rfl rfl (Nat.le_of_ble_eq_true rfl) ([(v, .inr (2, [.ref y1, .int 0, .null, .int 0, .int 0, .int 0, .int 0])), (y1, .inl (K.2.1.1, 80, .inl (fun _ => 0)))]) rfl ?_
  refine gx_aload_n (pc := 12) hB dX2_init_12 0 rfl ?_
  refine gx_iconst (pc := 13) hB dX2_init_13 0 (by decide) ?_
  refine gx_put (pc := 14) hB dX2_init_14 inX2 rfl tyX2 tyX2_ok nmX2 0 rfl 1 (by decide) tb_121 rfl rfl rfl rfl (Nat.le_of_ble_eq_true rfl) ([(v, .inr (2, [.ref y1, .int 0, .null, .int 0, .int 0, .int 0, .int 0])), (y1, .inl (K.2.1.1, 80, .inl (fun _ => 0)))]) rfl ?_
  refine gx_aload_n (pc := 17) hB dX2_init_17 0 rfl ?_
  refine gx_iconst (pc := 18) hB dX2_init_18 4 (by decide) ?_
  refine gx_newa (pc := 19) hB dX2_init_19 (ty := .int) rfl 1 rfl (fun _ _ h => h) tb_67 (N' := 4) (4, .inl (fun _ => 0)) (fun _ => rfl) (by decide) (by decide) (by decide) (Nat.le_of_ble_eq_true rfl) (Nat.le_of_ble_eq_true rfl) (fun y2 => ?_)
  refine gx_ws (ws' := [(v, .inr (2, [.ref y1, .int 0, .null, .int 0, .int 0, .int 0, .int 0])), (y1, .inl (K.2.1.1, 80, .inl (fun _ => 0))), (y2, .inl (K.2.1.2.1, 4, .inl (fun _ => 0)))]) rfl ?_
  refine gx_putF (pc := 21) hC dX2_init_21 inX2 rfl tyX2 tyX2_ok nmX2 0 rfl 2 (by decide) tb_122 rfl rfl rfl rfl (Nat.le_of_ble_eq_true rfl) ([(v, .inr (2, [.ref y1, .int 0, .ref y2, .int 0, .int 0, .int 0, .int 0])), (y1, .inl (K.2.1.1, 80, .inl (fun _ => 0))), (y2, .inl (K.2.1.2.1, 4, .inl (fun _ => 0)))]) rfl ?_
  refine gx_aload_n (pc := 24) hB dX2_init_24 0 rfl ?_
  refine gx_iconst (pc := 25) hB dX2_init_25 0 (by decide) ?_
  refine gx_put (pc := 26) hB dX2_init_26 inX2 rfl tyX2 tyX2_ok nmX2 0 rfl 3 (by decide) tb_123 rfl rfl rfl rfl (Nat.le_of_ble_eq_true rfl) ([(v, .inr (2, [.ref y1, .int 0, .ref y2, .int 0, .int 0, .int 0, .int 0])), (y1, .inl (K.2.1.1, 80, .inl (fun _ => 0))), (y2, .inl (K.2.1.2.1, 4, .inl (fun _ => 0)))]) rfl ?_
  refine gx_aload_n (pc := 29) hB dX2_init_29 0 rfl ?_
  refine gx_iconst (pc := 30) hB dX2_init_30 0 (by decide) ?_
  refine gx_put (pc := 31) hB dX2_init_31 inX2 rfl tyX2 tyX2_ok nmX2 0 rfl 4 (by decide) tb_124 rfl rfl rfl rfl (Nat.le_of_ble_eq_true rfl) ([(v, .inr (2, [.ref y1, .int 0, .ref y2, .int 0, .int 0, .int 0, .int 0])), (y1, .inl (K.2.1.1, 80, .inl (fun _ => 0))), (y2, .inl (K.2.1.2.1, 4, .inl (fun _ => 0)))]) rfl ?_
  refine gx_aload_n (pc := 34) hB dX2_init_34 0 rfl ?_
  refine gx_iconst (pc := 35) hB dX2_init_35 0 (by decide) ?_
  refine gx_put (pc := 36) hB dX2_init_36 inX2 rfl tyX2 tyX2_ok nmX2 0 rfl 5 (by decide) tb_125 rfl rfl rfl rfl (Nat.le_of_ble_eq_true rfl) ([(v, .inr (2, [.ref y1, .int 0, .ref y2, .int 0, .int 0, .int 0, .int 0])), (y1, .inl (K.2.1.1, 80, .inl (fun _ => 0))), (y2, .inl (K.2.1.2.1, 4, .inl (fun _ => 0)))]) rfl ?_
  refine gx_aload_n (pc := 39) hB dX2_init_39 0 rfl ?_
  refine gx_iconst (pc := 40) hB dX2_init_40 0 (by decide) ?_
  refine gx_put (pc := 41) hB dX2_init_41 inX2 rfl tyX2 tyX2_ok nmX2 0 rfl 6 (by decide) tb_126 rfl rfl rfl rfl (Nat.le_of_ble_eq_true rfl) ([(v, .inr (2, [.ref y1, .int 0, .ref y2, .int 0, .int 0, .int 0, .int 0])), (y1, .inl (K.2.1.1, 80, .inl (fun _ => 0))), (y2, .inl (K.2.1.2.1, 4, .inl (fun _ => 0)))]) rfl ?_
  exact gx_vret (pc := 44) hC dX2_init_44 (Nat.le_of_ble_eq_true rfl) (Nat.le_of_ble_eq_true rfl) ⟨rfl, y1, y2, rfl⟩
