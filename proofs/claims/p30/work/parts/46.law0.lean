def R_law : String := "GiftPurposesLaw"
def lw_P (b : Addr) (xs : List Int32) (args : Array Value) (s : State) : Prop := args = #[.ref b] ∧ s.IntsAt b xs ∧ xs.length ≤ 260 ∧ (Jvm.Cond.and given_1 narrow_1).before args s = true
def lw_Q (_ : Array Value) (s : State) (o : Outcome) (t : State) : Prop := o = .returned (some (.int 1)) ∧ Framed s o t [] 600000 7302250
def lw_Z (below : List Frame) (a : Array Value) (s : State) : State → Prop := fun t => ∃ o, t.status = .running ∧ Ended t below o ∧ lw_Q a s o t
/-- the law's own end, with 1 on the stack, nothing written that was there before, its room as the claim has it -/
theorem lw_ret {p : Program} {l : Launch} {e : Env} {s : State} {m : MethodId} {below : List Frame} {meth : Method} {c : Code} {b : Nat} (hx : p.tables.exec = Jvm.exec) (hb : c.code = code) (hr : meth.sig.returnType = ret) (hlocks : meth.locks = false) {pc : Nat} {H : Heap} {ls : Array Slot} (hdg : decode code pc = .ok (.ireturn, 1)) : W p l e room_1 s m #[Value.ref b] below meth c H [] 600000 7302250 (lw_Z below #[Value.ref b] s) (F0 m pc ls [.int 1]) := by
  intro T hT X
  obtain ⟨fs, hret, hrun, hended, hW, hframe⟩ := X.leave (v := some (.int 1)) (hlocks := hlocks) (fun h => by rw [hr] at h; cases h)
  have hmeth' : T.vm.method? m = some meth := X.method'
  refine ⟨T.setFrames fs, ?_, .returned (some (.int 1)), hrun, hended, rfl, ⟨_, rfl⟩, hW, hframe⟩
  jvm_step X.here [X.here.top, hx, hb, hdg, hmeth', hr, ret, narrow_b1]
  (try refine ⟨rfl, ?_⟩); (try refine ⟨rfl, ?_⟩)
  first | (intro acts; rw [hret _ acts rfl rfl rfl]) | rw [hret _ _ rfl rfl rfl]
  exact Steps.refl _
/-- what holds at the law's entry: the machine, the code, the tables' words (any of lw_tbl by 'hts w (by decide +kernel)'), the script of L ints xs at the cell b, what the Statement gives of the start (any of its parts by flat_of_before) -/
def lw_At (p : Program) (s : State) (m : MethodId) (meth : Method) (c : Code) (b L : Nat) (xs : Nat → Int32) : Prop :=
  p.tables.exec = Jvm.exec ∧ c.code = code ∧ meth.sig.returnType = ret ∧ c.maxLocals = 12 ∧ s.vm.findClass R_law = some m.cls ∧ (∀ w ∈ lw_tbl, w.before #[Value.ref b] s = true) ∧ va_X b L xs s s.heap ∧ b < s.heap.size ∧ meth.locks = false ∧ (Jvm.Cond.and given_1 narrow_1).before #[Value.ref b] s = true
/-! The law's walk in the layer. -/
def gx_L (l : Launch) (K : gx_K) (G : gx_J) : Prop :=
  ∃ (p : Program) (e : Env) (s : State) (m : MethodId) (below : List Frame) (meth : Method) (c : Code), G = gx_W p l e room_1 s m #[Value.ref K.2.2.1] below meth c K.1 (fun q : Nat => s.heap.size ≤ q) 12 (lw_Z below #[Value.ref K.2.2.1] s) ∧ lw_At p s m meth c K.2.2.1 K.2.2.2.1 K.2.2.2.2 ∧ va_K K.1 vwCl (gx_ty K) s ∧ gx_X K (fun q : Nat => s.heap.size ≤ q) s s.heap
section GXL
variable {l : Launch} {K : gx_K} {G : gx_J} {k n pc : Nat} {ws : va_W} {lv : List (Nat × Value)} {st : List Value}
theorem gx_Lb (h : gx_L l K G) : gx_B code 12 RL l room_1 K G := by
  obtain ⟨p, e, s, m, below, meth, c, rfl, C0, hK, hX⟩ := h
  obtain ⟨hx, hb, hr, hml, hown, hts, -⟩ := id C0
  exact ⟨p, e, s, m, _, below, meth, c, _, _, rfl, hx, hb, hml, hown, fun w hw => hts w (gx_tbl hw), hK, fun q h => h, hX⟩
theorem gx_lend (h : gx_L l K G) (hd : decode code pc = .ok (.ireturn, 1)) (hk : k ≤ 600000) (hn : n ≤ 7302250) : G k n ws lv pc [.int 1] := by
  obtain ⟨p, e, s, m, below, meth, c, rfl, C0, hK, hX⟩ := h
  obtain ⟨hx, hb, hr, hml, hown, hts, hXs, hbl, hlocks, -⟩ := id C0
  intro H locs ls hP hD hS hl
  refine va_forget hS.2.2 ?_
  refine W.widen (k := 600000) (n := 7302250) hk hn ?_
  exact lw_ret hx hb hr hlocks hd
end GXL
theorem gx_K0 {p : Program} {s : State} {m : MethodId} {meth : Method} {c : Code} {b L : Nat} {xs : Nat → Int32} (C0 : lw_At p s m meth c b L xs) : ∃ K : gx_K, (K.2.2.1 = b ∧ K.2.2.2.1 = L ∧ K.2.2.2.2 = xs) ∧ va_K K.1 vwCl (gx_ty K) s ∧ gx_X K (fun q : Nat => s.heap.size ≤ q) s s.heap := by
  obtain ⟨hx, hb, hr, hml, hown, hts, hXs, hbl, hlocks, hgv⟩ := C0
  have htb : ∀ w ∈ gx_TB, w.before #[Value.ref b] s = true := fun w hw => hts w (gx_tbl hw)
  obtain ⟨k0, i0, z0⟩ := u_known (C := RX0) (T := TX0) (N := 5) (n := 5) htb inX0 (htb _ tb_43)
  obtain ⟨k1, i1, z1⟩ := u_known (C := RX1) (T := TX1) (N := 3) (n := 3) htb inX1 (htb _ tb_97)
  obtain ⟨k2, i2, z2⟩ := u_known (C := RX2) (T := TX2) (N := 7) (n := 7) htb inX2 (htb _ tb_115)
  obtain ⟨k3, i3, z3⟩ := u_known (C := RX3) (T := TX3) (N := 4) (n := 4) htb inX3 (htb _ tb_49)
  obtain ⟨k4, i4, z4⟩ := u_known (C := RX4) (T := TX4) (N := 4) (n := 4) htb inX4 (htb _ tb_35)
  obtain ⟨cC, fC, oC, gC1, gC2, gC3⟩ := Cond.arrayClass_spec (htb _ tb_142)
  obtain ⟨cI, fI1, oI, gI1, gI2, gI3⟩ := Cond.arrayClass_spec (htb _ tb_67)
  have hao : (Cond.arrayOver (.array .int)).before #[Value.ref b] s = true := hts _ (List.mem_of_getElem? (i := 103) (by decide +kernel))
  obtain ⟨comp, cA, fA, gA1, gA2, gA3, gA4, gA5⟩ := arrayOverA_spec hao
  have hnest : ∀ w : Cond, w.onTables = true → w ∈ lw_tbl → va_Nw w s := fun w h1 h2 => va_Nw.of h1 (hts w h2)
  refine ⟨((fun k => if k = 0 then k0 else if k = 1 then k1 else if k = 2 then k2 else if k = 3 then k3 else k4, fun k => if k = 0 then i0 else if k = 1 then i1 else if k = 2 then i2 else if k = 3 then i3 else i4), (cC, cI, cI, cA), b, L, xs), ⟨rfl, rfl, rfl⟩, ⟨?_, ?_⟩, ⟨⟨?_, ?_, ?_⟩, hao, hXs, hbl, Nat.not_le.mpr hbl⟩⟩
  · intro k q hk
    match k, hk with
    | 0, hk => cases hk; exact z0
    | 1, hk => cases hk; exact z1
    | 2, hk => cases hk; exact z2
    | 3, hk => cases hk; exact z3
    | 4, hk => cases hk; exact z4
    | k + 5, hk => simp at hk
  · intro k q hk
    match k, hk with
    | 0, hk => cases hk; exact ⟨fun n z => ⟨fun k h => (by cases h), fC, gC2, oC, gC3⟩, gC1⟩
    | 1, hk => cases hk; exact ⟨fun n z => ⟨fun k h => (by cases h), fI1, gI2, oI, gI3⟩, gI1⟩
    | 2, hk => cases hk; exact ⟨fun n z => ⟨fun k h => (by cases h), fI1, gI2, oI, gI3⟩, gI1⟩
    | 3, hk => cases hk; exact ⟨fun n z => ⟨fun k h => (by cases h), fA, gA3, comp, gA4⟩, gA5⟩
    | k + 4, hk => simp at hk
  · exact hnest _ rfl (List.mem_of_getElem? (i := 98) (by decide +kernel))
  · exact hnest _ rfl (List.mem_of_getElem? (i := 116) (by decide +kernel))
  · exact hnest _ rfl (List.mem_of_getElem? (i := 168) (by decide +kernel))
/-! The start of both. -/
set_option maxRecDepth 100000 in
theorem sB_new : sB sNew 1 0 0 0 999 := by
  refine ⟨⟨⟨by decide +kernel, by decide +kernel⟩, ⟨by decide +kernel, by decide +kernel⟩, by decide +kernel, by decide +kernel⟩, fun p hp => ?_, fun d hd => absurd hd (by omega), fun d hd => absurd hd (by omega), fun d hd => absurd hd (by omega), by decide +kernel⟩
  obtain rfl : p = 0 := by omega
  exact ⟨by decide +kernel, Or.inl (by decide +kernel)⟩
set_option maxRecDepth 100000 in
theorem sOk_new : sOk sNew 1 0 0 0 := by
  refine ⟨⟨by decide +kernel, by decide +kernel, by decide +kernel, by decide +kernel, by omega, by omega, by omega, by omega, by omega⟩, fun d hd => absurd hd (by omega), fun d hd => absurd hd (by omega), fun _ => 0, fun p hp => ⟨Nat.zero_le _, Or.inl ?_⟩⟩
  obtain rfl : p = 0 := by omega
  decide +kernel
def G0n : Nat → Int32 := upd (upd (upd (fun _ => 0) 0 60) 1 5000) 2 1
def F0n : Nat → Int32 := upd (fun _ => 0) 9 (-4)
set_option maxRecDepth 100000 in
theorem LJ_new : LJ cNew G0n F0n (fun _ => 0) (fun _ => 0) (fun _ => 0) (fun _ => 0) (fun _ => 0) sNew 1 0 0 0 0 0 := by
  refine ⟨⟨Rl_new, sOk_new, sB_new⟩, ⟨by decide +kernel, ?_, fun d hd => absurd hd (Nat.not_lt_zero d), fun d hd => absurd hd (Nat.not_lt_zero d), fun d hd => absurd hd (Nat.not_lt_zero d)⟩, ?_, ⟨fun d hd => absurd hd (Nat.not_lt_zero d), fun d hd => absurd hd (Nat.not_lt_zero d)⟩, by omega, by omega⟩
  · intro p hp
    obtain rfl : p = 0 := by omega
    decide +kernel
  · intro p hp
    obtain rfl : p = 0 := by omega
    exact ⟨by decide +kernel, fun h => absurd rfl h⟩
theorem lo_lt {v : Int32} {m : Nat} (h : 0 < m) : loN v m < m := Nat.mod_lt _ h
