/-! What a walk stands on, beside the cells of its world: links of nest mates, the class of arrays of arrays, the script. -/
abbrev gx_K : Type := va_G × (ClassId × ClassId × ClassId × ClassId) × Nat × Nat × (Nat → Int32)
abbrev gx_ty (K : gx_K) : List (ClassId × FieldType) := [(K.2.1.1, .char), (K.2.1.2.1, .int), (K.2.1.2.1, .int), (K.2.1.2.2.2, .array .int)]
def gx_AO (t : FieldType) (U : State) : Prop := (Cond.arrayOver (.array t)).before #[] U = true
theorem gx_AO.moved {t : FieldType} {u U : State} (hvm : u.vm.Alike U.vm) (h : gx_AO t u) : gx_AO t U := by
  obtain ⟨comp, c, k, h1, h2, h3, h4, h5⟩ := arrayOverA_spec h
  obtain ⟨k', hk', he⟩ := hvm.2.2 _ _ h3
  have hi : (U.vm.classes.findIdx? fun (x : Class) => match x.kind with | .array component _ => component == comp | _ => false) = some c := by
    have e : ∀ f : Class → Bool, (∀ x : Class, f x.bare = f x) → U.vm.classes.findIdx? f = u.vm.classes.findIdx? f := fun f hf => by
      have e1 : ∀ vm : Vm, vm.bare.classes.findIdx? f = vm.classes.findIdx? f := fun vm => by
        simp only [Vm.bare, Array.findIdx?_map]
        exact congrArg (fun g => vm.classes.findIdx? g) (funext hf)
      rw [← e1 U.vm, ← e1 u.vm]
      first | rw [hvm.bare_eq] | rw [← hvm.bare_eq]
    exact (e _ (fun _ => rfl)).trans h2
  have hkind : k'.kind = .array comp (.array t) := by rw [he]; exact h4
  have f1 : U.vm.findClass (FieldType.array t).toString = some comp := by rw [hvm.findClass]; exact h1
  have f2 : U.vm.findClass ("[" ++ (FieldType.array t).toString) = some c := by rw [hvm.findClass]; exact h5
  unfold gx_AO Cond.before Cond.holds
  simp only [Cond.value]
  rw [f1, Option.bind_some]
  refine (congrArg (fun o : Option Nat => (o.bind (fun c => (U.vm.classes[c]?).map fun (k : Class) => match k.kind with | .array _ ty => decide (ty = FieldType.array t) && decide (U.vm.findClass ("[" ++ (FieldType.array t).toString) = some c) | _ => false) == some true)) hi).trans ?_
  simp [hk', hkind, f2]
def gx_X (K : gx_K) (A : Nat → Prop) (U : State) (H : Heap) : Prop :=
  (va_Nw (.methodLinkNest RX4 23 yX1_init "GiftPurposes") U ∧ va_Nw (.methodLinkNest RX4 30 yX2_init "GiftPurposes") U ∧ va_Nw (.methodLinkNest RX0 54 yX4_within "GiftPurposes") U) ∧
  gx_AO .int U ∧ va_X K.2.2.1 K.2.2.2.1 K.2.2.2.2 U H ∧ K.2.2.1 < H.size ∧ ¬ A K.2.2.1
theorem gx_X.on {K : gx_K} {A B : Nat → Prop} {s U : State} {H H1 : Heap} (hW : s.WarmedH U.vm) (hk : ∀ a : Nat, a < H.size → ¬ A a → H1[a]? = H[a]?) (hAB : ∀ q, B q → A q) (h : gx_X K A s H) : gx_X K B U H1 := by
  obtain ⟨⟨h1, h2, h3⟩, h5, h6, h7, h8⟩ := h
  have e := hk _ h7 h8
  refine ⟨⟨h1.warmM hW, h2.warmM hW, h3.warmM hW⟩, h5.moved hW.alike, (h6.moved hW.alike).kept e, ?_, fun z => h8 (hAB _ z)⟩
  obtain ⟨scr, hs, -⟩ := h6
  rw [hs] at e
  exact (Array.getElem?_eq_some_iff.mp e).1
theorem gx_X.same {K : gx_K} {A : Nat → Prop} {u U : State} {H : Heap} (hv : U.vm = u.vm) (h : gx_X K A u H) : gx_X K A U H := by
  obtain ⟨⟨h1, h2, h3⟩, h5, h6, h7, h8⟩ := h
  have ha : u.vm.Alike U.vm := by rw [hv]; exact Vm.Alike.refl u.vm
  exact ⟨⟨h1.same rfl hv.symm, h2.same rfl hv.symm, h3.same rfl hv.symm⟩, h5.moved ha, h6.moved ha, h7, h8⟩
/-! A judgement over the kit's rows: all that a walk needs of the machine is in gx_B, what it ends in, in gx_C; a goal is 'G cells slots world locals pc stack'. -/
abbrev gx_J : Type := Nat → Nat → va_W → List (Nat × Value) → Nat → List Value → Prop
def gx_W (p : Program) (l : Launch) (e : Env) (R : Room) (s : State) (m : MethodId) (args : Array Value) (below : List Frame) (meth : Method) (c : Code) (D : va_G) (A : Nat → Prop) (nL : Nat) (Q : State → Prop) : gx_J := fun k n ws lv pc st =>
  ∀ (H : Heap) (locs : List Loc) (ls : Array Slot), va_P D vwCl ws H → va_D A ws → va_S A s.heap H locs → lv_has ls nL lv → W p l e R s m args below meth c H locs k n Q (F0 m pc ls st)
def gx_Q (K : gx_K) (A : Nat → Prop) (Post : Option Value → va_W → Prop) : Array Value → State → Outcome → State → Prop := fun _ st oc t =>
  (∃ (v : Option Value) (w : va_W), oc = .returned v ∧ Post v w ∧ va_P K.1 vwCl w t.heap ∧ va_K K.1 vwCl (gx_ty K) t ∧ va_D A w) ∧ va_F A st t
/-- a contract: from the cells W0, the answer and the cells behind it are as Post says -/
def gx_Ctr (l : Launch) (K : gx_K) (y : MethodName) (cc : ByteArray) (nL : Nat) (ret : Option FieldType) (rm : Room) (av : List Value) (W0 : va_W) (Post : Option Value → va_W → Prop) : Prop :=
  ∀ sz : Nat, Met l y (Cond.code y cc nL ret :: gx_TB) rm (va_Pc av (fun U => U.heap.size = sz ∧ va_P K.1 vwCl W0 U.heap ∧ va_K K.1 vwCl (gx_ty K) U ∧ va_D (fun _ => True) W0 ∧ gx_X K (va_A W0 sz) U U.heap)) (gx_Q K (va_A W0 sz) Post) rm.cells rm.slots (va_A W0 sz)
/-- what holds in a walk, but for its end -/
def gx_B (cc : ByteArray) (nL : Nat) (own : String) (l : Launch) (R : Room) (K : gx_K) (G : gx_J) : Prop :=
  ∃ (p : Program) (e : Env) (s : State) (m : MethodId) (args : Array Value) (below : List Frame) (meth : Method) (c : Code) (A : Nat → Prop) (Q : State → Prop), G = gx_W p l e R s m args below meth c K.1 A nL Q ∧ p.tables.exec = Jvm.exec ∧ c.code = cc ∧ c.maxLocals = nL ∧ s.vm.findClass own = some m.cls ∧ (∀ w ∈ gx_TB, w.before args s = true) ∧ va_K K.1 vwCl (gx_ty K) s ∧ (∀ q : Nat, s.heap.size ≤ q → A q) ∧ gx_X K A s s.heap
def gx_C (cc : ByteArray) (nL : Nat) (own nm : String) (l : Launch) (R : Room) (K : gx_K) (ret : Option FieldType) (Post : Option Value → va_W → Prop) (G : gx_J) : Prop :=
  ∃ (p : Program) (e : Env) (s : State) (m : MethodId) (args : Array Value) (below : List Frame) (meth : Method) (c : Code) (A : Nat → Prop), G = gx_W p l e R s m args below meth c K.1 A nL (MQ below (gx_Q K A Post) args s R.cells R.slots A) ∧ p.tables.exec = Jvm.exec ∧ c.code = cc ∧ c.maxLocals = nL ∧ s.vm.findClass own = some m.cls ∧ (∀ w ∈ gx_TB, w.before args s = true) ∧ va_K K.1 vwCl (gx_ty K) s ∧ (∀ q : Nat, s.heap.size ≤ q → A q) ∧ gx_X K A s s.heap ∧ meth.locks = false ∧ meth.sig.returnType = ret ∧ meth.name = nm
theorem gx_C.b {cc : ByteArray} {nL : Nat} {own nm : String} {l : Launch} {R : Room} {K : gx_K} {ret : Option FieldType} {Post : Option Value → va_W → Prop} {G : gx_J} (C : gx_C cc nL own nm l R K ret Post G) : gx_B cc nL own l R K G := by
  obtain ⟨p, e, s, m, args, below, meth, c, A, hG, hx, hb, hml, hown, hts, hK, hA, hX, -⟩ := C
  exact ⟨p, e, s, m, args, below, meth, c, A, _, hG, hx, hb, hml, hown, hts, hK, hA, hX⟩
theorem gx_of {l : Launch} {K : gx_K} {y : MethodName} {cc : ByteArray} {nL : Nat} {ret : Option FieldType} {rm : Room} {av : List Value} {W0 : va_W} {Post : Option Value → va_W → Prop} (hy : plainName y.cls = true) (hn : (lg_sl av).length ≤ nL)
    (body : ∀ G : gx_J, gx_C cc nL y.cls y.name l rm K ret Post G → G 0 0 W0 (lv_args 0 av) 0 []) : gx_Ctr l K y cc nL ret rm av W0 Post := by
  intro sz
  refine Met.ofW (cc := cc) (maxL := nL) (ret := ret) hy rfl ?_
  intro p e s m args below meth c s₁ B hml hv
  obtain ⟨rfl, hsz, hP, hK, hD0, hX⟩ := hv
  subst hsz
  have hl := lv_entry av (n := nL) hn
  rw [lg_entry_eq]
  exact body _ ⟨p, e, s, m, av.toArray, below, meth, c, va_A W0 s.heap.size, rfl, B.exec, B.bytes, hml, findClass_of_methodNamed B.named, fun w hw => atoms_spec (ws := Cond.code y cc nL ret :: gx_TB) B.pre w (List.mem_cons_of_mem _ hw), hK, fun q h => Or.inr h, hX, B.notSynchronized, B.returns, (name_of_methodNamed B.named B.method).1⟩ s.heap [] _ hP hD0.self va_S.rf hl
section GX
variable {cc : ByteArray} {nL : Nat} {own nm : String} {l : Launch} {R : Room} {K : gx_K} {ret : Option FieldType} {Post : Option Value → va_W → Prop} {G : gx_J} {k n pc : Nat} {ws : va_W} {lv : List (Nat × Value)} {st : List Value}
-- ends
theorem gx_iret (C : gx_C cc nL own nm l R K (some .int) Post G) (hd : decode cc pc = .ok (.ireturn, 1)) (hk : k ≤ R.cells) (hn : n ≤ R.slots) {v : Int32} (hp : Post (some (.int v)) ws) : G k n ws lv pc [.int v] := by
  obtain ⟨p, e, s, m, args, below, meth, c, A, rfl, hx, hb, hml, hown, hts, hK, hA, hX, hlocks, hr, -⟩ := C
  intro H locs ls hP hD hS hl
  refine W.widen hk hn ?_
  exact W.iret (v := v) hx hb hr (fun t ht hW => ⟨⟨_, ws, rfl, hp, by rw [ht]; exact hP, va_K.moved hW.alike hK, hD⟩, hS.F ht⟩) hS.2.2 hd hlocks
theorem gx_zret (C : gx_C cc nL own nm l R K (some .boolean) Post G) (hd : decode cc pc = .ok (.ireturn, 1)) (hk : k ≤ R.cells) (hn : n ≤ R.slots) {v : Int32} (hv : v = 0 ∨ v = 1) (hp : Post (some (.int v)) ws) : G k n ws lv pc [.int v] := by
  obtain ⟨p, e, s, m, args, below, meth, c, A, rfl, hx, hb, hml, hown, hts, hK, hA, hX, hlocks, hr, -⟩ := C
  intro H locs ls hP hD hS hl
  refine W.widen hk hn ?_
  exact W.zret (v := v) (ty := .boolean) hx hb hr (by rcases hv with rfl | rfl <;> decide +kernel) (fun t ht hW => ⟨⟨_, ws, rfl, hp, by rw [ht]; exact hP, va_K.moved hW.alike hK, hD⟩, hS.F ht⟩) hS.2.2 hd hlocks
theorem gx_cret (C : gx_C cc nL own nm l R K (some .char) Post G) (hd : decode cc pc = .ok (.ireturn, 1)) (hk : k ≤ R.cells) (hn : n ≤ R.slots) {v : Int32} (hv : narrow .char (.int v) = .int v) (hp : Post (some (.int v)) ws) : G k n ws lv pc [.int v] := by
  obtain ⟨p, e, s, m, args, below, meth, c, A, rfl, hx, hb, hml, hown, hts, hK, hA, hX, hlocks, hr, -⟩ := C
  intro H locs ls hP hD hS hl
  refine W.widen hk hn ?_
  exact W.zret (v := v) (ty := .char) hx hb hr hv (fun t ht hW => ⟨⟨_, ws, rfl, hp, by rw [ht]; exact hP, va_K.moved hW.alike hK, hD⟩, hS.F ht⟩) hS.2.2 hd hlocks
theorem gx_vret (C : gx_C cc nL own nm l R K none Post G) (hd : decode cc pc = .ok (.return_, 1)) (hk : k ≤ R.cells) (hn : n ≤ R.slots) (hp : Post none ws) : G k n ws lv pc [] := by
  obtain ⟨p, e, s, m, args, below, meth, c, A, rfl, hx, hb, hml, hown, hts, hK, hA, hX, hlocks, hr, -⟩ := C
  intro H locs ls hP hD hS hl
  refine W.widen hk hn ?_
  exact W.vret hx hb hr (fun t ht hW => ⟨⟨_, ws, rfl, hp, by rw [ht]; exact hP, va_K.moved hW.alike hK, hD⟩, hS.F ht⟩) hS.2.2 hd hlocks
theorem gx_aret (C : gx_C cc nL own nm l R K ret Post G) (hd : decode cc pc = .ok (.areturn, 1)) (hk : k ≤ R.cells) (hn : n ≤ R.slots) {rt : String} (hrt : ret = some (.object rt)) {a : Nat} (hp : Post (some (.ref a)) ws) : G k n ws lv pc [.ref a] := by
  obtain ⟨p, e, s, m, args, below, meth, c, A, rfl, hx, hb, hml, hown, hts, hK, hA, hX, hlocks, hr, -⟩ := C
  intro H locs ls hP hD hS hl
  refine W.widen hk hn ?_
  exact W.aret (v := .ref a) hx hb (hr.trans hrt) (Or.inl ⟨_, rfl⟩) (Or.inr ⟨_, rfl⟩) (fun t ht hW => ⟨⟨_, ws, rfl, hp, by rw [ht]; exact hP, va_K.moved hW.alike hK, hD⟩, hS.F ht⟩) hS.2.2 hd hlocks
-- shaping
theorem gx_top {x y : Int32} (h : x = y) (kk : G k n ws lv pc (.int y :: st)) : G k n ws lv pc (.int x :: st) := by rw [h]; exact kk
theorem gx_st {st' : List Value} (h : st = st') (kk : G k n ws lv pc st') : G k n ws lv pc st := by rw [h]; exact kk
theorem gx_ws {ws' : va_W} (h : ws = ws') (kk : G k n ws' lv pc st) : G k n ws lv pc st := by rw [h]; exact kk
theorem gx_sub (B : gx_B cc nL own l R K G) {lv' : List (Nat × Value)} (is : List Nat) (h : lv_pick lv is = lv') (kk : G k n ws lv' pc st) : G k n ws lv pc st := by
  obtain ⟨p, e, s, m, args, below, meth, c, A, Q, rfl, hx, hb, hml, hown, hts, hK, hA, hX⟩ := B
  intro H locs ls hP hD hS hl
  exact kk H locs ls hP hD hS (lv_sub hl is h)
theorem gx_perm (B : gx_B cc nL own l R K G) {ws' : va_W} (is : List Nat) (hn : va_nd is = true) (h : is.map (fun i => ws[i]?) = ws'.map some) (kk : G k n ws' lv pc st) : G k n ws lv pc st := by
  obtain ⟨p, e, s, m, args, below, meth, c, A, Q, rfl, hx, hb, hml, hown, hts, hK, hA, hX⟩ := B
  intro H locs ls hP hD hS hl
  refine kk H locs ls (fun j q hq => ?_) (hD.sub is hn h) hS hl
  have h1 : (is.map (fun i => ws[i]?))[j]? = some (some q) := by rw [h, List.getElem?_map, hq]; rfl
  rw [List.getElem?_map] at h1
  cases hi : is[j]? with
  | none => rw [hi] at h1; cases h1
  | some i => rw [hi] at h1; exact hP i q (Option.some.inj h1)
theorem gx_widen (B : gx_B cc nL own l R K G) {k' n' : Nat} (hk : k ≤ k') (hn : n ≤ n') (kk : G k' n' ws lv pc st) : G k n ws lv pc st := by
  obtain ⟨p, e, s, m, args, below, meth, c, A, Q, rfl, hx, hb, hml, hown, hts, hK, hA, hX⟩ := B
  intro H locs ls hP hD hS hl
  exact W.widen hk hn (kk H locs ls hP hD hS hl)
-- constants, places, arithmetic
theorem gx_iconst (B : gx_B cc nL own l R K G) {z : Int} (hd : decode cc pc = .ok (.iconst z, 1)) (v : Int32) (hv : Int32.ofInt z = v) (kk : G k n ws lv (pc + 1) (.int v :: st)) : G k n ws lv pc st := by
  obtain ⟨p, e, s, m, args, below, meth, c, A, Q, rfl, hx, hb, hml, hown, hts, hK, hA, hX⟩ := B
  intro H locs ls hP hD hS hl
  exact lv_iconst hx hb hd hv (kk H locs ls hP hD hS hl)
theorem gx_bipush (B : gx_B cc nL own l R K G) {z : Int} (hd : decode cc pc = .ok (.bipush z, 2)) (v : Int32) (hv : (Int8.ofInt z).toInt32 = v) (kk : G k n ws lv (pc + 2) (.int v :: st)) : G k n ws lv pc st := by
  obtain ⟨p, e, s, m, args, below, meth, c, A, Q, rfl, hx, hb, hml, hown, hts, hK, hA, hX⟩ := B
  intro H locs ls hP hD hS hl
  exact lv_bipush hx hb hd hv (kk H locs ls hP hD hS hl)
theorem gx_sipush (B : gx_B cc nL own l R K G) {z : Int} (hd : decode cc pc = .ok (.sipush z, 3)) (v : Int32) (hv : (Int16.ofInt z).toInt32 = v) (kk : G k n ws lv (pc + 3) (.int v :: st)) : G k n ws lv pc st := by
  obtain ⟨p, e, s, m, args, below, meth, c, A, Q, rfl, hx, hb, hml, hown, hts, hK, hA, hX⟩ := B
  intro H locs ls hP hD hS hl
  exact lv_sipush hx hb hd hv (kk H locs ls hP hD hS hl)
theorem gx_ldc (B : gx_B cc nL own l R K G) {ix : Nat} {v : Int32} (hd : decode cc pc = .ok (.ldc ix, 2)) (hc : Jvm.Cond.constant own ix v ∈ gx_TB) (kk : G k n ws lv (pc + 2) (.int v :: st)) : G k n ws lv pc st := by
  obtain ⟨p, e, s, m, args, below, meth, c, A, Q, rfl, hx, hb, hml, hown, hts, hK, hA, hX⟩ := B
  intro H locs ls hP hD hS hl
  exact lv_ldc hx hb hown (hts _ hc) hd (kk H locs ls hP hD hS hl)
theorem gx_iload_n (B : gx_B cc nL own l R K G) {i : Fin 4} (hd : decode cc pc = .ok (.iload_n i, 1)) (q : Nat) {x : Int32} (hq : lv[q]? = some ((i : Nat), .int x)) (kk : G k n ws lv (pc + 1) (.int x :: st)) : G k n ws lv pc st := by
  obtain ⟨p, e, s, m, args, below, meth, c, A, Q, rfl, hx, hb, hml, hown, hts, hK, hA, hX⟩ := B
  intro H locs ls hP hD hS hl
  exact lv_iload_n hx hb hd rfl (lv_at hl q hq) (kk H locs ls hP hD hS hl)
theorem gx_iload (B : gx_B cc nL own l R K G) {i : Nat} (hd : decode cc pc = .ok (.iload i, 2)) (q : Nat) {x : Int32} (hq : lv[q]? = some (i, .int x)) (kk : G k n ws lv (pc + 2) (.int x :: st)) : G k n ws lv pc st := by
  obtain ⟨p, e, s, m, args, below, meth, c, A, Q, rfl, hx, hb, hml, hown, hts, hK, hA, hX⟩ := B
  intro H locs ls hP hD hS hl
  exact lv_iload hx hb hd (lv_at hl q hq) (kk H locs ls hP hD hS hl)
theorem gx_aload_n (B : gx_B cc nL own l R K G) {i : Fin 4} (hd : decode cc pc = .ok (.aload_n i, 1)) (q : Nat) {x : Nat} (hq : lv[q]? = some ((i : Nat), .ref x)) (kk : G k n ws lv (pc + 1) (.ref x :: st)) : G k n ws lv pc st := by
  obtain ⟨p, e, s, m, args, below, meth, c, A, Q, rfl, hx, hb, hml, hown, hts, hK, hA, hX⟩ := B
  intro H locs ls hP hD hS hl
  exact lv_aload_n hx hb hd rfl (lv_at hl q hq) (kk H locs ls hP hD hS hl)
theorem gx_lload_n (B : gx_B cc nL own l R K G) {i : Fin 4} (hd : decode cc pc = .ok (.lload_n i, 1)) (q : Nat) {x : Int64} (hq : lv[q]? = some ((i : Nat), .long x)) (kk : G k n ws lv (pc + 1) (.long x :: st)) : G k n ws lv pc st := by
  obtain ⟨p, e, s, m, args, below, meth, c, A, Q, rfl, hx, hb, hml, hown, hts, hK, hA, hX⟩ := B
  intro H locs ls hP hD hS hl
  exact lv_lload_n hx hb hd rfl (lv_at hl q hq) (kk H locs ls hP hD hS hl)
theorem gx_istore_n (B : gx_B cc nL own l R K G) {i : Fin 4} (hd : decode cc pc = .ok (.istore_n i, 1)) (hi : (i : Nat) < nL) {x : Int32} (lv' : List (Nat × Value)) (hv : ((i : Nat), Value.int x) :: lv.filter (fun q => !(q.1 == (i : Nat)) && !(q.1 + 1 == (i : Nat) && q.2.category == 2)) = lv') (kk : G k n ws lv' (pc + 1) st) : G k n ws lv pc (.int x :: st) := by
  obtain ⟨p, e, s, m, args, below, meth, c, A, Q, rfl, hx, hb, hml, hown, hts, hK, hA, hX⟩ := B
  intro H locs ls hP hD hS hl
  exact lv_istore_n hx hb hd rfl hl hi hv (fun ls' hl' => kk H locs ls' hP hD hS hl')
theorem gx_istore (B : gx_B cc nL own l R K G) {i : Nat} (hd : decode cc pc = .ok (.istore i, 2)) (hi : i < nL) {x : Int32} (lv' : List (Nat × Value)) (hv : (i, Value.int x) :: lv.filter (fun q => !(q.1 == i) && !(q.1 + 1 == i && q.2.category == 2)) = lv') (kk : G k n ws lv' (pc + 2) st) : G k n ws lv pc (.int x :: st) := by
  obtain ⟨p, e, s, m, args, below, meth, c, A, Q, rfl, hx, hb, hml, hown, hts, hK, hA, hX⟩ := B
  intro H locs ls hP hD hS hl
  exact lv_istore hx hb hd hl hi hv (fun ls' hl' => kk H locs ls' hP hD hS hl')
theorem gx_astore_n (B : gx_B cc nL own l R K G) {i : Fin 4} (hd : decode cc pc = .ok (.astore_n i, 1)) (hi : (i : Nat) < nL) {x : Nat} (lv' : List (Nat × Value)) (hv : ((i : Nat), Value.ref x) :: lv.filter (fun q => !(q.1 == (i : Nat)) && !(q.1 + 1 == (i : Nat) && q.2.category == 2)) = lv') (kk : G k n ws lv' (pc + 1) st) : G k n ws lv pc (.ref x :: st) := by
  obtain ⟨p, e, s, m, args, below, meth, c, A, Q, rfl, hx, hb, hml, hown, hts, hK, hA, hX⟩ := B
  intro H locs ls hP hD hS hl
  exact lv_astore_n hx hb hd rfl hl hi hv (fun ls' hl' => kk H locs ls' hP hD hS hl')
theorem gx_iinc (B : gx_B cc nL own l R K G) {i : Nat} {z : Int} (hd : decode cc pc = .ok (.iinc i z, 3)) (q : Nat) (hi : i < nL) {x : Int32} (hq : lv[q]? = some (i, .int x)) (v : Int32) (hv : x + Int32.ofInt z = v) (lv' : List (Nat × Value)) (hl' : (i, Value.int v) :: lv.filter (fun q => !(q.1 == i) && !(q.1 + 1 == i && q.2.category == 2)) = lv') (kk : G k n ws lv' (pc + 3) st) : G k n ws lv pc st := by
  obtain ⟨p, e, s, m, args, below, meth, c, A, Q, rfl, hx, hb, hml, hown, hts, hK, hA, hX⟩ := B
  intro H locs ls hP hD hS hl
  exact lv_iinc hx hb hd hl (k := q) hq hv hi hl' (fun ls' h2 => kk H locs ls' hP hD hS h2)
theorem gx_iadd (B : gx_B cc nL own l R K G) (hd : decode cc pc = .ok (.iadd, 1)) {x y : Int32} (kk : G k n ws lv (pc + 1) (.int (x + y) :: st)) : G k n ws lv pc (.int y :: .int x :: st) := by
  obtain ⟨p, e, s, m, args, below, meth, c, A, Q, rfl, hx, hb, hml, hown, hts, hK, hA, hX⟩ := B
  intro H locs ls hP hD hS hl
  exact lv_iadd hx hb hd (kk H locs ls hP hD hS hl)
theorem gx_isub (B : gx_B cc nL own l R K G) (hd : decode cc pc = .ok (.isub, 1)) {x y : Int32} (kk : G k n ws lv (pc + 1) (.int (x - y) :: st)) : G k n ws lv pc (.int y :: .int x :: st) := by
  obtain ⟨p, e, s, m, args, below, meth, c, A, Q, rfl, hx, hb, hml, hown, hts, hK, hA, hX⟩ := B
  intro H locs ls hP hD hS hl
  exact lv_isub hx hb hd (kk H locs ls hP hD hS hl)
theorem gx_imul (B : gx_B cc nL own l R K G) (hd : decode cc pc = .ok (.imul, 1)) {x y : Int32} (kk : G k n ws lv (pc + 1) (.int (x * y) :: st)) : G k n ws lv pc (.int y :: .int x :: st) := by
  obtain ⟨p, e, s, m, args, below, meth, c, A, Q, rfl, hx, hb, hml, hown, hts, hK, hA, hX⟩ := B
  intro H locs ls hP hD hS hl
  exact lv_imul hx hb hd (kk H locs ls hP hD hS hl)
theorem gx_iand (B : gx_B cc nL own l R K G) (hd : decode cc pc = .ok (.iand, 1)) {x y : Int32} (kk : G k n ws lv (pc + 1) (.int (x &&& y) :: st)) : G k n ws lv pc (.int y :: .int x :: st) := by
  obtain ⟨p, e, s, m, args, below, meth, c, A, Q, rfl, hx, hb, hml, hown, hts, hK, hA, hX⟩ := B
  intro H locs ls hP hD hS hl
  exact lv_iand hx hb hd (kk H locs ls hP hD hS hl)
theorem gx_ior (B : gx_B cc nL own l R K G) (hd : decode cc pc = .ok (.ior, 1)) {x y : Int32} (kk : G k n ws lv (pc + 1) (.int (x ||| y) :: st)) : G k n ws lv pc (.int y :: .int x :: st) := by
  obtain ⟨p, e, s, m, args, below, meth, c, A, Q, rfl, hx, hb, hml, hown, hts, hK, hA, hX⟩ := B
  intro H locs ls hP hD hS hl
  exact lv_ior hx hb hd (kk H locs ls hP hD hS hl)
theorem gx_ishl (B : gx_B cc nL own l R K G) (hd : decode cc pc = .ok (.ishl, 1)) {x y : Int32} (kk : G k n ws lv (pc + 1) (.int (x <<< (y &&& 31)) :: st)) : G k n ws lv pc (.int y :: .int x :: st) := by
  obtain ⟨p, e, s, m, args, below, meth, c, A, Q, rfl, hx, hb, hml, hown, hts, hK, hA, hX⟩ := B
  intro H locs ls hP hD hS hl
  exact lv_ishl hx hb hd (kk H locs ls hP hD hS hl)
theorem gx_idiv (B : gx_B cc nL own l R K G) (hd : decode cc pc = .ok (.idiv, 1)) {x y : Int32} (hne : ¬ y = 0) (kk : G k n ws lv (pc + 1) (.int (x / y) :: st)) : G k n ws lv pc (.int y :: .int x :: st) := by
  obtain ⟨p, e, s, m, args, below, meth, c, A, Q, rfl, hx, hb, hml, hown, hts, hK, hA, hX⟩ := B
  intro H locs ls hP hD hS hl
  exact lv_idiv hx hb hd hne (kk H locs ls hP hD hS hl)
theorem gx_irem (B : gx_B cc nL own l R K G) (hd : decode cc pc = .ok (.irem, 1)) {x y : Int32} (hne : ¬ y = 0) (kk : G k n ws lv (pc + 1) (.int (x - x / y * y) :: st)) : G k n ws lv pc (.int y :: .int x :: st) := by
  obtain ⟨p, e, s, m, args, below, meth, c, A, Q, rfl, hx, hb, hml, hown, hts, hK, hA, hX⟩ := B
  intro H locs ls hP hD hS hl
  exact lv_irem hx hb hd hne (kk H locs ls hP hD hS hl)
theorem gx_ineg (B : gx_B cc nL own l R K G) (hd : decode cc pc = .ok (.ineg, 1)) {x : Int32} (kk : G k n ws lv (pc + 1) (.int (-x) :: st)) : G k n ws lv pc (.int x :: st) := by
  obtain ⟨p, e, s, m, args, below, meth, c, A, Q, rfl, hx, hb, hml, hown, hts, hK, hA, hX⟩ := B
  intro H locs ls hP hD hS hl
  exact lv_ineg hx hb hd (kk H locs ls hP hD hS hl)
theorem gx_dup (B : gx_B cc nL own l R K G) (hd : decode cc pc = .ok (.dup, 1)) {v : Value} (hc : v.category = 1) (kk : G k n ws lv (pc + 1) (v :: v :: st)) : G k n ws lv pc (v :: st) := by
  obtain ⟨p, e, s, m, args, below, meth, c, A, Q, rfl, hx, hb, hml, hown, hts, hK, hA, hX⟩ := B
  intro H locs ls hP hD hS hl
  exact lv_dup hx hb hd hc (kk H locs ls hP hD hS hl)
theorem gx_dup2 (B : gx_B cc nL own l R K G) (hd : decode cc pc = .ok (.dup2, 1)) {v u : Value} (hc : v.category = 1) (hc2 : u.category = 1) (kk : G k n ws lv (pc + 1) (v :: u :: v :: u :: st)) : G k n ws lv pc (v :: u :: st) := by
  obtain ⟨p, e, s, m, args, below, meth, c, A, Q, rfl, hx, hb, hml, hown, hts, hK, hA, hX⟩ := B
  intro H locs ls hP hD hS hl
  exact lv_dup2_11 hx hb hd hc hc2 (kk H locs ls hP hD hS hl)
theorem gx_pop (B : gx_B cc nL own l R K G) (hd : decode cc pc = .ok (.pop, 1)) {v : Value} (hc : v.category = 1) (kk : G k n ws lv (pc + 1) st) : G k n ws lv pc (v :: st) := by
  obtain ⟨p, e, s, m, args, below, meth, c, A, Q, rfl, hx, hb, hml, hown, hts, hK, hA, hX⟩ := B
  intro H locs ls hP hD hS hl
  exact lv_pop hx hb hd hc (kk H locs ls hP hD hS hl)
theorem gx_i2c (B : gx_B cc nL own l R K G) (hd : decode cc pc = .ok (.i2c, 1)) {x : Int32} (v : Int32) (hv : (x.toUInt32 % 65536).toInt32 = v) (kk : G k n ws lv (pc + 1) (.int v :: st)) : G k n ws lv pc (.int x :: st) := by
  obtain ⟨p, e, s, m, args, below, meth, c, A, Q, rfl, hx, hb, hml, hown, hts, hK, hA, hX⟩ := B
  intro H locs ls hP hD hS hl
  exact lv_i2c hx hb hd hv (kk H locs ls hP hD hS hl)
-- jumps
theorem gx_goto (B : gx_B cc nL own l R K G) {off : Int} (tgt : Nat) (hd : decode cc pc = .ok (.goto off, 3)) (ht : (pc : Int) + off = (tgt : Int)) (kk : G k n ws lv tgt st) : G k n ws lv pc st := by
  obtain ⟨p, e, s, m, args, below, meth, c, A, Q, rfl, hx, hb, hml, hown, hts, hK, hA, hX⟩ := B
  intro H locs ls hP hD hS hl
  exact lv_goto hx hb hd ht (kk H locs ls hP hD hS hl)
theorem gx_if_eq (B : gx_B cc nL own l R K G) {off : Int} (tgt : Nat) (hd : decode cc pc = .ok (.ifCond .eq off, 3)) (ht : (pc : Int) + off = (tgt : Int)) {x : Int32} (kt : x = 0 → G k n ws lv tgt st) (kf : ¬ x = 0 → G k n ws lv (pc + 3) st) : G k n ws lv pc (.int x :: st) := by
  obtain ⟨p, e, s, m, args, below, meth, c, A, Q, rfl, hx, hb, hml, hown, hts, hK, hA, hX⟩ := B
  intro H locs ls hP hD hS hl
  exact lv_if_eq hx hb hd ht (fun h => kt h H locs ls hP hD hS hl) (fun h => kf h H locs ls hP hD hS hl)
theorem gx_if_ne (B : gx_B cc nL own l R K G) {off : Int} (tgt : Nat) (hd : decode cc pc = .ok (.ifCond .ne off, 3)) (ht : (pc : Int) + off = (tgt : Int)) {x : Int32} (kt : ¬ x = 0 → G k n ws lv tgt st) (kf : x = 0 → G k n ws lv (pc + 3) st) : G k n ws lv pc (.int x :: st) := by
  obtain ⟨p, e, s, m, args, below, meth, c, A, Q, rfl, hx, hb, hml, hown, hts, hK, hA, hX⟩ := B
  intro H locs ls hP hD hS hl
  exact lv_if_ne hx hb hd ht (fun h => kt h H locs ls hP hD hS hl) (fun h => kf h H locs ls hP hD hS hl)
end GX
section GX2
variable {cc : ByteArray} {nL : Nat} {own nm : String} {l : Launch} {R : Room} {K : gx_K} {ret : Option FieldType} {Post : Option Value → va_W → Prop} {G : gx_J} {k n pc : Nat} {ws : va_W} {lv : List (Nat × Value)} {st : List Value}
theorem gx_if_lt (B : gx_B cc nL own l R K G) {off : Int} (tgt : Nat) (hd : decode cc pc = .ok (.ifCond .lt off, 3)) (ht : (pc : Int) + off = (tgt : Int)) {x : Int32} (kt : x < 0 → G k n ws lv tgt st) (kf : ¬ x < 0 → G k n ws lv (pc + 3) st) : G k n ws lv pc (.int x :: st) := by
  obtain ⟨p, e, s, m, args, below, meth, c, A, Q, rfl, hx, hb, hml, hown, hts, hK, hA, hX⟩ := B
  intro H locs ls hP hD hS hl
  exact lv_if_lt hx hb hd ht (fun h => kt h H locs ls hP hD hS hl) (fun h => kf h H locs ls hP hD hS hl)
theorem gx_if_ge (B : gx_B cc nL own l R K G) {off : Int} (tgt : Nat) (hd : decode cc pc = .ok (.ifCond .ge off, 3)) (ht : (pc : Int) + off = (tgt : Int)) {x : Int32} (kt : 0 ≤ x → G k n ws lv tgt st) (kf : ¬ 0 ≤ x → G k n ws lv (pc + 3) st) : G k n ws lv pc (.int x :: st) := by
  obtain ⟨p, e, s, m, args, below, meth, c, A, Q, rfl, hx, hb, hml, hown, hts, hK, hA, hX⟩ := B
  intro H locs ls hP hD hS hl
  exact lv_if_ge hx hb hd ht (fun h => kt h H locs ls hP hD hS hl) (fun h => kf h H locs ls hP hD hS hl)
theorem gx_if_gt (B : gx_B cc nL own l R K G) {off : Int} (tgt : Nat) (hd : decode cc pc = .ok (.ifCond .gt off, 3)) (ht : (pc : Int) + off = (tgt : Int)) {x : Int32} (kt : 0 < x → G k n ws lv tgt st) (kf : ¬ 0 < x → G k n ws lv (pc + 3) st) : G k n ws lv pc (.int x :: st) := by
  obtain ⟨p, e, s, m, args, below, meth, c, A, Q, rfl, hx, hb, hml, hown, hts, hK, hA, hX⟩ := B
  intro H locs ls hP hD hS hl
  exact lv_if_gt hx hb hd ht (fun h => kt h H locs ls hP hD hS hl) (fun h => kf h H locs ls hP hD hS hl)
theorem gx_if_le (B : gx_B cc nL own l R K G) {off : Int} (tgt : Nat) (hd : decode cc pc = .ok (.ifCond .le off, 3)) (ht : (pc : Int) + off = (tgt : Int)) {x : Int32} (kt : x ≤ 0 → G k n ws lv tgt st) (kf : ¬ x ≤ 0 → G k n ws lv (pc + 3) st) : G k n ws lv pc (.int x :: st) := by
  obtain ⟨p, e, s, m, args, below, meth, c, A, Q, rfl, hx, hb, hml, hown, hts, hK, hA, hX⟩ := B
  intro H locs ls hP hD hS hl
  exact lv_if_le hx hb hd ht (fun h => kt h H locs ls hP hD hS hl) (fun h => kf h H locs ls hP hD hS hl)
theorem gx_icmp_eq (B : gx_B cc nL own l R K G) {off : Int} (tgt : Nat) (hd : decode cc pc = .ok (.if_icmp .eq off, 3)) (ht : (pc : Int) + off = (tgt : Int)) {x y : Int32} (kt : x = y → G k n ws lv tgt st) (kf : ¬ x = y → G k n ws lv (pc + 3) st) : G k n ws lv pc (.int y :: .int x :: st) := by
  obtain ⟨p, e, s, m, args, below, meth, c, A, Q, rfl, hx, hb, hml, hown, hts, hK, hA, hX⟩ := B
  intro H locs ls hP hD hS hl
  exact lv_icmp_eq hx hb hd ht (fun h => kt h H locs ls hP hD hS hl) (fun h => kf h H locs ls hP hD hS hl)
theorem gx_icmp_lt (B : gx_B cc nL own l R K G) {off : Int} (tgt : Nat) (hd : decode cc pc = .ok (.if_icmp .lt off, 3)) (ht : (pc : Int) + off = (tgt : Int)) {x y : Int32} (kt : x < y → G k n ws lv tgt st) (kf : ¬ x < y → G k n ws lv (pc + 3) st) : G k n ws lv pc (.int y :: .int x :: st) := by
  obtain ⟨p, e, s, m, args, below, meth, c, A, Q, rfl, hx, hb, hml, hown, hts, hK, hA, hX⟩ := B
  intro H locs ls hP hD hS hl
  exact lv_icmp_lt hx hb hd ht (fun h => kt h H locs ls hP hD hS hl) (fun h => kf h H locs ls hP hD hS hl)
theorem gx_icmp_ge (B : gx_B cc nL own l R K G) {off : Int} (tgt : Nat) (hd : decode cc pc = .ok (.if_icmp .ge off, 3)) (ht : (pc : Int) + off = (tgt : Int)) {x y : Int32} (kt : y ≤ x → G k n ws lv tgt st) (kf : ¬ y ≤ x → G k n ws lv (pc + 3) st) : G k n ws lv pc (.int y :: .int x :: st) := by
  obtain ⟨p, e, s, m, args, below, meth, c, A, Q, rfl, hx, hb, hml, hown, hts, hK, hA, hX⟩ := B
  intro H locs ls hP hD hS hl
  exact lv_icmp_ge hx hb hd ht (fun h => kt h H locs ls hP hD hS hl) (fun h => kf h H locs ls hP hD hS hl)
theorem gx_icmp_gt (B : gx_B cc nL own l R K G) {off : Int} (tgt : Nat) (hd : decode cc pc = .ok (.if_icmp .gt off, 3)) (ht : (pc : Int) + off = (tgt : Int)) {x y : Int32} (kt : y < x → G k n ws lv tgt st) (kf : ¬ y < x → G k n ws lv (pc + 3) st) : G k n ws lv pc (.int y :: .int x :: st) := by
  obtain ⟨p, e, s, m, args, below, meth, c, A, Q, rfl, hx, hb, hml, hown, hts, hK, hA, hX⟩ := B
  intro H locs ls hP hD hS hl
  exact lv_icmp_gt hx hb hd ht (fun h => kt h H locs ls hP hD hS hl) (fun h => kf h H locs ls hP hD hS hl)
theorem gx_icmp_le (B : gx_B cc nL own l R K G) {off : Int} (tgt : Nat) (hd : decode cc pc = .ok (.if_icmp .le off, 3)) (ht : (pc : Int) + off = (tgt : Int)) {x y : Int32} (kt : x ≤ y → G k n ws lv tgt st) (kf : ¬ x ≤ y → G k n ws lv (pc + 3) st) : G k n ws lv pc (.int y :: .int x :: st) := by
  obtain ⟨p, e, s, m, args, below, meth, c, A, Q, rfl, hx, hb, hml, hown, hts, hK, hA, hX⟩ := B
  intro H locs ls hP hD hS hl
  exact lv_icmp_le hx hb hd ht (fun h => kt h H locs ls hP hD hS hl) (fun h => kf h H locs ls hP hD hS hl)
theorem gx_icmp_ne (B : gx_B cc nL own l R K G) {off : Int} (tgt : Nat) (hd : decode cc pc = .ok (.if_icmp .ne off, 3)) (ht : (pc : Int) + off = (tgt : Int)) {x y : Int32} (kt : ¬ x = y → G k n ws lv tgt st) (kf : x = y → G k n ws lv (pc + 3) st) : G k n ws lv pc (.int y :: .int x :: st) := by
  obtain ⟨p, e, s, m, args, below, meth, c, A, Q, rfl, hx, hb, hml, hown, hts, hK, hA, hX⟩ := B
  intro H locs ls hP hD hS hl
  exact lv_icmp_ne hx hb hd ht (fun h => kt h H locs ls hP hD hS hl) (fun h => kf h H locs ls hP hD hS hl)
theorem gx_tableIn (B : gx_B cc nL own l R K G) {dflt lo hi : Int} {offs : Array Int} {len : Nat} {x : Int32} {off : Int} (tgt : Nat) (hd : decode cc pc = .ok (.tableswitch dflt lo hi offs, len)) (h1 : ¬ x.toInt < lo) (h2 : ¬ hi < x.toInt) (ho : offs[(x.toInt - lo).toNat]? = some off) (ht : (pc : Int) + off = (tgt : Int)) (kk : G k n ws lv tgt st) : G k n ws lv pc (.int x :: st) := by
  obtain ⟨p, e, s, m, args, below, meth, c, A, Q, rfl, hx, hb, hml, hown, hts, hK, hA, hX⟩ := B
  intro H locs ls hP hD hS hl
  exact lv_tableIn hx hb hd h1 h2 ho ht (kk H locs ls hP hD hS hl)
theorem gx_tableOut (B : gx_B cc nL own l R K G) {dflt lo hi : Int} {offs : Array Int} {len : Nat} {x : Int32} (tgt : Nat) (hd : decode cc pc = .ok (.tableswitch dflt lo hi offs, len)) (h : x.toInt < lo ∨ hi < x.toInt) (ht : (pc : Int) + dflt = (tgt : Int)) (kk : G k n ws lv tgt st) : G k n ws lv pc (.int x :: st) := by
  obtain ⟨p, e, s, m, args, below, meth, c, A, Q, rfl, hx, hb, hml, hown, hts, hK, hA, hX⟩ := B
  intro H locs ls hP hD hS hl
  exact lv_tableOut hx hb hd h ht (kk H locs ls hP hD hS hl)
theorem gx_lookup (B : gx_B cc nL own l R K G) {dflt : Int} {ps : Array (Int × Int)} {len : Nat} {x : Int32} {off : Int} (tgt : Nat) (hd : decode cc pc = .ok (.lookupswitch dflt ps, len)) (hp : (ps.toList.zip (ps.toList.drop 1)).all (fun (a, next) => a.1 < next.1) = true) (ho : Op.lookupswitch.offset ps.toList dflt x.toInt = off) (ht : (pc : Int) + off = (tgt : Int)) (kk : G k n ws lv tgt st) : G k n ws lv pc (.int x :: st) := by
  obtain ⟨p, e, s, m, args, below, meth, c, A, Q, rfl, hx, hb, hml, hown, hts, hK, hA, hX⟩ := B
  intro H locs ls hP hD hS hl
  exact lv_lookup hx hb hd hp ho ht (kk H locs ls hP hD hS hl)
theorem gx_get (B : gx_B cc nL own l R K G) {ref Cn : String} {T : u_T} {N ci index a : Nat} (hd : decode cc pc = .ok (.getfield index, 3)) (hin : ∀ w ∈ u_ws Cn T N, w ∈ gx_TB) (hc : vwCl[ci]? = some (Cn, T, N)) (q : Nat) {fs : List Value} (he : ws[q]? = some (a, .inr (ci, fs))) (f : Nat) (hf : f < N) (hl1 : Cond.fieldLink own index ref (T f).2.1 (T f).2.2.1 ∈ gx_TB) (hr : (T f).1 = ref) {v : Value} (hv : fs[f]? = some v) (kk : G k n ws lv (pc + 3) (v :: st)) : G k n ws lv pc (.ref a :: st) := by
  obtain ⟨p, e, s, m, args, below, meth, c, A, Q, rfl, hx, hb, hml, hown, hts, hK, hA, hX⟩ := B
  intro H locs ls hP hD hS hl
  exact va_get hx hb hts hin hown hK hP q he hc f hf (hts _ hl1) (fun x h => by rw [← hr]; exact h) hv hd (kk H locs ls hP hD hS hl)
theorem gx_getN (B : gx_B cc nL own l R K G) {ref Cn host : String} {T : u_T} {N ci index a : Nat} (hd : decode cc pc = .ok (.getfield index, 3)) (hin : ∀ w ∈ u_ws Cn T N, w ∈ gx_TB) (hc : vwCl[ci]? = some (Cn, T, N)) (q : Nat) {fs : List Value} (he : ws[q]? = some (a, .inr (ci, fs))) (f : Nat) (hf : f < N) (hl1 : Cond.fieldLinkNest own index ref (T f).2.1 (T f).2.2.1 host ∈ gx_TB) (hr : (T f).1 = ref) {v : Value} (hv : fs[f]? = some v) (kk : G k n ws lv (pc + 3) (v :: st)) : G k n ws lv pc (.ref a :: st) := by
  obtain ⟨p, e, s, m, args, below, meth, c, A, Q, rfl, hx, hb, hml, hown, hts, hK, hA, hX⟩ := B
  intro H locs ls hP hD hS hl
  exact va_getN hx hb hts hin hown hK hP q he hc f hf (hts _ hl1) (fun x h => by rw [← hr]; exact h) hv hd (kk H locs ls hP hD hS hl)
theorem gx_put (B : gx_B cc nL own l R K G) {ref Cn : String} {T : u_T} {N ci index a : Nat} (hd : decode cc pc = .ok (.putfield index, 3)) (hin : ∀ w ∈ u_ws Cn T N, w ∈ gx_TB) (hc : vwCl[ci]? = some (Cn, T, N)) (ty0 : Nat → FieldType) (hty : ∀ j, j < N → parseFieldDescriptor (T j).2.2.1 = some (ty0 j)) (hnm : ∀ a, a < N → ∀ b, b < N → a ≠ b → (T a).2.1 ≠ (T b).2.1) (q : Nat) {fs : List Value} (he : ws[q]? = some (a, .inr (ci, fs))) (f : Nat) (hf : f < N) (hl1 : Cond.fieldLink own index ref (T f).2.1 (T f).2.2.1 ∈ gx_TB) (hr : (T f).1 = ref) (hfin : (T f).2.2.2 = false) {v : Value} (hn : narrow (ty0 f) v = v) (hfit : fits (ty0 f) v = true) (hlen : f < fs.length) (ws' : va_W) (hw : ws.set q (a, .inr (ci, fs.set f v)) = ws') (kk : G k n ws' lv (pc + 3) st) : G k n ws lv pc (v :: .ref a :: st) := by
  obtain ⟨p, e, s, m, args, below, meth, c, A, Q, rfl, hx, hb, hml, hown, hts, hK, hA, hX⟩ := B
  intro H locs ls hP hD hS hl
  subst hw
  exact va_put hx hb hts hin ty0 hty hnm hown hK hP hD hS q he hc f hf (hts _ hl1) (fun x h => by rw [← hr]; exact h) hfin (hty f hf) hn hfit hlen hd (fun H1 locs1 hP hD hS => kk H1 locs1 ls hP hD hS hl)
theorem gx_putF (C : gx_C cc nL own "<init>" l R K ret Post G) {Cn : String} {T : u_T} {N ci index a : Nat} (hd : decode cc pc = .ok (.putfield index, 3)) (hin : ∀ w ∈ u_ws Cn T N, w ∈ gx_TB) (hc : vwCl[ci]? = some (Cn, T, N)) (ty0 : Nat → FieldType) (hty : ∀ j, j < N → parseFieldDescriptor (T j).2.2.1 = some (ty0 j)) (hnm : ∀ a, a < N → ∀ b, b < N → a ≠ b → (T a).2.1 ≠ (T b).2.1) (q : Nat) {fs : List Value} (he : ws[q]? = some (a, .inr (ci, fs))) (f : Nat) (hf : f < N) (hl1 : Cond.fieldLink own index own (T f).2.1 (T f).2.2.1 ∈ gx_TB) (hr : (T f).1 = own) (hfin : (T f).2.2.2 = true) {v : Value} (hn : narrow (ty0 f) v = v) (hfit : fits (ty0 f) v = true) (hlen : f < fs.length) (ws' : va_W) (hw : ws.set q (a, .inr (ci, fs.set f v)) = ws') (kk : G k n ws' lv (pc + 3) st) : G k n ws lv pc (v :: .ref a :: st) := by
  obtain ⟨p, e, s, m, args, below, meth, c, A, rfl, hx, hb, hml, hown, hts, hK, hA, hX, hlocks, hret, hnme⟩ := C
  intro H locs ls hP hD hS hl
  subst hw
  exact va_putF hx hb hts hin ty0 hty hnm hown hK hP hD hS q he hc f hf (hts _ hl1) (fun x h => by rw [← hr]; exact h) hfin hnme hr (hty f hf) hn hfit hlen hd (fun H1 locs1 hP hD hS => kk H1 locs1 ls hP hD hS hl)
theorem gx_iald (B : gx_B cc nL own l R K G) (hd : decode cc pc = .ok (.iaload, 1)) (q t : Nat) {cA : ClassId} {a N : Nat} {f : Nat → Int32} (ha : ws[q]? = some (a, .inl (cA, N, .inl f))) (ht : (gx_ty K)[t]? = some (cA, .int)) {i : Int32} (j : Nat) (hi : i = nI j) (hj : j < N) (hN : N < 2 ^ 31) (kk : G k n ws lv (pc + 1) (.int (f j) :: st)) : G k n ws lv pc (.int i :: .ref a :: st) := by
  obtain ⟨p, e, s, m, args, below, meth, c, A, Q, rfl, hx, hb, hml, hown, hts, hK, hA, hX⟩ := B
  intro H locs ls hP hD hS hl
  subst hi
  refine va_iald hx hb hK hP q t ha ht (vp_in_nI hj hN) hd ?_
  rw [nI_clamp (Nat.lt_trans hj hN)]
  exact kk H locs ls hP hD hS hl
theorem gx_cald (B : gx_B cc nL own l R K G) (hd : decode cc pc = .ok (.caload, 1)) (q t : Nat) {cA : ClassId} {a N : Nat} {f : Nat → Int32} (ha : ws[q]? = some (a, .inl (cA, N, .inl f))) (ht : (gx_ty K)[t]? = some (cA, .char)) {i : Int32} (j : Nat) (hi : i = nI j) (hj : j < N) (hN : N < 2 ^ 31) (kk : G k n ws lv (pc + 1) (.int (f j) :: st)) : G k n ws lv pc (.int i :: .ref a :: st) := by
  obtain ⟨p, e, s, m, args, below, meth, c, A, Q, rfl, hx, hb, hml, hown, hts, hK, hA, hX⟩ := B
  intro H locs ls hP hD hS hl
  subst hi
  refine va_cald hx hb hK hP q t ha ht (vp_in_nI hj hN) hd ?_
  rw [nI_clamp (Nat.lt_trans hj hN)]
  exact kk H locs ls hP hD hS hl
theorem gx_lald (B : gx_B cc nL own l R K G) (hd : decode cc pc = .ok (.laload, 1)) (q t : Nat) {cA : ClassId} {a N : Nat} {f : Nat → Int64} (ha : ws[q]? = some (a, .inl (cA, N, .inr (.inl f)))) (ht : (gx_ty K)[t]? = some (cA, .long)) {i : Int32} (j : Nat) (hi : i = nI j) (hj : j < N) (hN : N < 2 ^ 31) (kk : G k n ws lv (pc + 1) (.long (f j) :: st)) : G k n ws lv pc (.int i :: .ref a :: st) := by
  obtain ⟨p, e, s, m, args, below, meth, c, A, Q, rfl, hx, hb, hml, hown, hts, hK, hA, hX⟩ := B
  intro H locs ls hP hD hS hl
  subst hi
  refine va_lald hx hb hK hP q t ha ht (vp_in_nI hj hN) hd ?_
  rw [nI_clamp (Nat.lt_trans hj hN)]
  exact kk H locs ls hP hD hS hl
theorem gx_aald (B : gx_B cc nL own l R K G) (hd : decode cc pc = .ok (.aaload, 1)) (q t : Nat) {cA : ClassId} {a N : Nat} {f : Nat → Option Nat} (ha : ws[q]? = some (a, .inl (cA, N, .inr (.inr (.inr (.inr f)))))) (ht : (gx_ty K)[t]? = some (cA, .array .int)) {i : Int32} (j : Nat) (hi : i = nI j) (hj : j < N) (hN : N < 2 ^ 31) (kk : G k n ws lv (pc + 1) (va_rf (f j) :: st)) : G k n ws lv pc (.int i :: .ref a :: st) := by
  obtain ⟨p, e, s, m, args, below, meth, c, A, Q, rfl, hx, hb, hml, hown, hts, hK, hA, hX⟩ := B
  intro H locs ls hP hD hS hl
  subst hi
  have hc : (nI j).toNatClampNeg = j := nI_clamp (Nat.lt_trans hj hN)
  exact W.aald (v := va_rf (f j)) (ty := .array .int) hx hb (hP q _ ha) ((hK.2 t _ ht).1 N (fun j => va_rf (f j))) rfl (fun q => by cases q) (by show ¬ (nI j < 0 ∨ (arrV _ _ _).slots.size ≤ _); rw [arrV_size]; exact vp_in_nI hj hN) (by show (arrV _ _ _).slots[_]? = _; rw [hc, arrV_read _ _ hj]) rfl rfl hd (kk H locs ls hP hD hS hl)
theorem gx_iast (B : gx_B cc nL own l R K G) (hd : decode cc pc = .ok (.iastore, 1)) (q t : Nat) {cA : ClassId} {a N : Nat} {f : Nat → Int32} (ha : ws[q]? = some (a, .inl (cA, N, .inl f))) (ht : (gx_ty K)[t]? = some (cA, .int)) {i x : Int32} (j : Nat) (hi : i = nI j) (hj : j < N) (hN : N < 2 ^ 31) (ws' : va_W) (hw : ws.set q (a, .inl (cA, N, .inl (upd f j x))) = ws') (kk : G k n ws' lv (pc + 1) st) : G k n ws lv pc (.int x :: .int i :: .ref a :: st) := by
  obtain ⟨p, e, s, m, args, below, meth, c, A, Q, rfl, hx, hb, hml, hown, hts, hK, hA, hX⟩ := B
  intro H locs ls hP hD hS hl
  subst hi
  refine va_iast hx hb hK hP hD hS q t ha ht (vp_in_nI hj hN) hd (fun H1 locs1 hP hD hS => ?_)
  rw [nI_clamp (Nat.lt_trans hj hN), hw] at hP hD
  exact kk H1 locs1 ls hP hD hS hl
theorem gx_cast (B : gx_B cc nL own l R K G) (hd : decode cc pc = .ok (.castore, 1)) (q t : Nat) {cA : ClassId} {a N : Nat} {f : Nat → Int32} (ha : ws[q]? = some (a, .inl (cA, N, .inl f))) (ht : (gx_ty K)[t]? = some (cA, .char)) {i x : Int32} (j : Nat) (hi : i = nI j) (hj : j < N) (hN : N < 2 ^ 31) (hx0 : vp_nar .char x = x) (ws' : va_W) (hw : ws.set q (a, .inl (cA, N, .inl (upd f j x))) = ws') (kk : G k n ws' lv (pc + 1) st) : G k n ws lv pc (.int x :: .int i :: .ref a :: st) := by
  obtain ⟨p, e, s, m, args, below, meth, c, A, Q, rfl, hx, hb, hml, hown, hts, hK, hA, hX⟩ := B
  intro H locs ls hP hD hS hl
  subst hi
  refine va_cast hx hb hK hP hD hS q t ha ht (vp_in_nI hj hN) hd (fun H1 locs1 hP hD hS => ?_)
  rw [nI_clamp (Nat.lt_trans hj hN), hx0, hw] at hP hD
  exact kk H1 locs1 ls hP hD hS hl
theorem gx_last (B : gx_B cc nL own l R K G) (hd : decode cc pc = .ok (.lastore, 1)) (q t : Nat) {cA : ClassId} {a N : Nat} {f : Nat → Int64} (ha : ws[q]? = some (a, .inl (cA, N, .inr (.inl f)))) (ht : (gx_ty K)[t]? = some (cA, .long)) {i : Int32} {x : Int64} (j : Nat) (hi : i = nI j) (hj : j < N) (hN : N < 2 ^ 31) (ws' : va_W) (hw : ws.set q (a, .inl (cA, N, .inr (.inl (vp_updL f j x)))) = ws') (kk : G k n ws' lv (pc + 1) st) : G k n ws lv pc (.long x :: .int i :: .ref a :: st) := by
  obtain ⟨p, e, s, m, args, below, meth, c, A, Q, rfl, hx, hb, hml, hown, hts, hK, hA, hX⟩ := B
  intro H locs ls hP hD hS hl
  subst hi
  refine va_last hx hb hK hP hD hS q t ha ht (vp_in_nI hj hN) hd (fun H1 locs1 hP hD hS => ?_)
  rw [nI_clamp (Nat.lt_trans hj hN), hw] at hP hD
  exact kk H1 locs1 ls hP hD hS hl
theorem gx_alen (B : gx_B cc nL own l R K G) (hd : decode cc pc = .ok (.arraylength, 1)) (q t : Nat) {cA : ClassId} {a : Nat} {x : vp_A} (ha : ws[q]? = some (a, .inl (cA, x))) {ty : FieldType} (ht : (gx_ty K)[t]? = some (cA, ty)) (v : Int32) (hv : Int32.ofNat x.1 = v) (kk : G k n ws lv (pc + 1) (.int v :: st)) : G k n ws lv pc (.ref a :: st) := by
  obtain ⟨p, e, s, m, args, below, meth, c, A, Q, rfl, hx, hb, hml, hown, hts, hK, hA, hX⟩ := B
  intro H locs ls hP hD hS hl
  exact va_alen hx hb hK hP q t ha ht hv hd (kk H locs ls hP hD hS hl)
theorem gx_max (B : gx_B cc nL own l R K G) {index : Nat} (hd : decode cc pc = .ok (.invokestatic index, 3)) (h1 : Cond.methodLink own index Lib.Math.max.name ∈ gx_TB) (h2 : Cond.static Lib.Math.max.name ∈ gx_TB) (h3 : Cond.initialized "java/lang/Math" ∈ gx_TB) (h4 : Cond.code Lib.Math.max.name Lib.Math.max.code 2 (some .int) ∈ gx_TB) (h5 : 1 ≤ R.frames) (h6 : (st.map fun v => v.category).sum + 13 ≤ R.locals) (h7 : k ≤ R.cells) (h8 : n ≤ R.slots) {x y : Int32} (kk : G k n ws lv (pc + 3) (.int (if x < y then y else x) :: st)) : G k n ws lv pc (.int y :: .int x :: st) := by
  obtain ⟨p, e, s, m, args, below, meth, c, A, Q, rfl, hx, hb, hml, hown, hts, hK, hA, hX⟩ := B
  intro H locs ls hP hD hS hl
  exact va_mmax hx hb (hml.trans hl.1.symm) hown (hts _ h1) (hts _ h2) (hts _ h3) (hts _ h4) h5 h6 h7 h8 hd (kk H locs ls hP hD hS hl)
theorem gx_min (B : gx_B cc nL own l R K G) {index : Nat} (hd : decode cc pc = .ok (.invokestatic index, 3)) (h1 : Cond.methodLink own index Lib.Math.min.name ∈ gx_TB) (h2 : Cond.static Lib.Math.min.name ∈ gx_TB) (h3 : Cond.initialized "java/lang/Math" ∈ gx_TB) (h4 : Cond.code Lib.Math.min.name Lib.Math.min.code 2 (some .int) ∈ gx_TB) (h5 : 1 ≤ R.frames) (h6 : (st.map fun v => v.category).sum + 13 ≤ R.locals) (h7 : k ≤ R.cells) (h8 : n ≤ R.slots) {x y : Int32} (kk : G k n ws lv (pc + 3) (.int (if y < x then y else x) :: st)) : G k n ws lv pc (.int y :: .int x :: st) := by
  obtain ⟨p, e, s, m, args, below, meth, c, A, Q, rfl, hx, hb, hml, hown, hts, hK, hA, hX⟩ := B
  intro H locs ls hP hD hS hl
  exact va_mmin hx hb (hml.trans hl.1.symm) hown (hts _ h1) (hts _ h2) (hts _ h3) (hts _ h4) h5 h6 h7 h8 hd (kk H locs ls hP hD hS hl)
theorem gx_copyi (B : gx_B cc nL own l R K G) {index : Nat} (hd : decode cc pc = .ok (.invokestatic index, 3)) (h1 : Cond.methodLink own index arraycopyName ∈ gx_TB) (h2 : Cond.native arraycopyName ∈ gx_TB) (h3 : Cond.static arraycopyName ∈ gx_TB) (h4 : Cond.initialized "java/lang/System" ∈ gx_TB) (q0 q1 t : Nat) {a0 a1 N0 N1 : Nat} {cA : ClassId} {f g : Nat → Int32} (ha0 : ws[q0]? = some (a0, .inl (cA, N0, .inl f))) (ha1 : ws[q1]? = some (a1, .inl (cA, N1, .inl g))) (ht : (gx_ty K)[t]? = some (cA, .int)) {z : Int32} (N : Nat) (hz : z = nI N) (hN : N < 2 ^ 31) (h5 : N ≤ N0) (h6 : N ≤ N1) (h7 : 1 ≤ R.frames) (h8 : (st.map fun v => v.category).sum + (nativeFrameWords "java/lang/System" "arraycopy" 5 + 11) ≤ R.locals) (ws' : va_W) (hw : ws.set q1 (a1, .inl (cA, N1, .inl (va_cpy f g 0 0 N))) = ws') (kk : G k n ws' lv (pc + 3) st) : G k n ws lv pc (.int z :: .int 0 :: .ref a1 :: .int 0 :: .ref a0 :: st) := by
  obtain ⟨p, e, s, m, args, below, meth, c, A, Q, rfl, hx, hb, hml, hown, hts, hK, hA, hX⟩ := B
  intro H locs ls hP hD hS hl
  subst hz
  refine va_copyi hx hb (hml.trans hl.1.symm) hown (hts _ h1) (hts _ h2) (hts _ h3) (hts _ h4) hK hP hD hS q0 q1 t t ha0 ha1 ht ht rfl (sp := 0) (dp := 0) (n := nI N) (by decide) (by decide) (nI_pos hN) ?_ ?_ (fun i _ => rfl) h7 h8 hd (fun H1 locs1 hP hD hS => ?_)
  · rw [nI_clamp hN]
    show 0 + N ≤ N0
    omega
  · rw [nI_clamp hN]
    show 0 + N ≤ N1
    omega
  · rw [nI_clamp hN, show (0 : Int32).toNatClampNeg = 0 from rfl, hw] at hP hD
    exact kk H1 locs1 ls hP hD hS hl
/-- a list's places, read -/
theorem gx_fm {α : Type} {is : List Nat} {ws w : List α} (h : is.map (fun i => ws[i]?) = w.map some) : is.filterMap (fun i => ws[i]?) = w := by
  induction is generalizing w with
  | nil => cases w with
    | nil => rfl
    | cons a b => cases h
  | cons i is ih => cases w with
    | nil => cases h
    | cons a b =>
      simp only [List.map_cons, List.cons.injEq] at h
      rw [List.filterMap_cons, h.1]
      exact congrArg (a :: ·) (ih h.2)
theorem gx_blind {K : gx_K} {av : List Value} {sz : Nat} {W0 : va_W} : FrameBlind (va_Pc av (fun U => U.heap.size = sz ∧ va_P K.1 vwCl W0 U.heap ∧ va_K K.1 vwCl (gx_ty K) U ∧ va_D (fun _ => True) W0 ∧ gx_X K (va_A W0 sz) U U.heap)) := fun a U g mk q => by
  obtain ⟨q0, q1, qP, qK, qD, qX⟩ := q
  exact ⟨q0, q1, qP, va_K.moved (u := U) (U := U.calling g mk a) (Vm.Alike.refl U.vm) qK, qD, gx_X.same (u := U) (U := U.calling g mk a) rfl qX⟩
theorem gx_core {p : Program} {e : Env} {s : State} {m : MethodId} {args : Array Value} {below : List Frame} {meth : Method} {c : Code} {A : Nat → Prop} {Q : State → Prop} {mc' ms' : Nat} {a : Array Value} {W0 wr : va_W} {Post' : Option Value → va_W → Prop} {rest : List Value} {H : Heap} {locs : List Loc} {ls : Array Slot} (hA : ∀ q : Nat, s.heap.size ≤ q → A q) (hP : va_P K.1 vwCl ws H) (hD : va_D A ws) (hS : va_S A s.heap H locs) (hl : lv_has ls nL lv)
    (isC isR : List Nat) (hC : isC.map (fun i => ws[i]?) = W0.map some) (hR : isR.map (fun i => ws[i]?) = wr.map some) (hn : va_nd isR = true) (hdis : ∀ i ∈ isR, i ∉ isC)
    (hr : va_Run p l e R s m args below meth c H locs k n mc' ms' (F0 m pc ls st) rest (gx_Q K (va_A W0 H.size) Post' a) (va_A W0 H.size))
    (kk : ∀ (v : Option Value) (w : va_W), Post' v w → gx_W p l e R s m args below meth c K.1 A nL Q (k + mc') (n + ms') (wr ++ w) lv (pc + 3) (v.toList ++ rest)) : W p l e R s m args below meth c H locs k n Q (F0 m pc ls st) := by
  have hF := va_free hD hS hA isC hC
  intro T hT X
  obtain ⟨v, st₀, t, T', L, h0, X', hL, e1, e2, ⟨⟨v', w, hv, hp, hPw, hKw, hDw⟩, hz, hk⟩, stp⟩ := hr T hT X
  cases hv
  rw [h0] at hz hk
  rw [← e1] at hPw
  obtain ⟨hP1, hD1⟩ := va_join hP hD isC isR hC hR hn hdis (fun q h1 h2 => by rw [e1]; exact hk q h1 h2) hF hPw hDw
  obtain ⟨t2, a1, b1⟩ := kk v w hp T'.heap (locs ++ L) ls hP1 hD1
    ⟨Nat.le_trans hS.1 (by rw [e1]; exact hz), fun q h1 h2 => by rw [e1, hk q (Nat.lt_of_lt_of_le h1 hS.1) (fun z => h2 (hF q z))]; exact hS.2.1 q h1 h2, fun q hq => by
      rcases List.mem_append.mp hq with h | h
      · exact hS.2.2 q h
      · exact hF _ (hL q h)⟩ hl T' rfl X'
  exact ⟨t2, stp t2 a1, b1⟩
/-- a method that can be called on an object -/
def gx_M (y : MethodName) (bytes : ByteArray) (maxL : Nat) (ret' : Option FieldType) : Prop := Cond.instanceMethod y ∈ gx_TB ∧ Cond.selects y.cls y y ∈ gx_TB ∧ Cond.initialized y.cls ∈ gx_TB ∧ Cond.code y bytes maxL ret' ∈ gx_TB ∧ y.cls ≠ "java/lang/invoke/MethodHandle" ∧ y.cls ≠ "java/lang/invoke/VarHandle"
/-- a constructor -/
def gx_MI (y : MethodName) (bytes : ByteArray) (maxL : Nat) : Prop := Cond.instanceMethod y ∈ gx_TB ∧ Cond.initialized y.cls ∈ gx_TB ∧ Cond.code y bytes maxL none ∈ gx_TB ∧ y.cls ≠ "java/lang/invoke/MethodHandle" ∧ y.cls ≠ "java/lang/invoke/VarHandle" ∧ y.name = "<init>"
/-- a static method -/
def gx_MS (y : MethodName) (bytes : ByteArray) (maxL : Nat) (ret' : Option FieldType) : Prop := Cond.static y ∈ gx_TB ∧ Cond.initialized y.cls ∈ gx_TB ∧ Cond.code y bytes maxL ret' ∈ gx_TB ∧ y.cls ≠ "java/lang/invoke/MethodHandle" ∧ y.cls ≠ "java/lang/invoke/VarHandle"
theorem gx_good1 {ws1 : List Cond} {w0 : Cond} (h1 : ∀ w ∈ ws1, w ∈ gx_TB) (h0 : w0 ∈ gx_TB) : GoodIn gx_TB (ws1 ++ (w0 :: gx_TB)) := fun w hw => by
  rcases List.mem_append.mp hw with h | h
  · exact gx_TBgood w (h1 w h)
  · rcases List.mem_cons.mp h with h | h
    · rw [h]; exact gx_TBgood w0 h0
    · exact gx_TBgood w h
theorem gx_goodC {w0 : Cond} (h0 : w0 ∈ gx_TB) : GoodIn gx_TB (w0 :: gx_TB) := gx_good1 (ws1 := []) (fun _ h => absurd h List.not_mem_nil) h0
theorem gx_all3 {a b c : Cond} (ha : a ∈ gx_TB) (hb : b ∈ gx_TB) (hc : c ∈ gx_TB) : ∀ w ∈ ([a, b, c] : List Cond), w ∈ gx_TB := fun w h => by
  simp only [List.mem_cons, List.not_mem_nil, or_false] at h
  rcases h with rfl | rfl | rfl <;> assumption
theorem gx_all4 {a b c d : Cond} (ha : a ∈ gx_TB) (hb : b ∈ gx_TB) (hc : c ∈ gx_TB) (hd : d ∈ gx_TB) : ∀ w ∈ ([a, b, c, d] : List Cond), w ∈ gx_TB := fun w h => by
  simp only [List.mem_cons, List.not_mem_nil, or_false] at h
  rcases h with rfl | rfl | rfl | rfl <;> assumption
theorem gx_callV (B : gx_B cc nL own l R K G) {y : MethodName} {rm : Room} {Post' : Option Value → va_W → Prop} {W0 wr : va_W} {bytes : ByteArray} {maxL : Nat} {ret' : Option FieldType} {index : Nat} {rest : List Value} {b : Nat} {As : List Value} {T0 : u_T} {N0 ci : Nat} {fs : List Value} (hM : gx_Ctr l K y bytes maxL ret' rm (.ref b :: As) W0 Post') (hm : gx_M y bytes maxL ret') (hdg : decode cc pc = .ok (.invokevirtual index, 3)) (hlk : Cond.methodLink own index y ∈ gx_TB) (hnA : (parseMethodDescriptor y.desc).map (fun d => d.parameters.length) = some As.length) (hRm : rm.frames + 1 ≤ R.frames ∧ 8 + (maxL + 11) + rm.locals ≤ R.locals ∧ k + rm.cells ≤ R.cells ∧ n + rm.slots ≤ R.slots) (hst : st = As.reverse ++ .ref b :: rest) (hcat : (rest.map fun v => v.category).sum ≤ 8)
    (isC isR : List Nat) (hC : isC.map (fun i => ws[i]?) = W0.map some) (hR : isR.map (fun i => ws[i]?) = wr.map some) (hn : va_nd isR = true) (hdis : ∀ i ∈ isR, i ∉ isC) (hnC : va_nd isC = true) (hci : vwCl[ci]? = some (y.cls, T0, N0)) (hb0 : W0[0]? = some (b, .inr (ci, fs)))
    (kk : ∀ (v : Option Value) (w : va_W), Post' v w → G (k + rm.cells) (n + rm.slots) (wr ++ w) lv (pc + 3) (v.toList ++ rest)) : G k n ws lv pc st := by
  obtain ⟨p, e, s, m, args, below, meth, c, A, Q, rfl, hx, hb, hml, hown, hts, hK, hA, hX⟩ := B
  intro H locs ls hP hD hS hl
  obtain ⟨m1, m2, m3, m4, m5, m6⟩ := hm
  refine gx_core hA hP hD hS hl isC isR hC hR hn hdis (va_runV (As := As) (rest := rest) ⟨hx, hb, hml, hown, hts⟩ (hM H.size) (cwV As.length hts (gx_good1 (gx_all4 hlk m1 m2 m3) m4) rfl rfl rfl ⟨rfl, m5, m6, hnA⟩ ⟨hRm.1, hRm.2.1⟩) ⟨gx_blind, va_recv hK (hP.sub isC (gx_fm hC)) hci hb0, fun U hU hW2 => ⟨rfl, by rw [hU], by rw [hU]; exact hP.sub isC (gx_fm hC), va_K.moved hW2.alike hK, (hD.sub isC hnC hC).weaken (fun _ _ _ _ => trivial), by rw [hU]; exact hX.on hW2 hS.2.1 (va_free hD hS hA isC hC)⟩⟩ rfl rfl hl.1 hst (lv_room hcat) hdg hRm.2.2) kk
theorem gx_callS (B : gx_B cc nL own l R K G) {y : MethodName} {rm : Room} {Post' : Option Value → va_W → Prop} {W0 wr : va_W} {bytes : ByteArray} {maxL : Nat} {ret' : Option FieldType} {index : Nat} {rest : List Value} {As : List Value} (hM : gx_Ctr l K y bytes maxL ret' rm As W0 Post') (hm : gx_MS y bytes maxL ret') (hdg : decode cc pc = .ok (.invokestatic index, 3)) (hlk : Cond.methodLink own index y ∈ gx_TB) (hnA : (parseMethodDescriptor y.desc).map (fun d => d.parameters.length) = some As.length) (hRm : rm.frames + 1 ≤ R.frames ∧ 8 + (maxL + 11) + rm.locals ≤ R.locals ∧ k + rm.cells ≤ R.cells ∧ n + rm.slots ≤ R.slots) (hst : st = As.reverse ++ rest) (hcat : (rest.map fun v => v.category).sum ≤ 8)
    (isC isR : List Nat) (hC : isC.map (fun i => ws[i]?) = W0.map some) (hR : isR.map (fun i => ws[i]?) = wr.map some) (hn : va_nd isR = true) (hdis : ∀ i ∈ isR, i ∉ isC) (hnC : va_nd isC = true)
    (kk : ∀ (v : Option Value) (w : va_W), Post' v w → G (k + rm.cells) (n + rm.slots) (wr ++ w) lv (pc + 3) (v.toList ++ rest)) : G k n ws lv pc st := by
  obtain ⟨p, e, s, m, args, below, meth, c, A, Q, rfl, hx, hb, hml, hown, hts, hK, hA, hX⟩ := B
  intro H locs ls hP hD hS hl
  obtain ⟨m1, m3, m4, m5, m6⟩ := hm
  refine gx_core hA hP hD hS hl isC isR hC hR hn hdis (va_runS (As := As) (rest := rest) ⟨hx, hb, hml, hown, hts⟩ (hM H.size) (va_cwS As.length hts (gx_good1 (gx_all3 hlk m1 m3) m4) rfl rfl rfl ⟨m5, m6, hnA⟩ ⟨hRm.1, hRm.2.1⟩) ⟨gx_blind, fun U hU hW2 => ⟨rfl, by rw [hU], by rw [hU]; exact hP.sub isC (gx_fm hC), va_K.moved hW2.alike hK, (hD.sub isC hnC hC).weaken (fun _ _ _ _ => trivial), by rw [hU]; exact hX.on hW2 hS.2.1 (va_free hD hS hA isC hC)⟩⟩ rfl rfl hl.1 hst (lv_room hcat) hdg hRm.2.2) kk
theorem gx_callI (B : gx_B cc nL own l R K G) {y : MethodName} {rm : Room} {Post' : Option Value → va_W → Prop} {W0 wr : va_W} {bytes : ByteArray} {maxL : Nat} {index : Nat} {rest : List Value} {b : Nat} {As : List Value} (hM : gx_Ctr l K y bytes maxL none rm (.ref b :: As) W0 Post') (hm : gx_MI y bytes maxL) (hdg : decode cc pc = .ok (.invokespecial index, 3)) (hlk : Cond.methodLink own index y ∈ gx_TB) (hnA : (parseMethodDescriptor y.desc).map (fun d => d.parameters.length) = some As.length) (hRm : rm.frames + 1 ≤ R.frames ∧ 8 + (maxL + 11) + rm.locals ≤ R.locals ∧ k + rm.cells ≤ R.cells ∧ n + rm.slots ≤ R.slots) (hst : st = As.reverse ++ .ref b :: rest) (hcat : (rest.map fun v => v.category).sum ≤ 8)
    (isC isR : List Nat) (hC : isC.map (fun i => ws[i]?) = W0.map some) (hR : isR.map (fun i => ws[i]?) = wr.map some) (hn : va_nd isR = true) (hdis : ∀ i ∈ isR, i ∉ isC) (hnC : va_nd isC = true)
    (kk : ∀ (v : Option Value) (w : va_W), Post' v w → G (k + rm.cells) (n + rm.slots) (wr ++ w) lv (pc + 3) (v.toList ++ rest)) : G k n ws lv pc st := by
  obtain ⟨p, e, s, m, args, below, meth, c, A, Q, rfl, hx, hb, hml, hown, hts, hK, hA, hX⟩ := B
  intro H locs ls hP hD hS hl
  obtain ⟨m1, m3, m4, m5, m6, m7⟩ := hm
  refine gx_core hA hP hD hS hl isC isR hC hR hn hdis (va_runI (As := As) (rest := rest) ⟨hx, hb, hml, hown, hts⟩ (hM H.size) (cwI As.length hts (gx_goodC m4) rfl rfl rfl (hts _ m3) (hts _ hlk) (hts _ m1) m7 ⟨m5, m6, hnA⟩ ⟨hRm.1, hRm.2.1⟩) ⟨gx_blind, fun U hU hW2 => ⟨rfl, by rw [hU], by rw [hU]; exact hP.sub isC (gx_fm hC), va_K.moved hW2.alike hK, (hD.sub isC hnC hC).weaken (fun _ _ _ _ => trivial), by rw [hU]; exact hX.on hW2 hS.2.1 (va_free hD hS hA isC hC)⟩⟩ rfl rfl hl.1 hst (lv_room hcat) hdg hRm.2.2) kk
theorem gx_callSN0 (B : gx_B cc nL RX0 l R K G) {rm : Room} {Post' : Option Value → va_W → Prop} {W0 wr : va_W} {bytes : ByteArray} {maxL : Nat} {ret' : Option FieldType} {rest : List Value} {As : List Value} (hM : gx_Ctr l K yX4_within bytes maxL ret' rm As W0 Post') (hm : gx_MS yX4_within bytes maxL ret') (hdg : decode cc pc = .ok (.invokestatic 54, 3)) (hnA : As.length = 3) (hRm : rm.frames + 1 ≤ R.frames ∧ 8 + (maxL + 11) + rm.locals ≤ R.locals ∧ k + rm.cells ≤ R.cells ∧ n + rm.slots ≤ R.slots) (hst : st = As.reverse ++ rest) (hcat : (rest.map fun v => v.category).sum ≤ 8)
    (isC isR : List Nat) (hC : isC.map (fun i => ws[i]?) = W0.map some) (hR : isR.map (fun i => ws[i]?) = wr.map some) (hn : va_nd isR = true) (hdis : ∀ i ∈ isR, i ∉ isC) (hnC : va_nd isC = true)
    (kk : ∀ (v : Option Value) (w : va_W), Post' v w → G (k + rm.cells) (n + rm.slots) (wr ++ w) lv (pc + 3) (v.toList ++ rest)) : G k n ws lv pc st := by
  obtain ⟨p, e, s, m, args, below, meth, c, A, Q, rfl, hx, hb, hml, hown, hts, hK, hA, hX⟩ := B
  intro H locs ls hP hD hS hl
  obtain ⟨m1, m3, m4, m5, m6⟩ := hm
  refine gx_core hA hP hD hS hl isC isR hC hR hn hdis (va_runSN (As := As) (rest := rest) ⟨hx, hb, hml, hown, hts⟩ (hM H.size) ⟨va_cnB As.length hts (gx_goodC m4) rfl rfl rfl hX.1.2.2 (hts _ m3) ⟨m5, m6, by rw [hnA]; decide +kernel⟩ ⟨hRm.1, hRm.2.1⟩, hts _ m1, trivial⟩ ⟨gx_blind, fun U hU hW2 => ⟨rfl, by rw [hU], by rw [hU]; exact hP.sub isC (gx_fm hC), va_K.moved hW2.alike hK, (hD.sub isC hnC hC).weaken (fun _ _ _ _ => trivial), by rw [hU]; exact hX.on hW2 hS.2.1 (va_free hD hS hA isC hC)⟩⟩ rfl rfl hl.1 hst (lv_room hcat) hdg hRm.2.2) kk
theorem gx_callIN1 (B : gx_B cc nL RX4 l R K G) {rm : Room} {Post' : Option Value → va_W → Prop} {W0 wr : va_W} {bytes : ByteArray} {maxL : Nat} {rest : List Value} {b : Nat} (hM : gx_Ctr l K yX1_init bytes maxL none rm [.ref b] W0 Post') (hm : gx_MI yX1_init bytes maxL) (hdg : decode cc pc = .ok (.invokespecial 23, 3)) (hRm : rm.frames + 1 ≤ R.frames ∧ 8 + (maxL + 11) + rm.locals ≤ R.locals ∧ k + rm.cells ≤ R.cells ∧ n + rm.slots ≤ R.slots) (hst : st = .ref b :: rest) (hcat : (rest.map fun v => v.category).sum ≤ 8)
    (isC isR : List Nat) (hC : isC.map (fun i => ws[i]?) = W0.map some) (hR : isR.map (fun i => ws[i]?) = wr.map some) (hn : va_nd isR = true) (hdis : ∀ i ∈ isR, i ∉ isC) (hnC : va_nd isC = true)
    (kk : ∀ (v : Option Value) (w : va_W), Post' v w → G (k + rm.cells) (n + rm.slots) (wr ++ w) lv (pc + 3) (v.toList ++ rest)) : G k n ws lv pc st := by
  obtain ⟨p, e, s, m, args, below, meth, c, A, Q, rfl, hx, hb, hml, hown, hts, hK, hA, hX⟩ := B
  intro H locs ls hP hD hS hl
  obtain ⟨m1, m3, m4, m5, m6, m7⟩ := hm
  refine gx_core hA hP hD hS hl isC isR hC hR hn hdis (va_runIN (As := []) (rest := rest) ⟨hx, hb, hml, hown, hts⟩ (hM H.size) ⟨va_cnB 0 hts (gx_goodC m4) rfl rfl rfl hX.1.1 (hts _ m3) ⟨m5, m6, by decide +kernel⟩ ⟨hRm.1, hRm.2.1⟩, m7, hts _ m1⟩ ⟨gx_blind, fun U hU hW2 => ⟨rfl, by rw [hU], by rw [hU]; exact hP.sub isC (gx_fm hC), va_K.moved hW2.alike hK, (hD.sub isC hnC hC).weaken (fun _ _ _ _ => trivial), by rw [hU]; exact hX.on hW2 hS.2.1 (va_free hD hS hA isC hC)⟩⟩ rfl rfl hl.1 hst (lv_room hcat) hdg hRm.2.2) kk
theorem gx_callIN2 (B : gx_B cc nL RX4 l R K G) {rm : Room} {Post' : Option Value → va_W → Prop} {W0 wr : va_W} {bytes : ByteArray} {maxL : Nat} {rest : List Value} {b : Nat} (hM : gx_Ctr l K yX2_init bytes maxL none rm [.ref b] W0 Post') (hm : gx_MI yX2_init bytes maxL) (hdg : decode cc pc = .ok (.invokespecial 30, 3)) (hRm : rm.frames + 1 ≤ R.frames ∧ 8 + (maxL + 11) + rm.locals ≤ R.locals ∧ k + rm.cells ≤ R.cells ∧ n + rm.slots ≤ R.slots) (hst : st = .ref b :: rest) (hcat : (rest.map fun v => v.category).sum ≤ 8)
    (isC isR : List Nat) (hC : isC.map (fun i => ws[i]?) = W0.map some) (hR : isR.map (fun i => ws[i]?) = wr.map some) (hn : va_nd isR = true) (hdis : ∀ i ∈ isR, i ∉ isC) (hnC : va_nd isC = true)
    (kk : ∀ (v : Option Value) (w : va_W), Post' v w → G (k + rm.cells) (n + rm.slots) (wr ++ w) lv (pc + 3) (v.toList ++ rest)) : G k n ws lv pc st := by
  obtain ⟨p, e, s, m, args, below, meth, c, A, Q, rfl, hx, hb, hml, hown, hts, hK, hA, hX⟩ := B
  intro H locs ls hP hD hS hl
  obtain ⟨m1, m3, m4, m5, m6, m7⟩ := hm
  refine gx_core hA hP hD hS hl isC isR hC hR hn hdis (va_runIN (As := []) (rest := rest) ⟨hx, hb, hml, hown, hts⟩ (hM H.size) ⟨va_cnB 0 hts (gx_goodC m4) rfl rfl rfl hX.1.2.1 (hts _ m3) ⟨m5, m6, by decide +kernel⟩ ⟨hRm.1, hRm.2.1⟩, m7, hts _ m1⟩ ⟨gx_blind, fun U hU hW2 => ⟨rfl, by rw [hU], by rw [hU]; exact hP.sub isC (gx_fm hC), va_K.moved hW2.alike hK, (hD.sub isC hnC hC).weaken (fun _ _ _ _ => trivial), by rw [hU]; exact hX.on hW2 hS.2.1 (va_free hD hS hA isC hC)⟩⟩ rfl rfl hl.1 hst (lv_room hcat) hdg hRm.2.2) kk
theorem gx_objInit (B : gx_B cc nL own l R K G) {index a : Nat} (hd : decode cc pc = .ok (.invokespecial index, 3)) (h1 : Cond.methodLink own index Lib.objectInit ∈ gx_TB) (h2 : Cond.instanceMethod Lib.objectInit ∈ gx_TB) (h3 : Cond.code Lib.objectInit ⟨#[0xb1]⟩ 1 none ∈ gx_TB) (h4 : 1 ≤ R.frames) (h5 : (st.map fun v => v.category).sum + 12 ≤ R.locals) (kk : G k n ws lv (pc + 3) st) : G k n ws lv pc (.ref a :: st) := by
  obtain ⟨p, e, s, m, args, below, meth, c, A, Q, rfl, hx, hb, hml, hown, hts, hK, hA, hX⟩ := B
  intro H locs ls hP hD hS hl
  refine W.objInit hx hb hown (hts _ h1) (hts _ h2) (hts _ h3) rfl (by rw [hml]; exact hl.1) rfl hd h4 ?_ (kk H locs ls hP hD hS hl)
  show 2 * 0 + _ + 12 ≤ _
  omega
theorem gx_new (B : gx_B cc nL own l R K G) {index : Nat} (hd : decode cc pc = .ok (.new index, 3)) (ci : Nat) {Cn : String} {T : u_T} {N : Nat} (hc : vwCl[ci]? = some (Cn, T, N)) (hin : ∀ w ∈ u_ws Cn T N, w ∈ gx_TB) (ty : Nat → FieldType) (hty : ∀ j, j < N → parseFieldDescriptor (T j).2.2.1 = some (ty j)) (h1 : Cond.classLink own index Cn ∈ gx_TB) (h2 : Cond.instantiable Cn N ∈ gx_TB) (h3 : Cond.initialized Cn ∈ gx_TB) (fs : List Value) (hfs : ∀ j, j < N → defaultValue (ty j) = vp_V fs j) (hk : k + 1 ≤ R.cells) (hn : n + N ≤ R.slots) (kk : ∀ q : Nat, G (k + 1) (n + N) (ws ++ [(q, .inr (ci, fs))]) lv (pc + 3) (.ref q :: st)) : G k n ws lv pc st := by
  obtain ⟨p, e, s, m, args, below, meth, c, A, Q, rfl, hx, hb, hml, hown, hts, hK, hA, hX⟩ := B
  intro H locs ls hP hD hS hl
  exact va_new hx hb hts hin ty hty hown (hts _ h1) (hts _ h2) (hts _ h3) hK hP hD hS hA hc hfs hk hn hd (fun q H1 hP hD hS => kk q H1 locs ls hP hD hS hl)
end GX2
