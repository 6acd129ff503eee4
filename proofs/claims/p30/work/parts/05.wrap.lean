/-! Wrappers: calls whose end is a function of their start, branches on truth values, numbers of loops. -/
def gx_D (r : Option Value) (W1 : va_W) : Option Value → va_W → Prop := fun v w => v = r ∧ w = W1
def bI (b : Bool) : Int32 := if b then 1 else 0
theorem bI_01 (b : Bool) : bI b = 0 ∨ bI b = 1 := by cases b <;> first | exact Or.inl rfl | exact Or.inr rfl
theorem bI_t {b : Bool} (h : b = true) : bI b = 1 := by rw [h]; rfl
theorem bI_f {b : Bool} (h : b = false) : bI b = 0 := by rw [h]; rfl
abbrev rmm (f lo : Nat) : Room := { frames := f, cells := 0, slots := 0, locals := lo }
theorem lp_le {x : Int32} : (x.toNatClampNeg : Int) = max 0 x.toInt := by
  show ((x.toInt.toNat : Nat) : Int) = _
  omega
theorem lp_lt31 (x : Int32) : x.toNatClampNeg < 2 ^ 31 := by
  have h := lp_le (x := x)
  have h2 : x.toInt < 2147483648 := Int32.toInt_lt x
  omega
theorem lp_iff {i : Nat} {x : Int32} (hi : i < 2 ^ 31) : nI i < x ↔ i < x.toNatClampNeg := by
  rw [Int32.lt_iff_toInt_lt, nI_toInt hi]
  have h := lp_le (x := x)
  omega
/-- a loop's test, at its end and before -/
theorem lpT {i : Nat} {x : Int32} (h : i + 0 = x.toNatClampNeg) : x ≤ nI i := by
  have h1 : ¬ nI i < x := fun q => by
    have := (lp_iff (by have := lp_lt31 x; omega)).mp q
    omega
  exact Int32.not_lt.mp h1
theorem lpF {i d : Nat} {x : Int32} (h : i + (d + 1) = x.toNatClampNeg) : ¬ x ≤ nI i := by
  have h2 : nI i < x := (lp_iff (by have := lp_lt31 x; omega)).mpr (by omega)
  exact Int32.not_le.mpr h2
theorem lp_lit {n : Nat} (h : n < 2 ^ 31) : (nI n).toNatClampNeg = n := nI_clamp h
section GX3
variable {cc : ByteArray} {nL : Nat} {own nm : String} {l : Launch} {R : Room} {K : gx_K} {ret : Option FieldType} {Post : Option Value → va_W → Prop} {G : gx_J} {k n pc : Nat} {ws : va_W} {lv : List (Nat × Value)} {st : List Value}
theorem gx_kn {k' n' : Nat} (h1 : k = k') (h2 : n = n') (kk : G k' n' ws lv pc st) : G k n ws lv pc st := by rw [h1, h2]; exact kk
theorem gx_lv {lv' : List (Nat × Value)} (h : lv = lv') (kk : G k n ws lv' pc st) : G k n ws lv pc st := by rw [h]; exact kk
theorem gx_all {ws' : va_W} {lv' : List (Nat × Value)} (h1 : ws = ws') (h2 : lv = lv') (kk : G k n ws' lv' pc st) : G k n ws lv pc st := by rw [h1, h2]; exact kk
theorem gx_if_eq_b (B : gx_B cc nL own l R K G) {off : Int} (tgt : Nat) (hd : decode cc pc = .ok (.ifCond .eq off, 3)) (ht : (pc : Int) + off = (tgt : Int)) {b : Bool} (kt : b = false → G k n ws lv tgt st) (kf : b = true → G k n ws lv (pc + 3) st) : G k n ws lv pc (.int (bI b) :: st) := by
  refine gx_if_eq B tgt hd ht (fun h => kt ?_) (fun h => kf ?_)
  · cases b
    · rfl
    · exact absurd h (by decide)
  · cases b
    · exact absurd rfl h
    · rfl
theorem gx_if_ne_b (B : gx_B cc nL own l R K G) {off : Int} (tgt : Nat) (hd : decode cc pc = .ok (.ifCond .ne off, 3)) (ht : (pc : Int) + off = (tgt : Int)) {b : Bool} (kt : b = true → G k n ws lv tgt st) (kf : b = false → G k n ws lv (pc + 3) st) : G k n ws lv pc (.int (bI b) :: st) := by
  refine gx_if_ne B tgt hd ht (fun h => kt ?_) (fun h => kf ?_)
  · cases b
    · exact absurd rfl h
    · rfl
  · cases b
    · rfl
    · exact absurd h (by decide)
theorem gx_dVi (B : gx_B cc nL own l R K G) {y : MethodName} {rm : Room} {W0 wr W1 : va_W} {bytes : ByteArray} {maxL : Nat} {ret' : Option FieldType} {index : Nat} {rest : List Value} {b : Nat} {As : List Value} {T0 : u_T} {N0 ci : Nat} {fs : List Value} {r : Int32} (hM : gx_Ctr l K y bytes maxL ret' rm (.ref b :: As) W0 (gx_D (some (.int r)) W1)) (hm : gx_M y bytes maxL ret') (hdg : decode cc pc = .ok (.invokevirtual index, 3)) (hlk : Cond.methodLink own index y ∈ gx_TB) (hnA : (parseMethodDescriptor y.desc).map (fun d => d.parameters.length) = some As.length) (hRm : rm.frames + 1 ≤ R.frames ∧ 8 + (maxL + 11) + rm.locals ≤ R.locals) (h0 : rm.cells = 0 ∧ rm.slots = 0) (hkn : k ≤ R.cells ∧ n ≤ R.slots) (hst : st = As.reverse ++ .ref b :: rest) (hcat : (rest.map fun v => v.category).sum ≤ 8)
    (isC isR : List Nat) (hC : isC.map (fun i => ws[i]?) = W0.map some) (hR : isR.map (fun i => ws[i]?) = wr.map some) (hn : va_nd isR = true) (hdis : ∀ i ∈ isR, i ∉ isC) (hnC : va_nd isC = true) (hci : vwCl[ci]? = some (y.cls, T0, N0)) (hb0 : W0[0]? = some (b, .inr (ci, fs)))
    (is : List Nat) (hnd : va_nd is = true) (ws' : va_W) (hp : is.map (fun i => (wr ++ W1)[i]?) = ws'.map some) (kk : G k n ws' lv (pc + 3) (.int r :: rest)) : G k n ws lv pc st := by
  refine gx_callV B hM hm hdg hlk hnA ⟨hRm.1, hRm.2, by rw [h0.1]; exact hkn.1, by rw [h0.2]; exact hkn.2⟩ hst hcat isC isR hC hR hn hdis hnC hci hb0 (fun v w h => ?_)
  obtain ⟨rfl, rfl⟩ := h
  refine gx_kn (k' := k) (n' := n) (by rw [h0.1]; rfl) (by rw [h0.2]; rfl) ?_
  exact gx_perm B is hnd hp kk
theorem gx_dVv (B : gx_B cc nL own l R K G) {y : MethodName} {rm : Room} {W0 wr W1 : va_W} {bytes : ByteArray} {maxL : Nat} {ret' : Option FieldType} {index : Nat} {rest : List Value} {b : Nat} {As : List Value} {T0 : u_T} {N0 ci : Nat} {fs : List Value} (hM : gx_Ctr l K y bytes maxL ret' rm (.ref b :: As) W0 (gx_D none W1)) (hm : gx_M y bytes maxL ret') (hdg : decode cc pc = .ok (.invokevirtual index, 3)) (hlk : Cond.methodLink own index y ∈ gx_TB) (hnA : (parseMethodDescriptor y.desc).map (fun d => d.parameters.length) = some As.length) (hRm : rm.frames + 1 ≤ R.frames ∧ 8 + (maxL + 11) + rm.locals ≤ R.locals) (h0 : rm.cells = 0 ∧ rm.slots = 0) (hkn : k ≤ R.cells ∧ n ≤ R.slots) (hst : st = As.reverse ++ .ref b :: rest) (hcat : (rest.map fun v => v.category).sum ≤ 8)
    (isC isR : List Nat) (hC : isC.map (fun i => ws[i]?) = W0.map some) (hR : isR.map (fun i => ws[i]?) = wr.map some) (hn : va_nd isR = true) (hdis : ∀ i ∈ isR, i ∉ isC) (hnC : va_nd isC = true) (hci : vwCl[ci]? = some (y.cls, T0, N0)) (hb0 : W0[0]? = some (b, .inr (ci, fs)))
    (is : List Nat) (hnd : va_nd is = true) (ws' : va_W) (hp : is.map (fun i => (wr ++ W1)[i]?) = ws'.map some) (kk : G k n ws' lv (pc + 3) rest) : G k n ws lv pc st := by
  refine gx_callV B hM hm hdg hlk hnA ⟨hRm.1, hRm.2, by rw [h0.1]; exact hkn.1, by rw [h0.2]; exact hkn.2⟩ hst hcat isC isR hC hR hn hdis hnC hci hb0 (fun v w h => ?_)
  obtain ⟨rfl, rfl⟩ := h
  refine gx_kn (k' := k) (n' := n) (by rw [h0.1]; rfl) (by rw [h0.2]; rfl) ?_
  exact gx_perm B is hnd hp kk
theorem gx_dSi (B : gx_B cc nL own l R K G) {y : MethodName} {rm : Room} {W0 wr W1 : va_W} {bytes : ByteArray} {maxL : Nat} {ret' : Option FieldType} {index : Nat} {rest : List Value} {As : List Value} {r : Int32} (hM : gx_Ctr l K y bytes maxL ret' rm As W0 (gx_D (some (.int r)) W1)) (hm : gx_MS y bytes maxL ret') (hdg : decode cc pc = .ok (.invokestatic index, 3)) (hlk : Cond.methodLink own index y ∈ gx_TB) (hnA : (parseMethodDescriptor y.desc).map (fun d => d.parameters.length) = some As.length) (hRm : rm.frames + 1 ≤ R.frames ∧ 8 + (maxL + 11) + rm.locals ≤ R.locals) (h0 : rm.cells = 0 ∧ rm.slots = 0) (hkn : k ≤ R.cells ∧ n ≤ R.slots) (hst : st = As.reverse ++ rest) (hcat : (rest.map fun v => v.category).sum ≤ 8)
    (isC isR : List Nat) (hC : isC.map (fun i => ws[i]?) = W0.map some) (hR : isR.map (fun i => ws[i]?) = wr.map some) (hn : va_nd isR = true) (hdis : ∀ i ∈ isR, i ∉ isC) (hnC : va_nd isC = true)
    (is : List Nat) (hnd : va_nd is = true) (ws' : va_W) (hp : is.map (fun i => (wr ++ W1)[i]?) = ws'.map some) (kk : G k n ws' lv (pc + 3) (.int r :: rest)) : G k n ws lv pc st := by
  refine gx_callS B hM hm hdg hlk hnA ⟨hRm.1, hRm.2, by rw [h0.1]; exact hkn.1, by rw [h0.2]; exact hkn.2⟩ hst hcat isC isR hC hR hn hdis hnC (fun v w h => ?_)
  obtain ⟨rfl, rfl⟩ := h
  refine gx_kn (k' := k) (n' := n) (by rw [h0.1]; rfl) (by rw [h0.2]; rfl) ?_
  exact gx_perm B is hnd hp kk
theorem gx_dSv (B : gx_B cc nL own l R K G) {y : MethodName} {rm : Room} {W0 wr W1 : va_W} {bytes : ByteArray} {maxL : Nat} {ret' : Option FieldType} {index : Nat} {rest : List Value} {As : List Value} (hM : gx_Ctr l K y bytes maxL ret' rm As W0 (gx_D none W1)) (hm : gx_MS y bytes maxL ret') (hdg : decode cc pc = .ok (.invokestatic index, 3)) (hlk : Cond.methodLink own index y ∈ gx_TB) (hnA : (parseMethodDescriptor y.desc).map (fun d => d.parameters.length) = some As.length) (hRm : rm.frames + 1 ≤ R.frames ∧ 8 + (maxL + 11) + rm.locals ≤ R.locals) (h0 : rm.cells = 0 ∧ rm.slots = 0) (hkn : k ≤ R.cells ∧ n ≤ R.slots) (hst : st = As.reverse ++ rest) (hcat : (rest.map fun v => v.category).sum ≤ 8)
    (isC isR : List Nat) (hC : isC.map (fun i => ws[i]?) = W0.map some) (hR : isR.map (fun i => ws[i]?) = wr.map some) (hn : va_nd isR = true) (hdis : ∀ i ∈ isR, i ∉ isC) (hnC : va_nd isC = true)
    (is : List Nat) (hnd : va_nd is = true) (ws' : va_W) (hp : is.map (fun i => (wr ++ W1)[i]?) = ws'.map some) (kk : G k n ws' lv (pc + 3) rest) : G k n ws lv pc st := by
  refine gx_callS B hM hm hdg hlk hnA ⟨hRm.1, hRm.2, by rw [h0.1]; exact hkn.1, by rw [h0.2]; exact hkn.2⟩ hst hcat isC isR hC hR hn hdis hnC (fun v w h => ?_)
  obtain ⟨rfl, rfl⟩ := h
  refine gx_kn (k' := k) (n' := n) (by rw [h0.1]; rfl) (by rw [h0.2]; rfl) ?_
  exact gx_perm B is hnd hp kk
/-- the static method of the outer class, from Books and from Script -/
theorem gx_w0 (B : gx_B cc nL RX0 l R K G) {rm : Room} {bytes : ByteArray} {maxL : Nat} {ret' : Option FieldType} {rest : List Value} {x1 x2 x3 r : Int32} (hM : gx_Ctr l K yX4_within bytes maxL ret' rm [.int x1, .int x2, .int x3] [] (gx_D (some (.int r)) [])) (hm : gx_MS yX4_within bytes maxL ret') (hdg : decode cc pc = .ok (.invokestatic 54, 3)) (hRm : rm.frames + 1 ≤ R.frames ∧ 8 + (maxL + 11) + rm.locals ≤ R.locals) (h0 : rm.cells = 0 ∧ rm.slots = 0) (hkn : k ≤ R.cells ∧ n ≤ R.slots) (hcat : (rest.map fun v => v.category).sum ≤ 8) (isR : List Nat) (hR : isR.map (fun i => ws[i]?) = ws.map some) (hn : va_nd isR = true)
    (kk : G k n ws lv (pc + 3) (.int r :: rest)) : G k n ws lv pc (.int x3 :: .int x2 :: .int x1 :: rest) := by
  refine gx_callSN0 B hM hm hdg rfl ⟨hRm.1, hRm.2, by rw [h0.1]; exact hkn.1, by rw [h0.2]; exact hkn.2⟩ rfl hcat [] isR rfl hR hn (fun _ _ h => absurd h List.not_mem_nil) rfl (fun v w h => ?_)
  obtain ⟨rfl, rfl⟩ := h
  refine gx_kn (k' := k) (n' := n) (by rw [h0.1]; rfl) (by rw [h0.2]; rfl) ?_
  rw [List.append_nil]
  exact kk
end GX3
