/-! Long numbers; the reference's reading of texts. -/
section GX4
variable {cc : ByteArray} {nL : Nat} {own nm : String} {l : Launch} {R : Room} {K : gx_K} {ret : Option FieldType} {Post : Option Value → va_W → Prop} {G : gx_J} {k n pc : Nat} {ws : va_W} {lv : List (Nat × Value)} {st : List Value}
theorem gx_lconst (B : gx_B cc nL own l R K G) {z : Fin 2} (hd : decode cc pc = .ok (.lconst z, 1)) (v : Int64) (hv : Int64.ofNat (z : Nat) = v) (kk : G k n ws lv (pc + 1) (.long v :: st)) : G k n ws lv pc st := by
  obtain ⟨p, e, s, m, args, below, meth, c, A, Q, rfl, hx, hb, hml, hown, hts, hK, hA, hX⟩ := B
  intro H locs ls hP hD hS hl
  exact lv_lconst hx hb hd hv (kk H locs ls hP hD hS hl)
theorem gx_lstore_n (B : gx_B cc nL own l R K G) {i : Fin 4} (hd : decode cc pc = .ok (.lstore_n i, 1)) (hi : (i : Nat) + 1 < nL) {x : Int64} (lv' : List (Nat × Value)) (hv : ((i : Nat), Value.long x) :: lv.filter (fun q => !(q.1 == (i : Nat)) && (!(q.1 == (i : Nat) + 1) && !(q.1 + 1 == (i : Nat) && q.2.category == 2))) = lv') (kk : G k n ws lv' (pc + 1) st) : G k n ws lv pc (.long x :: st) := by
  obtain ⟨p, e, s, m, args, below, meth, c, A, Q, rfl, hx, hb, hml, hown, hts, hK, hA, hX⟩ := B
  intro H locs ls hP hD hS hl
  exact lv_lstore_n hx hb hd rfl hl hi hv (fun ls' hl' => kk H locs ls' hP hD hS hl')
theorem gx_ldc2 (B : gx_B cc nL own l R K G) {ix : Nat} {v : Int64} (hd : decode cc pc = .ok (.ldc2_w ix, 3)) (hc : Jvm.Cond.constantLong own ix v ∈ gx_TB) (kk : G k n ws lv (pc + 3) (.long v :: st)) : G k n ws lv pc st := by
  obtain ⟨p, e, s, m, args, below, meth, c, A, Q, rfl, hx, hb, hml, hown, hts, hK, hA, hX⟩ := B
  intro H locs ls hP hD hS hl
  exact lv_ldc2 hx hb hown (hts _ hc) hd (kk H locs ls hP hD hS hl)
theorem gx_i2l (B : gx_B cc nL own l R K G) (hd : decode cc pc = .ok (.i2l, 1)) {x : Int32} (kk : G k n ws lv (pc + 1) (.long x.toInt64 :: st)) : G k n ws lv pc (.int x :: st) := by
  obtain ⟨p, e, s, m, args, below, meth, c, A, Q, rfl, hx, hb, hml, hown, hts, hK, hA, hX⟩ := B
  intro H locs ls hP hD hS hl
  exact lv_i2l hx hb hd rfl (kk H locs ls hP hD hS hl)
theorem gx_lmul (B : gx_B cc nL own l R K G) (hd : decode cc pc = .ok (.lmul, 1)) {x y : Int64} (kk : G k n ws lv (pc + 1) (.long (x * y) :: st)) : G k n ws lv pc (.long y :: .long x :: st) := by
  obtain ⟨p, e, s, m, args, below, meth, c, A, Q, rfl, hx, hb, hml, hown, hts, hK, hA, hX⟩ := B
  intro H locs ls hP hD hS hl
  exact lv_lmul hx hb hd (kk H locs ls hP hD hS hl)
theorem gx_ladd (B : gx_B cc nL own l R K G) (hd : decode cc pc = .ok (.ladd, 1)) {x y : Int64} (kk : G k n ws lv (pc + 1) (.long (x + y) :: st)) : G k n ws lv pc (.long y :: .long x :: st) := by
  obtain ⟨p, e, s, m, args, below, meth, c, A, Q, rfl, hx, hb, hml, hown, hts, hK, hA, hX⟩ := B
  intro H locs ls hP hD hS hl
  exact lv_ladd hx hb hd (kk H locs ls hP hD hS hl)
theorem gx_lcmp (B : gx_B cc nL own l R K G) (hd : decode cc pc = .ok (.lcmp, 1)) {x y : Int64} (kk : G k n ws lv (pc + 1) (.int (lg_cmp x y) :: st)) : G k n ws lv pc (.long y :: .long x :: st) := by
  obtain ⟨p, e, s, m, args, below, meth, c, A, Q, rfl, hx, hb, hml, hown, hts, hK, hA, hX⟩ := B
  intro H locs ls hP hD hS hl
  exact W.lcmp hx hb hd (kk H locs ls hP hD hS hl)
end GX4
theorem lg_cmp0 {x y : Int64} : lg_cmp x y = 0 ↔ x = y := by
  unfold lg_cmp
  by_cases h : x > y
  · rw [if_pos h]
    refine ⟨fun q => absurd q (by decide), fun q => ?_⟩
    rw [q] at h
    exact (Int64.lt_irrefl h).elim
  · rw [if_neg h]
    by_cases h2 : x = y
    · rw [if_pos h2]; exact ⟨fun _ => h2, fun _ => rfl⟩
    · rw [if_neg h2]; exact ⟨fun q => absurd q (by decide), fun q => absurd q h2⟩
def xAt (X : Nat → Int32) (ty sp : Nat) (lo hi : Int32) : Bool := decide (sp < ty) && bIn (X sp) lo hi
/-- how many characters between lo and hi follow, at most so many -/
def scC (X : Nat → Int32) (ty sp : Nat) (lo hi : Int32) : Nat → Nat → Nat
  | 0, i => i
  | f + 1, i => if xAt X ty (sp + i) lo hi then scC X ty sp lo hi f (i + 1) else i
def nuC (X : Nat → Int32) (ty sp : Nat) : Nat := scC X ty sp 48 57 4 0
def nuV (X : Nat → Int32) (sp : Nat) : Nat → Int32
  | 0 => 0
  | i + 1 => 10 * nuV X sp i + X (sp + i) - 48
def woC (X : Nat → Int32) (ty sp : Nat) : Nat := scC X ty sp 97 122 7 0
def woV (X : Nat → Int32) (sp : Nat) : Nat → Int64
  | 0 => 0
  | i + 1 => woV X sp i * 256 + (X (sp + i)).toInt64
def fdN (v : Int64) : Nat → Int32
  | 0 => (-4)
  | k + 1 => if mW k = v then nI k else fdN v k
def woF (X : Nat → Int32) (ty sp : Nat) : Int32 := fdN (woV X sp (woC X ty sp)) 9
abbrev gx_Rd : Type := Bool × Nat × (Nat → Int32)
def rd1 (X : Nat → Int32) (ty k : Nat) (r : gx_Rd) : gx_Rd :=
  if r.1 then (if xAt X ty r.2.1 32 32 then (decide (0 < nuC X ty (r.2.1 + 1)), r.2.1 + 1 + nuC X ty (r.2.1 + 1), upd r.2.2 k (nuV X (r.2.1 + 1) (nuC X ty (r.2.1 + 1)))) else (false, r.2)) else r
def rdN (X : Nat → Int32) (ty : Nat) (Z : Nat → Int32) (sp : Nat) : Nat → gx_Rd
  | 0 => (true, sp, Z)
  | k + 1 => rd1 X ty k (rdN X ty Z sp k)
def rdE (X : Nat → Int32) (ty : Nat) (Z : Nat → Int32) (sp w : Nat) : gx_Rd := rdN X ty Z (sp + woC X ty sp) (mN w).toNatClampNeg
/-- a command read: which, the place behind, its numbers -/
def rdR (X : Nat → Int32) (ty : Nat) (Z : Nat → Int32) (sp : Nat) : Int32 × Nat × (Nat → Int32) :=
  if woF X ty sp < 0 then ((-4), sp + woC X ty sp, Z)
  else if (rdE X ty Z sp (woF X ty sp).toNatClampNeg).1 then
    (if xAt X ty (rdE X ty Z sp (woF X ty sp).toNatClampNeg).2.1 59 59 then (woF X ty sp, (rdE X ty Z sp (woF X ty sp).toNatClampNeg).2.1 + 1, (rdE X ty Z sp (woF X ty sp).toNatClampNeg).2.2)
     else ((-4), (rdE X ty Z sp (woF X ty sp).toNatClampNeg).2))
  else ((-4), (rdE X ty Z sp (woF X ty sp).toNatClampNeg).2)
theorem scC_le {X : Nat → Int32} {ty sp : Nat} {lo hi : Int32} : ∀ f i, scC X ty sp lo hi f i ≤ i + f := by
  intro f
  induction f with
  | zero => exact fun i => Nat.le_refl _
  | succ f ih =>
    intro i
    unfold scC
    split
    · have := ih (i + 1); omega
    · omega
theorem nuC_le {X : Nat → Int32} {ty sp : Nat} : nuC X ty sp ≤ 4 := by have := scC_le (X := X) (ty := ty) (sp := sp) (lo := 48) (hi := 57) 4 0; unfold nuC; omega
theorem woC_le {X : Nat → Int32} {ty sp : Nat} : woC X ty sp ≤ 7 := by have := scC_le (X := X) (ty := ty) (sp := sp) (lo := 97) (hi := 122) 7 0; unfold woC; omega
theorem sub_sp {sp i : Nat} : nI (sp + i) - nI sp = nI i := by
  rw [pk_sub (by omega)]
  congr 1
  omega
theorem upd_upd {f : Nat → Int32} {k : Nat} {x y : Int32} : upd (upd f k x) k y = upd f k y := funext fun j => by
  unfold upd
  by_cases h : j = k
  · rw [if_pos h, if_pos h]
  · rw [if_neg h, if_neg h, if_neg h]
theorem rdN_sp {X : Nat → Int32} {ty : Nat} {Z : Nat → Int32} {sp : Nat} : ∀ k, (rdN X ty Z sp k).2.1 ≤ sp + 5 * k := by
  intro k
  induction k with
  | zero => exact Nat.le_refl _
  | succ k ih =>
    show (rd1 X ty k (rdN X ty Z sp k)).2.1 ≤ _
    unfold rd1
    split
    · split
      · have := nuC_le (X := X) (ty := ty) (sp := (rdN X ty Z sp k).2.1 + 1)
        show (rdN X ty Z sp k).2.1 + 1 + _ ≤ _
        omega
      · show (rdN X ty Z sp k).2.1 ≤ _
        omega
    · omega
theorem rdN_stay {X : Nat → Int32} {ty : Nat} {Z : Nat → Int32} {sp k : Nat} (h : (rdN X ty Z sp k).1 = false) : ∀ d, rdN X ty Z sp (k + d) = rdN X ty Z sp k := by
  intro d
  induction d with
  | zero => rfl
  | succ d ih =>
    show rd1 X ty (k + d) (rdN X ty Z sp (k + d)) = _
    rw [ih]
    unfold rd1
    rw [h]
    rfl
theorem fdN_of {v : Int64} : ∀ k, k ≤ 9 → fdN v k = (-4) ∨ ∃ w, w < 9 ∧ fdN v k = nI w ∧ mW w = v := by
  intro k
  induction k with
  | zero => exact fun _ => Or.inl rfl
  | succ k ih =>
    intro hk
    unfold fdN
    split
    · next h => exact Or.inr ⟨k, by omega, rfl, h⟩
    · exact ih (by omega)
theorem woF_of {X : Nat → Int32} {ty sp : Nat} (h : ¬ woF X ty sp < 0) : ∃ w, w < 9 ∧ woF X ty sp = nI w := by
  rcases fdN_of (v := woV X sp (woC X ty sp)) 9 (by omega) with q | ⟨w, h1, h2, -⟩
  · exact absurd (by unfold woF; rw [q]; decide) h
  · exact ⟨w, h1, h2⟩
theorem mN_le : ∀ w, w < 9 → (mN w).toNatClampNeg ≤ 4 ∧ mN w = nI (mN w).toNatClampNeg := by decide +kernel
