/-! History and Script, purely. -/
def rwF (r0 r1 r2 r3 r4 : Nat) : Nat → Option Nat := fun i => ([some r0, some r1, some r2, some r3, some r4] : List (Option Nat)).getD i none
def rSel (R0 R1 R2 R3 R4 : Nat → Int32) (j : Nat) : Nat → Int32 := if j = 0 then R0 else if j = 1 then R1 else if j = 2 then R2 else if j = 3 then R3 else R4
abbrev wH (K : gx_K) (g ro r0 r1 r2 r3 r4 : Nat) (R0 R1 R2 R3 R4 : Nat → Int32) (od sn : Nat) : va_W := [(g, .inr (1, [.ref ro, .int (nI od), .int (nI sn)])), (ro, .inl (K.2.1.2.2.2, 5, .inr (.inr (.inr (.inr (rwF r0 r1 r2 r3 r4)))))), (r0, .inl (K.2.1.2.1, 351, .inl R0)), (r1, .inl (K.2.1.2.1, 351, .inl R1)), (r2, .inl (K.2.1.2.1, 351, .inl R2)), (r3, .inl (K.2.1.2.1, 351, .inl R3)), (r4, .inl (K.2.1.2.1, 351, .inl R4))]
abbrev wHB (K : gx_K) (g ro r0 r1 r2 r3 r4 : Nat) (R0 R1 R2 R3 R4 : Nat → Int32) (od sn h t1 t2 t3 t4 c : Nat) (C : Nat → Int32) : va_W := [(g, .inr (1, [.ref ro, .int (nI od), .int (nI sn)])), (ro, .inl (K.2.1.2.2.2, 5, .inr (.inr (.inr (.inr (rwF r0 r1 r2 r3 r4)))))), (r0, .inl (K.2.1.2.1, 351, .inl R0)), (r1, .inl (K.2.1.2.1, 351, .inl R1)), (r2, .inl (K.2.1.2.1, 351, .inl R2)), (r3, .inl (K.2.1.2.1, 351, .inl R3)), (r4, .inl (K.2.1.2.1, 351, .inl R4)), (h, .inr (0, [.ref c, .ref t1, .ref t2, .ref t3, .ref t4])), (c, .inl (K.2.1.2.1, 351, .inl C))]
def kSn (x : Int32) (sn : Nat) : Nat := if x < 0 then sn else if sn < 4 then sn + 1 else sn
def kOd (x : Int32) (od sn : Nat) : Nat := if x < 0 then od else if sn < 4 then od else (od + 1) % 5
abbrev wSc (K : gx_K) (v sg nu : Nat) (X : Nat → Int32) (ln : Nat) (N : Nat → Int32) (rd pl : Nat) (rs ca : Int32) : va_W := [(v, .inr (2, [.ref sg, .int (nI ln), .ref nu, .int (nI rd), .int (nI pl), .int rs, .int ca])), (sg, .inl (K.2.1.1, 80, .inl X)), (nu, .inl (K.2.1.2.1, 4, .inl N))]
abbrev wSB (K : gx_K) (v sg nu : Nat) (X : Nat → Int32) (ln : Nat) (N : Nat → Int32) (rd pl : Nat) (rs ca : Int32) (h t1 t2 t3 t4 c : Nat) (C : Nat → Int32) : va_W := wSc K v sg nu X ln N rd pl rs ca ++ wB K h t1 t2 t3 t4 c C
def chOk (X : Nat → Int32) : Prop := ∀ j, narrow .char (.int (X j)) = .int (X j)
theorem chOk_upd {X : Nat → Int32} {k : Nat} {x : Int32} (h : chOk X) (hx : narrow .char (.int x) = .int x) : chOk (upd X k x) := fun j => by
  unfold upd
  split
  · exact hx
  · exact h j
theorem c_id {x : Int32} (h : bIn x 32 126 = true) : (x.toUInt32 % 65536).toInt32 = x ∧ narrow .char (.int x) = .int x ∧ vp_nar .char x = x := by
  simp only [bIn, Bool.and_eq_true, decide_eq_true_eq] at h
  have h0 : ¬ x < 0 := fun q => h.1 (by
    rw [Int32.lt_iff_toInt_lt] at q ⊢
    have : (0 : Int32).toInt = 0 := rfl
    have : (32 : Int32).toInt = 32 := rfl
    omega)
  obtain ⟨p, hp, rfl⟩ := nI_of h0
  have hp2 : p < 127 := by
    rcases Nat.lt_or_ge 126 p with q | q
    · exact absurd (nI_lt q hp) h.2
    · omega
  have e : ∀ p : Fin 127, ((nI p.val).toUInt32 % 65536).toInt32 = nI p.val ∧ narrow .char (.int (nI p.val)) = .int (nI p.val) ∧ vp_nar .char (nI p.val) = nI p.val := by decide +kernel
  exact e ⟨p, hp2⟩
/-- the sign at a place -/
def sgn (X : Nat → Int32) (ln k : Nat) : Int32 := if k < ln then X k else 0
theorem sg_in {k ln : Nat} (hk : k < 2 ^ 30) (hl : ln ≤ 80) : bIn (nI k) 0 (nI ln - 1) = decide (k < ln) := by
  have h1 : ¬ nI k < 0 := nI_pos (by omega)
  have h2 : (nI ln - 1 < nI k) ↔ ¬ k < ln := by
    rw [Int32.lt_iff_toInt_lt, nI_toInt (by omega), show (1 : Int32) = nI 1 from rfl, pk_sub_toInt (by omega) (by decide)]
    omega
  unfold bIn
  by_cases h : k < ln
  · simp [h1, h2, h]
  · simp [h1, h2, h]
/-- a word stands next: its letters up to i do -/
def swN (X : Nat → Int32) (ln rd i : Nat) : Nat → Bool
  | 0 => true
  | j + 1 => swN X ln rd i j && decide (sgn X ln (rd + j) = (gx_byt.getD i []).getD j 0)
def swA (X : Nat → Int32) (ln rd i : Nat) : Bool := decide (¬ nI ln - nI rd < nI (gx_len.getD i 0)) && swN X ln rd i (gx_len.getD i 0)
theorem swN_f {X : Nat → Int32} {ln rd i j : Nat} (h : swN X ln rd i j = false) : ∀ d, swN X ln rd i (j + d) = false := by
  intro d
  induction d with
  | zero => exact h
  | succ d ih =>
    show (swN X ln rd i (j + d) && _) = false
    rw [ih]
    rfl
/-- the first word that stands next: its number; 9 if none -/
def kdF (X : Nat → Int32) (ln rd : Nat) : Nat → Nat → Nat
  | 0, i => i
  | f + 1, i => if swA X ln rd i then i else kdF X ln rd f (i + 1)
def kdA (X : Nat → Int32) (ln rd : Nat) : Nat := kdF X ln rd 9 0
def kdR (X : Nat → Int32) (ln rd : Nat) : Int32 := if kdA X ln rd < 9 then nI (kdA X ln rd) else (-1)
def kdP (X : Nat → Int32) (ln rd : Nat) : Nat := if kdA X ln rd < 9 then rd + gx_len.getD (kdA X ln rd) 0 else rd
def nbF (x : Int32) : Int32 := if x = 0 then 3 else if x = 1 then 4 else if x = 2 then 1 else if x = 3 then 0 else if x = 4 then 2 else if x = 5 then 3 else if x = 6 then 2 else if x = 7 then 1 else if x = 8 then 1 else 0
/-- digits: how many, at most four -/
def dxC (X : Nat → Int32) (ln rd : Nat) : Nat → Nat → Nat
  | 0, i => i
  | f + 1, i => if bIn (sgn X ln (rd + i)) 48 57 then dxC X ln rd f (i + 1) else i
def dxN (X : Nat → Int32) (ln rd : Nat) : Nat := dxC X ln rd 4 0
def dxV (X : Nat → Int32) (ln rd : Nat) : Nat → Int32
  | 0 => 0
  | i + 1 => dxV X ln rd i * 10 + sgn X ln (rd + i) - 48
theorem dxC_le {X : Nat → Int32} {ln rd : Nat} : ∀ f i, dxC X ln rd f i ≤ i + f := by
  intro f
  induction f with
  | zero => exact fun i => Nat.le_refl _
  | succ f ih =>
    intro i
    unfold dxC
    split
    · have := ih (i + 1); omega
    · omega
