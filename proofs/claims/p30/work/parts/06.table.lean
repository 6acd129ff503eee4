/-! Tables: what their methods answer and do to the cells, told by start s, rows m, columns w. -/
def tHas (C : Nat → Int32) (s : Nat) (r : Int32) : Bool := decide (¬ r < 0) && decide (r < C s)
def tFull (C : Nat → Int32) (s m : Nat) : Bool := decide (nI m ≤ C s)
def tOk (m w : Nat) (r c : Int32) : Bool := decide (¬ r < 0) && decide (¬ nI m ≤ r) && decide (¬ c < 0) && decide (c < nI w)
def tIx (s w : Nat) (r c : Int32) : Nat := s + 1 + r.toNatClampNeg * w + c.toNatClampNeg
def tAt (C : Nat → Int32) (s m w : Nat) (r c : Int32) : Int32 := if tOk m w r c then C (tIx s w r c) else 0
def tPut (C : Nat → Int32) (s m w : Nat) (r c v : Int32) : Nat → Int32 := if tOk m w r c then upd C (tIx s w r c) v else C
def tAdd (C : Nat → Int32) (s m w : Nat) (r c v : Int32) : Nat → Int32 := if tOk m w r c then upd C (tIx s w r c) (C (tIx s w r c) + v) else C
def tNew (C : Nat → Int32) (s m : Nat) : Int32 := if nI m ≤ C s then (-1) else C s
def tNewC (C : Nat → Int32) (s m : Nat) : Nat → Int32 := if nI m ≤ C s then C else upd C s (C s + 1)
def tSumN (C : Nat → Int32) (s m w : Nat) (c : Int32) : Nat → Int32
  | 0 => 0
  | n + 1 => tSumN C s m w c n + tAt C s m w (nI n) c
def tSum (C : Nat → Int32) (s m w : Nat) (c : Int32) : Int32 := tSumN C s m w c (C s).toNatClampNeg
def tHb (s m w : Nat) : Prop := s + 1 + m * w ≤ 351 ∧ m ≤ 24 ∧ w ≤ 12
theorem tIx_eq {s m w : Nat} {r c : Int32} (hb : tHb s m w) (h1 : ¬ r < 0) (h2 : ¬ nI m ≤ r) (h3 : ¬ c < 0) (h4 : c < nI w) : nI (s + 1) + r * nI w + c = nI (tIx s w r c) ∧ tIx s w r c < 351 := by
  obtain ⟨r', hr, rfl⟩ := nI_of h1
  obtain ⟨c', hc, rfl⟩ := nI_of h3
  obtain ⟨b1, b2, b3⟩ := hb
  have h5 : r' < m := by
    rcases Nat.lt_or_ge r' m with q | q
    · exact q
    · exact absurd (nI_le q hr) h2
  have h6 : c' < w := (nI_ltI hc (by omega)).mp h4
  have h7 : (r' + 1) * w ≤ m * w := Nat.mul_le_mul_right w h5
  rw [Nat.add_mul] at h7
  refine ⟨?_, ?_⟩
  · rw [pk_mul, nI_add, nI_add]
    unfold tIx
    rw [nI_clamp hr, nI_clamp hc]
  · unfold tIx
    rw [nI_clamp hr, nI_clamp hc]
    omega
abbrev wT (K : gx_K) (t c s m w : Nat) (C : Nat → Int32) : va_W := [(t, .inr (3, [.ref c, .int (nI s), .int (nI m), .int (nI w)])), (c, .inl (K.2.1.2.1, 351, .inl C))]
