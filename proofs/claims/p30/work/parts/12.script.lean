/-! History and Script, purely. -/
def rwF (r0 r1 r2 r3 r4 : Nat) : Nat → Option Nat := fun i => ([some r0, some r1, some r2, some r3, some r4] : List (Option Nat)).getD i none
def rSel (R0 R1 R2 R3 R4 : Nat → Int32) (j : Nat) : Nat → Int32 := if j = 0 then R0 else if j = 1 then R1 else if j = 2 then R2 else if j = 3 then R3 else R4
abbrev wH (K : gx_K) (g ro r0 r1 r2 r3 r4 : Nat) (R0 R1 R2 R3 R4 : Nat → Int32) (od sn : Nat) : va_W := [(g, .inr (1, [.ref ro, .int (nI od), .int (nI sn)])), (ro, .inl (K.2.1.2.2.2, 5, .inr (.inr (.inr (.inr (rwF r0 r1 r2 r3 r4)))))), (r0, .inl (K.2.1.2.1, 351, .inl R0)), (r1, .inl (K.2.1.2.1, 351, .inl R1)), (r2, .inl (K.2.1.2.1, 351, .inl R2)), (r3, .inl (K.2.1.2.1, 351, .inl R3)), (r4, .inl (K.2.1.2.1, 351, .inl R4))]
abbrev wHB (K : gx_K) (g ro r0 r1 r2 r3 r4 : Nat) (R0 R1 R2 R3 R4 : Nat → Int32) (od sn h t1 t2 t3 t4 c : Nat) (C : Nat → Int32) : va_W := [(g, .inr (1, [.ref ro, .int (nI od), .int (nI sn)])), (ro, .inl (K.2.1.2.2.2, 5, .inr (.inr (.inr (.inr (rwF r0 r1 r2 r3 r4)))))), (r0, .inl (K.2.1.2.1, 351, .inl R0)), (r1, .inl (K.2.1.2.1, 351, .inl R1)), (r2, .inl (K.2.1.2.1, 351, .inl R2)), (r3, .inl (K.2.1.2.1, 351, .inl R3)), (r4, .inl (K.2.1.2.1, 351, .inl R4)), (h, .inr (0, [.ref c, .ref t1, .ref t2, .ref t3, .ref t4])), (c, .inl (K.2.1.2.1, 351, .inl C))]
def kSn (x : Int32) (sn : Nat) : Nat := if x < 0 then sn else if sn < 4 then sn + 1 else sn
def kOd (x : Int32) (od sn : Nat) : Nat := if x < 0 then od else if sn < 4 then od else (od + 1) % 5
abbrev wSc (K : gx_K) (v sg nu : Nat) (X : Nat → Int32) (ln : Nat) (N : Nat → Int32) (rd pl : Nat) (rs ca : Int32) : va_W := [(v, .inr (2, [.ref sg, .int (nI ln), .ref nu, .int (nI rd), .int (nI pl), .int rs, .int ca])), (sg, .inl (K.2.1.1, 80, .inl X)), (nu, .inl (K.2.1.2.1, 4, .inl N))]
abbrev wSB (K : gx_K) (v sg nu : Nat) (X : Nat → Int32) (ln : Nat) (N : Nat → Int32) (rd pl : Nat) (rs ca : Int32) (h t1 t2 t3 t4 c : Nat) (C : Nat → Int32) : va_W := wSc K v sg nu X ln N rd pl rs ca ++ wB K h t1 t2 t3 t4 c C
def chOk (X : Nat → Int32) : Prop := ∀ j, narrow .char (.int (X j)) = .int (X j)
theorem chOk_upd {X : Nat → Int32} {k : Nat} {x : Int32} (h : chOk X) (hx : narrow .char (.int x) = .int x) : chOk (upd X k x) := fun j => by
  unfold upd
  split
  · exact hx
  · exact h j
