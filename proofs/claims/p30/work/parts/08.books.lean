/-! Books, purely: each method's answer and the cells behind it, after the program's own text. -/
def bIn (v lo hi : Int32) : Bool := decide (¬ v < lo) && decide (¬ hi < v)
def pAt (C : Nat → Int32) (r k : Int32) : Int32 := tAt C 3 6 12 r k
def dAt (C : Nat → Int32) (r k : Int32) : Int32 := tAt C 76 8 7 r k
def gAt (C : Nat → Int32) (r k : Int32) : Int32 := tAt C 133 24 7 r k
def kAt (C : Nat → Int32) (r k : Int32) : Int32 := tAt C 302 6 8 r k
def pPut (C : Nat → Int32) (r k v : Int32) : Nat → Int32 := tPut C 3 6 12 r k v
def dPut (C : Nat → Int32) (r k v : Int32) : Nat → Int32 := tPut C 76 8 7 r k v
def gPut (C : Nat → Int32) (r k v : Int32) : Nat → Int32 := tPut C 133 24 7 r k v
def kPut (C : Nat → Int32) (r k v : Int32) : Nat → Int32 := tPut C 302 6 8 r k v
def pAdd (C : Nat → Int32) (r k v : Int32) : Nat → Int32 := tAdd C 3 6 12 r k v
def kAdd (C : Nat → Int32) (r k v : Int32) : Nat → Int32 := tAdd C 302 6 8 r k v
abbrev gx_R : Type := Int32 × (Nat → Int32)
-- purposes, donors
def bAddPurpose (C : Nat → Int32) : gx_R := if tNew C 3 6 = (-1) then ((-3), tNewC C 3 6) else (tNew C 3 6, pPut (pPut (tNewC C 3 6) (tNew C 3 6) 9 (-1)) (tNew C 3 6) 10 (tNew C 3 6))
def bDonorN (C : Nat → Int32) (d : Int32) : Nat → Nat → Int32
  | 0 => C
  | n + 1 => dPut (bDonorN C d n) d (nI (1 + n)) (-1)
def bAddDonor (C : Nat → Int32) : gx_R := if tNew C 76 8 = (-1) then ((-3), tNewC C 76 8) else (tNew C 76 8, bDonorN (tNewC C 76 8) (tNew C 76 8) 6)
def bDeclare (C : Nat → Int32) (d v : Int32) : gx_R := if tHas C 76 d && bIn v 0 1 then (dAt C d 0, dPut C d 0 v) else ((-1), C)
def bClosed (C : Nat → Int32) (p : Int32) : Bool := decide (¬ pAt C p 9 = (-1))
-- gifts
def bBook (C : Nat → Int32) (d p a k : Int32) : gx_R :=
  let g := tNew C 133 24
  let C1 := gPut (gPut (gPut (tNewC C 133 24) g 0 d) g 1 p) g 2 a
  (g, pAdd (pAdd (gPut (gPut C1 g 3 (C1 0)) g 6 k) p 0 a) p 1 a)
def bGive (C : Nat → Int32) (d p a : Int32) : gx_R :=
  if tHas C 76 d && tHas C 3 p && bIn a 1 9999 then (if bClosed C p then ((-2), C) else if tFull C 133 24 then ((-3), C) else bBook C d p a (-1)) else ((-1), C)
def bTax (C : Nat → Int32) (g : Int32) : Int32 := gAt C g 2 / 4
def bHome (C : Nat → Int32) (g : Int32) : Int32 := pAt C (gAt C g 1) 10
def bIsOf (C : Nat → Int32) (g d : Int32) : Bool := decide (gAt C g 0 = d)
def bClaimed (C : Nat → Int32) (g : Int32) : Bool := decide (gAt C g 4 = 1)
def bRefunded (C : Nat → Int32) (g : Int32) : Bool := decide (gAt C g 5 = 1)
-- pledges
def bSpan (m : Int32) : Bool := bIn m 1 60
def bPledge (C : Nat → Int32) (d p a m : Int32) : gx_R :=
  if tHas C 76 d && tHas C 3 p && bIn a 1 999 && bSpan m then (if bClosed C p then ((-2), C) else if tNew C 302 6 = (-1) then ((-3), tNewC C 302 6) else (tNew C 302 6, kPut (kPut (kPut (kPut (tNewC C 302 6) (tNew C 302 6) 0 d) (tNew C 302 6) 1 p) (tNew C 302 6) 2 a) (tNew C 302 6) 3 m)) else ((-1), C)
def bRunning (C : Nat → Int32) (k : Int32) : Bool := decide (kAt C k 5 = 0)
def bMiss (C : Nat → Int32) (k : Int32) : gx_R :=
  if tHas C 302 k then (if !bRunning C k || decide (kAt C k 7 = 1) then ((-2), C) else (kAt (kPut C k 7 1) k 4, kPut C k 7 1)) else ((-1), C)
def bHalt (C : Nat → Int32) (k : Int32) : Nat → Int32 := kPut (kPut C k 5 2) k 7 0
def bStop (C : Nat → Int32) (k : Int32) : gx_R :=
  if tHas C 302 k then (if bRunning C k then (kAt (bHalt C k) k 3, bHalt C k) else ((-2), C)) else ((-1), C)
-- months
def bRunMid (C1 : Nat → Int32) (k : Int32) : (Nat → Int32) × Bool :=
  if kAt C1 k 7 = 1 then (kAdd (kPut C1 k 7 0) k 4 1, decide (3 ≤ kAt (kAdd (kPut C1 k 7 0) k 4 1) k 4))
  else if tFull C1 133 24 then (C1, true)
  else (kAdd (bBook C1 (kAt C1 k 0) (kAt C1 k 1) (kAt C1 k 2) k).2 k 6 1, false)
def bRun (C : Nat → Int32) (k : Int32) : Nat → Int32 :=
  let r := bRunMid (kAdd C k 3 (-1)) k
  if r.2 then kPut r.1 k 5 3 else if kAt r.1 k 3 = 0 then kPut r.1 k 5 1 else r.1
def bRunN (C : Nat → Int32) : Nat → Nat → Int32
  | 0 => C
  | n + 1 => if bRunning (bRunN C n) (nI n) then bRun (bRunN C n) (nI n) else bRunN C n
def bMonth (C : Nat → Int32) : Nat → Int32 := bRunN (upd C 0 (C 0 + 1)) ((upd C 0 (C 0 + 1)) 302).toNatClampNeg
def bMonths (C : Nat → Int32) : Nat → Nat → Int32
  | 0 => C
  | n + 1 => bMonth (bMonths C n)
def bPass (C : Nat → Int32) (m last : Int32) : gx_R :=
  if bSpan m then (if last < C 0 + m then ((-3), C) else (bMonths C m.toNatClampNeg 133 - C 133, bMonths C m.toNatClampNeg)) else ((-1), C)
-- claims
def bYearN (C : Nat → Int32) (d y : Int32) : Nat → Int32
  | 0 => 0
  | n + 1 => if gAt C (nI n) 0 = d ∧ gAt C (nI n) 3 / 12 = y ∧ gAt C (nI n) 4 = 1 ∧ gAt C (nI n) 5 = 0 then bYearN C d y n + gAt C (nI n) 2 else bYearN C d y n
def bYear (C : Nat → Int32) (d y : Int32) : Int32 := bYearN C d y (C 133).toNatClampNeg
def bCan (C : Nat → Int32) (g : Int32) : Bool :=
  if bClaimed C g || bRefunded C g || decide (dAt C (gAt C g 0) 0 = 0) then false
  else if 47 < C 0 - gAt C g 3 then false
  else decide (bYear C (gAt C g 0) (gAt C g 3 / 12) + gAt C g 2 ≤ C 2)
def bClaimC (C : Nat → Int32) (g : Int32) : Nat → Int32 :=
  pAdd (pAdd (gPut C g 4 1) (bHome (gPut C g 4 1) g) 0 (bTax (gPut C g 4 1) g)) (bHome (pAdd (gPut C g 4 1) (bHome (gPut C g 4 1) g) 0 (bTax (gPut C g 4 1) g)) g) 2 (bTax (pAdd (gPut C g 4 1) (bHome (gPut C g 4 1) g) 0 (bTax (gPut C g 4 1) g)) g)
def bClaimN (C : Nat → Int32) (d : Int32) : Nat → Int32 × Bool × (Nat → Int32)
  | 0 => (0, false, C)
  | n + 1 =>
    if (decide (d = (-1)) || bIsOf (bClaimN C d n).2.2 (nI n) d) && bCan (bClaimN C d n).2.2 (nI n)
    then ((bClaimN C d n).1 + bTax (bClaimC (bClaimN C d n).2.2 (nI n)) (nI n), true, bClaimC (bClaimN C d n).2.2 (nI n))
    else bClaimN C d n
def bClaim (C : Nat → Int32) (d : Int32) : gx_R :=
  (if (bClaimN C d (C 133).toNatClampNeg).2.1 then (bClaimN C d (C 133).toNatClampNeg).1 else (-2), (bClaimN C d (C 133).toNatClampNeg).2.2)
-- spending, refunds
def bFund (C : Nat → Int32) (p : Int32) : Int32 := pAt C p 0
def bSpendH (C : Nat → Int32) (p a : Int32) : Int32 := if 0 < a - bFund C p then a - bFund C p else 0
def bSpendC (C : Nat → Int32) (p a h : Int32) : Nat → Int32 := pAdd (pAdd (pAdd (pAdd (pAdd C p 0 (h - a)) p 3 a) p 4 h) 0 0 (-h)) 0 11 h
def bSpend (C : Nat → Int32) (p a : Int32) : gx_R :=
  if tHas C 3 p && bIn a 1 9999 then
    (if bClosed C p then ((-2), C)
     else if 0 < bSpendH C p a ∧ (p = 0 ∨ bFund C 0 < bSpendH C p a) then ((-2), C)
     else (bSpendH C p a, bSpendC C p a (bSpendH C p a)))
  else ((-1), C)
def bRefundC (C : Nat → Int32) (g h a t : Int32) : Nat → Int32 := pAdd (pAdd (pAdd (gPut C g 5 1) h 0 (-a - t)) h 5 a) h 6 t
def bRefund (C : Nat → Int32) (g : Int32) : gx_R :=
  if tHas C 133 g then
    (if bRefunded C g ∨ bFund C (bHome C g) < gAt C g 2 + (if bClaimed C g then bTax C g else 0) then ((-2), C)
     else (if bClaimed C g then bTax C g else 0, bRefundC C g (bHome C g) (gAt C g 2) (if bClaimed C g then bTax C g else 0)))
  else ((-1), C)
-- merging
def bTwo (C : Nat → Int32) (f i : Int32) : Bool := tHas C 3 f && tHas C 3 i && decide (¬ f = i)
def bMergeable (C : Nat → Int32) (f i : Int32) : Bool := decide (¬ f = 0) && !bClosed C f && !bClosed C i
def bAgrees (C : Nat → Int32) (d f i : Int32) : Bool := decide (dAt C d (1 + f) = i)
def bWeight (C : Nat → Int32) (g p : Int32) : Int32 := if gAt C g 1 = p ∧ gAt C g 5 = 0 then gAt C g 2 else 0
def bWDonorN (C : Nat → Int32) (d p : Int32) : Nat → Int32
  | 0 => 0
  | n + 1 => if bIsOf C (nI n) d then bWDonorN C d p n + bWeight C (nI n) p else bWDonorN C d p n
def bWDonor (C : Nat → Int32) (d p : Int32) : Int32 := bWDonorN C d p (C 133).toNatClampNeg
def bWAllN (C : Nat → Int32) (p : Int32) : Nat → Int32
  | 0 => 0
  | n + 1 => bWAllN C p n + bWeight C (nI n) p
def bWAll (C : Nat → Int32) (p : Int32) : Int32 := bWAllN C p (C 133).toNatClampNeg
def bWConsN (C : Nat → Int32) (f i : Int32) : Nat → Int32
  | 0 => 0
  | n + 1 => if bAgrees C (gAt C (nI n) 0) f i then bWConsN C f i n + bWeight C (nI n) f else bWConsN C f i n
def bWCons (C : Nat → Int32) (f i : Int32) : Int32 := bWConsN C f i (C 133).toNatClampNeg
def bAgree (C : Nat → Int32) (d f i : Int32) : gx_R :=
  if tHas C 76 d && bTwo C f i then (if bMergeable C f i then (bWDonor (dPut C d (1 + f) i) d f, dPut C d (1 + f) i) else ((-2), C)) else ((-1), C)
def bHandN (C : Nat → Int32) (f i : Int32) : Nat → Nat → Int32
  | 0 => C
  | n + 1 =>
    if bRunning (bHandN C f i n) (nI n) ∧ kAt (bHandN C f i n) (nI n) 1 = f then
      (if bAgrees (bHandN C f i n) (kAt (bHandN C f i n) (nI n) 0) f i then kPut (bHandN C f i n) (nI n) 1 i else bHalt (bHandN C f i n) (nI n))
    else bHandN C f i n
def bHand (C : Nat → Int32) (f i : Int32) : Nat → Int32 := bHandN C f i (C 302).toNatClampNeg
def bForgetN (C : Nat → Int32) (f : Int32) : Nat → Nat → Int32
  | 0 => C
  | n + 1 => dPut (bForgetN C f n) (nI n) (1 + f) (-1)
def bForget (C : Nat → Int32) (f : Int32) : Nat → Int32 := bForgetN C f (C 76).toNatClampNeg
def bCloseN (C : Nat → Int32) (f i : Int32) : Nat → Nat → Int32
  | 0 => C
  | n + 1 => if pAt (bCloseN C f i n) (nI n) 10 = f then pPut (bCloseN C f i n) (nI n) 10 i else bCloseN C f i n
def bClose (C : Nat → Int32) (f i : Int32) : Nat → Int32 := bCloseN (pPut C f 9 i) f i (C 3).toNatClampNeg
def bMove (C : Nat → Int32) (f i : Int32) : gx_R := (bFund C f, pAdd (pAdd (pAdd (pPut C f 0 0) f 8 (bFund C f)) i 0 (bFund C f)) i 7 (bFund C f))
def bMerge (C : Nat → Int32) (f i : Int32) : gx_R :=
  if bTwo C f i then
    (if bMergeable C f i ∧ ¬ bWAll C f = 0 ∧ C 1 * bWAll C f ≤ bWCons C f i * 100 then bMove (bClose (bForget (bHand C f i) f) f i) f i else ((-2), C))
  else ((-1), C)
def bConsents (C : Nat → Int32) (f i : Int32) : Int32 := if bTwo C f i then (if 0 < bWAll C f then bWCons C f i * 100 / bWAll C f else (-4)) else (-1)
-- settings
def bSet (C : Nat → Int32) (w v : Int32) : gx_R :=
  if w = 0 then (if bIn v 1 100 then (C 1, upd C 1 v) else ((-1), C))
  else if w = 1 then (if bIn v 0 99999 then (C 2, upd C 2 v) else ((-1), C)) else ((-1), C)
-- what there is
def bTellP (C : Nat → Int32) (p w : Int32) : Int32 := if tHas C 3 p && bIn w 0 11 then (if w = 9 ∧ bClosed C p = false then (-4) else pAt C p w) else (-1)
def bTellCons (C : Nat → Int32) (d w : Int32) : Int32 := if w < 10 ∨ tHas C 3 (w - 10) = false then (-1) else if dAt C d (1 + w - 10) = (-1) then (-4) else dAt C d (1 + w - 10)
def bAmtN (C : Nat → Int32) (d w : Int32) : Nat → Int32
  | 0 => 0
  | n + 1 => if (w = 1 ∨ (w = 2 ∧ bRefunded C (nI n)) ∨ (w = 3 ∧ bClaimed C (nI n) ∧ bRefunded C (nI n) = false)) ∧ bIsOf C (nI n) d then bAmtN C d w n + gAt C (nI n) 2 else bAmtN C d w n
def bAmt (C : Nat → Int32) (d w : Int32) : Int32 := bAmtN C d w (C 133).toNatClampNeg
def bRunSetN (C : Nat → Int32) (d : Int32) : Nat → Int32
  | 0 => 0
  | n + 1 => if bRunning C (nI n) ∧ kAt C (nI n) 0 = d then bRunSetN C d n ||| (1 <<< (nI n &&& 31)) else bRunSetN C d n
def bRunSet (C : Nat → Int32) (d : Int32) : Int32 := bRunSetN C d (C 302).toNatClampNeg
def bTellD (C : Nat → Int32) (d w : Int32) : Int32 :=
  if tHas C 76 d then (if w = 0 then dAt C d 0 else if w = 1 ∨ w = 2 ∨ w = 3 then bAmt C d w else if w = 4 then bRunSet C d else bTellCons C d w) else (-1)
def bTellG (C : Nat → Int32) (g w : Int32) : Int32 :=
  if tHas C 133 g && bIn w 0 7 then (if w = 7 then bTax C g else if w = 6 ∧ gAt C g w = (-1) then (-4) else gAt C g w) else (-1)
def bTellK (C : Nat → Int32) (k w : Int32) : Int32 := if tHas C 302 k && bIn w 0 7 then kAt C k w else (-1)
def bShutN (C : Nat → Int32) : Nat → Int32
  | 0 => 0
  | n + 1 => if bClosed C (nI n) then bShutN C n + 1 else bShutN C n
def bShut (C : Nat → Int32) : Int32 := bShutN C (C 3).toNatClampNeg
def bTellN (C : Nat → Int32) (w : Int32) : Int32 :=
  if w = 0 then C 3 else if w = 1 then C 76 else if w = 2 then C 133 else if w = 3 then C 302 else if w = 4 then C 0
  else if w = 5 then tSum C 3 6 12 0 else if w = 6 then tSum C 3 6 12 3 else if w = 7 then tSum C 3 6 12 2 else if w = 8 then tSum C 3 6 12 6 else if w = 9 then tSum C 3 6 12 5
  else if w = 10 then bShut C else if w = 13 then C 1 else if w = 14 then C 2 else (-1)
/-! what stays: a table's cells lie between s and s + m * w -/
theorem tOk_in {m w : Nat} {r k : Int32} {s : Nat} (hb : tHb s m w) (h : tOk m w r k = true) : s < tIx s w r k ∧ tIx s w r k ≤ s + m * w := by
  simp only [tOk, Bool.and_eq_true, decide_eq_true_eq] at h
  obtain ⟨⟨⟨h1, h2⟩, h3⟩, h4⟩ := h
  obtain ⟨r', hr, rfl⟩ := nI_of h1
  obtain ⟨c', hc, rfl⟩ := nI_of h3
  obtain ⟨b1, b2, b3⟩ := hb
  have h5 : r' < m := by
    rcases Nat.lt_or_ge r' m with q | q
    · exact q
    · exact absurd (nI_le q hr) h2
  have h6 : c' < w := (nI_ltI hc (by omega)).mp h4
  have h7 : (r' + 1) * w ≤ m * w := Nat.mul_le_mul_right w h5
  rw [Nat.add_mul] at h7
  unfold tIx
  rw [nI_clamp hr, nI_clamp hc]
  omega
theorem upd_ne {f : Nat → Int32} {k j : Nat} {x : Int32} (h : j ≠ k) : upd f k x j = f j := if_neg h
theorem upd_eq {f : Nat → Int32} {k : Nat} {x : Int32} : upd f k x k = x := if_pos rfl
theorem tPut_out {C : Nat → Int32} {s m w j : Nat} {r k v : Int32} (hb : tHb s m w) (h : j ≤ s ∨ s + m * w < j) : tPut C s m w r k v j = C j := by
  unfold tPut
  split
  · next q => have := tOk_in hb q; exact upd_ne (by omega)
  · rfl
theorem tAdd_out {C : Nat → Int32} {s m w j : Nat} {r k v : Int32} (hb : tHb s m w) (h : j ≤ s ∨ s + m * w < j) : tAdd C s m w r k v j = C j := by
  unfold tAdd
  split
  · next q => have := tOk_in hb q; exact upd_ne (by omega)
  · rfl
theorem tNewC_out {C : Nat → Int32} {s m j : Nat} (h : j ≠ s) : tNewC C s m j = C j := by
  unfold tNewC
  split
  · rfl
  · exact upd_ne h
theorem hbP : tHb 3 6 12 := by unfold tHb; decide
theorem hbD : tHb 76 8 7 := by unfold tHb; decide
theorem hbG : tHb 133 24 7 := by unfold tHb; decide
theorem hbK : tHb 302 6 8 := by unfold tHb; decide
theorem pPut_out {C : Nat → Int32} {r k v : Int32} {j : Nat} (h : j ≤ 3 ∨ 75 < j) : pPut C r k v j = C j := tPut_out hbP h
theorem pAdd_out {C : Nat → Int32} {r k v : Int32} {j : Nat} (h : j ≤ 3 ∨ 75 < j) : pAdd C r k v j = C j := tAdd_out hbP h
theorem dPut_out {C : Nat → Int32} {r k v : Int32} {j : Nat} (h : j ≤ 76 ∨ 132 < j) : dPut C r k v j = C j := tPut_out hbD h
theorem gPut_out {C : Nat → Int32} {r k v : Int32} {j : Nat} (h : j ≤ 133 ∨ 301 < j) : gPut C r k v j = C j := tPut_out hbG h
theorem kPut_out {C : Nat → Int32} {r k v : Int32} {j : Nat} (h : j ≤ 302) : kPut C r k v j = C j := tPut_out hbK (Or.inl h)
theorem kAdd_out {C : Nat → Int32} {r k v : Int32} {j : Nat} (h : j ≤ 302) : kAdd C r k v j = C j := tAdd_out hbK (Or.inl h)
theorem bBook_302 (C : Nat → Int32) (d p a k : Int32) : (bBook C d p a k).2 302 = C 302 := by
  simp [bBook, pAdd_out, gPut_out, tNewC_out]
theorem bRun_302 (C : Nat → Int32) (k : Int32) : bRun C k 302 = C 302 := by
  have h : ∀ C1, (bRunMid C1 k).1 302 = C1 302 := fun C1 => by
    unfold bRunMid
    split
    · simp [kAdd_out, kPut_out]
    · split
      · rfl
      · simp [kAdd_out, bBook_302]
  unfold bRun
  try dsimp only
  split
  · simp [kPut_out, kAdd_out, h]
  · split <;> simp [kPut_out, kAdd_out, h]
theorem bRunN_302 (C : Nat → Int32) (n : Nat) : bRunN C n 302 = C 302 := by
  induction n with
  | zero => rfl
  | succ n ih =>
    unfold bRunN
    split
    · rw [bRun_302, ih]
    · exact ih
theorem bClaimN_133 (C : Nat → Int32) (d : Int32) (n : Nat) : (bClaimN C d n).2.2 133 = C 133 := by
  induction n with
  | zero => rfl
  | succ n ih =>
    unfold bClaimN
    split
    · simp [bClaimC, pAdd_out, gPut_out, ih]
    · exact ih
theorem bHandN_302 (C : Nat → Int32) (f i : Int32) (n : Nat) : bHandN C f i n 302 = C 302 := by
  induction n with
  | zero => rfl
  | succ n ih =>
    unfold bHandN
    split
    · split <;> simp [bHalt, kPut_out, ih]
    · exact ih
theorem bForgetN_76 (C : Nat → Int32) (f : Int32) (n : Nat) : bForgetN C f n 76 = C 76 := by
  induction n with
  | zero => rfl
  | succ n ih => simp [bForgetN, dPut_out, ih]
theorem bCloseN_3 (C : Nat → Int32) (f i : Int32) (n : Nat) : bCloseN C f i n 3 = C 3 := by
  induction n with
  | zero => rfl
  | succ n ih =>
    unfold bCloseN
    split
    · simp [pPut_out, ih]
    · exact ih
abbrev wB (K : gx_K) (h t1 t2 t3 t4 c : Nat) (C : Nat → Int32) : va_W := [(h, .inr (0, [.ref c, .ref t1, .ref t2, .ref t3, .ref t4])), (t1, .inr (3, [.ref c, .int (nI 3), .int (nI 6), .int (nI 12)])), (t2, .inr (3, [.ref c, .int (nI 76), .int (nI 8), .int (nI 7)])), (t3, .inr (3, [.ref c, .int (nI 133), .int (nI 24), .int (nI 7)])), (t4, .inr (3, [.ref c, .int (nI 302), .int (nI 6), .int (nI 8)])), (c, .inl (K.2.1.2.1, 351, .inl C))]
