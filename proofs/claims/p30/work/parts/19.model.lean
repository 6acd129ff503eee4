/-! The reference, purely: S its row s, P its row past; a, b, c, e count purposes, donors, gifts, pledges. -/
def sP (S : Nat → Int32) (p k : Nat) : Int32 := S (7 + 11 * p + k)
def sD (S : Nat → Int32) (d k : Nat) : Int32 := S (73 + 7 * d + k)
def sG (S : Nat → Int32) (g k : Nat) : Int32 := S (129 + 7 * g + k)
def sK (S : Nat → Int32) (k j : Nat) : Int32 := S (297 + 8 * k + j)
def uP (S : Nat → Int32) (p k : Nat) (v : Int32) : Nat → Int32 := upd S (7 + 11 * p + k) v
def aP (S : Nat → Int32) (p k : Nat) (v : Int32) : Nat → Int32 := upd S (7 + 11 * p + k) (S (7 + 11 * p + k) + v)
def uD (S : Nat → Int32) (d k : Nat) (v : Int32) : Nat → Int32 := upd S (73 + 7 * d + k) v
def uK (S : Nat → Int32) (k j : Nat) (v : Int32) : Nat → Int32 := upd S (297 + 8 * k + j) v
def sClosed (S : Nat → Int32) (p : Nat) : Bool := decide (0 ≤ sP S p 9)
def sIsP (S : Nat → Int32) (x : Int32) : Bool := decide (¬ x < 0) && decide (x < S 2)
def sIsD (S : Nat → Int32) (x : Int32) : Bool := decide (¬ x < 0) && decide (x < S 3)
def sIsK (S : Nat → Int32) (x : Int32) : Bool := decide (¬ x < 0) && decide (x < S 5)
-- rows copied
def cpN (F E : Nat → Int32) (k : Nat) : Nat → Int32 := fun j => if j < k then F j else E j
theorem cpN_0 {F E : Nat → Int32} : E = cpN F E 0 := funext fun j => by simp [cpN]
theorem cpN_s {F E : Nat → Int32} {k : Nat} : upd (cpN F E k) k (F k) = cpN F E (k + 1) := funext fun j => by
  unfold upd cpN
  by_cases h : j = k
  · subst h
    rw [if_pos rfl, if_pos (Nat.lt_succ_self _)]
  · rw [if_neg h]
    by_cases h2 : j < k
    · rw [if_pos h2, if_pos (by omega)]
    · rw [if_neg h2, if_neg (by omega)]
def shN (P : Nat → Int32) (k : Nat) : Nat → Int32 := fun j => if j < k then P (j + 345) else P j
theorem shN_0 {P : Nat → Int32} : P = shN P 0 := funext fun j => by simp [shN]
theorem shN_r {P : Nat → Int32} {k : Nat} : shN P k (k + 345) = P (k + 345) := if_neg (by omega)
theorem shN_s {P : Nat → Int32} {k : Nat} : upd (shN P k) k (P (k + 345)) = shN P (k + 1) := funext fun j => by
  unfold upd shN
  by_cases h : j = k
  · subst h
    rw [if_pos rfl, if_pos (Nat.lt_succ_self _)]
  · rw [if_neg h]
    by_cases h2 : j < k
    · rw [if_pos h2, if_pos (by omega)]
    · rw [if_neg h2, if_neg (by omega)]
def ptN (P S : Nat → Int32) (n k : Nat) : Nat → Int32 := fun j => if 345 * n ≤ j ∧ j < 345 * n + k then S (j - 345 * n) else P j
theorem ptN_0 {P S : Nat → Int32} {n : Nat} : P = ptN P S n 0 := funext fun j => by
  unfold ptN
  rw [if_neg (by omega)]
theorem ptN_s {P S : Nat → Int32} {n k : Nat} : upd (ptN P S n k) (345 * n + k) (S k) = ptN P S n (k + 1) := funext fun j => by
  unfold upd ptN
  by_cases h : j = 345 * n + k
  · subst h
    rw [if_pos rfl, if_pos (by omega)]
    congr 1
    omega
  · rw [if_neg h]
    by_cases h2 : 345 * n ≤ j ∧ j < 345 * n + k
    · rw [if_pos h2, if_pos (by omega)]
    · rw [if_neg h2, if_neg (by omega)]
theorem ptN_3 {P S : Nat → Int32} {k : Nat} : upd (ptN P S 3 k) (1035 + k) (S k) = ptN P S 3 (k + 1) := ptN_s (n := 3)
def gtN (S P : Nat → Int32) (n k : Nat) : Nat → Int32 := fun j => if j < k then P (345 * n + j) else S j
theorem gtN_0 {S P : Nat → Int32} {n : Nat} : S = gtN S P n 0 := funext fun j => by simp [gtN]
theorem gtN_s {S P : Nat → Int32} {n k : Nat} : upd (gtN S P n k) k (P (345 * n + k)) = gtN S P n (k + 1) := funext fun j => by
  unfold upd gtN
  by_cases h : j = k
  · subst h
    rw [if_pos rfl, if_pos (Nat.lt_succ_self _)]
  · rw [if_neg h]
    by_cases h2 : j < k
    · rw [if_pos h2, if_pos (by omega)]
    · rw [if_neg h2, if_neg (by omega)]
def chn (ru : Bool) (n : Nat) : Nat := if ru then n else if n = 4 then 4 else n + 1
def chP (ru : Bool) (n : Nat) (P S : Nat → Int32) : Nat → Int32 := if ru then P else if n = 4 then ptN (shN P 1035) S 3 345 else ptN P S n 345
def kpn (y ru : Bool) (n : Nat) : Nat := if y then chn ru n else n
def kpP (y ru : Bool) (n : Nat) (P S : Nat → Int32) : Nat → Int32 := if y then chP ru n P S else P
/-- an answer, whether it is a change, the row behind it -/
abbrev gx_M3 : Type := Int32 × Bool × (Nat → Int32)
def sStep (S : Nat → Int32) (p : Nat) : Nat := if sClosed S p then (sP S p 9).toNatClampNeg else p
def sHomeN (S : Nat → Int32) : Nat → Nat → Nat
  | 0, p => p
  | n + 1, p => sHomeN S n (sStep S p)
def sHome (S : Nat → Int32) (p : Nat) : Nat := sHomeN S 6 p
def purN (S : Nat → Int32) (p : Nat) : Nat → Nat → Int32
  | 0 => S
  | k + 1 => uP (purN S p k) p k (if nI k = 9 then (-4) else 0)
def purD (S : Nat → Int32) (p : Nat) : Nat → Nat → Int32
  | 0 => S
  | d + 1 => uD (purD S p d) d (1 + p) (-4)
def mPurposeS (S : Nat → Int32) (a : Nat) : Nat → Int32 := upd (purD (purN S a 11) a 8) 2 (purD (purN S a 11) a 8 2 + 1)
def mPurpose (S : Nat → Int32) (a : Nat) : gx_M3 := if nI a = 6 then ((-3), false, S) else (nI a, true, mPurposeS S a)
def donN (S : Nat → Int32) (b : Nat) : Nat → Nat → Int32
  | 0 => S
  | k + 1 => uD (donN S b k) b (1 + k) (-4)
def mDonorS (S : Nat → Int32) (b : Nat) : Nat → Int32 := upd (donN (uD S b 0 0) b 6) 3 (donN (uD S b 0 0) b 6 3 + 1)
def mDonor (S : Nat → Int32) (b : Nat) : gx_M3 := if nI b = 8 then ((-3), false, S) else (nI b, true, mDonorS S b)
def mDeclare (S : Nat → Int32) (x y : Int32) : gx_M3 := if sIsD S x && bIn y 0 1 then (sD S x.toNatClampNeg 0, true, uD S x.toNatClampNeg 0 y) else ((-1), false, S)
def mGives (S : Nat → Int32) (c : Nat) (x : Int32) (p : Nat) (z u : Int32) : Nat → Int32 :=
  let S1 := upd (upd (upd S (129 + 7 * c) x) (129 + 7 * c + 1) (nI p)) (129 + 7 * c + 2) z
  let S3 := upd (upd (upd (upd S1 (129 + 7 * c + 3) (S1 6)) (129 + 7 * c + 4) 0) (129 + 7 * c + 5) 0) (129 + 7 * c + 6) u
  aP (aP (upd S3 4 (S3 4 + 1)) p 0 z) p 1 z
def mGive (S : Nat → Int32) (c : Nat) (x y z : Int32) : gx_M3 :=
  if sIsD S x && sIsP S y && bIn z 1 9999 then (if sClosed S y.toNatClampNeg then ((-2), false, S) else if nI c = 24 then ((-3), false, S) else (nI c, true, mGives S c x y.toNatClampNeg z (-4))) else ((-1), false, S)
def plgN (S : Nat → Int32) (k : Nat) : Nat → Nat → Int32
  | 0 => S
  | i + 1 => uK (plgN S k i) k i 0
def mPledgeS (S : Nat → Int32) (e : Nat) (x y z u : Int32) : Nat → Int32 :=
  let T := uK (uK (uK (uK (plgN S e 8) e 0 x) e 1 y) e 2 z) e 3 u
  upd T 5 (T 5 + 1)
def mPledge (S : Nat → Int32) (e : Nat) (x y z u : Int32) : gx_M3 :=
  if sIsD S x && sIsP S y && bIn z 1 999 && bIn u 1 60 then (if sClosed S y.toNatClampNeg then ((-2), false, S) else if nI e = 6 then ((-3), false, S) else (nI e, true, mPledgeS S e x y z u)) else ((-1), false, S)
def mMiss (S : Nat → Int32) (x : Int32) : gx_M3 :=
  if sIsK S x then (if 0 < sK S x.toNatClampNeg 5 ∨ sK S x.toNatClampNeg 7 = 1 then ((-2), false, S) else (sK (uK S x.toNatClampNeg 7 1) x.toNatClampNeg 4, true, uK S x.toNatClampNeg 7 1)) else ((-1), false, S)
def mEnds (S : Nat → Int32) (k : Nat) (v : Int32) : Nat → Int32 := uK (uK S k 5 v) k 7 0
def mStop (S : Nat → Int32) (x : Int32) : gx_M3 :=
  if sIsK S x then (if 0 < sK S x.toNatClampNeg 5 then ((-2), false, S) else (sK (mEnds S x.toNatClampNeg 2) x.toNatClampNeg 3, true, mEnds S x.toNatClampNeg 2)) else ((-1), false, S)
def mYearN (S : Nat → Int32) (g : Nat) : Nat → Int32
  | 0 => sG S g 2
  | k + 1 => mYearN S g k + (if sG S k 0 = sG S g 0 ∧ sG S k 3 / 12 = sG S g 3 / 12 ∧ sG S k 4 = 1 ∧ sG S k 5 = 0 then sG S k 2 else 0)
def mCan (S : Nat → Int32) (c g : Nat) : Bool :=
  if 0 < sG S g 4 + sG S g 5 ∨ sD S (sG S g 0).toNatClampNeg 0 = 0 ∨ 47 < S 6 - sG S g 3 then false else decide (mYearN S g c ≤ S 1)
def mClOne (S : Nat → Int32) (g : Nat) : Nat → Int32 :=
  let S1 := upd S (129 + 7 * g + 4) 1
  let h := sHome S1 (sG S1 g 1).toNatClampNeg
  aP (aP S1 h 0 (sG S1 g 2 / 4)) h 2 (sG S1 g 2 / 4)
/-- sum, how many, row -/
def mClN (S : Nat → Int32) (c : Nat) (x : Int32) : Nat → Int32 × Int32 × (Nat → Int32)
  | 0 => (0, 0, S)
  | g + 1 =>
    if (x < 0 ∨ sG (mClN S c x g).2.2 g 0 = x) ∧ mCan (mClN S c x g).2.2 c g
    then ((mClN S c x g).1 + sG (upd (mClN S c x g).2.2 (129 + 7 * g + 4) 1) g 2 / 4, (mClN S c x g).2.1 + 1, mClOne (mClN S c x g).2.2 g)
    else mClN S c x g
def mClaim (S : Nat → Int32) (c : Nat) : gx_M3 := if (mClN S c (-1) c).2.1 = 0 then ((-2), false, S) else ((mClN S c (-1) c).1, true, (mClN S c (-1) c).2.2)
def mSpendH (S : Nat → Int32) (p : Nat) (z : Int32) : Int32 := if sP S p 0 < z then z - sP S p 0 else 0
def mSpendS (S : Nat → Int32) (p : Nat) (z h : Int32) : Nat → Int32 := aP (aP (aP (aP (aP S p 0 (h - z)) p 3 z) p 4 h) 0 0 (-h)) 0 10 h
def mSpend (S : Nat → Int32) (x z : Int32) : gx_M3 :=
  if sIsP S x && bIn z 1 9999 then
    (if sClosed S x.toNatClampNeg ∨ (if x = 0 then 0 else sP S 0 0) < mSpendH S x.toNatClampNeg z then ((-2), false, S)
     else (mSpendH S x.toNatClampNeg z, true, mSpendS S x.toNatClampNeg z (mSpendH S x.toNatClampNeg z)))
  else ((-1), false, S)
def mWtN (S : Nat → Int32) (x y : Int32) : Nat → Int32
  | 0 => 0
  | g + 1 => mWtN S x y g + (if sG S g 0 = x ∧ sG S g 1 = y ∧ sG S g 5 = 0 then sG S g 2 else 0)
def mWsN (S : Nat → Int32) (c p : Nat) (y : Int32) : Nat → Int32
  | 0 => 0
  | d + 1 => mWsN S c p y d + (if y < 0 ∨ sD S d (1 + p) = y then mWtN S (nI d) (nI p) c else 0)
def sTwo (S : Nat → Int32) (x y : Int32) : Bool := sIsP S x && sIsP S y && decide (¬ x = y)
def mAgree (S : Nat → Int32) (c : Nat) (x y z : Int32) : gx_M3 :=
  if sIsD S x && sTwo S y z then
    (if sClosed S y.toNatClampNeg ∨ sClosed S z.toNatClampNeg ∨ y = 0 then ((-2), false, S)
     else (mWtN (uD S x.toNatClampNeg (1 + y.toNatClampNeg) z) x y c, true, uD S x.toNatClampNeg (1 + y.toNatClampNeg) z))
  else ((-1), false, S)
def mHandN (S : Nat → Int32) (p : Nat) (y : Int32) : Nat → Nat → Int32
  | 0 => S
  | k + 1 =>
    if sK (mHandN S p y k) k 5 = 0 ∧ sK (mHandN S p y k) k 1 = nI p then
      (if sD (mHandN S p y k) (sK (mHandN S p y k) k 0).toNatClampNeg (1 + p) = y then uK (mHandN S p y k) k 1 y else mEnds (mHandN S p y k) k 2)
    else mHandN S p y k
def mForgN (S : Nat → Int32) (p : Nat) : Nat → Nat → Int32
  | 0 => S
  | d + 1 => uD (mForgN S p d) d (1 + p) (-4)
def mMerge1 (S : Nat → Int32) (p q : Nat) : Nat → Int32 := aP (aP (aP (uP (uP S p 0 0) p 9 (nI q)) p 8 (sP S p 0)) q 0 (sP S p 0)) q 7 (sP S p 0)
def mMerge (S : Nat → Int32) (b c e : Nat) (x y : Int32) : gx_M3 :=
  if sTwo S x y then
    (if sClosed S x.toNatClampNeg ∨ sClosed S y.toNatClampNeg ∨ x = 0 ∨ mWsN S c x.toNatClampNeg (-1) b = 0 ∨ 100 * mWsN S c x.toNatClampNeg y b < S 0 * mWsN S c x.toNatClampNeg (-1) b then ((-2), false, S)
     else (sP S x.toNatClampNeg 0, true, mForgN (mHandN (mMerge1 S x.toNatClampNeg y.toNatClampNeg) x.toNatClampNeg y e) x.toNatClampNeg b))
  else ((-1), false, S)
def mConsents (S : Nat → Int32) (b c : Nat) (x y : Int32) : Int32 :=
  if sTwo S x y then (if mWsN S c x.toNatClampNeg (-1) b = 0 then (-4) else 100 * mWsN S c x.toNatClampNeg y b / mWsN S c x.toNatClampNeg (-1) b) else (-1)
def mRefT (S : Nat → Int32) (g : Nat) : Int32 := if sG S g 4 = 1 then sG S g 2 / 4 else 0
def mRefS (S : Nat → Int32) (g h : Nat) (t : Int32) : Nat → Int32 := upd (aP (aP (aP S h 0 (-(sG S g 2) - t)) h 5 (sG S g 2)) h 6 t) (129 + 7 * g + 5) 1
def mRefund (S : Nat → Int32) (x : Int32) : gx_M3 :=
  if ¬ x < 0 ∧ x < S 4 then
    (if sG S x.toNatClampNeg 5 = 1 ∨ sP S (sHome S (sG S x.toNatClampNeg 1).toNatClampNeg) 0 < sG S x.toNatClampNeg 2 + mRefT S x.toNatClampNeg then ((-2), false, S)
     else (mRefT S x.toNatClampNeg, true, mRefS S x.toNatClampNeg (sHome S (sG S x.toNatClampNeg 1).toNatClampNeg) (mRefT S x.toNatClampNeg)))
  else ((-1), false, S)
def mDec (S : Nat → Int32) (k j : Nat) : Nat → Int32 := uK S k j (sK S k j - 1)
def mInc (S : Nat → Int32) (k j : Nat) : Nat → Int32 := uK S k j (sK S k j + 1)
/-- a month of a pledge: 1 if it makes a gift; the row -/
def mMonth (S : Nat → Int32) (c k : Nat) : Int32 × (Nat → Int32) :=
  if sK S k 7 = 1 then
    (0, let T := mDec (mInc (uK S k 7 0) k 4) k 3
        if sK T k 4 = 3 then mEnds T k 3 else if sK T k 3 = 0 then mEnds T k 1 else T)
  else if nI c = 24 then (0, mEnds (mDec S k 3) k 3)
  else (1, let T := mDec (mInc (mGives S c (sK S k 0) (sK S k 1).toNatClampNeg (sK S k 2) (nI k)) k 6) k 3
           if sK T k 3 = 0 then mEnds T k 1 else T)
/-- gifts made, gifts there, the row -/
def mGoK (S : Nat → Int32) (c : Nat) : Nat → Int32 × Nat × (Nat → Int32)
  | 0 => (0, c, S)
  | k + 1 =>
    if sK (mGoK S c k).2.2 k 5 = 0 then
      ((mGoK S c k).1 + (mMonth (mGoK S c k).2.2 (mGoK S c k).2.1 k).1, (if (mMonth (mGoK S c k).2.2 (mGoK S c k).2.1 k).1 = 1 then (mGoK S c k).2.1 + 1 else (mGoK S c k).2.1), (mMonth (mGoK S c k).2.2 (mGoK S c k).2.1 k).2)
    else mGoK S c k
def mGoM (S : Nat → Int32) (c e : Nat) : Nat → Int32 × Nat × (Nat → Int32)
  | 0 => (0, c, S)
  | m + 1 =>
    let r := mGoM S c e m
    let q := mGoK (upd r.2.2 6 (r.2.2 6 + 1)) r.2.1 e
    (r.1 + q.1, q.2.1, q.2.2)
def mPass (S : Nat → Int32) (c e : Nat) (x : Int32) : gx_M3 :=
  if bIn x 1 60 then (if 999 < S 6 + x then ((-3), false, S) else ((mGoM S c e x.toNatClampNeg).1, true, (mGoM S c e x.toNatClampNeg).2.2)) else ((-1), false, S)
def mLater (S : Nat → Int32) (c e : Nat) (x y : Int32) : Int32 :=
  if sIsP S x && bIn y 1 60 then (if sClosed S x.toNatClampNeg then (-2) else if (mGoM S c e y.toNatClampNeg).1 < 0 then 0 else sP (mGoM S c e y.toNatClampNeg).2.2 x.toNatClampNeg 0) else (-1)
def mSet (S : Nat → Int32) (x y : Int32) : gx_M3 :=
  if bIn x 0 1 && bIn y (if x = 0 then 1 else 0) (if x = 0 then 100 else 99999) then (S x.toNatClampNeg, true, upd S x.toNatClampNeg y) else ((-1), false, S)
def mTellP (S : Nat → Int32) (x y : Int32) : Int32 :=
  if sIsP S x && bIn y 0 11 then (if y = 10 then nI (sHome S x.toNatClampNeg) else if y = 11 then sP S x.toNatClampNeg 10 else sP S x.toNatClampNeg y.toNatClampNeg) else (-1)
def mAmtN (S : Nat → Int32) (x y : Int32) : Nat → Int32
  | 0 => 0
  | g + 1 => mAmtN S x y g + (if (y = 0 ∨ (y = 1 ∧ sG S g 5 = 1) ∨ (y = 2 ∧ sG S g 4 = 1 ∧ sG S g 5 = 0)) ∧ sG S g 0 = x then sG S g 2 else 0)
def mRunN (S : Nat → Int32) (x : Int32) : Nat → Int32
  | 0 => 0
  | k + 1 => mRunN S x k ||| (if sK S k 0 = x ∧ sK S k 5 = 0 then 1 <<< (nI k &&& 31) else 0)
def mTellD (S : Nat → Int32) (c e : Nat) (x y : Int32) : Int32 :=
  if sIsD S x ∧ (bIn y 0 4 ∨ sIsP S (y - 10)) then
    (if y = 0 then sD S x.toNatClampNeg 0 else if y < 4 then mAmtN S x (y - 1) c else if y = 4 then mRunN S x e else sD S x.toNatClampNeg (y - 9).toNatClampNeg)
  else (-1)
def mTellG (S : Nat → Int32) (x y : Int32) : Int32 :=
  if (¬ x < 0 ∧ x < S 4) ∧ bIn y 0 7 then (if y = 7 then sG S x.toNatClampNeg 2 / 4 else sG S x.toNatClampNeg y.toNatClampNeg) else (-1)
def mTellK (S : Nat → Int32) (x y : Int32) : Int32 := if sIsK S x && bIn y 0 7 then sK S x.toNatClampNeg y.toNatClampNeg else (-1)
def mAllN (S : Nat → Int32) (k : Nat) : Nat → Int32
  | 0 => 0
  | p + 1 => mAllN S k p + (if nI k = 9 then (if sClosed S p then 1 else 0) else sP S p k)
/-- what the walks of the reference stand on -/
def sOk (S : Nat → Int32) (a b c e : Nat) : Prop :=
  (S 2 = nI a ∧ S 3 = nI b ∧ S 4 = nI c ∧ S 5 = nI e ∧ 1 ≤ a ∧ a ≤ 6 ∧ b ≤ 8 ∧ c ≤ 24 ∧ e ≤ 6) ∧
  (∀ g, g < c → (∃ d, d < b ∧ sG S g 0 = nI d) ∧ ∃ p, p < a ∧ sG S g 1 = nI p) ∧
  (∀ k, k < e → (∃ d, d < b ∧ sK S k 0 = nI d) ∧ ∃ p, p < a ∧ sK S k 1 = nI p) ∧
  ∃ rk : Nat → Nat, ∀ p, p < a → rk p ≤ 6 ∧ (sP S p 9 < 0 ∨ ∃ q, q < a ∧ sP S p 9 = nI q ∧ rk q < rk p)
theorem nI_ne {c n : Nat} (h : ¬ nI c = nI n) (hle : c ≤ n) : c < n := by
  rcases Nat.lt_or_ge c n with q | q
  · exact q
  · exact absurd (congrArg nI (Nat.le_antisymm hle q)) h
theorem in_of {S : Nat → Int32} {x : Int32} {i a : Nat} (h : (decide (¬ x < 0) && decide (x < S i)) = true) (ha : S i = nI a) (hb : a ≤ 24) : ∃ p, p < a ∧ x = nI p := by
  simp only [Bool.and_eq_true, decide_eq_true_eq] at h
  obtain ⟨p, hp, rfl⟩ := nI_of h.1
  rw [ha] at h
  exact ⟨p, (nI_ltI hp (by omega)).mp h.2, rfl⟩
theorem isP_of {S : Nat → Int32} {x : Int32} {a b c e : Nat} (hO : sOk S a b c e) (h : sIsP S x = true) : ∃ p, p < a ∧ x = nI p := in_of h hO.1.1 (by have := hO.1; omega)
theorem isD_of {S : Nat → Int32} {x : Int32} {a b c e : Nat} (hO : sOk S a b c e) (h : sIsD S x = true) : ∃ p, p < b ∧ x = nI p := in_of h hO.1.2.1 (by have := hO.1; omega)
theorem isK_of {S : Nat → Int32} {x : Int32} {a b c e : Nat} (hO : sOk S a b c e) (h : sIsK S x = true) : ∃ p, p < e ∧ x = nI p := in_of h hO.1.2.2.2.1 (by have := hO.1; omega)
theorem isG_of {S : Nat → Int32} {x : Int32} {a b c e : Nat} (hO : sOk S a b c e) (h1 : ¬ x < 0) (h2 : x < S 4) : ∃ p, p < c ∧ x = nI p := in_of (i := 4) (S := S) (by simp only [Bool.and_eq_true, decide_eq_true_eq]; exact ⟨h1, h2⟩) hO.1.2.2.1 (by have := hO.1; omega)
theorem bIn_of {x : Int32} {n : Nat} (hn : n < 2 ^ 31) (h : bIn x 0 (nI n) = true) : ∃ j, j ≤ n ∧ x = nI j := by
  simp only [bIn, Bool.and_eq_true, decide_eq_true_eq] at h
  obtain ⟨p, hp, rfl⟩ := nI_of h.1
  refine ⟨p, ?_, rfl⟩
  rcases Nat.lt_or_ge n p with q | q
  · exact absurd (nI_lt q hp) h.2
  · exact q
/-- cells that sOk doesn't read -/
theorem sOk_upd {S : Nat → Int32} {a b c e i : Nat} {v : Int32} (hO : sOk S a b c e) (h1 : i < 2 ∨ 5 < i) (h2 : ∀ p, p < 6 → i ≠ 7 + 11 * p + 9) (h3 : ∀ g, g < 24 → i ≠ 129 + 7 * g + 0 ∧ i ≠ 129 + 7 * g + 1) (h4 : ∀ k, k < 6 → i ≠ 297 + 8 * k + 0 ∧ i ≠ 297 + 8 * k + 1) : sOk (upd S i v) a b c e := by
  obtain ⟨⟨e1, e2, e3, e4, b1, b2, b3, b4, b5⟩, hg, hk, rk, hr⟩ := hO
  refine ⟨⟨?_, ?_, ?_, ?_, b1, b2, b3, b4, b5⟩, fun g hgc => ?_, fun k hke => ?_, rk, fun p hp => ?_⟩
  · rw [upd_ne (by omega)]; exact e1
  · rw [upd_ne (by omega)]; exact e2
  · rw [upd_ne (by omega)]; exact e3
  · rw [upd_ne (by omega)]; exact e4
  · have q := h3 g (by omega)
    have q0 : sG (upd S i v) g 0 = sG S g 0 := upd_ne (fun z => q.1 z.symm)
    have q1 : sG (upd S i v) g 1 = sG S g 1 := upd_ne (fun z => q.2 z.symm)
    rw [q0, q1]
    exact hg g hgc
  · have q := h4 k (by omega)
    have q0 : sK (upd S i v) k 0 = sK S k 0 := upd_ne (fun z => q.1 z.symm)
    have q1 : sK (upd S i v) k 1 = sK S k 1 := upd_ne (fun z => q.2 z.symm)
    rw [q0, q1]
    exact hk k hke
  · have q0 : sP (upd S i v) p 9 = sP S p 9 := upd_ne (fun z => h2 p (by omega) z.symm)
    rw [q0]
    exact hr p hp
theorem sOk_aP {S : Nat → Int32} {a b c e p k : Nat} {v : Int32} (hO : sOk S a b c e) (hp : p < 6) (hk : k < 11) (h9 : k ≠ 9) : sOk (aP S p k v) a b c e :=
  sOk_upd hO (by omega) (fun q hq => by omega) (fun g hg => by omega) (fun g hg => by omega)
theorem sOk_uK {S : Nat → Int32} {a b c e k j : Nat} {v : Int32} (hO : sOk S a b c e) (hk : k < 6) (hj : 2 ≤ j) (hj8 : j < 8) : sOk (uK S k j v) a b c e :=
  sOk_upd hO (by omega) (fun q hq => by omega) (fun g hg => by omega) (fun g hg => by omega)
theorem sOk_uD {S : Nat → Int32} {a b c e d j : Nat} {v : Int32} (hO : sOk S a b c e) (hd : d < 8) (hj : j < 7) : sOk (uD S d j v) a b c e :=
  sOk_upd hO (by omega) (fun q hq => by omega) (fun g hg => by omega) (fun g hg => by omega)
theorem sOk_home {S : Nat → Int32} {a b c e p : Nat} (hO : sOk S a b c e) (hp : p < a) : sHome S p < a := by
  have hb := hO.1
  have h : ∀ n p, p < a → sHomeN S n p < a := by
    intro n
    induction n with
    | zero => exact fun p hp => hp
    | succ n ih =>
      intro p hp
      refine ih _ ?_
      unfold sStep
      split
      · next q =>
        obtain ⟨-, -, -, rk, hr⟩ := hO
        rcases (hr p hp).2 with z | ⟨q2, hq2, e2, -⟩
        · simp only [sClosed, decide_eq_true_eq] at q
          exact absurd z (Int32.not_lt.mpr q)
        · rw [e2, nI_clamp (by have := hp; omega)]
          exact hq2
      · exact hp
  exact h 6 p hp
abbrev wC2 (K : gx_K) (f t : Nat) (F E : Nat → Int32) : va_W := [(f, .inl (K.2.1.2.1, 345, .inl F)), (t, .inl (K.2.1.2.1, 345, .inl E))]
def mW : Nat → Int64 := fun k => ([1734964837, 123610859857765, 1835627379, 427020085613, 495806934628, 418347378021, 469853431653, 125779836235364, 1885434739] : List Int64).getD k 0
def mN : Nat → Int32 := fun k => ([3, 4, 1, 0, 2, 3, 2, 1, 1] : List Int32).getD k 0