/-! Texts played, purely. -/
theorem mPurpose_okk {S : Nat → Int32} {a b c e : Nat} (hO : sOk S a b c e) : sOkk (mPurpose S a).2.2 := by
  have hb := hO.1
  unfold mPurpose
  split
  · exact sOkk_of hO
  · next h => exact sOkk_of (mPurpose_ok hO (nI_ne (n := 6) h (by omega)))
theorem mDonor_okk {S : Nat → Int32} {a b c e : Nat} (hO : sOk S a b c e) : sOkk (mDonor S b).2.2 := by
  have hb := hO.1
  unfold mDonor
  split
  · exact sOkk_of hO
  · next h => exact sOkk_of (mDonor_ok hO (nI_ne (n := 8) h (by omega)))
theorem mDeclare_okk {S : Nat → Int32} {a b c e : Nat} {x y : Int32} (hO : sOk S a b c e) : sOkk (mDeclare S x y).2.2 := by
  have hb := hO.1
  unfold mDeclare
  split
  · next h =>
    simp only [Bool.and_eq_true] at h
    obtain ⟨d, hd, rfl⟩ := isD_of hO h.1
    rw [nI_clamp (by omega)]
    exact sOkk_of (sOk_uD hO (by omega) (by omega))
  · exact sOkk_of hO
theorem mGive_okk {S : Nat → Int32} {a b c e : Nat} {x y z : Int32} (hO : sOk S a b c e) : sOkk (mGive S c x y z).2.2 := by
  have hb := hO.1
  unfold mGive
  split
  · next h =>
    simp only [Bool.and_eq_true] at h
    obtain ⟨d, hd, rfl⟩ := isD_of hO h.1.1
    obtain ⟨p, hp, rfl⟩ := isP_of hO h.1.2
    rw [nI_clamp (n := p) (by omega)]
    split
    · exact sOkk_of hO
    · split
      · exact sOkk_of hO
      · next h24 => exact sOkk_of (mGives_ok hO (nI_ne (n := 24) h24 (by omega)) hd hp)
  · exact sOkk_of hO
theorem mPledge_okk {S : Nat → Int32} {a b c e : Nat} {x y z u : Int32} (hO : sOk S a b c e) : sOkk (mPledge S e x y z u).2.2 := by
  have hb := hO.1
  unfold mPledge
  split
  · next h =>
    simp only [Bool.and_eq_true] at h
    obtain ⟨d, hd, rfl⟩ := isD_of hO h.1.1.1
    obtain ⟨p, hp, rfl⟩ := isP_of hO h.1.1.2
    split
    · exact sOkk_of hO
    · split
      · exact sOkk_of hO
      · next h6 => exact sOkk_of (mPledge_ok hO (nI_ne (n := 6) h6 (by omega)) hd hp)
  · exact sOkk_of hO
theorem mMiss_okk {S : Nat → Int32} {a b c e : Nat} {x : Int32} (hO : sOk S a b c e) : sOkk (mMiss S x).2.2 := by
  have hb := hO.1
  unfold mMiss
  split
  · next h =>
    obtain ⟨k, hk, rfl⟩ := isK_of hO h
    rw [nI_clamp (n := k) (by omega)]
    split
    · exact sOkk_of hO
    · exact sOkk_of (sOk_uK hO (by omega) (by omega) (by omega))
  · exact sOkk_of hO
theorem mStop_okk {S : Nat → Int32} {a b c e : Nat} {x : Int32} (hO : sOk S a b c e) : sOkk (mStop S x).2.2 := by
  have hb := hO.1
  unfold mStop
  split
  · next h =>
    obtain ⟨k, hk, rfl⟩ := isK_of hO h
    rw [nI_clamp (n := k) (by omega)]
    split
    · exact sOkk_of hO
    · exact sOkk_of (mEnds_ok hO (by omega))
  · exact sOkk_of hO
theorem mClaim_okk {S : Nat → Int32} {a b c e : Nat} (hO : sOk S a b c e) : sOkk (mClaim S c).2.2 := by
  unfold mClaim
  split
  · exact sOkk_of hO
  · exact sOkk_of (mClN_ok hO (-1) c (Nat.le_refl _))
theorem mSpend_okk {S : Nat → Int32} {a b c e : Nat} {x z : Int32} (hO : sOk S a b c e) : sOkk (mSpend S x z).2.2 := by
  have hb := hO.1
  unfold mSpend
  split
  · next h =>
    simp only [Bool.and_eq_true] at h
    obtain ⟨p, hp, rfl⟩ := isP_of hO h.1
    rw [nI_clamp (n := p) (by omega)]
    generalize (if nI p = 0 then (0 : Int32) else sP S 0 0) = t0
    split
    · exact sOkk_of hO
    · unfold mSpendS
      exact sOkk_of (sOk_aP (sOk_aP (sOk_aP (sOk_aP (sOk_aP hO (by omega) (by omega) (by omega)) (by omega) (by omega) (by omega)) (by omega) (by omega) (by omega)) (by omega) (by omega) (by omega)) (by omega) (by omega) (by omega))
  · exact sOkk_of hO
theorem mAgree_okk {S : Nat → Int32} {a b c e : Nat} {x y z : Int32} (hO : sOk S a b c e) : sOkk (mAgree S c x y z).2.2 := by
  have hb := hO.1
  unfold mAgree
  split
  · next h =>
    simp only [Bool.and_eq_true] at h
    obtain ⟨d, hd, rfl⟩ := isD_of hO h.1
    obtain ⟨p, hp, rfl⟩ := isP_of hO (two_of h.2).1
    rw [nI_clamp (n := p) (by omega), nI_clamp (n := d) (by omega)]
    split
    · exact sOkk_of hO
    · exact sOkk_of (sOk_uD hO (by omega) (by omega))
  · exact sOkk_of hO
theorem mMerge_okk {S : Nat → Int32} {a b c e : Nat} {x y : Int32} (hO : sOk S a b c e) : sOkk (mMerge S b c e x y).2.2 := by
  have hb := hO.1
  unfold mMerge
  split
  · next h =>
    obtain ⟨p, hp, rfl⟩ := isP_of hO (two_of h).1
    obtain ⟨q, hq, rfl⟩ := isP_of hO (two_of h).2
    rw [nI_clamp (n := p) (by omega), nI_clamp (n := q) (by omega)]
    split
    · exact sOkk_of hO
    · next hn =>
      simp only [not_or, Bool.not_eq_true] at hn
      refine sOkk_of (mMerge_ok (p := p) (q := q) hO hp hq (fun z => ?_) hn.1 hn.2.1)
      subst z
      simp [sTwo] at h
  · exact sOkk_of hO
theorem mRefund_okk {S : Nat → Int32} {a b c e : Nat} {x : Int32} (hO : sOk S a b c e) : sOkk (mRefund S x).2.2 := by
  have hb := hO.1
  unfold mRefund
  split
  · next h =>
    obtain ⟨g, hg, rfl⟩ := isG_of hO h.1 h.2
    rw [nI_clamp (n := g) (by omega)]
    split
    · exact sOkk_of hO
    · obtain ⟨p, hp, ep⟩ := (hO.2.1 g hg).2
      refine sOkk_of (mRef_ok hO hg ?_)
      rw [ep, nI_clamp (by omega)]
      exact sOk_home hO hp
  · exact sOkk_of hO
theorem mPass_okk {S : Nat → Int32} {a b c e : Nat} {x : Int32} (hO : sOk S a b c e) : sOkk (mPass S c e x).2.2 := by
  unfold mPass
  split
  · split
    · exact sOkk_of hO
    · exact sOkk_of (mGoM_ok hO _)
  · exact sOkk_of hO
theorem mSet_okk {S : Nat → Int32} {a b c e : Nat} {x y : Int32} (hO : sOk S a b c e) : sOkk (mSet S x y).2.2 := by
  unfold mSet
  generalize (if x = 0 then (1 : Int32) else 0) = t1
  generalize (if x = 0 then (100 : Int32) else 99999) = t2
  split
  · next h =>
    simp only [Bool.and_eq_true] at h
    obtain ⟨w, hw, rfl⟩ := bIn_of (n := 1) (by decide) h.1
    rw [nI_clamp (n := w) (by omega)]
    exact sOkk_of (sOk_upd hO (by omega) (fun q hq => by omega) (fun g hg => by omega) (fun g hg => by omega))
  · exact sOkk_of hO
theorem mCall_okk {S Z : Nat → Int32} {a b c e : Nat} {x : Int32} (hO : sOk S a b c e) : sOkk (mCall S b c e Z x).2.2 := by
  unfold mCall
  split
  · exact mGive_okk hO
  · split
    · exact mPledge_okk hO
    · split
      · exact mMiss_okk hO
      · split
        · exact mClaim_okk hO
        · split
          · exact mSpend_okk hO
          · split
            · exact mAgree_okk hO
            · split
              · exact mMerge_okk hO
              · split
                · exact mRefund_okk hO
                · exact mPass_okk hO
theorem rdN_ge {X : Nat → Int32} {ty : Nat} {Z : Nat → Int32} {sp : Nat} : ∀ k, sp ≤ (rdN X ty Z sp k).2.1 := by
  intro k
  induction k with
  | zero => exact Nat.le_refl _
  | succ k ih =>
    show _ ≤ (rd1 X ty k (rdN X ty Z sp k)).2.1
    unfold rd1
    split
    · split
      · show _ ≤ (rdN X ty Z sp k).2.1 + 1 + _
        omega
      · exact ih
    · exact ih
theorem rdE_sp {X : Nat → Int32} {ty : Nat} {Z : Nat → Int32} {sp w : Nat} (hw : w < 9) : sp ≤ (rdE X ty Z sp w).2.1 ∧ (rdE X ty Z sp w).2.1 ≤ sp + 27 := by
  have h1 := rdN_ge (X := X) (ty := ty) (Z := Z) (sp := sp + woC X ty sp) (mN w).toNatClampNeg
  have h2 := rdN_sp (X := X) (ty := ty) (Z := Z) (sp := sp + woC X ty sp) (mN w).toNatClampNeg
  have h3 := woC_le (X := X) (ty := ty) (sp := sp)
  have h4 := (mN_le w hw).1
  unfold rdE
  omega
theorem rdR_sp {X : Nat → Int32} {ty : Nat} {Z : Nat → Int32} {sp : Nat} : (rdR X ty Z sp).2.1 ≤ sp + 28 ∧ (¬ (rdR X ty Z sp).1 < 0 → sp < (rdR X ty Z sp).2.1) := by
  have h3 := woC_le (X := X) (ty := ty) (sp := sp)
  unfold rdR
  split
  · exact ⟨by show sp + woC X ty sp ≤ _; omega, fun q => absurd (show ((-4) : Int32) < 0 by decide) q⟩
  · next h =>
    obtain ⟨w, hw, ew⟩ := woF_of h
    have h5 := rdE_sp (X := X) (ty := ty) (Z := Z) (sp := sp) hw
    rw [ew, nI_clamp (by omega)]
    split
    · split
      · exact ⟨by show (rdE X ty Z sp w).2.1 + 1 ≤ _; omega, fun _ => by show sp < (rdE X ty Z sp w).2.1 + 1; omega⟩
      · exact ⟨by show (rdE X ty Z sp w).2.1 ≤ _; omega, fun q => absurd (show ((-4) : Int32) < 0 by decide) q⟩
    · exact ⟨by show (rdE X ty Z sp w).2.1 ≤ _; omega, fun q => absurd (show ((-4) : Int32) < 0 by decide) q⟩
abbrev gx_Ps : Type := (Nat → Int32) × (Nat → Int32) × Int32 × (Nat → Int32) × Nat × Int32 × Nat × Nat × Bool
def psS (s : gx_Ps) : Nat → Int32 := s.1
def psT (s : gx_Ps) : Nat → Int32 := s.2.1
def psCl (s : gx_Ps) : Int32 := s.2.2.1
def psZ (s : gx_Ps) : Nat → Int32 := s.2.2.2.1
def psSp (s : gx_Ps) : Nat := s.2.2.2.2.1
def psCa (s : gx_Ps) : Int32 := s.2.2.2.2.2.1
def psCo (s : gx_Ps) : Nat := s.2.2.2.2.2.2.1
def psFr (s : gx_Ps) : Nat := s.2.2.2.2.2.2.2.1
def psIs (s : gx_Ps) : Bool := s.2.2.2.2.2.2.2.2
def plStep (X : Nat → Int32) (ty : Nat) (s : gx_Ps) : gx_Ps :=
  if (rdR X ty (psZ s) (psSp s)).1 < 0 then (psS s, psT s, psCl s, (rdR X ty (psZ s) (psSp s)).2.2, (rdR X ty (psZ s) (psSp s)).2.1, 0, psCo s + 1, psSp s, false)
  else ((mCall (psS s) (nn (psS s) 3) (nn (psS s) 4) (nn (psS s) 5) (rdR X ty (psZ s) (psSp s)).2.2 (rdR X ty (psZ s) (psSp s)).1).2.2,
    (if (rdR X ty (psZ s) (psSp s)).1 = 3 then psS s else psT s), (if (rdR X ty (psZ s) (psSp s)).1 = 3 then (mClN (psS s) (nn (psS s) 4) (-1) (nn (psS s) 4)).2.1 else psCl s),
    (rdR X ty (psZ s) (psSp s)).2.2, (rdR X ty (psZ s) (psSp s)).2.1, (mCall (psS s) (nn (psS s) 3) (nn (psS s) 4) (nn (psS s) 5) (rdR X ty (psZ s) (psSp s)).2.2 (rdR X ty (psZ s) (psSp s)).1).1, psCo s + 1, psSp s,
    decide (¬ (mCall (psS s) (nn (psS s) 3) (nn (psS s) 4) (nn (psS s) 5) (rdR X ty (psZ s) (psSp s)).2.2 (rdR X ty (psZ s) (psSp s)).1).1 < 0))
def plN (X : Nat → Int32) (ty : Nat) : Nat → gx_Ps → gx_Ps
  | 0, s => s
  | f + 1, s => if decide (psSp s < ty) && psIs s then plN X ty f (plStep X ty s) else s
def pl0 (S T : Nat → Int32) (cl : Int32) (Z : Nat → Int32) (ca : Int32) : gx_Ps := (S, T, cl, Z, 0, ca, 0, 0, true)
def plR (X : Nat → Int32) (ty : Nat) (S T : Nat → Int32) (cl : Int32) (Z : Nat → Int32) (ca : Int32) : gx_Ps := plN X ty 81 (pl0 S T cl Z ca)
def plA (s : gx_Ps) : Int32 := if psIs s then (-4) else nI (psFr s)
theorem plStep_okk {X : Nat → Int32} {ty : Nat} {s : gx_Ps} (h : sOkk (psS s)) : sOkk (psS (plStep X ty s)) := by
  unfold plStep
  split
  · exact h
  · exact mCall_okk h
theorem plStep_sp {X : Nat → Int32} {ty : Nat} {s : gx_Ps} : psSp (plStep X ty s) ≤ psSp s + 28 ∧ (psIs (plStep X ty s) = true → psSp s < psSp (plStep X ty s)) := by
  have h := rdR_sp (X := X) (ty := ty) (Z := psZ s) (sp := psSp s)
  unfold plStep
  split
  · exact ⟨h.1, fun q => by cases q⟩
  · next h2 => exact ⟨h.1, fun _ => h.2 h2⟩
theorem plN_okk {X : Nat → Int32} {ty : Nat} : ∀ f s, sOkk (psS s) → sOkk (psS (plN X ty f s)) := by
  intro f
  induction f with
  | zero => exact fun s h => h
  | succ f ih =>
    intro s h
    unfold plN
    split
    · exact ih _ (plStep_okk h)
    · exact h
theorem kpP_t {y : Bool} {n : Nat} {P S : Nat → Int32} : kpP y true n P S = P := by
  unfold kpP chP
  split <;> rfl
theorem kpn_t {y : Bool} {n : Nat} : kpn y true n = n := by
  unfold kpn chn
  split <;> rfl
