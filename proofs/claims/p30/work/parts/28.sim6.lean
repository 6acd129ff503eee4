/-! Agreeing; claims. -/
section SIM5
variable {C S : Nat → Int32} {a b c e : Nat} {T : Int}
theorem cv_eq {v : Int32} {q : Nat} (hq : q < 2 ^ 31) : cv v = nI q ↔ v = nI q := by
  unfold cv
  by_cases z : v = -4
  · rw [if_pos z, z]
    exact ⟨fun w => absurd w.symm (nI_m1 hq), fun w => absurd w.symm (nI_m4 hq)⟩
  · rw [if_neg z]
theorem Rl_uDc {d p : Nat} {v : Int32} (h : Rl C S a b c e) (hO : sOk S a b c e) (hd : d < b) (hp : p < a) : Rl (upd C (77 + 7 * d + (1 + p)) (cv v)) (upd S (73 + 7 * d + (1 + p)) v) a b c e := by
  have hb := hO.1
  obtain ⟨⟨n1, n2, n3, n4⟩, ⟨t1, t2, t3⟩, rP, rD, rG, rK, zP, zD, zG, zK⟩ := h
  have c1 : ∀ i, i ≠ 77 + 7 * d + (1 + p) → upd C (77 + 7 * d + (1 + p)) (cv v) i = C i := fun i hi => upd_ne hi
  have s1 : ∀ i, i ≠ 73 + 7 * d + (1 + p) → upd S (73 + 7 * d + (1 + p)) v i = S i := fun i hi => upd_ne hi
  refine ⟨⟨?_, ?_, ?_, ?_⟩, ⟨?_, ?_, ?_⟩, fun r hr => ⟨fun k hk => ?_, ?_, ?_, ?_⟩, fun d' hd' => ⟨?_, fun j hj => ?_, fun j hj haj => ?_⟩, fun g hg => ⟨fun j hj => ?_, ?_⟩, fun k hk j hj => ?_, fun p hp ha k hk => ?_, fun p hp ha k hk => ?_, fun p hp ha k hk => ?_, fun p hp ha k hk => ?_⟩
  · rw [c1 _ (by omega)]; exact n1
  · rw [c1 _ (by omega)]; exact n2
  · rw [c1 _ (by omega)]; exact n3
  · rw [c1 _ (by omega)]; exact n4
  · rw [c1 _ (by omega), s1 _ (by omega)]; exact t1
  · rw [c1 _ (by omega), s1 _ (by omega)]; exact t2
  · rw [c1 _ (by omega), s1 _ (by omega)]; exact t3
  · exact (c1 _ (by omega)).trans (((rP r hr).1 k hk).trans (s1 _ (by omega)).symm)
  · refine (c1 _ (by omega)).trans ((rP r hr).2.1.trans ?_)
    rw [show sP (upd S (73 + 7 * d + (1 + p)) v) r 9 = sP S r 9 from s1 _ (by omega)]
  · refine (c1 _ (by omega)).trans ((rP r hr).2.2.1.trans ?_)
    rw [sHome_congr (T := upd S (73 + 7 * d + (1 + p)) v) hO (fun q hq => s1 _ (by omega)) hr]
  · exact (c1 _ (by omega)).trans ((rP r hr).2.2.2.trans (s1 _ (by omega)).symm)
  · exact (c1 _ (by omega)).trans ((rD d' hd').1.trans (s1 _ (by omega)).symm)
  · show upd C (77 + 7 * d + (1 + p)) (cv v) (77 + 7 * d' + (1 + j)) = cv (upd S (73 + 7 * d + (1 + p)) v (73 + 7 * d' + (1 + j)))
    by_cases z : d' = d ∧ j = p
    · rw [z.1, z.2, upd_eq, upd_eq]
    · rw [c1 _ (by omega), s1 _ (by omega)]
      exact (rD d' hd').2.1 j hj
  · rw [show sD (upd S (73 + 7 * d + (1 + p)) v) d' (1 + j) = sD S d' (1 + j) from s1 _ (by omega)]; exact (rD d' hd').2.2 j hj haj
  · exact (c1 _ (by omega)).trans (((rG g hg).1 j hj).trans (s1 _ (by omega)).symm)
  · refine (c1 _ (by omega)).trans ((rG g hg).2.trans ?_)
    rw [show sG (upd S (73 + 7 * d + (1 + p)) v) g 6 = sG S g 6 from s1 _ (by omega)]
  · exact (c1 _ (by omega)).trans ((rK k hk j hj).trans (s1 _ (by omega)).symm)
  · exact (c1 _ (by omega)).trans (zP p hp ha k hk)
  · exact (c1 _ (by omega)).trans (zD p hp ha k hk)
  · exact (c1 _ (by omega)).trans (zG p hp ha k hk)
  · exact (c1 _ (by omega)).trans (zK p hp ha k hk)
theorem Rl_putDc {d p : Nat} {v w : Int32} (h : Rl C S a b c e) (hO : sOk S a b c e) (hd : d < b) (hp : p < a) (hw : w = cv v) : Rl (dPut C (nI d) (1 + nI p) w) (uD S d (1 + p) v) a b c e := by
  have hb := hO.1
  rw [show (1 : Int32) + nI p = nI (1 + p) from nI_add 1 p, dPut_n C w (by omega) (by omega), hw]
  exact Rl_uDc h hO hd hp
theorem Rx_cons (h : Rx C S a b c e T) {d p : Nat} {v w : Int32} (hd : d < b) (hp : p < a) (hw : w = cv v) (hv : v = -4 ∨ ∃ q, q < a ∧ v = nI q) : Rx (dPut C (nI d) (1 + nI p) w) (uD S d (1 + p) v) a b c e T := by
  have hb := Rx_b h
  refine ⟨Rl_putDc h.1 h.2.1 hd hp hw, sOk_uD h.2.1 (by omega) (by omega), sB_D (S' := uD S d (1 + p) v) h.2.2 ⟨by omega, by omega, by omega⟩ (fun i hi _ => upd_ne (by omega)) (fun d' hd' => ?_)⟩
  by_cases z : d' = d
  · subst z
    refine ⟨?_, fun j hj => ?_⟩
    · rw [show sD (uD S d' (1 + p) v) d' 0 = sD S d' 0 from upd_ne (by omega)]
      exact (h.2.2.2.2.1 d' hd').1
    · by_cases y : j = p
      · subst y
        rw [show sD (uD S d' (1 + j) v) d' (1 + j) = v from upd_eq]
        exact hv
      · rw [show sD (uD S d' (1 + p) v) d' (1 + j) = sD S d' (1 + j) from upd_ne (by omega)]
        exact (h.2.2.2.2.1 d' hd').2 j hj
  · exact okD_c (h.2.2.2.2.1 d' hd') (fun j hj => upd_ne (by omega))
theorem two_n (h : Rx C S a b c e T) {x y : Int32} : bTwo C x y = sTwo S x y := by
  unfold bTwo sTwo
  rw [Rx_hasP h, Rx_hasP h]
theorem mergeable_n (h : Rx C S a b c e T) {p q : Nat} (hp : p < a) (hq : q < a) : bMergeable C (nI p) (nI q) = true ↔ ¬ (sClosed S p = true ∨ sClosed S q = true ∨ nI p = 0) := by
  unfold bMergeable
  rw [Rx_cls h hp, Rx_cls h hq]
  cases sClosed S p <;> cases sClosed S q <;> simp
theorem isOf_n (h : Rx C S a b c e T) {g : Nat} (hg : g < c) (x : Int32) : bIsOf C (nI g) x = decide (sG S g 0 = x) := by
  unfold bIsOf
  rw [show gAt C (nI g) 0 = sG S g 0 from gC h (k := 0) hg (by omega)]
theorem weight_n (h : Rx C S a b c e T) {g : Nat} (hg : g < c) (y : Int32) : bWeight C (nI g) y = if sG S g 1 = y ∧ sG S g 5 = 0 then sG S g 2 else 0 := by
  unfold bWeight
  rw [show gAt C (nI g) 1 = sG S g 1 from gC h (k := 1) hg (by omega), show gAt C (nI g) 5 = sG S g 5 from gC h (k := 5) hg (by omega), show gAt C (nI g) 2 = sG S g 2 from gC h (k := 2) hg (by omega)]
theorem wDonor_n (h : Rx C S a b c e T) (x y : Int32) : ∀ n, n ≤ c → bWDonorN C x y n = mWtN S x y n := by
  intro n
  induction n with
  | zero => exact fun _ => rfl
  | succ n ih =>
    intro hn
    unfold bWDonorN mWtN
    rw [ih (by omega), isOf_n h (by omega), weight_n h (by omega)]
    by_cases z : sG S n 0 = x
    · rw [if_pos (decide_eq_true z)]
      congr 1
      by_cases w : sG S n 1 = y ∧ sG S n 5 = 0
      · rw [if_pos w, if_pos ⟨z, w⟩]
      · rw [if_neg w, if_neg (fun q => w q.2)]
    · rw [if_neg (by rw [decide_eq_false z]; decide), if_neg (fun q => z q.1), Int32.add_zero]
theorem cn_133 (h : Rx C S a b c e T) : (C 133).toNatClampNeg = c := by
  have hb := Rx_b h
  rw [h.1.1.2.2.1, nI_clamp (by omega)]
theorem mWt_nn (h : Rx C S a b c e T) (x y : Int32) : ∀ n, n ≤ c → 0 ≤ (mWtN S x y n).toInt ∧ (mWtN S x y n).toInt ≤ 9999 * n := by
  have hb := Rx_b h
  intro n
  induction n with
  | zero =>
    intro _
    show 0 ≤ (0 : Int32).toInt ∧ (0 : Int32).toInt ≤ 9999 * ((0 : Nat) : Int)
    rw [ti_0]
    omega
  | succ n ih =>
    intro hn
    have i1 := ih (by omega)
    have ok := (h.2.2.2.2.2.1 n (by omega)).1
    show 0 ≤ (mWtN S x y n + _).toInt ∧ (mWtN S x y n + _).toInt ≤ _
    split
    · rw [ti_add (by omega) (by omega)]; omega
    · rw [Int32.add_zero]; omega
theorem x_agree (h : Rx C S a b c e T) (x y z : Int32) : Sim (bAgree C x y z) (mAgree S c x y z) T := by
  have hb := Rx_b h
  unfold bAgree mAgree
  rw [Rx_hasD h, two_n h]
  split
  · next q =>
    simp only [Bool.and_eq_true] at q
    obtain ⟨d, hd, rfl⟩ := isD_of h.2.1 q.1
    obtain ⟨p, hp, rfl⟩ := isP_of h.2.1 (two_of q.2).1
    obtain ⟨i, hi, rfl⟩ := isP_of h.2.1 (two_of q.2).2
    rw [nI_clamp (n := p) (by omega), nI_clamp (n := d) (by omega), nI_clamp (n := i) (by omega)]
    have hm := mergeable_n h hp hi
    by_cases w : sClosed S p = true ∨ sClosed S i = true ∨ nI p = 0
    · rw [if_pos w, if_neg (fun v => (hm.mp v) w)]
      exact Sim_no h (by decide)
    · rw [if_neg w, if_pos (hm.mpr w)]
      have h' : Rx (dPut C (nI d) (1 + nI p) (nI i)) (uD S d (1 + p) (nI i)) a b c e T := Rx_cons h hd hp (cv_n (by omega)).symm (Or.inr ⟨i, hi, rfl⟩)
      refine Sim_yes (a := a) (b := b) (c := c) (e := e) ?_ (mWt_nn h' _ _ c (Nat.le_refl _)).1 h'
      unfold bWDonor
      rw [cn_133 h']
      exact wDonor_n h' _ _ c (Nat.le_refl _)
  · exact Sim_no h (by decide)
-- claims
theorem year_n (h : Rx C S a b c e T) (g : Nat) : ∀ n, n ≤ c → bYearN C (sG S g 0) (sG S g 3 / 12) n + sG S g 2 = mYearN S g n := by
  intro n
  induction n with
  | zero => exact fun _ => Int32.zero_add _
  | succ n ih =>
    intro hn
    unfold bYearN mYearN
    rw [show gAt C (nI n) 0 = sG S n 0 from gC h (k := 0) (by omega) (by omega), show gAt C (nI n) 3 = sG S n 3 from gC h (k := 3) (by omega) (by omega), show gAt C (nI n) 4 = sG S n 4 from gC h (k := 4) (by omega) (by omega), show gAt C (nI n) 5 = sG S n 5 from gC h (k := 5) (by omega) (by omega), show gAt C (nI n) 2 = sG S n 2 from gC h (k := 2) (by omega) (by omega), ← ih (by omega)]
    split
    · rw [Int32.add_assoc, Int32.add_comm (sG S n 2), ← Int32.add_assoc]
    · rw [Int32.add_zero]
theorem z01 {x : Int32} (h : x = 0 ∨ x = 1) : x.toInt = 0 ∨ x.toInt = 1 := by
  rcases h with z | z
  · exact Or.inl (by rw [z, ti_0])
  · exact Or.inr (by rw [z, ti_1])
theorem can_n (h : Rx C S a b c e T) {g : Nat} (hg : g < c) : bCan C (nI g) = mCan S c g := by
  have hb := Rx_b h
  have ok := h.2.2.2.2.2.1 g hg
  obtain ⟨d, hd, ed⟩ := (h.2.1.2.1 g hg).1
  unfold bCan mCan bClaimed bRefunded bYear
  rw [show gAt C (nI g) 0 = sG S g 0 from gC h (k := 0) hg (by omega), show gAt C (nI g) 3 = sG S g 3 from gC h (k := 3) hg (by omega), show gAt C (nI g) 4 = sG S g 4 from gC h (k := 4) hg (by omega), show gAt C (nI g) 5 = sG S g 5 from gC h (k := 5) hg (by omega), show gAt C (nI g) 2 = sG S g 2 from gC h (k := 2) hg (by omega), cn_133 h, year_n h g c (Nat.le_refl _)]
  rw [show dAt C (sG S g 0) 0 = sD S (sG S g 0).toNatClampNeg 0 from by rw [ed, nI_clamp (by omega)]; exact dC0 h hd, h.1.2.1.1, h.1.2.1.2.2]
  have k4 := z01 ok.2.1
  have k5 := z01 ok.2.2.1
  have t45 : (sG S g 4 + sG S g 5).toInt = (sG S g 4).toInt + (sG S g 5).toInt := ti_add (by omega) (by omega)
  have hq : (decide (sG S g 4 = 1) || decide (sG S g 5 = 1)) = true ↔ 0 < sG S g 4 + sG S g 5 := by
    rw [Int32.lt_iff_toInt_lt, t45, ti_0, Bool.or_eq_true, decide_eq_true_eq, decide_eq_true_eq]
    refine ⟨fun z => ?_, fun z => ?_⟩
    · rcases z with z | z <;> rw [z, ti_1] <;> omega
    · by_cases w : sG S g 4 = 1
      · exact Or.inl w
      · right
        have w2 : (sG S g 4).toInt ≠ 1 := fun v => w (ti_eq v)
        exact ti_eq (by rw [ti_1]; omega)
  by_cases q1 : 0 < sG S g 4 + sG S g 5
  · rw [if_pos (Or.inl q1), if_pos (by rw [hq.mpr q1, Bool.true_or])]
  · have q1' : (decide (sG S g 4 = 1) || decide (sG S g 5 = 1)) = false := by
      cases hv : (decide (sG S g 4 = 1) || decide (sG S g 5 = 1)) with
      | false => rfl
      | true => exact absurd (hq.mp hv) q1
    by_cases q2 : sD S (sG S g 0).toNatClampNeg 0 = 0
    · rw [if_pos (Or.inr (Or.inl q2)), if_pos (by rw [decide_eq_true q2, Bool.or_true])]
    · rw [if_neg (by rw [q1', decide_eq_false q2]; decide)]
      by_cases q3 : 47 < S 6 - sG S g 3
      · rw [if_pos q3, if_pos (Or.inr (Or.inr q3))]
      · rw [if_neg q3, if_neg (fun z => z.elim q1 (fun z => z.elim q2 q3))]
theorem can_0 (h : Rx C S a b c e T) {g : Nat} (hg : g < c) (hc : mCan S c g = true) : sG S g 4 = 0 := by
  have ok := h.2.2.2.2.2.1 g hg
  have k4 := z01 ok.2.1
  have k5 := z01 ok.2.2.1
  have t45 : (sG S g 4 + sG S g 5).toInt = (sG S g 4).toInt + (sG S g 5).toInt := ti_add (by omega) (by omega)
  unfold mCan at hc
  split at hc
  · exact absurd hc (by decide)
  · next z =>
    have z1 : ¬ 0 < sG S g 4 + sG S g 5 := fun w => z (Or.inl w)
    rw [Int32.lt_iff_toInt_lt, t45, ti_0] at z1
    exact ti_eq (by rw [ti_0]; omega)
theorem Rx_claim (h : Rx C S a b c e T) {g : Nat} (hg : g < c) (h4 : sG S g 4 = 0) : Rx (bClaimC C (nI g)) (mClOne S g) a b c e T ∧ bTax (bClaimC C (nI g)) (nI g) = sG S g 2 / 4 := by
  have hb := Rx_b h
  have ok := h.2.2.2.2.2.1 g hg
  have ok1 := ok.1
  obtain ⟨p, hp, ep⟩ := (h.2.1.2.1 g hg).2
  have tT : (sG S g 2 / 4).toInt = (sG S g 2).toInt / 4 := ti_div4 (by omega)
  generalize hS1 : upd S (129 + 7 * g + 4) 1 = S1
  generalize hC1 : gPut C (nI g) 4 1 = C1
  have so : ∀ i, i ≠ 129 + 7 * g + 4 → S1 i = S i := fun i hi => by rw [← hS1]; exact upd_ne hi
  have o1 : sOk S1 a b c e := by rw [← hS1]; exact sOk_upd h.2.1 (by omega) (fun q hq => by omega) (fun g hg => by omega) (fun g hg => by omega)
  have l1 : Rl C1 S1 a b c e := by rw [← hS1, ← hC1]; exact Rl_putG (k := 4) h.1 h.2.1 hg (by omega)
  have s14 : sG S1 g 4 = 1 := by rw [← hS1]; exact upd_eq
  have wS : smI (gW S1) c = smI (gW S) c + 2499 := by
    rw [smI_upd (f := gW S) (g := gW S1) (p := g) (fun i hi hig => gW_c (so _ (by omega))) hg]
    have w1 : gW S1 g = 12498 := by unfold gW; rw [s14]; rfl
    have w2 : gW S g = 9999 := by unfold gW; rw [h4, if_neg (by decide)]
    omega
  have b1 : sB S1 a b c e T := by
    refine sB_G h.2.2 ⟨by omega, by omega, by omega⟩ (fun i hi _ => so i (by omega)) (fun g' hg' => ?_) (by omega)
    by_cases z : g' = g
    · subst z
      unfold okG
      rw [show sG S1 g' 2 = sG S g' 2 from so _ (by omega), s14, show sG S1 g' 5 = sG S g' 5 from so _ (by omega), show sG S1 g' 6 = sG S g' 6 from so _ (by omega)]
      exact ⟨ok.1, Or.inr rfl, ok.2.2⟩
    · exact okG_c (h.2.2.2.2.2.1 g' hg') (fun j hj => so _ (by omega))
  have h1 : Rx C1 S1 a b c e T := ⟨l1, o1, b1⟩
  have ep1 : sG S1 g 1 = nI p := (so _ (by omega)).trans ep
  have ex1 : sG S1 g 2 = sG S g 2 := so _ (by omega)
  have hh : sHome S1 p < a := sOk_home o1 hp
  have et1 : bTax C1 (nI g) = sG S g 2 / 4 := by rw [bTax_n h1 hg, ex1]
  have eh1 : bHome C1 (nI g) = nI (sHome S1 p) := bHome_n h1 hg hp ep1
  obtain ⟨F1, hM⟩ := FB_of h.2.2 hb.2.2.2.1
  have F0 : FB S1 a (smI (gW S) c) := by
    refine ⟨b1.2.1, ?_⟩
    rw [smI_congr (f := fI S) (g := fI S1) (fun i hi => congrArg Int32.toInt (so _ (by omega)))]
    exact F1.2
  have hf := FB_fund F0 hh
  have f1 := FB_add (v := sG S g 2 / 4) F0 hh (by omega) (by omega) (by omega)
  have o2 := sOk_aP (p := sHome S1 p) (k := 0) (v := sG S g 2 / 4) o1 (by omega) (by omega) (by omega)
  have l2 := Rl_addP (k := 0) (v := sG S g 2 / 4) l1 o1 hh (by omega)
  have b2 : sB (aP S1 (sHome S1 p) 0 (sG S g 2 / 4)) a b c e T := sB_P b1 ⟨by omega, by omega, by omega⟩ (fun i hi => upd_ne (by omega)) f1.1 (by have := f1.2; omega)
  have h2 : Rx (pAdd C1 (nI (sHome S1 p)) 0 (sG S g 2 / 4)) (aP S1 (sHome S1 p) 0 (sG S g 2 / 4)) a b c e T := ⟨l2, o2, b2⟩
  have n2 : ∀ j, sG (aP S1 (sHome S1 p) 0 (sG S g 2 / 4)) g j = sG S1 g j := fun j => upd_ne (by omega)
  have et2 : bTax (pAdd C1 (nI (sHome S1 p)) 0 (sG S g 2 / 4)) (nI g) = sG S g 2 / 4 := by rw [bTax_n h2 hg, n2, ex1]
  have eh2 : bHome (pAdd C1 (nI (sHome S1 p)) 0 (sG S g 2 / 4)) (nI g) = nI (sHome S1 p) := by
    rw [bHome_n h2 hg hp (by rw [n2]; exact ep1), sHome_congr o1 (fun q hq => aP_ne (by omega) (by omega) (Or.inr (by omega))) hp]
  have f2 := FB_oth (p := sHome S1 p) (k := 2) (v := sG S g 2 / 4) f1 (by omega) (by omega) (by omega)
  have o3 := sOk_aP (p := sHome S1 p) (k := 2) (v := sG S g 2 / 4) o2 (by omega) (by omega) (by omega)
  have l3 := Rl_addP (k := 2) (v := sG S g 2 / 4) l2 o2 hh (by omega)
  have b3 : sB (aP (aP S1 (sHome S1 p) 0 (sG S g 2 / 4)) (sHome S1 p) 2 (sG S g 2 / 4)) a b c e T := sB_P b2 ⟨by omega, by omega, by omega⟩ (fun i hi => upd_ne (by omega)) f2.1 (by
    have := f2.2
    rw [smI_congr (f := gW S1) (g := gW (aP S1 (sHome S1 p) 0 (sG S g 2 / 4))) (fun i hi => gW_c (upd_ne (by omega)))]
    omega)
  have h3 : Rx (pAdd (pAdd C1 (nI (sHome S1 p)) 0 (sG S g 2 / 4)) (nI (sHome S1 p)) 2 (sG S g 2 / 4)) (aP (aP S1 (sHome S1 p) 0 (sG S g 2 / 4)) (sHome S1 p) 2 (sG S g 2 / 4)) a b c e T := ⟨l3, o3, b3⟩
  have eC : bClaimC C (nI g) = pAdd (pAdd C1 (nI (sHome S1 p)) 0 (sG S g 2 / 4)) (nI (sHome S1 p)) 2 (sG S g 2 / 4) := by
    unfold bClaimC
    rw [hC1, eh1, et1, eh2, et2]
  have eS : mClOne S g = aP (aP S1 (sHome S1 p) 0 (sG S g 2 / 4)) (sHome S1 p) 2 (sG S g 2 / 4) := by
    unfold mClOne
    dsimp only
    rw [hS1, ep1, nI_clamp (by omega), ex1]
  rw [eC, eS]
  refine ⟨h3, ?_⟩
  rw [bTax_n h3 hg, show sG (aP (aP S1 (sHome S1 p) 0 (sG S g 2 / 4)) (sHome S1 p) 2 (sG S g 2 / 4)) g 2 = sG (aP S1 (sHome S1 p) 0 (sG S g 2 / 4)) g 2 from upd_ne (by omega), n2, ex1]
theorem x_claimN (h : Rx C S a b c e T) {x : Int32} (hx : x = -1 ∨ ∃ d, d < b ∧ x = nI d) : ∀ n, n ≤ c → Rx (bClaimN C x n).2.2 (mClN S c x n).2.2 a b c e T ∧ (bClaimN C x n).1 = (mClN S c x n).1 ∧ (0 ≤ (mClN S c x n).1.toInt ∧ (mClN S c x n).1.toInt ≤ 2499 * n) ∧ ∃ k, k ≤ n ∧ (mClN S c x n).2.1 = nI k ∧ ((bClaimN C x n).2.1 = true ↔ k ≠ 0) := by
  have hb := Rx_b h
  intro n
  induction n with
  | zero => exact fun _ => ⟨h, rfl, (by show 0 ≤ (0 : Int32).toInt ∧ (0 : Int32).toInt ≤ 2499 * ((0 : Nat) : Int); rw [ti_0]; omega), 0, Nat.le_refl _, rfl, by simp [bClaimN]⟩
  | succ n ih =>
    intro hn
    obtain ⟨h1, h2, h3, k, hk, h4, h5⟩ := ih (by omega)
    have hq : ((decide (x = -1) || bIsOf (bClaimN C x n).2.2 (nI n) x) && bCan (bClaimN C x n).2.2 (nI n)) = true ↔ ((x < 0 ∨ sG (mClN S c x n).2.2 n 0 = x) ∧ mCan (mClN S c x n).2.2 c n = true) := by
      rw [can_n h1 (by omega), isOf_n h1 (by omega), Bool.and_eq_true, Bool.or_eq_true, decide_eq_true_eq, decide_eq_true_eq]
      have hx2 : x = -1 ↔ x < 0 := by
        rcases hx with z | ⟨d, hd, z⟩
        · rw [z]; decide
        · rw [z]
          exact ⟨fun w => absurd w (nI_m1 (by omega)), fun w => absurd w (nI_pos (by omega))⟩
      rw [hx2]
    unfold bClaimN mClN
    by_cases w : (x < 0 ∨ sG (mClN S c x n).2.2 n 0 = x) ∧ mCan (mClN S c x n).2.2 c n = true
    · rw [if_pos w, if_pos (hq.mpr w)]
      have h6 := can_0 h1 (by omega) w.2
      obtain ⟨r1, r2⟩ := Rx_claim h1 (by omega) h6
      have ok := (h1.2.2.2.2.2.1 n (by omega)).1
      have tT : (sG (mClN S c x n).2.2 n 2 / 4).toInt = (sG (mClN S c x n).2.2 n 2).toInt / 4 := ti_div4 (by omega)
      have e2 : sG (upd (mClN S c x n).2.2 (129 + 7 * n + 4) 1) n 2 = sG (mClN S c x n).2.2 n 2 := upd_ne (by omega)
      refine ⟨r1, ?_, ?_, k + 1, by omega, ?_, ?_⟩
      · show (bClaimN C x n).1 + _ = (mClN S c x n).1 + _
        rw [r2, h2, e2]
      · show 0 ≤ ((mClN S c x n).1 + _).toInt ∧ ((mClN S c x n).1 + _).toInt ≤ _
        rw [e2, ti_add (by omega) (by omega)]
        omega
      · show (mClN S c x n).2.1 + 1 = _
        rw [h4, nI_1]
      · exact ⟨fun _ => by omega, fun _ => rfl⟩
    · rw [if_neg w, if_neg (fun z => w (hq.mp z))]
      exact ⟨h1, h2, by omega, k, by omega, h4, h5⟩
theorem x_claim (h : Rx C S a b c e T) : Sim (bClaim C (-1)) (mClaim S c) T := by
  have hb := Rx_b h
  obtain ⟨h1, h2, h3, k, hk, h4, h5⟩ := x_claimN h (x := -1) (Or.inl rfl) c (Nat.le_refl _)
  unfold bClaim mClaim
  rw [cn_133 h, h4]
  by_cases z : nI k = 0
  · have k0 : k = 0 := by
      rcases Nat.eq_zero_or_pos k with q | q
      · exact q
      · exact absurd z (nI_ne0 q (by omega))
    have hs : (mClN S c (-1) c).2.2 = S → Sim ((if (bClaimN C (-1) c).2.1 = true then (bClaimN C (-1) c).1 else -2), (bClaimN C (-1) c).2.2) (-2, false, S) T := fun es => by
      rw [if_neg (fun w => (h5.mp w) k0)]
      rw [es] at h1
      exact Sim_no h1 (by decide)
    rw [if_pos z]
    refine hs ?_
    have hz : ∀ n, n ≤ c → (mClN S c (-1) n).2.1 = 0 → (mClN S c (-1) n).2.2 = S := by
      intro n
      induction n with
      | zero => exact fun _ _ => rfl
      | succ n ih =>
        intro hn
        unfold mClN
        split
        · intro w
          obtain ⟨-, -, -, k2, hk2, h42, -⟩ := x_claimN h (x := -1) (Or.inl rfl) n (by omega)
          have w2 : (mClN S c (-1) n).2.1 + 1 = 0 := w
          rw [h42, nI_1] at w2
          exact absurd w2 (nI_ne0 (by omega) (by omega))
        · exact ih (by omega)
    exact hz c (Nat.le_refl _) (by rw [h4, z])
  · rw [if_neg z, if_pos (h5.mpr (fun q => z (by rw [q]; rfl)))]
    exact Sim_yes h2 h3.1 h1
end SIM5
