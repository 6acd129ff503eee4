/-! Single calls: declare, miss, stop, set, spend, refund. -/
section SIM2
variable {C S : Nat → Int32} {a b c e : Nat} {T : Int}
theorem Rl_putK (h : Rl C S a b c e) (hO : sOk S a b c e) {k j : Nat} {v : Int32} (hk : k < e) (hj : j < 8) : Rl (kPut C (nI k) (nI j) v) (uK S k j v) a b c e := by
  have hb := hO.1
  rw [kPut_n C v (by omega) (by omega)]
  exact Rl_uK h hO hk hj
theorem x_declare (h : Rx C S a b c e T) (x y : Int32) : Sim (bDeclare C x y) (mDeclare S x y) T := by
  have hb := Rx_b h
  unfold bDeclare mDeclare
  rw [Rx_hasD h]
  split
  · next q =>
    simp only [Bool.and_eq_true] at q
    obtain ⟨d, hd, rfl⟩ := isD_of h.2.1 q.1
    rw [nI_clamp (by omega)]
    have e1 : dPut C (nI d) 0 y = upd C (77 + 7 * d + 0) y := dPut_n C (k := 0) y (by omega) (by omega)
    rw [e1]
    have q2 := bIn_ti.mp q.2
    rw [ti_0, ti_1] at q2
    have hy : y = 0 ∨ y = 1 := by
      rcases (show y.toInt = 0 ∨ y.toInt = 1 by omega) with z | z
      · exact Or.inl (ti_eq z)
      · exact Or.inr (ti_eq z)
    refine Sim_yes (a := a) (b := b) (c := c) (e := e) (dC0 h hd) ?_ ⟨Rl_uD0 h.1 h.2.1 hd, sOk_uD h.2.1 (by omega) (by omega), sB_D (S' := uD S d 0 y) h.2.2 ⟨by omega, by omega, by omega⟩ (fun i hi _ => upd_ne (by omega)) (fun d' hd' => ?_)⟩
    · rcases (h.2.2.2.2.1 d hd).1 with z | z <;> rw [z] <;> decide
    · by_cases z : d' = d
      · subst z
        refine ⟨?_, fun j hj => ?_⟩
        · rw [show sD (uD S d' 0 y) d' 0 = y from upd_eq]; exact hy
        · rw [show sD (uD S d' 0 y) d' (1 + j) = sD S d' (1 + j) from upd_ne (by omega)]
          exact (h.2.2.2.2.1 d' hd).2 j hj
      · exact okD_c (h.2.2.2.2.1 d' hd') (fun j hj => upd_ne (by omega))
  · exact Sim_no h (by decide)
theorem run_n (h : Rx C S a b c e T) {k : Nat} (hk : k < e) : bRunning C (nI k) = decide (sK S k 5 = 0) := by
  unfold bRunning
  rw [show kAt C (nI k) 5 = sK S k 5 from kC h (j := 5) hk (by omega)]
theorem k5_pos (h : Rx C S a b c e T) {k : Nat} (hk : k < e) : 0 < sK S k 5 ↔ ¬ sK S k 5 = 0 := by
  have h5 := (h.2.2.2.2.2.2.1 k hk).2.2.2.1
  rw [Int32.lt_iff_toInt_lt, ti_0]
  refine ⟨fun q z => ?_, fun q => ?_⟩
  · rw [z, ti_0] at q; omega
  · have : (sK S k 5).toInt ≠ 0 := fun z => q (ti_eq z)
    omega
theorem x_miss (h : Rx C S a b c e T) (x : Int32) : Sim (bMiss C x) (mMiss S x) T := by
  have hb := Rx_b h
  unfold bMiss mMiss
  rw [Rx_hasK h]
  split
  · next q =>
    obtain ⟨k, hk, rfl⟩ := isK_of h.2.1 q
    rw [nI_clamp (by omega), run_n h hk, show kAt C (nI k) 7 = sK S k 7 from kC h (j := 7) hk (by omega)]
    have ok := h.2.2.2.2.2.2.1 k hk
    by_cases z : 0 < sK S k 5 ∨ sK S k 7 = 1
    · rw [if_pos z, if_pos]
      · exact Sim_no h (by decide)
      · rcases z with z | z
        · rw [decide_eq_false ((k5_pos h hk).mp z)]; rfl
        · rw [decide_eq_true z, Bool.or_true]
    · have z1 : sK S k 5 = 0 := Classical.byContradiction fun w => z (Or.inl ((k5_pos h hk).mpr w))
      have z2 : ¬ sK S k 7 = 1 := fun w => z (Or.inr w)
      rw [if_neg z, if_neg (by rw [decide_eq_true z1, decide_eq_false z2]; decide)]
      have h' : Rx (kPut C (nI k) 7 1) (uK S k 7 1) a b c e T := by
        refine ⟨Rl_putK (j := 7) h.1 h.2.1 hk (by omega), sOk_uK h.2.1 (by omega) (by omega) (by omega), sB_K (S' := uK S k 7 1) h.2.2 ⟨by omega, by omega, by omega⟩ (fun i hi _ => upd_ne (by omega)) (fun k' hk' => ?_)⟩
        by_cases w : k' = k
        · subst w
          have n : ∀ j, j < 7 → sK (uK S k' 7 1) k' j = sK S k' j := fun j hj => uK_ne (by omega) (by omega) (Or.inr (by omega))
          unfold okK
          rw [n 2 (by omega), n 3 (by omega), n 4 (by omega), n 5 (by omega), uK_eq]
          exact ⟨ok.1, ok.2.1, ok.2.2.1, ok.2.2.2.1, Or.inr rfl, ok.2.2.2.2.2⟩
        · exact okK_c (h.2.2.2.2.2.2.1 k' hk') (fun j hj => uK_ne (by omega) (by omega) (Or.inl (fun v => w v.symm)))
      refine Sim_yes (kC h' (j := 4) hk (by omega)) ?_ h'
      exact (h'.2.2.2.2.2.2.1 k hk).2.2.1.1
  · exact Sim_no h (by decide)
/-- a pledge ends: v its state -/
theorem okK_ends {k : Nat} {v : Int32} (hv : 1 ≤ v.toInt ∧ v.toInt ≤ 3) (ok : (1 ≤ (sK S k 2).toInt ∧ (sK S k 2).toInt ≤ 999) ∧ (0 ≤ (sK S k 3).toInt ∧ (sK S k 3).toInt ≤ 60) ∧ (0 ≤ (sK S k 4).toInt ∧ (sK S k 4).toInt ≤ 3)) : okK (mEnds S k v) k := by
  have n : ∀ j, j < 8 → j ≠ 5 → j ≠ 7 → sK (mEnds S k v) k j = sK S k j := fun j hj h5 h7 => by
    unfold mEnds
    rw [uK_ne (by omega) hj (Or.inr (fun w => h7 w.symm)), uK_ne (by omega) hj (Or.inr (fun w => h5 w.symm))]
  have n5 : sK (mEnds S k v) k 5 = v := by
    unfold mEnds
    rw [uK_ne (by omega) (by omega) (Or.inr (by omega)), uK_eq]
  have n7 : sK (mEnds S k v) k 7 = 0 := uK_eq
  unfold okK
  rw [n 2 (by omega) (by omega) (by omega), n 3 (by omega) (by omega) (by omega), n 4 (by omega) (by omega) (by omega), n5, n7]
  refine ⟨ok.1, ok.2.1, ok.2.2, by omega, Or.inl rfl, fun z => ?_⟩
  rw [z, ti_0] at hv
  omega
theorem mEnds_other {k k' j : Nat} {v : Int32} (hj : j < 8) (h : k ≠ k') : sK (mEnds S k v) k' j = sK S k' j := by
  unfold mEnds
  rw [uK_ne (by omega) hj (Or.inl h), uK_ne (by omega) hj (Or.inl h)]
theorem Rx_ends (h : Rx C S a b c e T) {k : Nat} {v : Int32} (hk : k < e) (hv : 1 ≤ v.toInt ∧ v.toInt ≤ 3) : Rx (kPut (kPut C (nI k) 5 v) (nI k) 7 0) (mEnds S k v) a b c e T := by
  have hb := Rx_b h
  have o1 : sOk (uK S k 5 v) a b c e := sOk_uK h.2.1 (by omega) (by omega) (by omega)
  have ok := h.2.2.2.2.2.2.1 k hk
  refine ⟨Rl_putK (j := 7) (Rl_putK (j := 5) h.1 h.2.1 hk (by omega)) o1 hk (by omega), mEnds_ok h.2.1 (by omega), sB_K h.2.2 ⟨by omega, by omega, by omega⟩ (fun i hi _ => mEnds_lo hi) (fun k' hk' => ?_)⟩
  by_cases w : k' = k
  · subst w
    exact okK_ends hv ⟨ok.1, ok.2.1, ok.2.2.1⟩
  · exact okK_c (h.2.2.2.2.2.2.1 k' hk') (fun j hj => mEnds_other hj (fun q => w q.symm))
theorem x_stop (h : Rx C S a b c e T) (x : Int32) : Sim (bStop C x) (mStop S x) T := by
  have hb := Rx_b h
  unfold bStop mStop
  rw [Rx_hasK h]
  split
  · next q =>
    obtain ⟨k, hk, rfl⟩ := isK_of h.2.1 q
    rw [nI_clamp (by omega), run_n h hk]
    by_cases z : 0 < sK S k 5
    · rw [if_pos z, if_neg (by rw [decide_eq_false ((k5_pos h hk).mp z)]; decide)]
      exact Sim_no h (by decide)
    · have z1 : sK S k 5 = 0 := Classical.byContradiction fun w => z ((k5_pos h hk).mpr w)
      rw [if_neg z, if_pos (by rw [decide_eq_true z1])]
      have h' : Rx (bHalt C (nI k)) (mEnds S k 2) a b c e T := Rx_ends h hk ⟨by decide, by decide⟩
      exact Sim_yes (kC h' (j := 3) hk (by omega)) (h'.2.2.2.2.2.2.1 k hk).2.1.1 h'
  · exact Sim_no h (by decide)
-- settings
theorem Rl_set {i i' : Nat} {v : Int32} (h : Rl C S a b c e) (hO : sOk S a b c e) (hi : (i = 0 ∧ i' = 6) ∨ (i = 1 ∧ i' = 0) ∨ (i = 2 ∧ i' = 1)) : Rl (upd C i v) (upd S i' v) a b c e := by
  obtain ⟨⟨n1, n2, n3, n4⟩, ⟨t1, t2, t3⟩, rP, rD, rG, rK, zP, zD, zG, zK⟩ := h
  have c1 : ∀ j, 3 ≤ j → upd C i v j = C j := fun j hj => upd_ne (by omega)
  have s1 : ∀ j, 7 ≤ j → upd S i' v j = S j := fun j hj => upd_ne (by omega)
  refine ⟨⟨?_, ?_, ?_, ?_⟩, ⟨?_, ?_, ?_⟩, fun p hp => ⟨fun k hk => ?_, ?_, ?_, ?_⟩, fun d hd => ⟨?_, fun j hj => ?_, fun j hj haj => ?_⟩, fun g hg => ⟨fun j hj => ?_, ?_⟩, fun k hk j hj => ?_, fun p hp ha k hk => ?_, fun p hp ha k hk => ?_, fun p hp ha k hk => ?_, fun p hp ha k hk => ?_⟩
  · rw [c1 _ (by omega)]; exact n1
  · rw [c1 _ (by omega)]; exact n2
  · rw [c1 _ (by omega)]; exact n3
  · rw [c1 _ (by omega)]; exact n4
  · exact pairU (by omega) t1
  · exact pairU (by omega) t2
  · exact pairU (by omega) t3
  · exact (c1 _ (by omega)).trans (((rP p hp).1 k hk).trans (s1 _ (by omega)).symm)
  · rw [show cP (upd C i v) p 9 = cP C p 9 from c1 _ (by omega), show sP (upd S i' v) p 9 = sP S p 9 from s1 _ (by omega)]; exact (rP p hp).2.1
  · rw [show cP (upd C i v) p 10 = cP C p 10 from c1 _ (by omega), sHome_congr (T := upd S i' v) hO (fun q hq => s1 _ (by omega)) hp]; exact (rP p hp).2.2.1
  · exact (c1 _ (by omega)).trans ((rP p hp).2.2.2.trans (s1 _ (by omega)).symm)
  · exact (c1 _ (by omega)).trans ((rD d hd).1.trans (s1 _ (by omega)).symm)
  · rw [show cD (upd C i v) d (1 + j) = cD C d (1 + j) from c1 _ (by omega), show sD (upd S i' v) d (1 + j) = sD S d (1 + j) from s1 _ (by omega)]; exact (rD d hd).2.1 j hj
  · rw [show sD (upd S i' v) d (1 + j) = sD S d (1 + j) from s1 _ (by omega)]; exact (rD d hd).2.2 j hj haj
  · exact (c1 _ (by omega)).trans (((rG g hg).1 j hj).trans (s1 _ (by omega)).symm)
  · rw [show cG (upd C i v) g 6 = cG C g 6 from c1 _ (by omega), show sG (upd S i' v) g 6 = sG S g 6 from s1 _ (by omega)]; exact (rG g hg).2
  · exact (c1 _ (by omega)).trans ((rK k hk j hj).trans (s1 _ (by omega)).symm)
  · exact (c1 _ (by omega)).trans (zP p hp ha k hk)
  · exact (c1 _ (by omega)).trans (zD p hp ha k hk)
  · exact (c1 _ (by omega)).trans (zG p hp ha k hk)
  · exact (c1 _ (by omega)).trans (zK p hp ha k hk)
theorem sB_set {S' : Nat → Int32} (h : sB S a b c e T) {T' : Int} (hb : a ≤ 6 ∧ b ≤ 8 ∧ c ≤ 24) (hh : ∀ i, 7 ≤ i → S' i = S i) (h0 : (1 ≤ (S' 0).toInt ∧ (S' 0).toInt ≤ 100) ∧ (0 ≤ (S' 1).toInt ∧ (S' 1).toInt ≤ 99999) ∧ (0 ≤ (S' 6).toInt ∧ (S' 6).toInt ≤ T')) : sB S' a b c e T' := by
  obtain ⟨h1, h2, h3, h4, h5, h6⟩ := h
  refine ⟨h0, fun p hp => okP_c (h2 p hp) (hh _ (by omega)) (hh _ (by omega)), fun d hd => okD_c (h3 d hd) (fun j hj => hh _ (by omega)), fun g hg => okG_c (h4 g hg) (fun j hj => hh _ (by omega)), fun k hk => okK_c (h5 k hk) (fun j hj => hh _ (by omega)), ?_⟩
  rw [smI_congr (f := gW S) (g := gW S') (fun g hg => gW_c (hh _ (by omega))), smI_congr (f := fI S) (g := fI S') (fun p hp => congrArg Int32.toInt (hh _ (by omega)))]
  exact h6
theorem x_set (h : Rx C S a b c e T) (x y : Int32) : Sim (bSet C x y) (mSet S x y) T := by
  have hb := Rx_b h
  obtain ⟨z0, z1, z6⟩ := h.2.2.1
  unfold bSet mSet
  by_cases h0 : x = 0
  · subst h0
    rw [if_pos rfl, if_pos rfl, if_pos rfl, show bIn (0 : Int32) 0 1 = true from by decide, Bool.true_and]
    split
    · next q =>
      have q2 := bIn_ti.mp q
      rw [ti_1, show (100 : Int32).toInt = 100 from by decide] at q2
      refine Sim_yes (a := a) (b := b) (c := c) (e := e) h.1.2.1.2.1 (by show 0 ≤ (S 0).toInt; omega) ⟨Rl_set h.1 h.2.1 (Or.inr (Or.inl ⟨rfl, rfl⟩)), sOk_upd h.2.1 (by show (0 : Nat) < 2 ∨ _; omega) (fun q hq => by show (0 : Nat) ≠ _; omega) (fun g hg => by show (0 : Nat) ≠ _ ∧ (0 : Nat) ≠ _; omega) (fun g hg => by show (0 : Nat) ≠ _ ∧ (0 : Nat) ≠ _; omega), sB_set h.2.2 ⟨by omega, by omega, by omega⟩ (fun i hi => upd_ne (by show i ≠ 0; omega)) ?_⟩
      refine ⟨?_, z1, z6⟩
      show 1 ≤ y.toInt ∧ y.toInt ≤ 100
      omega
    · exact Sim_no h (by decide)
  · rw [if_neg h0, if_neg h0, if_neg h0]
    by_cases h1 : x = 1
    · subst h1
      rw [if_pos rfl, show bIn (1 : Int32) 0 1 = true from by decide, Bool.true_and]
      split
      · next q =>
        have q2 := bIn_ti.mp q
        rw [ti_0, show (99999 : Int32).toInt = 99999 from by decide] at q2
        refine Sim_yes (a := a) (b := b) (c := c) (e := e) h.1.2.1.2.2 (by show 0 ≤ (S 1).toInt; omega) ⟨Rl_set h.1 h.2.1 (Or.inr (Or.inr ⟨rfl, rfl⟩)), sOk_upd h.2.1 (by show (1 : Nat) < 2 ∨ _; omega) (fun q hq => by show (1 : Nat) ≠ _; omega) (fun g hg => by show (1 : Nat) ≠ _ ∧ (1 : Nat) ≠ _; omega) (fun g hg => by show (1 : Nat) ≠ _ ∧ (1 : Nat) ≠ _; omega), sB_set h.2.2 ⟨by omega, by omega, by omega⟩ (fun i hi => upd_ne (by show i ≠ 1; omega)) ?_⟩
        refine ⟨z0, ?_, z6⟩
        show 0 ≤ y.toInt ∧ y.toInt ≤ 99999
        omega
      · exact Sim_no h (by decide)
    · rw [if_neg h1, if_neg]
      · exact Sim_no h (by decide)
      · intro q
        simp only [Bool.and_eq_true] at q
        have q2 := bIn_ti.mp q.1
        rw [ti_0, ti_1] at q2
        rcases (show x.toInt = 0 ∨ x.toInt = 1 by omega) with z | z
        · exact h0 (ti_eq z)
        · exact h1 (ti_eq z)
-- spending
theorem x_spend (h : Rx C S a b c e T) (x z : Int32) : Sim (bSpend C x z) (mSpend S x z) T := by
  have hb := Rx_b h
  unfold bSpend mSpend
  rw [Rx_hasP h]
  split
  · next q =>
    simp only [Bool.and_eq_true] at q
    obtain ⟨p, hp, rfl⟩ := isP_of h.2.1 q.1
    have q2 := bIn_ti.mp q.2
    rw [ti_1, show (9999 : Int32).toInt = 9999 from by decide] at q2
    rw [nI_clamp (by omega), Rx_cls h hp]
    obtain ⟨FB0, hM⟩ := FB_of h.2.2 hb.2.2.2.1
    have hM0 : 0 ≤ smI (gW S) c := smI_nn (fun i hi => by unfold gW; split <;> omega)
    have hf := FB_fund FB0 hp
    have hg := FB_fund FB0 (p := 0) (by omega)
    have ef : bFund C (nI p) = sP S p 0 := pC h (k := 0) hp (by omega)
    have eg : bFund C 0 = sP S 0 0 := pC h (p := 0) (k := 0) (by omega) (by omega)
    have eh : bSpendH C (nI p) z = mSpendH S p z := by
      unfold bSpendH mSpendH
      rw [ef]
      have t1 : (z - sP S p 0).toInt = z.toInt - (sP S p 0).toInt := ti_sub (by omega) (by omega)
      by_cases w : sP S p 0 < z
      · rw [if_pos w, if_pos]
        rw [Int32.lt_iff_toInt_lt] at w ⊢
        rw [t1, ti_0]; omega
      · rw [if_neg w, if_neg]
        rw [Int32.lt_iff_toInt_lt] at w ⊢
        rw [t1, ti_0]; omega
    have th : (mSpendH S p z).toInt = if (sP S p 0).toInt < z.toInt then z.toInt - (sP S p 0).toInt else 0 := by
      unfold mSpendH
      have t1 : (z - sP S p 0).toInt = z.toInt - (sP S p 0).toInt := ti_sub (by omega) (by omega)
      by_cases w : sP S p 0 < z
      · rw [if_pos w, if_pos (Int32.lt_iff_toInt_lt.mp w)]
        exact t1
      · rw [if_neg w, if_neg (fun q => w (Int32.lt_iff_toInt_lt.mpr q))]
        rfl
    rw [eh, eg]
    cases hcl : sClosed S p with
    | true => simp only [if_true, true_or]; exact Sim_no h (by decide)
    | false =>
      simp only [Bool.false_eq_true, false_or, if_false]
      by_cases w : (if nI p = 0 then 0 else sP S 0 0) < mSpendH S p z
      · rw [if_pos w, if_pos]
        · exact Sim_no h (by decide)
        · by_cases w0 : nI p = 0
          · rw [if_pos w0] at w
            exact ⟨w, Or.inl w0⟩
          · rw [if_neg w0] at w
            refine ⟨?_, Or.inr w⟩
            rw [Int32.lt_iff_toInt_lt] at w ⊢
            rw [ti_0]; omega
      · have w2 : p = 0 → (mSpendH S p z).toInt = 0 := fun p0 => by
          rw [if_pos (by rw [p0]; rfl), Int32.lt_iff_toInt_lt, ti_0] at w
          rw [th] at w ⊢
          split at w <;> split <;> omega
        have w3 : p ≠ 0 → (mSpendH S p z).toInt ≤ (sP S 0 0).toInt := fun p0 => by
          rw [if_neg (nI_ne0 (by omega) (by omega)), Int32.lt_iff_toInt_lt] at w
          omega
        rw [if_neg w, if_neg]
        · generalize hH : mSpendH S p z = H at *
          have tH : 0 ≤ H.toInt ∧ H.toInt ≤ 9999 := by rw [th]; split <;> omega
          have tN : (-H).toInt = -H.toInt := ti_neg (by omega) (by omega)
          have tD : (H - z).toInt = H.toInt - z.toInt := ti_sub (by omega) (by omega)
          have o1 := sOk_aP (p := p) (k := 0) (v := H - z) h.2.1 (by omega) (by omega) (by omega)
          have o2 := sOk_aP (p := p) (k := 3) (v := z) o1 (by omega) (by omega) (by omega)
          have o3 := sOk_aP (p := p) (k := 4) (v := H) o2 (by omega) (by omega) (by omega)
          have o4 := sOk_aP (p := 0) (k := 0) (v := -H) o3 (by omega) (by omega) (by omega)
          have o5 := sOk_aP (p := 0) (k := 10) (v := H) o4 (by omega) (by omega) (by omega)
          have l1 := Rl_addP (k := 0) (v := H - z) h.1 h.2.1 hp (by omega)
          have l2 := Rl_addP (k := 3) (v := z) l1 o1 hp (by omega)
          have l3 := Rl_addP (k := 4) (v := H) l2 o2 hp (by omega)
          have l4 := Rl_addP (p := 0) (k := 0) (v := -H) l3 o3 (by omega) (by omega)
          have l5 := Rl_addP11 (p := 0) (v := H) l4 o4 (by omega)
          have f1 := FB_add (v := H - z) FB0 hp (by rw [tD, th]; split <;> omega) (by omega) (by omega)
          have f2 := FB_oth (p := p) (k := 3) (v := z) f1 (by omega) (by omega) (by omega)
          have f3 := FB_oth (p := p) (k := 4) (v := H) f2 (by omega) (by omega) (by omega)
          have g3 : (sP (aP (aP (aP S p 0 (H - z)) p 3 z) p 4 H) 0 0).toInt = (sP S 0 0).toInt + (if p = 0 then (H - z).toInt else 0) := by
            rw [aP_ne (by omega) (by omega) (Or.inr (by omega)), aP_ne (by omega) (by omega) (Or.inr (by omega))]
            by_cases p0 : p = 0
            · subst p0
              rw [aP_eq, if_pos rfl]
              exact ti_add (by omega) (by omega)
            · rw [aP_ne (by omega) (by omega) (Or.inl p0), if_neg p0]; omega
          have f4 := FB_add (p := 0) (v := -H) f3 (by omega) (by
            rw [g3, tN]
            by_cases p0 : p = 0
            · rw [if_pos p0, tD, w2 p0]
              have := w2 p0
              rw [th] at this
              subst p0
              split at this <;> omega
            · rw [if_neg p0]
              have := w3 p0
              omega) (by omega) (by omega)
          have f5 := FB_oth (p := 0) (k := 10) (v := H) f4 (by omega) (by omega) (by omega)
          refine Sim_yes (a := a) (b := b) (c := c) (e := e) rfl tH.1 ⟨l5, o5, sB_P h.2.2 ⟨by omega, by omega, by omega⟩ (fun i hi => ?_) f5.1 ?_⟩
          · have n : ∀ {U : Nat → Int32} {q k : Nat} {v : Int32}, q < 6 → k < 11 → aP U q k v i = U i := fun hq hk => upd_ne (by omega)
            rw [show mSpendS S p z H = aP (aP (aP (aP (aP S p 0 (H - z)) p 3 z) p 4 H) 0 0 (-H)) 0 10 H from rfl, n (by omega) (by omega), n (by omega) (by omega), n (by omega) (by omega), n (by omega) (by omega), n (by omega) (by omega)]
          · have := f5.2
            rw [show mSpendS S p z H = aP (aP (aP (aP (aP S p 0 (H - z)) p 3 z) p 4 H) 0 0 (-H)) 0 10 H from rfl]
            omega
        · intro w4
          rcases w4 with ⟨w5, w6⟩
          rw [Int32.lt_iff_toInt_lt, ti_0] at w5
          rcases w6 with w6 | w6
          · have p0 : p = 0 := by
              rcases Nat.eq_zero_or_pos p with p0 | p0
              · exact p0
              · exact absurd w6 (nI_ne0 p0 (by omega))
            have := w2 p0
            omega
          · rw [Int32.lt_iff_toInt_lt] at w6
            by_cases p0 : p = 0
            · have := w2 p0; omega
            · have := w3 p0; omega
  · exact Sim_no h (by decide)
end SIM2
