/-! New pledges, purposes, donors. -/
section SIM4
variable {C S : Nat → Int32} {a b c e : Nat} {T : Int}
theorem new_K {D E : Nat → Int32} (h : Rl C S a b c e) (hO : sOk S a b c e) (he : e < 6)
    (hD : ∀ i, i ≠ 302 → (i < 303 + 8 * e ∨ 303 + 8 * e + 7 < i) → D i = C i) (hD1 : D 302 = nI (e + 1)) (hE : ∀ i, i ≠ 5 → (i < 297 + 8 * e ∨ 297 + 8 * e + 7 < i) → E i = S i)
    (hr : ∀ j, j < 8 → D (303 + 8 * e + j) = E (297 + 8 * e + j)) : Rl D E a b c (e + 1) := by
  have hb := hO.1
  obtain ⟨⟨n1, n2, n3, n4⟩, ⟨t1, t2, t3⟩, rP, rD, rG, rK, zP, zD, zG, zK⟩ := h
  refine ⟨⟨?_, ?_, ?_, hD1⟩, ⟨?_, ?_, ?_⟩, fun p hp => ⟨fun k hk => ?_, ?_, ?_, ?_⟩, fun d hd => ⟨?_, fun j hj => ?_, fun j hj haj => ?_⟩, fun g hg => ⟨fun j hj => ?_, ?_⟩, fun k hk j hj => ?_, fun p hp ha k hk => ?_, fun p hp ha k hk => ?_, fun p hp ha k hk => ?_, fun p hp ha k hk => ?_⟩
  · rw [hD _ (by omega) (by omega)]; exact n1
  · rw [hD _ (by omega) (by omega)]; exact n2
  · rw [hD _ (by omega) (by omega)]; exact n3
  · rw [hD _ (by omega) (by omega), hE _ (by omega) (by omega)]; exact t1
  · rw [hD _ (by omega) (by omega), hE _ (by omega) (by omega)]; exact t2
  · rw [hD _ (by omega) (by omega), hE _ (by omega) (by omega)]; exact t3
  · exact (hD _ (by omega) (by omega)).trans (((rP p hp).1 k hk).trans (hE _ (by omega) (by omega)).symm)
  · rw [show cP D p 9 = cP C p 9 from hD _ (by omega) (by omega), show sP E p 9 = sP S p 9 from hE _ (by omega) (by omega)]; exact (rP p hp).2.1
  · rw [show cP D p 10 = cP C p 10 from hD _ (by omega) (by omega), sHome_congr hO (fun q hq => hE _ (by omega) (by omega)) hp]; exact (rP p hp).2.2.1
  · exact (hD _ (by omega) (by omega)).trans ((rP p hp).2.2.2.trans (hE _ (by omega) (by omega)).symm)
  · exact (hD _ (by omega) (by omega)).trans ((rD d hd).1.trans (hE _ (by omega) (by omega)).symm)
  · rw [show cD D d (1 + j) = cD C d (1 + j) from hD _ (by omega) (by omega), show sD E d (1 + j) = sD S d (1 + j) from hE _ (by omega) (by omega)]; exact (rD d hd).2.1 j hj
  · rw [show sD E d (1 + j) = sD S d (1 + j) from hE _ (by omega) (by omega)]; exact (rD d hd).2.2 j hj haj
  · exact (hD _ (by omega) (by omega)).trans (((rG g hg).1 j hj).trans (hE _ (by omega) (by omega)).symm)
  · rw [show cG D g 6 = cG C g 6 from hD _ (by omega) (by omega), show sG E g 6 = sG S g 6 from hE _ (by omega) (by omega)]; exact (rG g hg).2
  · by_cases z : k = e
    · subst z; exact hr j hj
    · exact (hD _ (by omega) (by omega)).trans ((rK k (by omega) j hj).trans (hE _ (by omega) (by omega)).symm)
  · exact (hD _ (by omega) (by omega)).trans (zP p hp ha k hk)
  · exact (hD _ (by omega) (by omega)).trans (zD p hp ha k hk)
  · exact (hD _ (by omega) (by omega)).trans (zG p hp ha k hk)
  · exact (hD _ (by omega) (by omega)).trans (zK p hp (by omega) k hk)
theorem x_pledge (h : Rx C S a b c e T) (x y z u : Int32) : Sim (bPledge C x y z u) (mPledge S e x y z u) T := by
  have hb := Rx_b h
  unfold bPledge mPledge
  rw [Rx_hasD h, Rx_hasP h, show bSpan u = bIn u 1 60 from rfl]
  split
  · next q =>
    simp only [Bool.and_eq_true] at q
    obtain ⟨d, hd, rfl⟩ := isD_of h.2.1 q.1.1.1
    obtain ⟨p, hp, rfl⟩ := isP_of h.2.1 q.1.1.2
    have q2 := bIn_ti.mp q.1.2
    have q3 := bIn_ti.mp q.2
    rw [ti_1, show (999 : Int32).toInt = 999 from by decide] at q2
    rw [ti_1, show (60 : Int32).toInt = 60 from by decide] at q3
    rw [nI_clamp (by omega), Rx_cls h hp]
    split
    · exact Sim_no h (by decide)
    · by_cases w : nI e = 6
      · have w2 : nI 6 ≤ C 302 := by rw [h.1.1.2.2.2, w]; exact Int32.le_refl _
        rw [if_pos w, if_pos (by unfold tNew; rw [if_pos w2]), show tNewC C 302 6 = C from if_pos w2]
        exact Sim_no h (by decide)
      · have he : e < 6 := nI_ne (n := 6) w (by omega)
        obtain ⟨tn, tc⟩ := tNew_n (C := C) (s := 302) (m := 6) (n := e) h.1.1.2.2.2 he (by omega)
        rw [if_neg w, tn, if_neg (nI_m1 (by omega)), tc]
        have n0 : ∀ U, kPut U (nI e) 0 (nI d) = upd U (303 + 8 * e + 0) (nI d) := fun U => kPut_n _ (k := 0) _ he (by omega)
        have n1 : ∀ U, kPut U (nI e) 1 (nI p) = upd U (303 + 8 * e + 1) (nI p) := fun U => kPut_n _ (k := 1) _ he (by omega)
        have n2 : ∀ U, kPut U (nI e) 2 z = upd U (303 + 8 * e + 2) z := fun U => kPut_n _ (k := 2) _ he (by omega)
        have n3 : ∀ U, kPut U (nI e) 3 u = upd U (303 + 8 * e + 3) u := fun U => kPut_n _ (k := 3) _ he (by omega)
        rw [n0, n1, n2, n3]
        generalize hD : upd (upd (upd (upd (upd C 302 (nI (e + 1))) (303 + 8 * e + 0) (nI d)) (303 + 8 * e + 1) (nI p)) (303 + 8 * e + 2) z) (303 + 8 * e + 3) u = D
        obtain ⟨k0, k1, k2, k3, k4⟩ := mPledgeS_k (S := S) (e := e) (x := nI d) (y := nI p) (z := z) (u := u)
        have zr : ∀ k, k < 8 → C (303 + 8 * e + k) = 0 := fun k hk => h.1.2.2.2.2.2.2.2.2.2 e he (Nat.le_refl _) k hk
        have l0 : Rl D (mPledgeS S e (nI d) (nI p) z u) a b c (e + 1) := by
          refine new_K h.1 h.2.1 he (fun i h1 h2 => ?_) ?_ (fun i h1 h2 => mPledgeS_out h1 (by omega)) (fun j hj => ?_)
          · rw [← hD, upd_ne (by omega), upd_ne (by omega), upd_ne (by omega), upd_ne (by omega), upd_ne (by omega)]
          · rw [← hD, upd_ne (by omega), upd_ne (by omega), upd_ne (by omega), upd_ne (by omega), upd_eq]
          · rcases (show j = 0 ∨ j = 1 ∨ j = 2 ∨ j = 3 ∨ 4 ≤ j by omega) with q | q | q | q | q
            · subst q; refine Eq.trans ?_ k0.symm; rw [← hD, upd_ne (by omega), upd_ne (by omega), upd_ne (by omega), upd_eq]
            · subst q; refine Eq.trans ?_ k1.symm; rw [← hD, upd_ne (by omega), upd_ne (by omega), upd_eq]
            · subst q; refine Eq.trans ?_ k2.symm; rw [← hD, upd_ne (by omega), upd_eq]
            · subst q; refine Eq.trans ?_ k3.symm; rw [← hD, upd_eq]
            · refine Eq.trans ?_ (k4 j q hj).symm
              rw [← hD, upd_ne (by omega), upd_ne (by omega), upd_ne (by omega), upd_ne (by omega), upd_ne (by omega)]
              exact zr j hj
        refine Sim_yes (a := a) (b := b) (c := c) (e := e + 1) rfl (by rw [nI_toInt (by omega)]; omega) ⟨l0, mPledge_ok h.2.1 he hd hp, sB_K h.2.2 ⟨by omega, by omega, by omega⟩ (fun i hi h5 => mPledgeS_out h5 (by omega)) (fun k hk => ?_)⟩
        by_cases v : k = e
        · subst v
          unfold okK
          rw [k2, k3, k4 4 (by omega) (by omega), k4 5 (by omega) (by omega), k4 7 (by omega) (by omega), ti_0]
          exact ⟨q2, ⟨by omega, by omega⟩, ⟨by omega, by omega⟩, ⟨by omega, by omega⟩, Or.inl rfl, fun _ => ⟨by omega, by omega⟩⟩
        · exact okK_c (h.2.2.2.2.2.2.1 k (by omega)) (fun j hj => mPledgeS_out (by omega) (by omega))
  · exact Sim_no h (by decide)
-- a purpose more
theorem new_P {D E : Nat → Int32} (h : Rl C S a b c e) (hO : sOk S a b c e) (ha6 : a < 6)
    (hD : ∀ i, i ≠ 3 → (i < 4 + 12 * a ∨ 4 + 12 * a + 11 < i) → D i = C i) (hD1 : D 3 = nI (a + 1)) (hE : ∀ i, i ≠ 2 → (i < 7 + 11 * a ∨ 7 + 11 * a + 10 < i) → (i < 73 ∨ 128 < i) → E i = S i)
    (d0 : ∀ k, k < 9 → D (4 + 12 * a + k) = 0) (d9 : D (4 + 12 * a + 9) = -1) (d10 : D (4 + 12 * a + 10) = nI a) (d11 : D (4 + 12 * a + 11) = 0)
    (e0 : ∀ k, k < 9 → sP E a k = 0) (e9 : sP E a 9 = -4) (e10 : sP E a 10 = 0)
    (eD : ∀ d j, d < 8 → j < 7 → sD E d j = if j = 1 + a then -4 else sD S d j) : Rl D E (a + 1) b c e := by
  have hb := hO.1
  obtain ⟨⟨n1, n2, n3, n4⟩, ⟨t1, t2, t3⟩, rP, rD, rG, rK, zP, zD, zG, zK⟩ := h
  refine ⟨⟨hD1, ?_, ?_, ?_⟩, ⟨?_, ?_, ?_⟩, fun p hp => ?_, fun d hd => ⟨?_, fun j hj => ?_, fun j hj haj => ?_⟩, fun g hg => ⟨fun j hj => ?_, ?_⟩, fun k hk j hj => ?_, fun p hp ha k hk => ?_, fun p hp ha k hk => ?_, fun p hp ha k hk => ?_, fun p hp ha k hk => ?_⟩
  · rw [hD _ (by omega) (by omega)]; exact n2
  · rw [hD _ (by omega) (by omega)]; exact n3
  · rw [hD _ (by omega) (by omega)]; exact n4
  · rw [hD _ (by omega) (by omega), hE _ (by omega) (by omega) (by omega)]; exact t1
  · rw [hD _ (by omega) (by omega), hE _ (by omega) (by omega) (by omega)]; exact t2
  · rw [hD _ (by omega) (by omega), hE _ (by omega) (by omega) (by omega)]; exact t3
  · by_cases z : p = a
    · subst z
      have ho : sClosed E p = false := by unfold sClosed; rw [e9]; decide
      rw [sHome_open ho]
      exact ⟨fun k hk => (d0 k hk).trans (e0 k hk).symm, d9.trans (by rw [e9]; rfl), d10, d11.trans e10.symm⟩
    · obtain ⟨r1, r2, r3, r4⟩ := rP p (by omega)
      refine ⟨fun k hk => ?_, ?_, ?_, ?_⟩
      · exact (hD _ (by omega) (by omega)).trans ((r1 k hk).trans (hE _ (by omega) (by omega) (by omega)).symm)
      · rw [show cP D p 9 = cP C p 9 from hD _ (by omega) (by omega), show sP E p 9 = sP S p 9 from hE _ (by omega) (by omega) (by omega)]; exact r2
      · rw [show cP D p 10 = cP C p 10 from hD _ (by omega) (by omega), sHome_congr hO (fun q hq => hE _ (by omega) (by omega) (by omega)) (by omega)]; exact r3
      · exact (hD _ (by omega) (by omega)).trans (r4.trans (hE _ (by omega) (by omega) (by omega)).symm)
  · rw [eD d 0 (by omega) (by omega), if_neg (by omega), show cD D d 0 = cD C d 0 from hD _ (by omega) (by omega)]; exact (rD d hd).1
  · rw [eD d (1 + j) (by omega) (by omega), show cD D d (1 + j) = cD C d (1 + j) from hD _ (by omega) (by omega), (rD d hd).2.1 j hj]
    by_cases z : j = a
    · subst z
      rw [if_pos rfl, (rD d hd).2.2 j hj (Nat.le_refl _)]
    · rw [if_neg (by omega)]
  · rw [eD d (1 + j) (by omega) (by omega), if_neg (by omega)]; exact (rD d hd).2.2 j hj (by omega)
  · exact (hD _ (by omega) (by omega)).trans (((rG g hg).1 j hj).trans (hE _ (by omega) (by omega) (by omega)).symm)
  · rw [show cG D g 6 = cG C g 6 from hD _ (by omega) (by omega), show sG E g 6 = sG S g 6 from hE _ (by omega) (by omega) (by omega)]; exact (rG g hg).2
  · exact (hD _ (by omega) (by omega)).trans ((rK k hk j hj).trans (hE _ (by omega) (by omega) (by omega)).symm)
  · exact (hD _ (by omega) (by omega)).trans (zP p hp (by omega) k hk)
  · exact (hD _ (by omega) (by omega)).trans (zD p hp ha k hk)
  · exact (hD _ (by omega) (by omega)).trans (zG p hp ha k hk)
  · exact (hD _ (by omega) (by omega)).trans (zK p hp ha k hk)
theorem x_purpose (h : Rx C S a b c e T) : Sim (bAddPurpose C) (mPurpose S a) T := by
  have hb := Rx_b h
  unfold bAddPurpose mPurpose
  by_cases w : nI a = 6
  · have w2 : nI 6 ≤ C 3 := by rw [h.1.1.1, w]; exact Int32.le_refl _
    rw [if_pos w, if_pos (by unfold tNew; rw [if_pos w2]), show tNewC C 3 6 = C from if_pos w2]
    exact Sim_no h (by decide)
  · have ha : a < 6 := nI_ne (n := 6) w (by omega)
    obtain ⟨tn, tc⟩ := tNew_n (C := C) (s := 3) (m := 6) (n := a) h.1.1.1 ha (by omega)
    rw [if_neg w, tn, if_neg (nI_m1 (by omega)), tc]
    have n9 : ∀ U, pPut U (nI a) 9 (-1) = upd U (4 + 12 * a + 9) (-1) := fun U => pPut_n _ (k := 9) _ ha (by omega)
    have n10 : ∀ U, pPut U (nI a) 10 (nI a) = upd U (4 + 12 * a + 10) (nI a) := fun U => pPut_n _ (k := 10) _ ha (by omega)
    rw [n9, n10]
    have m0 : ∀ i, i ≠ 2 → mPurposeS S a i = purD (purN S a 11) a 8 i := fun i hi => upd_ne hi
    have m1 : ∀ i, (i < 73 ∨ 129 ≤ i) → purD (purN S a 11) a 8 i = purN S a 11 i := fun i hi => purD_out ha hi 8 (Nat.le_refl _)
    have m2 : ∀ i, (i < 7 + 11 * a ∨ 7 + 11 * a + 11 ≤ i) → purN S a 11 i = S i := fun i hi => purN_out ha hi 11 (Nat.le_refl _)
    have mE : ∀ i, i ≠ 2 → (i < 7 + 11 * a ∨ 7 + 11 * a + 10 < i) → (i < 73 ∨ 128 < i) → mPurposeS S a i = S i := fun i h1 h2 h3 => (m0 i h1).trans ((m1 i (by omega)).trans (m2 i (by omega)))
    have mR : ∀ k, k < 11 → sP (mPurposeS S a) a k = if nI k = 9 then -4 else 0 := fun k hk => (m0 _ (by omega)).trans ((m1 _ (by omega)).trans (purN_in 11 (Nat.le_refl _) k hk))
    have mD : ∀ d j, d < 8 → j < 7 → sD (mPurposeS S a) d j = if j = 1 + a then -4 else sD S d j := fun d j hd hj => by
      rw [show sD (mPurposeS S a) d j = purD (purN S a 11) a 8 (73 + 7 * d + j) from m0 _ (by omega), purD_at ha 8 (Nat.le_refl _) d j hj]
      by_cases z : j = 1 + a
      · rw [if_pos ⟨hd, z⟩, if_pos z]
      · rw [if_neg (fun q => z q.2), if_neg z]
        exact m2 _ (by omega)
    have e9 : sP (mPurposeS S a) a 9 = -4 := (mR 9 (by omega)).trans (if_pos rfl)
    have eR : ∀ k, k < 11 → k ≠ 9 → sP (mPurposeS S a) a k = 0 := fun k hk h9 => (mR k hk).trans (if_neg (fun q => h9 ((nI_eq (by omega) (by omega)).mp q)))
    have zr : ∀ k, k < 12 → C (4 + 12 * a + k) = 0 := fun k hk => h.1.2.2.2.2.2.2.1 a ha (Nat.le_refl _) k hk
    generalize hD : upd (upd (upd C 3 (nI (a + 1))) (4 + 12 * a + 9) (-1)) (4 + 12 * a + 10) (nI a) = D
    have l0 : Rl D (mPurposeS S a) (a + 1) b c e := by
      refine new_P h.1 h.2.1 ha (fun i h1 h2 => ?_) ?_ mE (fun k hk => ?_) ?_ ?_ ?_ (fun k hk => eR k (by omega) (by omega)) e9 (eR 10 (by omega) (by omega)) mD
      · rw [← hD, upd_ne (by omega), upd_ne (by omega), upd_ne (by omega)]
      · rw [← hD, upd_ne (by omega), upd_ne (by omega), upd_eq]
      · rw [← hD, upd_ne (by omega), upd_ne (by omega), upd_ne (by omega)]; exact zr k (by omega)
      · rw [← hD, upd_ne (by omega), upd_eq]
      · rw [← hD, upd_eq]
      · rw [← hD, upd_ne (by omega), upd_ne (by omega), upd_ne (by omega)]; exact zr 11 (by omega)
    refine Sim_yes (a := a + 1) (b := b) (c := c) (e := e) rfl (by rw [nI_toInt (by omega)]; omega) ⟨l0, mPurpose_ok h.2.1 ha, ?_⟩
    obtain ⟨h1, h2, h3, h4, h5, h6⟩ := h.2.2
    refine ⟨?_, fun p hp => ?_, fun d hd => ?_, fun g hg => okG_c (h4 g hg) (fun j hj => mE _ (by omega) (by omega) (by omega)), fun k hk => okK_c (h5 k hk) (fun j hj => mE _ (by omega) (by omega) (by omega)), ?_⟩
    · rw [mE 0 (by omega) (by omega) (by omega), mE 1 (by omega) (by omega) (by omega), mE 6 (by omega) (by omega) (by omega)]; exact h1
    · by_cases z : p = a
      · subst z
        refine ⟨?_, Or.inl e9⟩
        rw [eR 0 (by omega) (by omega), ti_0]; omega
      · unfold okP
        rw [show sP (mPurposeS S a) p 0 = sP S p 0 from mE _ (by omega) (by omega) (by omega), show sP (mPurposeS S a) p 9 = sP S p 9 from mE _ (by omega) (by omega) (by omega)]
        obtain ⟨z1, z2⟩ := h2 p (by omega)
        refine ⟨z1, ?_⟩
        rcases z2 with z2 | ⟨q, q1, q2⟩
        · exact Or.inl z2
        · exact Or.inr ⟨q, by omega, q2⟩
    · obtain ⟨z1, z2⟩ := h3 d hd
      refine ⟨?_, fun j hj => ?_⟩
      · rw [mD d 0 (by omega) (by omega), if_neg (by omega)]; exact z1
      · rw [mD d (1 + j) (by omega) (by omega)]
        split
        · exact Or.inl rfl
        · rcases z2 j hj with z2 | ⟨q, q1, q2⟩
          · exact Or.inl z2
          · exact Or.inr ⟨q, by omega, q2⟩
    · show smI (fI (mPurposeS S a)) a + fI (mPurposeS S a) a ≤ _
      rw [smI_congr (f := gW S) (g := gW (mPurposeS S a)) (fun g hg => gW_c (mE _ (by omega) (by omega) (by omega))), smI_congr (f := fI S) (g := fI (mPurposeS S a)) (fun p hp => congrArg Int32.toInt (mE _ (by omega) (by omega) (by omega)))]
      have z : fI (mPurposeS S a) a = 0 := by unfold fI; rw [eR 0 (by omega) (by omega), ti_0]
      omega
-- a donor more
theorem bDonorN_at {D : Nat → Int32} {b : Nat} (hb : b < 8) : ∀ n, n ≤ 6 → ∀ i, bDonorN D (nI b) n i = if 77 + 7 * b + 1 ≤ i ∧ i < 77 + 7 * b + 1 + n then -1 else D i := by
  intro n
  induction n with
  | zero =>
    intro _ i
    rw [if_neg (by omega)]
    rfl
  | succ n ih =>
    intro hn i
    show dPut _ (nI b) (nI (1 + n)) (-1) i = _
    rw [dPut_n _ _ hb (by omega)]
    by_cases q : i = 77 + 7 * b + (1 + n)
    · rw [q, upd_eq, if_pos (by omega)]
    · rw [upd_ne q, ih (by omega)]
      by_cases z : 77 + 7 * b + 1 ≤ i ∧ i < 77 + 7 * b + 1 + n
      · rw [if_pos z, if_pos (by omega)]
      · rw [if_neg z, if_neg (by omega)]
theorem donN_at {D : Nat → Int32} {b : Nat} : ∀ n, n ≤ 6 → ∀ i, donN D b n i = if 73 + 7 * b + 1 ≤ i ∧ i < 73 + 7 * b + 1 + n then -4 else D i := by
  intro n
  induction n with
  | zero =>
    intro _ i
    rw [if_neg (by omega)]
    rfl
  | succ n ih =>
    intro hn i
    show upd _ (73 + 7 * b + (1 + n)) (-4) i = _
    by_cases q : i = 73 + 7 * b + (1 + n)
    · rw [q, upd_eq, if_pos (by omega)]
    · rw [upd_ne q, ih (by omega)]
      by_cases z : 73 + 7 * b + 1 ≤ i ∧ i < 73 + 7 * b + 1 + n
      · rw [if_pos z, if_pos (by omega)]
      · rw [if_neg z, if_neg (by omega)]
theorem new_D {D E : Nat → Int32} (h : Rl C S a b c e) (hO : sOk S a b c e) (hb8 : b < 8)
    (hD : ∀ i, i ≠ 76 → (i < 77 + 7 * b ∨ 77 + 7 * b + 6 < i) → D i = C i) (hD1 : D 76 = nI (b + 1)) (hE : ∀ i, i ≠ 3 → (i < 73 + 7 * b ∨ 73 + 7 * b + 6 < i) → E i = S i)
    (d0 : D (77 + 7 * b + 0) = 0) (dj : ∀ j, j < 6 → D (77 + 7 * b + (1 + j)) = -1) (e0 : E (73 + 7 * b + 0) = 0) (ej : ∀ j, j < 6 → E (73 + 7 * b + (1 + j)) = -4) : Rl D E a (b + 1) c e := by
  have hb := hO.1
  obtain ⟨⟨n1, n2, n3, n4⟩, ⟨t1, t2, t3⟩, rP, rD, rG, rK, zP, zD, zG, zK⟩ := h
  refine ⟨⟨?_, hD1, ?_, ?_⟩, ⟨?_, ?_, ?_⟩, fun p hp => ⟨fun k hk => ?_, ?_, ?_, ?_⟩, fun d hd => ?_, fun g hg => ⟨fun j hj => ?_, ?_⟩, fun k hk j hj => ?_, fun p hp ha k hk => ?_, fun p hp ha k hk => ?_, fun p hp ha k hk => ?_, fun p hp ha k hk => ?_⟩
  · rw [hD _ (by omega) (by omega)]; exact n1
  · rw [hD _ (by omega) (by omega)]; exact n3
  · rw [hD _ (by omega) (by omega)]; exact n4
  · rw [hD _ (by omega) (by omega), hE _ (by omega) (by omega)]; exact t1
  · rw [hD _ (by omega) (by omega), hE _ (by omega) (by omega)]; exact t2
  · rw [hD _ (by omega) (by omega), hE _ (by omega) (by omega)]; exact t3
  · exact (hD _ (by omega) (by omega)).trans (((rP p hp).1 k hk).trans (hE _ (by omega) (by omega)).symm)
  · rw [show cP D p 9 = cP C p 9 from hD _ (by omega) (by omega), show sP E p 9 = sP S p 9 from hE _ (by omega) (by omega)]; exact (rP p hp).2.1
  · rw [show cP D p 10 = cP C p 10 from hD _ (by omega) (by omega), sHome_congr hO (fun q hq => hE _ (by omega) (by omega)) hp]; exact (rP p hp).2.2.1
  · exact (hD _ (by omega) (by omega)).trans ((rP p hp).2.2.2.trans (hE _ (by omega) (by omega)).symm)
  · by_cases z : d = b
    · subst z
      refine ⟨d0.trans e0.symm, fun j hj => (dj j hj).trans ?_, fun j hj _ => ej j hj⟩
      rw [show sD E d (1 + j) = -4 from ej j hj]
      rfl
    · obtain ⟨r1, r2, r3⟩ := rD d (by omega)
      refine ⟨(hD _ (by omega) (by omega)).trans (r1.trans (hE _ (by omega) (by omega)).symm), fun j hj => ?_, fun j hj haj => ?_⟩
      · rw [show cD D d (1 + j) = cD C d (1 + j) from hD _ (by omega) (by omega), show sD E d (1 + j) = sD S d (1 + j) from hE _ (by omega) (by omega)]; exact r2 j hj
      · rw [show sD E d (1 + j) = sD S d (1 + j) from hE _ (by omega) (by omega)]; exact r3 j hj haj
  · exact (hD _ (by omega) (by omega)).trans (((rG g hg).1 j hj).trans (hE _ (by omega) (by omega)).symm)
  · rw [show cG D g 6 = cG C g 6 from hD _ (by omega) (by omega), show sG E g 6 = sG S g 6 from hE _ (by omega) (by omega)]; exact (rG g hg).2
  · exact (hD _ (by omega) (by omega)).trans ((rK k hk j hj).trans (hE _ (by omega) (by omega)).symm)
  · exact (hD _ (by omega) (by omega)).trans (zP p hp ha k hk)
  · exact (hD _ (by omega) (by omega)).trans (zD p hp (by omega) k hk)
  · exact (hD _ (by omega) (by omega)).trans (zG p hp ha k hk)
  · exact (hD _ (by omega) (by omega)).trans (zK p hp ha k hk)
theorem x_donor (h : Rx C S a b c e T) : Sim (bAddDonor C) (mDonor S b) T := by
  have hb := Rx_b h
  unfold bAddDonor mDonor
  by_cases w : nI b = 8
  · have w2 : nI 8 ≤ C 76 := by rw [h.1.1.2.1, w]; exact Int32.le_refl _
    rw [if_pos w, if_pos (by unfold tNew; rw [if_pos w2]), show tNewC C 76 8 = C from if_pos w2]
    exact Sim_no h (by decide)
  · have hb8 : b < 8 := nI_ne (n := 8) w (by omega)
    obtain ⟨tn, tc⟩ := tNew_n (C := C) (s := 76) (m := 8) (n := b) h.1.1.2.1 hb8 (by omega)
    rw [if_neg w, tn, if_neg (nI_m1 (by omega)), tc]
    have dA := bDonorN_at (D := upd C 76 (nI (b + 1))) hb8 6 (Nat.le_refl _)
    have zr : ∀ k, k < 7 → C (77 + 7 * b + k) = 0 := fun k hk => h.1.2.2.2.2.2.2.2.1 b hb8 (Nat.le_refl _) k hk
    have e0 : mDonorS S b (73 + 7 * b + 0) = 0 := by
      unfold mDonorS
      rw [upd_ne (by omega), donN_at 6 (Nat.le_refl _), if_neg (by omega)]
      exact upd_eq
    have ej : ∀ j, j < 6 → mDonorS S b (73 + 7 * b + (1 + j)) = -4 := fun j hj => by
      unfold mDonorS
      rw [upd_ne (by omega), donN_at 6 (Nat.le_refl _), if_pos (by omega)]
    have l0 : Rl (bDonorN (upd C 76 (nI (b + 1))) (nI b) 6) (mDonorS S b) a (b + 1) c e := by
      refine new_D h.1 h.2.1 hb8 (fun i h1 h2 => ?_) ?_ (fun i h1 h2 => mDonorS_out h1 (by omega)) ?_ (fun j hj => ?_) e0 ej
      · rw [dA, if_neg (by omega), upd_ne h1]
      · rw [dA, if_neg (by omega), upd_eq]
      · rw [dA, if_neg (by omega), upd_ne (by omega)]; exact zr 0 (by omega)
      · rw [dA, if_pos (by omega)]
    refine Sim_yes (a := a) (b := b + 1) (c := c) (e := e) rfl (by rw [nI_toInt (by omega)]; omega) ⟨l0, mDonor_ok h.2.1 hb8, sB_D h.2.2 ⟨by omega, by omega, by omega⟩ (fun i hi h3 => mDonorS_out h3 (by omega)) (fun d hd => ?_)⟩
    by_cases z : d = b
    · subst z
      exact ⟨Or.inl e0, fun j hj => Or.inl (ej j hj)⟩
    · exact okD_c (h.2.2.2.2.1 d (by omega)) (fun j hj => mDonorS_out (by omega) (by omega))
end SIM4
