/-! Refunds, gifts, pledges, purposes, donors. -/
section SIM3
variable {C S : Nat → Int32} {a b c e : Nat} {T : Int}
theorem aP_upd {i p k : Nat} {v w : Int32} (h : i ≠ 7 + 11 * p + k) : aP (upd S i v) p k w = upd (aP S p k w) i v := funext fun j => by
  show (if j = 7 + 11 * p + k then (if 7 + 11 * p + k = i then v else S (7 + 11 * p + k)) + w else if j = i then v else S j) = (if j = i then v else if j = 7 + 11 * p + k then S (7 + 11 * p + k) + w else S j)
  by_cases q : j = 7 + 11 * p + k
  · rw [if_pos q, if_neg (fun z => h z.symm), if_neg (fun z => h (z.symm.trans q)), if_pos q]
  · rw [if_neg q, if_neg q]
theorem Rl_putG (h : Rl C S a b c e) (hO : sOk S a b c e) {g k : Nat} {v : Int32} (hg : g < c) (hk : k < 6) : Rl (gPut C (nI g) (nI k) v) (upd S (129 + 7 * g + k) v) a b c e := by
  have hb := hO.1
  rw [gPut_n C v (by omega) (by omega)]
  exact Rl_uG h hO hg hk
theorem bHome_n (h : Rx C S a b c e T) {g p : Nat} (hg : g < c) (hp : p < a) (ep : sG S g 1 = nI p) : bHome C (nI g) = nI (sHome S p) := by
  unfold bHome
  rw [show gAt C (nI g) 1 = sG S g 1 from gC h (k := 1) hg (by omega), ep]
  exact pC10 h hp
theorem bTax_n (h : Rx C S a b c e T) {g : Nat} (hg : g < c) : bTax C (nI g) = sG S g 2 / 4 := by
  unfold bTax
  rw [show gAt C (nI g) 2 = sG S g 2 from gC h (k := 2) hg (by omega)]
theorem x_refund (h : Rx C S a b c e T) (x : Int32) : Sim (bRefund C x) (mRefund S x) T := by
  have hb := Rx_b h
  unfold bRefund mRefund
  rw [Rx_hasG h]
  by_cases q : ¬ x < 0 ∧ x < S 4
  · rw [if_pos q, if_pos (by rw [decide_eq_true q.1, decide_eq_true q.2]; rfl)]
    obtain ⟨g, hg, rfl⟩ := isG_of h.2.1 q.1 q.2
    obtain ⟨p, hp, ep⟩ := (h.2.1.2.1 g hg).2
    have hh : sHome S p < a := sOk_home h.2.1 hp
    have ok := h.2.2.2.2.2.1 g hg
    have ok1 := ok.1
    have e2 : gAt C (nI g) 2 = sG S g 2 := gC h (k := 2) hg (by omega)
    have er : bRefunded C (nI g) = decide (sG S g 5 = 1) := by unfold bRefunded; rw [show gAt C (nI g) 5 = sG S g 5 from gC h (k := 5) hg (by omega)]
    have ec : bClaimed C (nI g) = decide (sG S g 4 = 1) := by unfold bClaimed; rw [show gAt C (nI g) 4 = sG S g 4 from gC h (k := 4) hg (by omega)]
    have et : (if bClaimed C (nI g) = true then bTax C (nI g) else 0) = mRefT S g := by
      unfold mRefT
      rw [ec, bTax_n h hg]
      simp only [decide_eq_true_eq]
    have ef : bFund C (nI (sHome S p)) = sP S (sHome S p) 0 := pC h (k := 0) hh (by omega)
    rw [nI_clamp (by omega), ep, nI_clamp (by omega), et, bHome_n h hg hp ep, ef, e2, er]
    have tT : 0 ≤ (mRefT S g).toInt ∧ (mRefT S g).toInt ≤ 2499 := by
      unfold mRefT
      split
      · rw [ti_div4 (by omega)]; omega
      · rw [ti_0]; omega
    obtain ⟨FB0, hM⟩ := FB_of h.2.2 hb.2.2.2.1
    have hf := FB_fund FB0 hh
    generalize hR : mRefT S g = t at *
    have tS : (sG S g 2 + t).toInt = (sG S g 2).toInt + t.toInt := ti_add (by omega) (by omega)
    by_cases w : sG S g 5 = 1 ∨ sP S (sHome S p) 0 < sG S g 2 + t
    · rw [if_pos w, if_pos (by simp only [decide_eq_true_eq]; exact w)]
      exact Sim_no h (by decide)
    · rw [if_neg w, if_neg (by simp only [decide_eq_true_eq]; exact w)]
      have w2 : ¬ sP S (sHome S p) 0 < sG S g 2 + t := fun z => w (Or.inr z)
      rw [Int32.lt_iff_toInt_lt, tS] at w2
      have tn : (-(sG S g 2)).toInt = -(sG S g 2).toInt := ti_neg (by omega) (by omega)
      have tD : (-(sG S g 2) - t).toInt = -(sG S g 2).toInt - t.toInt := by rw [ti_sub (by omega) (by omega), tn]
      have em : mRefS S g (sHome S p) t = aP (aP (aP (upd S (129 + 7 * g + 5) 1) (sHome S p) 0 (-(sG S g 2) - t)) (sHome S p) 5 (sG S g 2)) (sHome S p) 6 t := by
        unfold mRefS
        rw [aP_upd (by omega), aP_upd (by omega), aP_upd (by omega)]
      rw [em]
      have o0 : sOk (upd S (129 + 7 * g + 5) 1) a b c e := sOk_upd h.2.1 (by omega) (fun q hq => by omega) (fun g hg => by omega) (fun g hg => by omega)
      have o1 := sOk_aP (p := sHome S p) (k := 0) (v := -(sG S g 2) - t) o0 (by omega) (by omega) (by omega)
      have o2 := sOk_aP (p := sHome S p) (k := 5) (v := sG S g 2) o1 (by omega) (by omega) (by omega)
      have o3 := sOk_aP (p := sHome S p) (k := 6) (v := t) o2 (by omega) (by omega) (by omega)
      have l0 := Rl_putG (k := 5) (v := 1) h.1 h.2.1 hg (by omega)
      have l1 := Rl_addP (k := 0) (v := -(sG S g 2) - t) l0 o0 hh (by omega)
      have l2 := Rl_addP (k := 5) (v := sG S g 2) l1 o1 hh (by omega)
      have l3 := Rl_addP (k := 6) (v := t) l2 o2 hh (by omega)
      have wS : ∀ g', gW (upd S (129 + 7 * g + 5) 1) g' = gW S g' := fun g' => gW_c (upd_ne (by omega))
      have b0 : sB (upd S (129 + 7 * g + 5) 1) a b c e T := by
        refine sB_G (S' := upd S (129 + 7 * g + 5) 1) h.2.2 ⟨by omega, by omega, by omega⟩ (fun i hi _ => upd_ne (by omega)) (fun g' hg' => ?_) (by rw [smI_congr (f := gW S) (g := gW (upd S (129 + 7 * g + 5) 1)) (fun i _ => wS i)]; omega)
        by_cases z : g' = g
        · subst z
          have n : ∀ j, j < 7 → j ≠ 5 → sG (upd S (129 + 7 * g' + 5) 1) g' j = sG S g' j := fun j hj h5 => upd_ne (by omega)
          have n5 : sG (upd S (129 + 7 * g' + 5) 1) g' 5 = 1 := upd_eq
          unfold okG
          rw [n 2 (by omega) (by omega), n 4 (by omega) (by omega), n 6 (by omega) (by omega), n5]
          exact ⟨ok.1, ok.2.1, Or.inr rfl, ok.2.2.2⟩
        · exact okG_c (h.2.2.2.2.2.1 g' hg') (fun j hj => upd_ne (by omega))
      obtain ⟨F0, hM0⟩ := FB_of b0 hb.2.2.2.1
      have hM1 : 0 ≤ smI (gW (upd S (129 + 7 * g + 5) 1)) c := smI_nn (fun i hi => by unfold gW; split <;> omega)
      have f1 := FB_add (v := -(sG S g 2) - t) F0 hh (by
        rw [show sP (upd S (129 + 7 * g + 5) 1) (sHome S p) 0 = sP S (sHome S p) 0 from upd_ne (by omega), tD]
        omega) (by omega) (by omega)
      have f2 := FB_oth (p := sHome S p) (k := 5) (v := sG S g 2) f1 (by omega) (by omega) (by omega)
      have f3 := FB_oth (p := sHome S p) (k := 6) (v := t) f2 (by omega) (by omega) (by omega)
      refine Sim_yes (a := a) (b := b) (c := c) (e := e) rfl tT.1 ⟨l3, o3, sB_P b0 ⟨by omega, by omega, by omega⟩ (fun i hi => ?_) f3.1 ?_⟩
      · rw [show ∀ {U : Nat → Int32} {k : Nat} {v : Int32}, k < 11 → aP U (sHome S p) k v i = U i from fun hk => upd_ne (by omega)]
        · rw [show ∀ {U : Nat → Int32} {k : Nat} {v : Int32}, k < 11 → aP U (sHome S p) k v i = U i from fun hk => upd_ne (by omega)]
          · exact upd_ne (by omega)
          · omega
        · omega
      · have := f3.2
        omega
  · rw [if_neg q, if_neg (by simp only [Bool.and_eq_true, decide_eq_true_eq]; exact q)]
    exact Sim_no h (by decide)
-- a row more of gifts
theorem new_G {D E : Nat → Int32} (h : Rl C S a b c e) (hO : sOk S a b c e) (hc : c < 24)
    (hD : ∀ i, i ≠ 133 → (i < 134 + 7 * c ∨ 134 + 7 * c + 6 < i) → D i = C i) (hD1 : D 133 = nI (c + 1)) (hE : ∀ i, i ≠ 4 → (i < 129 + 7 * c ∨ 129 + 7 * c + 6 < i) → E i = S i)
    (hr : ∀ j, j < 6 → D (134 + 7 * c + j) = E (129 + 7 * c + j)) (h6 : D (134 + 7 * c + 6) = cv (E (129 + 7 * c + 6))) : Rl D E a b (c + 1) e := by
  have hb := hO.1
  obtain ⟨⟨n1, n2, n3, n4⟩, ⟨t1, t2, t3⟩, rP, rD, rG, rK, zP, zD, zG, zK⟩ := h
  refine ⟨⟨?_, ?_, hD1, ?_⟩, ⟨?_, ?_, ?_⟩, fun p hp => ⟨fun k hk => ?_, ?_, ?_, ?_⟩, fun d hd => ⟨?_, fun j hj => ?_, fun j hj haj => ?_⟩, fun g hg => ⟨fun j hj => ?_, ?_⟩, fun k hk j hj => ?_, fun p hp ha k hk => ?_, fun p hp ha k hk => ?_, fun p hp ha k hk => ?_, fun p hp ha k hk => ?_⟩
  · rw [hD _ (by omega) (by omega)]; exact n1
  · rw [hD _ (by omega) (by omega)]; exact n2
  · rw [hD _ (by omega) (by omega)]; exact n4
  · rw [hD _ (by omega) (by omega), hE _ (by omega) (by omega)]; exact t1
  · rw [hD _ (by omega) (by omega), hE _ (by omega) (by omega)]; exact t2
  · rw [hD _ (by omega) (by omega), hE _ (by omega) (by omega)]; exact t3
  · exact (hD _ (by omega) (by omega)).trans (((rP p hp).1 k hk).trans (hE _ (by omega) (by omega)).symm)
  · rw [show cP D p 9 = cP C p 9 from hD _ (by omega) (by omega), show sP E p 9 = sP S p 9 from hE _ (by omega) (by omega)]; exact (rP p hp).2.1
  · rw [show cP D p 10 = cP C p 10 from hD _ (by omega) (by omega), sHome_congr hO (fun q hq => hE _ (by omega) (by omega)) hp]; exact (rP p hp).2.2.1
  · exact (hD _ (by omega) (by omega)).trans ((rP p hp).2.2.2.trans (hE _ (by omega) (by omega)).symm)
  · exact (hD _ (by omega) (by omega)).trans ((rD d hd).1.trans (hE _ (by omega) (by omega)).symm)
  · rw [show cD D d (1 + j) = cD C d (1 + j) from hD _ (by omega) (by omega), show sD E d (1 + j) = sD S d (1 + j) from hE _ (by omega) (by omega)]; exact (rD d hd).2.1 j hj
  · rw [show sD E d (1 + j) = sD S d (1 + j) from hE _ (by omega) (by omega)]; exact (rD d hd).2.2 j hj haj
  · by_cases z : g = c
    · subst z; exact hr j hj
    · exact (hD _ (by omega) (by omega)).trans (((rG g (by omega)).1 j hj).trans (hE _ (by omega) (by omega)).symm)
  · by_cases z : g = c
    · subst z; exact h6
    · rw [show cG D g 6 = cG C g 6 from hD _ (by omega) (by omega), show sG E g 6 = sG S g 6 from hE _ (by omega) (by omega)]; exact (rG g (by omega)).2
  · exact (hD _ (by omega) (by omega)).trans ((rK k hk j hj).trans (hE _ (by omega) (by omega)).symm)
  · exact (hD _ (by omega) (by omega)).trans (zP p hp ha k hk)
  · exact (hD _ (by omega) (by omega)).trans (zD p hp ha k hk)
  · exact (hD _ (by omega) (by omega)).trans (zG p hp (by omega) k hk)
  · exact (hD _ (by omega) (by omega)).trans (zK p hp ha k hk)
theorem sOk_newG {E : Nat → Int32} {d p : Nat} (hO : sOk S a b c e) (hc : c < 24) (hd : d < b) (hp : p < a) (hE : ∀ i, i ≠ 4 → (i < 129 + 7 * c ∨ 129 + 7 * c + 6 < i) → E i = S i) (h4 : E 4 = nI (c + 1)) (h0 : sG E c 0 = nI d) (h1 : sG E c 1 = nI p) : sOk E a b (c + 1) e := by
  have hb := hO.1
  obtain ⟨⟨e1, e2, e3, e4, b1, b2, b3, b4, b5⟩, hg, hk, rk, hr⟩ := hO
  refine ⟨⟨by rw [hE _ (by omega) (by omega)]; exact e1, by rw [hE _ (by omega) (by omega)]; exact e2, h4, by rw [hE _ (by omega) (by omega)]; exact e4, b1, b2, b3, by omega, b5⟩, fun g hgc => ?_, fun k hke => ?_, rk, fun q hq => ?_⟩
  · by_cases z : g = c
    · subst z; exact ⟨⟨d, hd, h0⟩, p, hp, h1⟩
    · rw [show sG E g 0 = sG S g 0 from hE _ (by omega) (by omega), show sG E g 1 = sG S g 1 from hE _ (by omega) (by omega)]
      exact hg g (by omega)
  · rw [show sK E k 0 = sK S k 0 from hE _ (by omega) (by omega), show sK E k 1 = sK S k 1 from hE _ (by omega) (by omega)]
    exact hk k hke
  · rw [show sP E q 9 = sP S q 9 from hE _ (by omega) (by omega)]
    exact hr q hq
theorem Rx_book0 {e' : Nat} (h : Rl C S a b c e ∧ sOk S a b c e ∧ sB S a b c e' T) (hc : c < 24) {d p : Nat} (hd : d < b) (hp : p < a) {z w : Int32} (hz : 1 ≤ z.toInt ∧ z.toInt ≤ 9999) (hw : w = -4 ∨ ∃ k, k < 6 ∧ w = nI k) : (bBook C (nI d) (nI p) z (cv w)).1 = nI c ∧ Rl (bBook C (nI d) (nI p) z (cv w)).2 (mGives S c (nI d) p z w) a b (c + 1) e ∧ sOk (mGives S c (nI d) p z w) a b (c + 1) e ∧ sB (mGives S c (nI d) p z w) a b (c + 1) e' T := by
  have hb : 1 ≤ a ∧ a ≤ 6 ∧ b ≤ 8 ∧ c ≤ 24 ∧ e ≤ 6 := by have := h.2.1.1; omega
  obtain ⟨tn, tc⟩ := tNew_n (C := C) (s := 133) (m := 24) (n := c) h.1.1.2.2.1 hc (by omega)
  have n0 : gPut (upd C 133 (nI (c + 1))) (nI c) 0 (nI d) = upd (upd C 133 (nI (c + 1))) (134 + 7 * c + 0) (nI d) := gPut_n _ (k := 0) _ hc (by omega)
  have n1 : ∀ U, gPut U (nI c) 1 (nI p) = upd U (134 + 7 * c + 1) (nI p) := fun U => gPut_n _ (k := 1) _ hc (by omega)
  have n2 : ∀ U, gPut U (nI c) 2 z = upd U (134 + 7 * c + 2) z := fun U => gPut_n _ (k := 2) _ hc (by omega)
  have n3 : ∀ U v, gPut U (nI c) 3 v = upd U (134 + 7 * c + 3) v := fun U v => gPut_n _ (k := 3) _ hc (by omega)
  have n6 : ∀ U, gPut U (nI c) 6 (cv w) = upd U (134 + 7 * c + 6) (cv w) := fun U => gPut_n _ (k := 6) _ hc (by omega)
  unfold bBook
  dsimp only
  rw [tn, tc, n0, n1, n2, n3, n6]
  refine ⟨rfl, ?_⟩
  unfold mGives
  dsimp only
  have m0 : (upd (upd (upd (upd C 133 (nI (c + 1))) (134 + 7 * c + 0) (nI d)) (134 + 7 * c + 1) (nI p)) (134 + 7 * c + 2) z) 0 = C 0 := by rw [upd_ne (by omega), upd_ne (by omega), upd_ne (by omega), upd_ne (by omega)]
  have m6 : (upd (upd (upd S (129 + 7 * c) (nI d)) (129 + 7 * c + 1) (nI p)) (129 + 7 * c + 2) z) 6 = S 6 := by rw [upd_ne (by omega), upd_ne (by omega), upd_ne (by omega)]
  have m4 : (upd (upd (upd (upd (upd (upd (upd S (129 + 7 * c) (nI d)) (129 + 7 * c + 1) (nI p)) (129 + 7 * c + 2) z) (129 + 7 * c + 3) (S 6)) (129 + 7 * c + 4) 0) (129 + 7 * c + 5) 0) (129 + 7 * c + 6) w) 4 = nI c := by
    rw [upd_ne (by omega), upd_ne (by omega), upd_ne (by omega), upd_ne (by omega), upd_ne (by omega), upd_ne (by omega), upd_ne (by omega)]
    exact h.2.1.1.2.2.1
  rw [m0, m6, m4, nI_1]
  generalize hD : upd (upd (upd (upd (upd (upd C 133 (nI (c + 1))) (134 + 7 * c + 0) (nI d)) (134 + 7 * c + 1) (nI p)) (134 + 7 * c + 2) z) (134 + 7 * c + 3) (C 0)) (134 + 7 * c + 6) (cv w) = D
  generalize hE : upd (upd (upd (upd (upd (upd (upd (upd S (129 + 7 * c) (nI d)) (129 + 7 * c + 1) (nI p)) (129 + 7 * c + 2) z) (129 + 7 * c + 3) (S 6)) (129 + 7 * c + 4) 0) (129 + 7 * c + 5) 0) (129 + 7 * c + 6) w) 4 (nI (c + 1)) = E
  have dO : ∀ i, i ≠ 133 → (i < 134 + 7 * c ∨ 134 + 7 * c + 6 < i) → D i = C i := fun i h1 h2 => by
    rw [← hD, upd_ne (by omega), upd_ne (by omega), upd_ne (by omega), upd_ne (by omega), upd_ne (by omega), upd_ne (by omega)]
  have eO : ∀ i, i ≠ 4 → (i < 129 + 7 * c ∨ 129 + 7 * c + 6 < i) → E i = S i := fun i h1 h2 => by
    rw [← hE, upd_ne (by omega), upd_ne (by omega), upd_ne (by omega), upd_ne (by omega), upd_ne (by omega), upd_ne (by omega), upd_ne (by omega), upd_ne (by omega)]
  have d133 : D 133 = nI (c + 1) := by rw [← hD, upd_ne (by omega), upd_ne (by omega), upd_ne (by omega), upd_ne (by omega), upd_ne (by omega), upd_eq]
  have e4 : E 4 = nI (c + 1) := by rw [← hE, upd_eq]
  have zr : ∀ k, k < 7 → C (134 + 7 * c + k) = 0 := fun k hk => h.1.2.2.2.2.2.2.2.2.1 c hc (Nat.le_refl _) k hk
  have e0 : E (129 + 7 * c + 0) = nI d := by rw [← hE, upd_ne (by omega), upd_ne (by omega), upd_ne (by omega), upd_ne (by omega), upd_ne (by omega), upd_ne (by omega), upd_ne (by omega)]; exact upd_eq
  have e1 : E (129 + 7 * c + 1) = nI p := by rw [← hE, upd_ne (by omega), upd_ne (by omega), upd_ne (by omega), upd_ne (by omega), upd_ne (by omega), upd_ne (by omega), upd_eq]
  have e2 : E (129 + 7 * c + 2) = z := by rw [← hE, upd_ne (by omega), upd_ne (by omega), upd_ne (by omega), upd_ne (by omega), upd_ne (by omega), upd_eq]
  have e3 : E (129 + 7 * c + 3) = S 6 := by rw [← hE, upd_ne (by omega), upd_ne (by omega), upd_ne (by omega), upd_ne (by omega), upd_eq]
  have e4' : E (129 + 7 * c + 4) = 0 := by rw [← hE, upd_ne (by omega), upd_ne (by omega), upd_ne (by omega), upd_eq]
  have e5 : E (129 + 7 * c + 5) = 0 := by rw [← hE, upd_ne (by omega), upd_ne (by omega), upd_eq]
  have e6 : E (129 + 7 * c + 6) = w := by rw [← hE, upd_ne (by omega), upd_eq]
  have l0 : Rl D E a b (c + 1) e := by
    refine new_G h.1 h.2.1 hc dO d133 eO (fun j hj => ?_) (by rw [e6, ← hD, upd_eq])
    rcases (show j = 0 ∨ j = 1 ∨ j = 2 ∨ j = 3 ∨ j = 4 ∨ j = 5 by omega) with q | q | q | q | q | q
    · subst q; rw [e0, ← hD, upd_ne (by omega), upd_ne (by omega), upd_ne (by omega), upd_ne (by omega), upd_eq]
    · subst q; rw [e1, ← hD, upd_ne (by omega), upd_ne (by omega), upd_ne (by omega), upd_eq]
    · subst q; rw [e2, ← hD, upd_ne (by omega), upd_ne (by omega), upd_eq]
    · subst q; rw [e3, ← hD, upd_ne (by omega), upd_eq]; exact h.1.2.1.1
    · subst q; rw [e4', ← hD, upd_ne (by omega), upd_ne (by omega), upd_ne (by omega), upd_ne (by omega), upd_ne (by omega), upd_ne (by omega)]; exact zr 4 (by omega)
    · subst q; rw [e5, ← hD, upd_ne (by omega), upd_ne (by omega), upd_ne (by omega), upd_ne (by omega), upd_ne (by omega), upd_ne (by omega)]; exact zr 5 (by omega)
  have o0 : sOk E a b (c + 1) e := sOk_newG h.2.1 hc hd hp eO e4 e0 e1
  have hW : smI (gW E) (c + 1) = smI (gW S) c + 9999 := by
    show smI (gW E) c + gW E c = _
    rw [smI_congr (f := gW S) (g := gW E) (fun g hg => gW_c (eO _ (by omega) (by omega)))]
    unfold gW
    rw [show sG E c 4 = 0 from e4', if_neg (by decide)]
  have b0 : sB E a b (c + 1) e' T := by
    refine sB_G h.2.2 ⟨by omega, by omega, by omega⟩ (fun i hi h4 => eO i h4 (by omega)) (fun g hg => ?_) (by omega)
    by_cases q : g = c
    · subst q
      unfold okG
      rw [show sG E g 2 = z from e2, show sG E g 4 = 0 from e4', show sG E g 5 = 0 from e5, show sG E g 6 = w from e6]
      exact ⟨hz, Or.inl rfl, Or.inl rfl, hw⟩
    · exact okG_c (h.2.2.2.2.2.1 g (by omega)) (fun j hj => eO _ (by omega) (by omega))
  obtain ⟨F1, hM⟩ := FB_of h.2.2 (by omega : c ≤ 24)
  have F0 : FB E a (smI (gW S) c) := by
    refine ⟨fun q hq => okP_c (F1.1 q hq) (eO _ (by omega) (by omega)) (eO _ (by omega) (by omega)), ?_⟩
    rw [smI_congr (f := fI S) (g := fI E) (fun i hi => congrArg Int32.toInt (eO _ (by omega) (by omega)))]
    exact F1.2
  have hf := FB_fund F0 hp
  have f1 := FB_add (v := z) F0 hp (by omega) (by omega) (by omega)
  have f2 := FB_oth (p := p) (k := 1) (v := z) f1 (by omega) (by omega) (by omega)
  have o1 := sOk_aP (p := p) (k := 0) (v := z) o0 (by omega) (by omega) (by omega)
  have o2 := sOk_aP (p := p) (k := 1) (v := z) o1 (by omega) (by omega) (by omega)
  refine ⟨Rl_addP (k := 1) (Rl_addP (k := 0) l0 o0 hp (by omega)) o1 hp (by omega), o2, sB_P b0 ⟨by omega, by omega, by omega⟩ (fun i hi => ?_) f2.1 ?_⟩
  · rw [show aP (aP E p 0 z) p 1 z i = aP E p 0 z i from upd_ne (by omega)]
    exact upd_ne (by omega)
  · have := f2.2
    omega
theorem Rx_book (h : Rx C S a b c e T) (hc : c < 24) {d p : Nat} (hd : d < b) (hp : p < a) {z w : Int32} (hz : 1 ≤ z.toInt ∧ z.toInt ≤ 9999) (hw : w = -4 ∨ ∃ k, k < 6 ∧ w = nI k) : (bBook C (nI d) (nI p) z (cv w)).1 = nI c ∧ Rx (bBook C (nI d) (nI p) z (cv w)).2 (mGives S c (nI d) p z w) a b (c + 1) e T := Rx_book0 h hc hd hp hz hw
theorem x_give (h : Rx C S a b c e T) (x y z : Int32) : Sim (bGive C x y z) (mGive S c x y z) T := by
  have hb := Rx_b h
  unfold bGive mGive
  rw [Rx_hasD h, Rx_hasP h]
  split
  · next q =>
    simp only [Bool.and_eq_true] at q
    obtain ⟨d, hd, rfl⟩ := isD_of h.2.1 q.1.1
    obtain ⟨p, hp, rfl⟩ := isP_of h.2.1 q.1.2
    have q2 := bIn_ti.mp q.2
    rw [ti_1, show (9999 : Int32).toInt = 9999 from by decide] at q2
    rw [nI_clamp (by omega), Rx_cls h hp, tFull_n h]
    split
    · exact Sim_no h (by decide)
    · by_cases w : nI c = 24
      · rw [if_pos w, if_pos (decide_eq_true w)]
        exact Sim_no h (by decide)
      · rw [if_neg w, if_neg (by rw [decide_eq_false w]; decide)]
        have hc : c < 24 := nI_ne (n := 24) w (by omega)
        obtain ⟨r1, r2⟩ := Rx_book h hc hd hp q2 (w := -4) (Or.inl rfl)
        rw [cv_m4] at r1 r2
        exact Sim_yes r1 (by rw [nI_toInt (by omega)]; omega) r2
  · exact Sim_no h (by decide)
end SIM3
