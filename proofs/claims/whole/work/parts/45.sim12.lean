/-! Texts played on both sides. -/
section SIM14
variable {C S : Nat → Int32} {a b c e : Nat}
theorem x_call (h : Rx C S a b c e 999) (N Z : Nat → Int32) {w : Nat} (hw : w < 9) (hN : ∀ j, j < nbM w → N j = Z j) : Sim (pfB C N (nI w)) (mCall S b c e Z (nI w)) 999 := by
  unfold pfB mCall
  rcases (show w = 0 ∨ w = 1 ∨ w = 2 ∨ w = 3 ∨ w = 4 ∨ w = 5 ∨ w = 6 ∨ w = 7 ∨ w = 8 by omega) with q | q | q | q | q | q | q | q | q <;> subst q
  · rw [if_pos (by decide), if_pos (by decide), hN 0 (by decide), hN 1 (by decide), hN 2 (by decide)]
    exact x_give h _ _ _
  · rw [if_neg (show ¬ nI 1 = 0 by decide), if_neg (show ¬ nI 1 = 0 by decide), if_pos (show nI 1 = 1 by decide), if_pos (show nI 1 = 1 by decide), hN 0 (by decide), hN 1 (by decide), hN 2 (by decide), hN 3 (by decide)]
    exact x_pledge h _ _ _ _
  · rw [if_neg (show ¬ nI 2 = 0 by decide), if_neg (show ¬ nI 2 = 0 by decide), if_neg (show ¬ nI 2 = 1 by decide), if_neg (show ¬ nI 2 = 1 by decide), if_pos (show nI 2 = 2 by decide), if_pos (show nI 2 = 2 by decide), hN 0 (by decide)]
    exact x_miss h _
  · simp only [show ¬ nI 3 = 0 by decide, show ¬ nI 3 = 1 by decide, show ¬ nI 3 = 2 by decide, show nI 3 = 3 by decide, if_false, if_true]
    exact x_claim h
  · simp only [show ¬ nI 4 = 0 by decide, show ¬ nI 4 = 1 by decide, show ¬ nI 4 = 2 by decide, show ¬ nI 4 = 3 by decide, show nI 4 = 4 by decide, if_false, if_true]
    rw [hN 0 (by decide), hN 1 (by decide)]
    exact x_spend h _ _
  · simp only [show ¬ nI 5 = 0 by decide, show ¬ nI 5 = 1 by decide, show ¬ nI 5 = 2 by decide, show ¬ nI 5 = 3 by decide, show ¬ nI 5 = 4 by decide, show nI 5 = 5 by decide, if_false, if_true]
    rw [hN 0 (by decide), hN 1 (by decide), hN 2 (by decide)]
    exact x_agree h _ _ _
  · simp only [show ¬ nI 6 = 0 by decide, show ¬ nI 6 = 1 by decide, show ¬ nI 6 = 2 by decide, show ¬ nI 6 = 3 by decide, show ¬ nI 6 = 4 by decide, show ¬ nI 6 = 5 by decide, show nI 6 = 6 by decide, if_false, if_true]
    rw [hN 0 (by decide), hN 1 (by decide)]
    exact x_merge h _ _
  · simp only [show ¬ nI 7 = 0 by decide, show ¬ nI 7 = 1 by decide, show ¬ nI 7 = 2 by decide, show ¬ nI 7 = 3 by decide, show ¬ nI 7 = 4 by decide, show ¬ nI 7 = 5 by decide, show ¬ nI 7 = 6 by decide, show nI 7 = 7 by decide, if_false, if_true]
    rw [hN 0 (by decide)]
    exact x_refund h _
  · simp only [show ¬ nI 8 = 0 by decide, show ¬ nI 8 = 1 by decide, show ¬ nI 8 = 2 by decide, show ¬ nI 8 = 3 by decide, show ¬ nI 8 = 4 by decide, show ¬ nI 8 = 5 by decide, show ¬ nI 8 = 6 by decide, show ¬ nI 8 = 7 by decide, show nI 8 = 8 by decide, if_false, if_true]
    rw [hN 0 (by decide)]
    exact x_pass h _
/-- how a run ends: well, at a fault of the text, at a command that fails -/
def Ro (R : gx_RR) (Q : gx_Ps) : Prop :=
  (∃ n, n ≤ 160 ∧ R.1 = nI n ∧ R.2.1 = 0 ∧ psIs Q = true ∧ psCo Q = n ∧ Ry R.2.2.2.1 (psS Q)) ∨
  (R.1 = -1 ∧ psIs Q = false ∧ psFr Q = R.2.2.2.2.2.2 ∧ psFr Q ≤ 80 ∧ ((R.2.1 = 1 ∧ R.2.2.1 = -4 ∧ psCa Q = 0) ∨ (R.2.1 = 2 ∧ R.2.2.1 = psCa Q ∧ psCa Q < 0)))
theorem x_run {X : Nat → Int32} {ln : Nat} (hl : ln ≤ 80) (ca : Int32) : ∀ f f' k r p (C N : Nat → Int32) (s : gx_Ps), ln ≤ r + f → ln ≤ r + f' → k + f ≤ 160 → psSp s = r → psCo s = k → psIs s = true → Ry C (psS s) → Ro (roL X ln ca f k C N r p) (plN X ln f' s) := by
  intro f
  induction f with
  | zero =>
    intro f' k r p C N s h1 h2 h3 hsp hco his hR
    have e : plN X ln f' s = s := by
      cases f' with
      | zero => rfl
      | succ f' =>
        unfold plN
        rw [hsp, decide_eq_false (by omega), Bool.false_and, if_neg Bool.false_ne_true]
    rw [e]
    exact Or.inl ⟨k, by omega, rfl, rfl, his, hco, hR⟩
  | succ f ih =>
    intro f' k r p C N s h1 h2 h3 hsp hco his hR
    unfold roL
    by_cases hr : r < ln
    · rw [if_pos hr]
      obtain ⟨f2, rfl⟩ : ∃ f2, f' = f2 + 1 := ⟨f' - 1, by omega⟩
      have eQ : plN X ln (f2 + 1) s = plN X ln f2 (plStep X ln s) := by
        conv => lhs; unfold plN
        rw [hsp, his, decide_eq_true hr, Bool.true_and, if_pos rfl]
      rw [eQ]
      have stay : ∀ s' : gx_Ps, psIs s' = false → plN X ln f2 s' = s' := fun s' hs' => by
        cases f2 with
        | zero => rfl
        | succ f2 =>
          unfold plN
          rw [hs', Bool.and_false, if_neg Bool.false_ne_true]
      rcases parse (X := X) (ln := ln) (r := r) N (psZ s) hl (by omega) with ⟨p1, p2⟩ | ⟨w, hw, p1, p2, p3, p4⟩
      · rw [if_pos p1]
        have eS : plStep X ln s = (psS s, psT s, psCl s, (rdR X ln (psZ s) (psSp s)).2.2, (rdR X ln (psZ s) (psSp s)).2.1, 0, psCo s + 1, psSp s, false) := by
          unfold plStep
          rw [hsp, if_pos p2]
        rw [eS, stay _ rfl]
        exact Or.inr ⟨rfl, rfl, hsp, by show psSp s ≤ 80; omega, Or.inl ⟨rfl, rfl, rfl⟩⟩
      · have q1 : ¬ rcK X ln r N = -1 := by rw [p1]; exact nI_m1 (by omega)
        have q2 : ¬ (rdR X ln (psZ s) r).1 < 0 := by rw [p2]; exact nI_pos (by omega)
        obtain ⟨a, b, c, e, hx⟩ := hR
        obtain ⟨s1, s2, s3⟩ := x_call hx (rcN X ln r N) (rdR X ln (psZ s) r).2.2 hw p4
        obtain ⟨m1, m2, m3, m4⟩ := sOk_nn hx.2.1
        rw [if_neg q1, p1]
        have eI : psIs (plStep X ln s) = decide (¬ (mCall (psS s) b c e (rdR X ln (psZ s) r).2.2 (nI w)).1 < 0) := by
          unfold plStep
          rw [hsp, if_neg q2, p2, m2, m3, m4]
          rfl
        have eC : psCa (plStep X ln s) = (mCall (psS s) b c e (rdR X ln (psZ s) r).2.2 (nI w)).1 := by
          unfold plStep
          rw [hsp, if_neg q2, p2, m2, m3, m4]
          rfl
        have eS : psS (plStep X ln s) = (mCall (psS s) b c e (rdR X ln (psZ s) r).2.2 (nI w)).2.2 := by
          unfold plStep
          rw [hsp, if_neg q2, p2, m2, m3, m4]
          rfl
        have eP : psSp (plStep X ln s) = (rdR X ln (psZ s) r).2.1 := by
          unfold plStep
          rw [hsp, if_neg q2]
          rfl
        have eO : psCo (plStep X ln s) = k + 1 := by
          unfold plStep
          rw [hsp, if_neg q2, hco]
          rfl
        have eF : psFr (plStep X ln s) = r := by
          unfold plStep
          rw [hsp, if_neg q2]
          rfl
        by_cases z : (pfB C (rcN X ln r N) (nI w)).1 < 0
        · rw [if_pos z]
          have z2 : (mCall (psS s) b c e (rdR X ln (psZ s) r).2.2 (nI w)).1 < 0 := by rw [← s1]; exact z
          have eI2 : psIs (plStep X ln s) = false := by rw [eI]; exact decide_eq_false (fun v => v z2)
          rw [stay _ eI2]
          exact Or.inr ⟨rfl, eI2, eF, by omega, Or.inr ⟨rfl, by rw [eC]; exact s1, by rw [eC]; exact z2⟩⟩
        · rw [if_neg z]
          have z2 : ¬ (mCall (psS s) b c e (rdR X ln (psZ s) r).2.2 (nI w)).1 < 0 := by rw [← s1]; exact z
          have eI2 : psIs (plStep X ln s) = true := by rw [eI]; exact decide_eq_true z2
          have hp := (rdR_sp (X := X) (ty := ln) (Z := psZ s) (sp := r)).2 q2
          rw [p3]
          refine ih f2 (k + 1) (rdR X ln (psZ s) r).2.1 r _ _ _ (by omega) (by omega) (by omega) eP eO eI2 ?_
          rw [eS]
          exact s3
    · rw [if_neg hr]
      have e : plN X ln f' s = s := by
        cases f' with
        | zero => rfl
        | succ f' =>
          unfold plN
          rw [hsp, decide_eq_false (by omega), Bool.false_and, if_neg Bool.false_ne_true]
      rw [e]
      exact Or.inl ⟨k, by omega, rfl, rfl, his, hco, hR⟩
theorem x_ro {X : Nat → Int32} {ln : Nat} (hl : ln ≤ 80) (hR : Ry C S) (ca ca' cl : Int32) (N Z U : Nat → Int32) (p : Nat) : Ro (roL X ln ca 80 0 C N 0 p) (plR X ln S U cl Z ca') :=
  x_run hl ca 80 81 0 0 p C N (pl0 S U cl Z ca') (by omega) (by omega) (by omega) rfl rfl rfl hR
theorem x_fault {X : Nat → Int32} {ln : Nat} (hl : ln ≤ 80) (hR : Ry C S) (ca ca' cl : Int32) (N Z U : Nat → Int32) (p : Nat) (x : Int32) : (if bIn x 0 2 = true then (if (roL X ln ca 80 0 C N 0 p).2.1 = 0 then (-4) else if x = 0 then nI (roL X ln ca 80 0 C N 0 p).2.2.2.2.2.2 else if x = 1 then (roL X ln ca 80 0 C N 0 p).2.1 else (roL X ln ca 80 0 C N 0 p).2.2.1) else (-1)) = mFault X ln S U cl Z ca' x := by
  unfold mFault
  have h := x_ro (X := X) hl hR ca ca' cl N Z U p
  generalize roL X ln ca 80 0 C N 0 p = R at h ⊢
  generalize plR X ln S U cl Z ca' = Q at h ⊢
  split
  · rcases h with ⟨n, hn, h1, h2, h3, h4, h5⟩ | ⟨h1, h2, h3, h4, h5⟩
    · have eA : plA Q = -4 := by unfold plA; rw [h3]; rfl
      rw [h2, if_pos rfl, if_pos (Or.inl eA), eA]
    · have eA : plA Q = nI (psFr Q) := by unfold plA; rw [h2]; rfl
      have e4 : ¬ nI (psFr Q) = -4 := nI_m4 (by omega)
      have r0 : ¬ R.2.1 = 0 := by
        rcases h5 with ⟨q, -⟩ | ⟨q, -⟩ <;> rw [q] <;> decide
      rw [if_neg r0, eA, ← h3]
      by_cases x0 : x = 0
      · rw [if_pos x0, if_pos (Or.inr x0)]
      · rw [if_neg x0, if_neg (show ¬ (nI (psFr Q) = -4 ∨ x = 0) from fun z => z.elim e4 x0)]
        rcases h5 with ⟨q1, q2, q3⟩ | ⟨q1, q2, q3⟩
        · rw [q1, q2, q3]
          by_cases x1 : x = 1
          · rw [if_pos x1, if_pos x1, if_pos rfl]
          · rw [if_neg x1, if_neg x1, if_pos rfl]
        · have c0 : ¬ psCa Q = 0 := fun z => by rw [z] at q3; exact absurd q3 (by decide)
          rw [q1, q2, if_neg c0, if_neg c0]
  · rfl
end SIM14
section SIM15
variable {C S P X R0 R1 R2 R3 R4 : Nat → Int32} {od sn ln : Nat}
/-- two runs of the reference for one of the class -/
theorem St_play (h : St C R0 R1 R2 R3 R4 od sn X ln S P) {R : gx_RR} {Q1 Q2 : gx_Ps} (h1 : Ro R Q1) (h2 : Ro R Q2) :
    (if R.1 = (-1) then (-2) else R.1) = (if plA Q1 = (-4) then (if plA Q2 = (-4) then nI (psCo Q2) else (-4)) else (-2)) ∧
    (if plA Q1 = (-4) then chn false sn else sn) = (if R.1 = (-1) then sn else kSn R.1 sn) ∧
    St (if R.1 = (-1) then C else R.2.2.2.1) (if R.1 = (-1) then R0 else (if (od + sn) % 5 = 0 then C else R0)) (if R.1 = (-1) then R1 else (if (od + sn) % 5 = 1 then C else R1)) (if R.1 = (-1) then R2 else (if (od + sn) % 5 = 2 then C else R2)) (if R.1 = (-1) then R3 else (if (od + sn) % 5 = 3 then C else R3)) (if R.1 = (-1) then R4 else (if (od + sn) % 5 = 4 then C else R4)) (if R.1 = (-1) then od else kOd R.1 od sn) (if R.1 = (-1) then sn else kSn R.1 sn) X ln (if plA Q1 = (-4) then psS Q2 else S) (if plA Q1 = (-4) then chP false sn P S else P) := by
  have hst := h
  obtain ⟨g1, g2, g3, g4, g5⟩ := h
  rcases h1 with ⟨n, hn, a1, a2, a3, a4, a5⟩ | ⟨a1, a2, a3, a4, a5⟩
  · rcases h2 with ⟨n2, hn2, b1, b2, b3, b4, b5⟩ | ⟨b1, b2, b3, b4, b5⟩
    · have e1 : plA Q1 = -4 := by unfold plA; rw [a3]; rfl
      have e2 : plA Q2 = -4 := by unfold plA; rw [b3]; rfl
      have ne : ¬ R.1 = -1 := by rw [a1]; exact nI_m1 (by omega)
      have np : ¬ R.1 < 0 := by rw [a1]; exact nI_pos (by omega)
      simp only [if_neg ne, if_pos e1, if_pos e2]
      refine ⟨by rw [b1, b4], ?_, ?_⟩
      · unfold chn kSn
        rw [if_neg Bool.false_ne_true, if_neg np]
        by_cases z : sn < 4
        · rw [if_pos z, if_neg (by omega)]
        · rw [if_neg z, if_pos (by omega)]; omega
      · unfold kOd kSn
        rw [if_neg np, if_neg np]
        exact ⟨b5, by constructor <;> split <;> omega, Hy_yes g3 g2.1 g2.2 g1, g4, g5⟩
    · rw [a1] at b1
      exact absurd b1 (nI_m1 (by omega))
  · have e1 : ¬ plA Q1 = -4 := by unfold plA; rw [a2]; exact nI_m4 (by omega)
    simp only [if_pos a1, if_neg e1]
    exact ⟨trivial, trivial, hst⟩
end SIM15
