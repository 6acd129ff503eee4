/-! The past; the whole state of both. -/
section SIM11
variable {C S : Nat → Int32} {a b c e : Nat} {T : Int}
theorem Rx_cong {S' : Nat → Int32} (h : Rx C S a b c e T) (hh : ∀ j, j < 345 → S' j = S j) : Rx C S' a b c e T := by
  have hb := Rx_b h
  obtain ⟨⟨n0, ⟨t1, t2, t3⟩, rP, rD, rG, rK, zz⟩, hO, hB⟩ := h
  refine ⟨⟨n0, ⟨?_, ?_, ?_⟩, fun p hp => ⟨fun k hk => ?_, ?_, ?_, ?_⟩, fun d hd => ⟨?_, fun j hj => ?_, fun j hj haj => ?_⟩, fun g hg => ⟨fun j hj => ?_, ?_⟩, fun k hk j hj => ?_, zz⟩, ?_, ?_⟩
  · rw [hh 6 (by omega)]; exact t1
  · rw [hh 0 (by omega)]; exact t2
  · rw [hh 1 (by omega)]; exact t3
  · exact ((rP p hp).1 k hk).trans (hh _ (by omega)).symm
  · rw [show sP S' p 9 = sP S p 9 from hh _ (by omega)]; exact (rP p hp).2.1
  · rw [sHome_congr (T := S') hO (fun q hq => hh _ (by omega)) hp]; exact (rP p hp).2.2.1
  · exact (rP p hp).2.2.2.trans (hh _ (by omega)).symm
  · exact (rD d hd).1.trans (hh _ (by omega)).symm
  · rw [show sD S' d (1 + j) = sD S d (1 + j) from hh _ (by omega)]; exact (rD d hd).2.1 j hj
  · rw [show sD S' d (1 + j) = sD S d (1 + j) from hh _ (by omega)]; exact (rD d hd).2.2 j hj haj
  · exact ((rG g hg).1 j hj).trans (hh _ (by omega)).symm
  · rw [show sG S' g 6 = sG S g 6 from hh _ (by omega)]; exact (rG g hg).2
  · exact (rK k hk j hj).trans (hh _ (by omega)).symm
  · exact sOk_same hO (fun i h1 h2 => hh i (by omega)) (fun p hp => hh _ (by omega)) (fun g hg => ⟨hh _ (by omega), hh _ (by omega)⟩) (fun k hk => ⟨hh _ (by omega), hh _ (by omega)⟩)
  · obtain ⟨h1, h2, h3, h4, h5, h6⟩ := hB
    refine ⟨?_, fun p hp => okP_c (h2 p hp) (hh _ (by omega)) (hh _ (by omega)), fun d hd => okD_c (h3 d hd) (fun j hj => hh _ (by omega)), fun g hg => okG_c (h4 g hg) (fun j hj => hh _ (by omega)), fun k hk => okK_c (h5 k hk) (fun j hj => hh _ (by omega)), ?_⟩
    · rw [hh 0 (by omega), hh 1 (by omega), hh 6 (by omega)]; exact h1
    · rw [smI_congr (f := gW S) (g := gW S') (fun g hg => gW_c (hh _ (by omega))), smI_congr (f := fI S) (g := fI S') (fun p hp => congrArg Int32.toInt (hh _ (by omega)))]
      exact h6
def Ry (C S : Nat → Int32) : Prop := ∃ a b c e, Rx C S a b c e 999
theorem Ry_cong {S' : Nat → Int32} (h : Ry C S) (hh : ∀ j, j < 345 → S' j = S j) : Ry C S' := by
  obtain ⟨a, b, c, e, h⟩ := h
  exact ⟨a, b, c, e, Rx_cong h hh⟩
end SIM11
/-- the states past -/
def Hy (R0 R1 R2 R3 R4 : Nat → Int32) (od sn : Nat) (P : Nat → Int32) : Prop := ∀ i, i < sn → Ry (rSel R0 R1 R2 R3 R4 ((od + i) % 5)) (fun j => P (345 * i + j))
theorem rSel_put {C R0 R1 R2 R3 R4 : Nat → Int32} {q j : Nat} (hj : j < 5) : rSel (if q = 0 then C else R0) (if q = 1 then C else R1) (if q = 2 then C else R2) (if q = 3 then C else R3) (if q = 4 then C else R4) j = if j = q then C else rSel R0 R1 R2 R3 R4 j := by
  rcases (show j = 0 ∨ j = 1 ∨ j = 2 ∨ j = 3 ∨ j = 4 by omega) with z | z | z | z | z <;> subst z
  · show (if q = 0 then C else R0) = if 0 = q then C else R0
    by_cases w : q = 0
    · rw [if_pos w, if_pos w.symm]
    · rw [if_neg w, if_neg (fun v => w v.symm)]
  · show (if q = 1 then C else R1) = if 1 = q then C else R1
    by_cases w : q = 1
    · rw [if_pos w, if_pos w.symm]
    · rw [if_neg w, if_neg (fun v => w v.symm)]
  · show (if q = 2 then C else R2) = if 2 = q then C else R2
    by_cases w : q = 2
    · rw [if_pos w, if_pos w.symm]
    · rw [if_neg w, if_neg (fun v => w v.symm)]
  · show (if q = 3 then C else R3) = if 3 = q then C else R3
    by_cases w : q = 3
    · rw [if_pos w, if_pos w.symm]
    · rw [if_neg w, if_neg (fun v => w v.symm)]
  · show (if q = 4 then C else R4) = if 4 = q then C else R4
    by_cases w : q = 4
    · rw [if_pos w, if_pos w.symm]
    · rw [if_neg w, if_neg (fun v => w v.symm)]
section SIM12
variable {C S P R0 R1 R2 R3 R4 : Nat → Int32} {od sn : Nat}
theorem Hy_no (h : Hy R0 R1 R2 R3 R4 od sn P) (ho : od ≤ 4) (hs : sn ≤ 4) : Hy (if (od + sn) % 5 = 0 then C else R0) (if (od + sn) % 5 = 1 then C else R1) (if (od + sn) % 5 = 2 then C else R2) (if (od + sn) % 5 = 3 then C else R3) (if (od + sn) % 5 = 4 then C else R4) od sn P := fun i hi => by
  rw [rSel_put (by omega), if_neg (by omega)]
  exact h i hi
theorem Hy_yes (h : Hy R0 R1 R2 R3 R4 od sn P) (ho : od ≤ 4) (hs : sn ≤ 4) (hR : Ry C S) : Hy (if (od + sn) % 5 = 0 then C else R0) (if (od + sn) % 5 = 1 then C else R1) (if (od + sn) % 5 = 2 then C else R2) (if (od + sn) % 5 = 3 then C else R3) (if (od + sn) % 5 = 4 then C else R4) (if sn < 4 then od else (od + 1) % 5) (if sn < 4 then sn + 1 else sn) (chP false sn P S) := by
  by_cases w : sn < 4
  · rw [if_pos w, if_pos w]
    have e : chP false sn P S = ptN P S sn 345 := by unfold chP; rw [if_neg (by decide), if_neg (by omega)]
    rw [e]
    intro i hi
    rw [rSel_put (by omega)]
    by_cases z : i = sn
    · subst z
      rw [if_pos rfl]
      refine Ry_cong hR (fun j hj => ?_)
      show ptN P S i 345 (345 * i + j) = S j
      unfold ptN
      rw [if_pos (by omega)]
      exact congrArg S (by omega)
    · rw [if_neg (by omega)]
      refine Ry_cong (h i (by omega)) (fun j hj => ?_)
      show ptN P S sn 345 (345 * i + j) = P (345 * i + j)
      unfold ptN
      rw [if_neg (by omega)]
  · have e4 : sn = 4 := by omega
    subst e4
    rw [if_neg w, if_neg w]
    have e : chP false 4 P S = ptN (shN P 1035) S 3 345 := by unfold chP; rw [if_neg (by decide), if_pos rfl]
    rw [e]
    intro i hi
    rw [rSel_put (by omega)]
    by_cases z : i = 3
    · subst z
      rw [if_pos (by omega)]
      refine Ry_cong hR (fun j hj => ?_)
      show ptN (shN P 1035) S 3 345 (345 * 3 + j) = S j
      unfold ptN
      rw [if_pos (by omega)]
      exact congrArg S (by omega)
    · rw [if_neg (by omega), show ((od + 1) % 5 + i) % 5 = (od + (i + 1)) % 5 by omega]
      refine Ry_cong (h (i + 1) (by omega)) (fun j hj => ?_)
      show ptN (shN P 1035) S 3 345 (345 * i + j) = P (345 * (i + 1) + j)
      unfold ptN shN
      rw [if_neg (by omega), if_pos (by omega)]
      exact congrArg P (by omega)
end SIM12
/-- class and reference beside each other -/
def St (C R0 R1 R2 R3 R4 : Nat → Int32) (od sn : Nat) (X : Nat → Int32) (ln : Nat) (S P : Nat → Int32) : Prop := Ry C S ∧ (od ≤ 4 ∧ sn ≤ 4) ∧ Hy R0 R1 R2 R3 R4 od sn P ∧ ln ≤ 80 ∧ chOk X
section SIM13
variable {C S P X R0 R1 R2 R3 R4 : Nat → Int32} {od sn ln : Nat}
theorem St_sim {r : gx_R} {q : gx_M3} (hs : Sim r q 999) (h : St C R0 R1 R2 R3 R4 od sn X ln S P) : r.1 = q.1 ∧ kpn q.2.1 false sn = kSn r.1 sn ∧ St r.2 (if (od + sn) % 5 = 0 then C else R0) (if (od + sn) % 5 = 1 then C else R1) (if (od + sn) % 5 = 2 then C else R2) (if (od + sn) % 5 = 3 then C else R3) (if (od + sn) % 5 = 4 then C else R4) (kOd r.1 od sn) (kSn r.1 sn) X ln q.2.2 (kpP q.2.1 false sn P S) := by
  obtain ⟨h1, h2, h3⟩ := hs
  obtain ⟨g1, g2, g3, g4, g5⟩ := h
  refine ⟨h1, ?_, h3, ?_, ?_, g4, g5⟩
  · rw [h2, h1]
    unfold kpn kSn chn
    by_cases w : q.1 < 0
    · rw [if_pos w, if_neg (by rw [decide_eq_false (fun v => v w)]; decide)]
    · rw [if_neg w, if_pos (decide_eq_true w), if_neg (by decide)]
      by_cases z : sn < 4
      · rw [if_pos z, if_neg (by omega)]
      · rw [if_neg z, if_pos (by omega)]; omega
  · unfold kOd kSn
    by_cases w : r.1 < 0
    · rw [if_pos w, if_pos w]; exact g2
    · rw [if_neg w, if_neg w]
      split <;> omega
  · rw [h2, h1]
    unfold kOd kSn kpP
    by_cases w : q.1 < 0
    · have e : decide (¬ q.1 < 0) = false := decide_eq_false (fun v => v w)
      rw [if_pos w, if_pos w, e, if_neg Bool.false_ne_true]
      exact Hy_no g3 g2.1 g2.2
    · rw [if_neg w, if_neg w, if_pos (decide_eq_true w)]
      exact Hy_yes g3 g2.1 g2.2 g1
theorem St_undo (h : St C R0 R1 R2 R3 R4 od sn X ln S P) : St (if sn = 0 then C else rSel R0 R1 R2 R3 R4 ((od + (sn - 1)) % 5)) R0 R1 R2 R3 R4 od (sn - 1) X ln (if sn = 0 then S else fun j => P (345 * (sn - 1) + j)) P := by
  obtain ⟨g1, g2, g3, g4, g5⟩ := h
  refine ⟨?_, by omega, fun i hi => g3 i (by omega), g4, g5⟩
  by_cases w : sn = 0
  · rw [if_pos w, if_pos w]; exact g1
  · rw [if_neg w, if_neg w]; exact g3 (sn - 1) (by omega)
theorem St_type (h : St C R0 R1 R2 R3 R4 od sn X ln S P) (x : Int32) : St C R0 R1 R2 R3 R4 od sn (if bIn x 32 126 = true then (if ln = 80 then X else upd X ln x) else X) (if bIn x 32 126 = true then (if ln = 80 then ln else ln + 1) else ln) S P := by
  obtain ⟨g1, g2, g3, g4, g5⟩ := h
  refine ⟨g1, g2, g3, ?_, ?_⟩
  · split
    · split <;> omega
    · exact g4
  · split
    · next w =>
      split
      · exact g5
      · exact chOk_upd g5 (c_id w).2.1
    · exact g5
theorem St_clear (h : St C R0 R1 R2 R3 R4 od sn X ln S P) : St C R0 R1 R2 R3 R4 od sn X 0 S P := by
  obtain ⟨g1, g2, g3, g4, g5⟩ := h
  exact ⟨g1, g2, g3, by omega, g5⟩
end SIM13
set_option maxRecDepth 100000 in
theorem sB_new : sB sNew 1 0 0 0 999 := by
  refine ⟨⟨⟨by decide +kernel, by decide +kernel⟩, ⟨by decide +kernel, by decide +kernel⟩, by decide +kernel, by decide +kernel⟩, fun p hp => ?_, fun d hd => absurd hd (by omega), fun d hd => absurd hd (by omega), fun d hd => absurd hd (by omega), by decide +kernel⟩
  obtain rfl : p = 0 := by omega
  exact ⟨by decide +kernel, Or.inl (by decide +kernel)⟩
set_option maxRecDepth 100000 in
theorem sOk_new : sOk sNew 1 0 0 0 := by
  refine ⟨⟨by decide +kernel, by decide +kernel, by decide +kernel, by decide +kernel, by omega, by omega, by omega, by omega, by omega⟩, fun d hd => absurd hd (by omega), fun d hd => absurd hd (by omega), fun _ => 0, fun p hp => ⟨Nat.zero_le _, Or.inl ?_⟩⟩
  obtain rfl : p = 0 := by omega
  decide +kernel
theorem St_new : St cNew (fun _ => 0) (fun _ => 0) (fun _ => 0) (fun _ => 0) (fun _ => 0) 0 0 (fun _ => 0) 0 sNew (fun _ => 0) :=
  ⟨⟨1, 0, 0, 0, Rl_new, sOk_new, sB_new⟩, ⟨by omega, by omega⟩, fun i hi => absurd hi (by omega), by omega, fun _ => (by decide +kernel : narrow .char (.int (0 : Int32)) = .int (0 : Int32))⟩
