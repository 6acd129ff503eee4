/-! Acts, further: consents, mergings, refunds, settings. -/
section ACTS3
variable {C G F D H V J Q S : Nat → Int32} {a b c e od sn : Nat}
theorem HS_D1 (hs : HS G F D H V J Q S a b c e) {d p : Nat} (hd : d < b) (hp : p < 6) : D (7 * d + 1 + p) = sD S d (1 + p) := by
  rw [Nat.add_assoc]
  exact hs.2.2.1 d hd (1 + p) (by omega)
theorem sTwo_L (h : LJ C G F D H V J Q S a b c e od sn) {p q : Nat} (hp : p < a) (hq : q < a) (hpq : ¬ p = q) : sTwo S (nI p) (nI q) = true := by
  have hb := LJ_b h
  unfold sTwo
  rw [isP_L h hp, isP_L h hq, decide_eq_true (show ¬ nI p = nI q from fun z => hpq ((nI_eq (by omega) (by omega)).mp z))]
  rfl
theorem t_ag_same (h : LJ C G F D H V J Q S a b c e od sn) {d p : Nat} : (bAgree C (nI d) (nI p) (nI p)).1 = -1 ∧ LI (bAgree C (nI d) (nI p) (nI p)).2 G F D H V J Q (kOd (bAgree C (nI d) (nI p) (nI p)).1 od sn) (kSn (bAgree C (nI d) (nI p) (nI p)).1 sn) :=
  LI_no h (x_agree h.1 _ _ _) (by
    unfold mAgree
    rw [if_neg]
    unfold sTwo
    simp)
theorem t_ag_no (h : LJ C G F D H V J Q S a b c e od sn) {d p q : Nat} (hd : d < b) (hp : p < a) (hq : q < a) (hpq : ¬ p = q) (hn : nI p = 0 ∨ 0 ≤ F (10 * p + 9) ∨ 0 ≤ F (10 * q + 9)) : (bAgree C (nI d) (nI p) (nI q)).1 = -2 ∧ LI (bAgree C (nI d) (nI p) (nI q)).2 G F D H V J Q (kOd (bAgree C (nI d) (nI p) (nI q)).1 od sn) (kSn (bAgree C (nI d) (nI p) (nI q)).1 sn) := by
  have hb := LJ_b h
  refine LI_no h (x_agree h.1 _ _ _) (by
    unfold mAgree
    rw [isD_L h hd, sTwo_L h hp hq hpq, nI_clamp (n := p) (by omega), nI_clamp (n := q) (by omega), F9 h hp, F9 h hq, if_pos (by rfl), if_pos]
    rw [decide_eq_true_eq, decide_eq_true_eq]
    rcases hn with z | z | z
    · exact Or.inr (Or.inr z)
    · exact Or.inl z
    · exact Or.inr (Or.inl z))
theorem t_ag_ok (h : LJ C G F D H V J Q S a b c e od sn) {d p q : Nat} (hd : d < b) (hp : p < a) (hq : q < a) (hpq : ¬ p = q) (h0 : ¬ nI p = 0) (h1 : ¬ 0 ≤ F (10 * p + 9)) (h2 : ¬ 0 ≤ F (10 * q + 9)) : (bAgree C (nI d) (nI p) (nI q)).1 = wtN S (nI d) (nI p) c ∧ LI (bAgree C (nI d) (nI p) (nI q)).2 G F (upd D (7 * d + 1 + p) (nI q)) H V J Q (kOd (bAgree C (nI d) (nI p) (nI q)).1 od sn) (kSn (bAgree C (nI d) (nI p) (nI q)).1 sn) := by
  have hb := LJ_b h
  have e1 : wtN S (nI d) (nI p) c = mWtN (uD S d (1 + p) (nI q)) (nI d) (nI p) c := by
    rw [wt_m (Rx_up h.1 (by omega)) _ _ c (Nat.le_refl _)]
    have z : ∀ n, n ≤ c → mWtN S (nI d) (nI p) n = mWtN (uD S d (1 + p) (nI q)) (nI d) (nI p) n := by
      intro n
      induction n with
      | zero => exact fun _ => rfl
      | succ n ih =>
        intro hn
        have w : ∀ j, j < 7 → sG (uD S d (1 + p) (nI q)) n j = sG S n j := fun j hj => upd_ne (by omega)
        unfold mWtN
        rw [ih (by omega), w 0 (by omega), w 1 (by omega), w 2 (by omega), w 5 (by omega)]
    exact z c (Nat.le_refl _)
  rw [e1]
  have hs := HS_D (j := 1 + p) (v := nI q) h.2.1 (LJ_b3 h) hd (by omega)
  rw [← Nat.add_assoc] at hs
  refine LI_yes h.2.2.2.2.1 h.2.2.2.2.2 (x_agree h.1 _ _ _) (S' := uD S d (1 + p) (nI q)) ?_ (sOk_uD h.1.2.1 (by omega) (by omega)) hs (AC_same h.2.2.1 (fun p hp k hk => upd_ne (by omega))) (KM_same h.2.2.2.1 (fun g hg => upd_ne (by omega)) (fun k hk j hj => upd_ne (by omega)))
  unfold mAgree
  rw [isD_L h hd, sTwo_L h hp hq hpq, nI_clamp (n := p) (by omega), nI_clamp (n := q) (by omega), nI_clamp (n := d) (by omega), F9 h hp, F9 h hq, decide_eq_false h1, decide_eq_false h2, if_pos (by rfl), if_neg (by simp [h0])]
-- mergings
theorem t_mg_same (h : LJ C G F D H V J Q S a b c e od sn) {p : Nat} : (bMerge C (nI p) (nI p)).1 = -1 ∧ LJ (bMerge C (nI p) (nI p)).2 G F D H V J Q S a b c e (kOd (bMerge C (nI p) (nI p)).1 od sn) (kSn (bMerge C (nI p) (nI p)).1 sn) :=
  LJ_no h (x_merge h.1 _ _) (by
    unfold mMerge
    rw [if_neg]
    unfold sTwo
    simp)
theorem t_cons_same (h : LJ C G F D H V J Q S a b c e od sn) {p : Nat} : bConsents C (nI p) (nI p) = -1 := by
  rw [x_consents h.1]
  unfold mConsents
  rw [if_neg]
  unfold sTwo
  simp
theorem t_mg_no (h : LJ C G F D H V J Q S a b c e od sn) {p q : Nat} (hp : p < a) (hq : q < a) (hpq : ¬ p = q) (hn : nI p = 0 ∨ 0 ≤ F (10 * p + 9) ∨ 0 ≤ F (10 * q + 9) ∨ wsN S c p (-1) b = 0 ∨ wsN S c p (nI q) b * 100 < wsN S c p (-1) b * G 0) : (bMerge C (nI p) (nI q)).1 = -2 ∧ LI (bMerge C (nI p) (nI q)).2 G F D H V J Q (kOd (bMerge C (nI p) (nI q)).1 od sn) (kSn (bMerge C (nI p) (nI q)).1 sn) := by
  have hb := LJ_b h
  have hx := Rx_up h.1 (by omega)
  rw [ws_m hx p (Or.inl rfl), ws_m hx p (Or.inr ⟨q, hq, rfl⟩), h.2.1.1.1] at hn
  refine LI_no h (x_merge h.1 _ _) (by
    unfold mMerge
    rw [sTwo_L h hp hq hpq, nI_clamp (n := p) (by omega), nI_clamp (n := q) (by omega), F9 h hp, F9 h hq, if_pos (by rfl), if_pos]
    rw [decide_eq_true_eq, decide_eq_true_eq, Int32.mul_comm 100, Int32.mul_comm (S 0)]
    rcases hn with z | z | z | z | z
    · exact Or.inr (Or.inr (Or.inl z))
    · exact Or.inl z
    · exact Or.inr (Or.inl z)
    · exact Or.inr (Or.inr (Or.inr (Or.inl z)))
    · exact Or.inr (Or.inr (Or.inr (Or.inr z))))
theorem uP9_aP8 {X : Nat → Int32} {p : Nat} {f v : Int32} : uP (aP X p 8 f) p 9 v = aP (uP X p 9 v) p 8 f := by
  show upd (upd X (7 + 11 * p + 8) (X (7 + 11 * p + 8) + f)) (7 + 11 * p + 9) v = upd (upd X (7 + 11 * p + 9) v) (7 + 11 * p + 8) (upd X (7 + 11 * p + 9) v (7 + 11 * p + 8) + f)
  rw [upd_ne (f := X) (k := 7 + 11 * p + 9) (j := 7 + 11 * p + 8) (by omega)]
  exact upd_comm (by omega)
theorem HS_mg1 {F1 F2 F3 F4 F5 : Nat → Int32} (hs : HS G F D H V J Q S a b c e) (hb : a ≤ 6 ∧ b ≤ 8 ∧ c ≤ 24) {p q : Nat} (hp : p < a) (hq : q < a)
    (h1 : F1 = upd F (10 * p) 0) (h2 : F2 = upd F1 (10 * p + 8) (F1 (10 * p + 8) + F (10 * p))) (h3 : F3 = upd F2 (10 * p + 9) (nI q)) (h4 : F4 = upd F3 (10 * q) (F3 (10 * q) + F (10 * p))) (h5 : F5 = upd F4 (10 * q + 7) (F4 (10 * q + 7) + F (10 * p))) : HS G F5 D H V J Q (mMerge1 S p q) a b c e := by
  have e0 : F (10 * p) = sP S p 0 := hs.2.1 p hp 0 (by omega)
  rw [e0] at h2 h4 h5
  have s1 := HS_F (p := p) (k := 0) (v := 0) hs hb hp (by omega)
  rw [show upd F (10 * p + 0) 0 = F1 from h1.symm] at s1
  have s2 := HS_aF (p := p) (k := 8) (v := sP S p 0) s1 hb hp (by omega)
  rw [← h2] at s2
  have s3 := HS_F (p := p) (k := 9) (v := nI q) s2 hb hp (by omega)
  rw [← h3] at s3
  have s4 := HS_aF (p := q) (k := 0) (v := sP S p 0) s3 hb hq (by omega)
  rw [show upd F3 (10 * q + 0) (F3 (10 * q + 0) + sP S p 0) = F4 from h4.symm] at s4
  have s5 := HS_aF (p := q) (k := 7) (v := sP S p 0) s4 hb hq (by omega)
  rw [← h5] at s5
  unfold mMerge1
  rw [uP9_aP8] at s5
  exact s5
theorem HS_row {Q' S' : Nat → Int32} {k : Nat} (hs : HS G F D H V J Q S a b c e) (hb : a ≤ 6 ∧ b ≤ 8 ∧ c ≤ 24) (hQ : ∀ i, (i < 8 * k ∨ 8 * k + 7 < i) → Q' i = Q i) (hS : ∀ i, (i < 297 + 8 * k ∨ 297 + 8 * k + 7 < i) → S' i = S i) (hr : ∀ j, j < 8 → Q' (8 * k + j) = sK S' k j) : HS G F D H V J Q' S' a b c e := by
  obtain ⟨⟨g0, g1, g2, g3, g4, g5, g6, g7⟩, hF, hD, hG, hK⟩ := hs
  refine ⟨⟨g0.trans (hS _ (by omega)).symm, g1.trans (hS _ (by omega)).symm, g2, g3, g4, g5, g6.trans (hS _ (by omega)).symm, g7.trans (hS _ (by omega)).symm⟩, fun q hq j hj => (hF q hq j hj).trans (hS _ (by omega)).symm, fun d hd j hj => (hD d hd j hj).trans (hS _ (by omega)).symm, fun g hg => ?_, fun q hq j hj => ?_⟩
  · have n : ∀ i, i < 7 → sG S' g i = sG S g i := fun i hi => hS _ (by omega)
    rw [n 0 (by omega), n 1 (by omega), n 2 (by omega), n 3 (by omega), n 4 (by omega), n 5 (by omega), n 6 (by omega)]
    exact hG g hg
  · by_cases w : q = k
    · subst w; exact hr j hj
    · exact (hQ _ (by omega)).trans ((hK q hq j hj).trans (hS _ (by omega)).symm)
theorem uK_at {X : Nat → Int32} {k i j : Nat} {v : Int32} (hi : i < 8) (hj : j < 8) : sK (uK X k i v) k j = if j = i then v else sK X k j := by
  by_cases w : j = i
  · subst w; rw [if_pos rfl]; exact uK_eq
  · rw [if_neg w]; exact uK_ne hi hj (Or.inr (fun z => w z.symm))
theorem updQ {X : Nat → Int32} {k i j : Nat} {v : Int32} : upd X (8 * k + i) v (8 * k + j) = if j = i then v else X (8 * k + j) := by
  by_cases w : j = i
  · subst w; rw [if_pos rfl]; exact upd_eq
  · rw [if_neg w]; exact upd_ne (by omega)
theorem hand_no {p k : Nat} {y : Int32} (h : ¬ (sK (mHandN S p y k) k 5 = 0 ∧ sK (mHandN S p y k) k 1 = nI p)) : mHandN S p y (k + 1) = mHandN S p y k := if_neg h
theorem HS_hand1 {p k : Nat} {y : Int32} (hs : HS G F D H V J Q (mHandN S p y k) a b c e) (hb : a ≤ 6 ∧ b ≤ 8 ∧ c ≤ 24) {d : Nat} (ed : sK (mHandN S p y k) k 0 = nI d) (hd : d < b) (hp : p < 6) (hk : k < e) (h5 : Q (8 * k + 5) = 0) (h1 : Q (8 * k + 1) = nI p) (hD : D (7 * d + 1 + p) = y) : HS G F D H V J (upd (upd (upd Q (8 * k + 1) y) (8 * k + 5) 0) (8 * k + 7) (upd (upd Q (8 * k + 1) y) (8 * k + 5) 0 (8 * k + 7))) (mHandN S p y (k + 1)) a b c e := by
  have q : ∀ j, j < 8 → Q (8 * k + j) = sK (mHandN S p y k) k j := hs.2.2.2.2 k hk
  have eS : mHandN S p y (k + 1) = uK (mHandN S p y k) k 1 y := by
    show (if _ then (if _ then _ else _) else _) = _
    rw [if_pos ⟨(q 5 (by omega)).symm.trans h5, (q 1 (by omega)).symm.trans h1⟩, ed, nI_clamp (by omega), if_pos ((HS_D1 hs hd hp).symm.trans hD)]
  rw [eS]
  refine HS_row (S' := uK (mHandN S p y k) k 1 y) (k := k) hs hb (fun i hi => ?_) (fun i hi => show upd (mHandN S p y k) (297 + 8 * k + 1) y i = _ from upd_ne (by omega)) (fun j hj => ?_)
  · rw [upd_ne (by omega), upd_ne (by omega), upd_ne (by omega)]
  · rw [uK_at (by omega) hj]
    simp only [updQ]
    rcases (show j = 0 ∨ j = 1 ∨ j = 2 ∨ j = 3 ∨ j = 4 ∨ j = 5 ∨ j = 6 ∨ j = 7 by omega) with z | z | z | z | z | z | z | z
    all_goals subst z
    all_goals simp only [reduceIte, Nat.reduceEqDiff]
    all_goals first | rfl | exact q _ (by omega) | exact h5.symm.trans (q 5 (by omega))
theorem HS_hand2 {p k : Nat} {y : Int32} (hs : HS G F D H V J Q (mHandN S p y k) a b c e) (hb : a ≤ 6 ∧ b ≤ 8 ∧ c ≤ 24) {d : Nat} (ed : sK (mHandN S p y k) k 0 = nI d) (hd : d < b) (hp : p < 6) (hk : k < e) (h5 : Q (8 * k + 5) = 0) (h1 : Q (8 * k + 1) = nI p) (hD : ¬ D (7 * d + 1 + p) = y) : HS G F D H V J (upd (upd (upd Q (8 * k + 1) (nI p)) (8 * k + 5) 2) (8 * k + 7) 0) (mHandN S p y (k + 1)) a b c e := by
  have q : ∀ j, j < 8 → Q (8 * k + j) = sK (mHandN S p y k) k j := hs.2.2.2.2 k hk
  have eS : mHandN S p y (k + 1) = mEnds (mHandN S p y k) k 2 := by
    show (if _ then (if _ then _ else _) else _) = _
    rw [if_pos ⟨(q 5 (by omega)).symm.trans h5, (q 1 (by omega)).symm.trans h1⟩, ed, nI_clamp (by omega), if_neg (fun z => hD ((HS_D1 hs hd hp).trans z))]
  rw [eS]
  unfold mEnds
  refine HS_row (S' := uK (uK (mHandN S p y k) k 5 2) k 7 0) (k := k) hs hb (fun i hi => ?_) (fun i hi => (show upd (uK (mHandN S p y k) k 5 2) (297 + 8 * k + 7) 0 i = uK (mHandN S p y k) k 5 2 i from upd_ne (by omega)).trans (show upd (mHandN S p y k) (297 + 8 * k + 5) 2 i = _ from upd_ne (by omega))) (fun j hj => ?_)
  · rw [upd_ne (by omega), upd_ne (by omega), upd_ne (by omega)]
  · rw [uK_at (by omega) hj, uK_at (by omega) hj]
    simp only [updQ]
    rcases (show j = 0 ∨ j = 1 ∨ j = 2 ∨ j = 3 ∨ j = 4 ∨ j = 5 ∨ j = 6 ∨ j = 7 by omega) with z | z | z | z | z | z | z | z
    all_goals subst z
    all_goals simp only [reduceIte, Nat.reduceEqDiff]
    all_goals first | rfl | exact q _ (by omega) | exact h1.symm.trans (q 1 (by omega))
theorem KM_ends {k : Nat} {v : Int32} (h : KM S c e) (hb : c ≤ 24) : KM (mEnds S k v) c e := by
  refine ⟨fun k' hk' => ?_, fun g hg => ?_⟩
  · by_cases w : k' = k
    · subst w; exact Or.inr uK_eq
    · unfold mEnds
      rw [uK_ne (by omega) (by omega) (Or.inl (fun z => w z.symm)), uK_ne (by omega) (by omega) (Or.inl (fun z => w z.symm)), uK_ne (by omega) (by omega) (Or.inl (fun z => w z.symm)), uK_ne (by omega) (by omega) (Or.inl (fun z => w z.symm))]
      exact h.1 k' hk'
  · unfold mEnds
    rw [show sG (uK (uK S k 5 v) k 7 0) g 3 = sG S g 3 from (upd_ne (by omega)).trans (upd_ne (by omega))]
    exact h.2 g hg
theorem KM_hand {p : Nat} {y : Int32} (h : KM S c e) (hb : c ≤ 24) : ∀ k, KM (mHandN S p y k) c e := by
  intro k
  induction k with
  | zero => exact h
  | succ k ih =>
    unfold mHandN
    split
    · split
      · exact KM_uK ih hb (by omega) (Or.inr (Or.inl (by omega)))
      · exact KM_ends ih hb
    · exact ih
theorem AC_mg1 (h : AC S a) {p q : Nat} (hpq : ¬ p = q) : AC (mMerge1 S p q) a := by
  unfold mMerge1
  generalize hf : sP S p 0 = f
  have e0 : uP S p 0 0 = aP S p 0 (-f) := by
    show uP S p 0 0 = uP S p 0 (sP S p 0 + -f)
    rw [hf, Int32.add_right_neg]
  rw [AC_iff] at h ⊢
  intro r hr
  have n9 : ∀ (X : Nat → Int32) (v : Int32), df (uP X p 9 v) r = df X r := fun X v => by
    have n : ∀ j, j < 11 → j ≠ 9 → sP (uP X p 9 v) r j = sP X r j := fun j hj h9 => by rw [uP_at (by omega) hj, if_neg (fun z => h9 z.2)]
    unfold df due
    rw [n 0 (by omega) (by omega), n 1 (by omega) (by omega), n 2 (by omega) (by omega), n 3 (by omega) (by omega), n 4 (by omega) (by omega), n 5 (by omega) (by omega), n 6 (by omega) (by omega), n 7 (by omega) (by omega), n 8 (by omega) (by omega)]
    by_cases z : r = 0
    · subst z; rw [if_pos rfl, if_pos rfl, n 10 (by omega) (by omega)]
    · rw [if_neg z, if_neg z]
  rw [e0, df_aP (by omega) (by omega), df_aP (by omega) (by omega), df_aP (by omega) (by omega), n9, df_aP (by omega) (by omega), (h r hr).1]
  constructor
  · simp only [cf, reduceIte, Nat.reduceEqDiff, or_self, or_true, true_or, or_false, false_or]
    by_cases w0 : r = p
    · rw [if_pos w0, if_neg (fun z => hpq (w0.symm.trans z)), if_neg (fun z => hpq (w0.symm.trans z)), if_pos w0]
      grind
    · rw [if_neg w0, if_neg w0]
      by_cases w1 : r = q
      · rw [if_pos w1, if_pos w1]; grind
      · rw [if_neg w1, if_neg w1]
  · intro hr0
    rw [aP_10 (by omega) (Or.inl (by omega)), aP_10 (by omega) (Or.inl (by omega)), aP_10 (by omega) (Or.inl (by omega)), uP_at (by omega) (by omega), if_neg (by omega), aP_10 (by omega) (Or.inl (by omega))]
    exact (h r hr).2 hr0
theorem t_mg_ok {F' D' Q' : Nat → Int32} (h : LJ C G F D H V J Q S a b c e od sn) {p q : Nat} (hp : p < a) (hq : q < a) (hpq : ¬ p = q) (h0 : ¬ nI p = 0) (h1 : ¬ 0 ≤ F (10 * p + 9)) (h2 : ¬ 0 ≤ F (10 * q + 9)) (h3 : ¬ wsN S c p (-1) b = 0) (h4 : ¬ wsN S c p (nI q) b * 100 < wsN S c p (-1) b * G 0)
    (hs : HS G F' D' H V J Q' (mForgN (mHandN (mMerge1 S p q) p (nI q) e) p b) a b c e) : (bMerge C (nI p) (nI q)).1 = F (10 * p) ∧ LI (bMerge C (nI p) (nI q)).2 G F' D' H V J Q' (kOd (bMerge C (nI p) (nI q)).1 od sn) (kSn (bMerge C (nI p) (nI q)).1 sn) := by
  have hb := LJ_b h
  have hx := Rx_up h.1 (by omega)
  rw [ws_m hx p (Or.inl rfl)] at h3 h4
  rw [ws_m hx p (Or.inr ⟨q, hq, rfl⟩), h.2.1.1.1] at h4
  rw [show F (10 * p) = sP S p 0 from h.2.1.2.1 p hp 0 (by omega)]
  have cp : sClosed S p = false := by rw [F9 h hp]; exact decide_eq_false h1
  have cq : sClosed S q = false := by rw [F9 h hq]; exact decide_eq_false h2
  refine LI_yes h.2.2.2.2.1 h.2.2.2.2.2 (x_merge h.1 _ _) (S' := mForgN (mHandN (mMerge1 S p q) p (nI q) e) p b) ?_ (mMerge_ok h.1.2.1 hp hq hpq cp cq) hs (AC_same (AC_mg1 h.2.2.1 hpq) (fun r hr k hk => ?_)) ?_
  · unfold mMerge
    rw [sTwo_L h hp hq hpq, nI_clamp (n := p) (by omega), nI_clamp (n := q) (by omega), cp, cq, if_pos (by rfl), if_neg]
    rw [Int32.mul_comm 100, Int32.mul_comm (S 0)]
    intro z
    rcases z with z | z | z | z | z
    · exact absurd z (by decide)
    · exact absurd z (by decide)
    · exact h0 z
    · exact h3 z
    · exact h4 z
  · exact (mForgN_lo (by omega) _).trans (mHandN_lo (by omega) _)
  · have hk1 : KM (mMerge1 S p q) c e := KM_same h.2.2.2.1 (fun g hg => mMerge1_hi (by omega) (by omega) (by omega)) (fun k hk j hj => mMerge1_hi (by omega) (by omega) (by omega))
    exact KM_same (KM_hand (p := p) (y := nI q) hk1 (by omega) e) (fun g hg => mForgN_out (by omega) (by omega) _ (by omega)) (fun k hk j hj => mForgN_out (by omega) (by omega) _ (by omega))
-- refunds
theorem t_rf_none (h : LJ C G F D H V J Q S a b c e od sn) (hc : nI c = 0) : (bRefund C 0).1 = -1 ∧ LI (bRefund C 0).2 G F D H V J Q (kOd (bRefund C 0).1 od sn) (kSn (bRefund C 0).1 sn) :=
  LI_no h (x_refund h.1 0) (by unfold mRefund; rw [h.1.2.1.1.2.2.1, hc]; rfl)
theorem rf_in (h : LJ C G F D H V J Q S a b c e od sn) {g : Nat} (hg : g < c) : ¬ nI g < 0 ∧ nI g < S 4 := by
  have hb := LJ_b h
  rw [h.1.2.1.1.2.2.1]
  exact ⟨nI_pos (by omega), nI_lt hg (by omega)⟩
theorem t_rf_no (h : LJ C G F D H V J Q S a b c e od sn) {g p q : Nat} {t : Int32} (hg : g < c) (ep : sG S g 1 = nI p) (hp : p < a) (eq : sHome S p = q) (hq : q < a) (ht : t = if J (2 * g) = 1 then V (2 * g) / 4 else 0) (hn : ¬ J (2 * g) ≤ 1 ∨ F (10 * q) < V (2 * g) + t) : (bRefund C (nI g)).1 = -2 ∧ LI (bRefund C (nI g)).2 G F D H V J Q (kOd (bRefund C (nI g)).1 od sn) (kSn (bRefund C (nI g)).1 sn) := by
  have hb := LJ_b h
  have ok := h.1.2.2.2.2.2.1 g hg
  obtain ⟨⟨z0, z1, z2, z3⟩, z4, z5⟩ := h.2.1.2.2.2.1 g hg
  have hj := hJ_of ok.2.1 ok.2.2.1
  rw [z4, z2] at ht
  rw [z4, z2, show F (10 * q) = sP S q 0 from h.2.1.2.1 q hq 0 (by omega)] at hn
  refine LI_no h (x_refund h.1 _) (by
    unfold mRefund
    rw [if_pos (rf_in h hg), nI_clamp (n := g) (by omega), ep, nI_clamp (by omega), eq, if_pos]
    by_cases w : sG S g 5 = 1
    · exact Or.inl w
    · right
      have w0 := ok.2.2.1.resolve_right w
      have n1 := hn.resolve_left (fun z => z (hj.2.2.2.1.mpr w0))
      have et : mRefT S g = t := by
        unfold mRefT
        rw [ht]
        by_cases y : sG S g 4 = 1
        · rw [if_pos y, if_pos (hj.2.1.mpr ⟨y, w0⟩)]
        · rw [if_neg y, if_neg (fun z => y (hj.2.1.mp z).1)]
      rw [et]
      exact n1)
theorem t_rf_ok {F1 F2 F3 : Nat → Int32} (h : LJ C G F D H V J Q S a b c e od sn) {g p q : Nat} {t : Int32} (hg : g < c) (ep : sG S g 1 = nI p) (hp : p < a) (eq : sHome S p = q) (hq : q < a) (ht : t = if J (2 * g) = 1 then V (2 * g) / 4 else 0) (hn1 : J (2 * g) ≤ 1) (hn2 : ¬ F (10 * q) < V (2 * g) + t)
    (h1 : F1 = upd F (10 * q) (F (10 * q) - (V (2 * g) + t))) (h2 : F2 = upd F1 (10 * q + 5) (F1 (10 * q + 5) + V (2 * g))) (h3 : F3 = upd F2 (10 * q + 6) (F2 (10 * q + 6) + t)) : (bRefund C (nI g)).1 = t ∧ LI (bRefund C (nI g)).2 G F3 D H V (upd J (2 * g) (J (2 * g) + 2)) Q (kOd (bRefund C (nI g)).1 od sn) (kSn (bRefund C (nI g)).1 sn) := by
  have hb := LJ_b h
  have hb3 := LJ_b3 h
  have ok := h.1.2.2.2.2.2.1 g hg
  obtain ⟨⟨z0, z1, z2, z3⟩, z4, z5⟩ := h.2.1.2.2.2.1 g hg
  have hj := hJ_of ok.2.1 ok.2.2.1
  rw [z4] at hn1
  have w0 : sG S g 5 = 0 := hj.2.2.2.1.mp hn1
  rw [z4, z2] at ht
  rw [z2, show F (10 * q) = sP S q 0 from h.2.1.2.1 q hq 0 (by omega)] at hn2
  have et : mRefT S g = t := by
    unfold mRefT
    rw [ht]
    by_cases y : sG S g 4 = 1
    · rw [if_pos y, if_pos (hj.2.1.mpr ⟨y, w0⟩)]
    · rw [if_neg y, if_neg (fun z => y (hj.2.1.mp z).1)]
  have c1 : F (10 * q) - (V (2 * g) + t) = F (10 * q) + (-(sG S g 2) - t) := by
    rw [z2, Int32.sub_eq_add_neg, Int32.neg_add, Int32.sub_eq_add_neg (-(sG S g 2))]
  rw [c1] at h1
  rw [z2] at h2
  have s1 := HS_aF (p := q) (k := 0) (v := -(sG S g 2) - t) h.2.1 hb3 hq (by omega)
  rw [show upd F (10 * q + 0) (F (10 * q + 0) + (-(sG S g 2) - t)) = F1 from h1.symm] at s1
  have s2 := HS_aF (p := q) (k := 5) (v := sG S g 2) s1 hb3 hq (by omega)
  rw [← h2] at s2
  have s3 := HS_aF (p := q) (k := 6) (v := t) s2 hb3 hq (by omega)
  rw [← h3] at s3
  have n5 : ∀ j, j < 7 → sG (aP (aP (aP S q 0 (-(sG S g 2) - t)) q 5 (sG S g 2)) q 6 t) g j = sG S g j := fun j hj => by
    unfold sG
    rw [aP_hi (by omega) (by omega) (by omega), aP_hi (by omega) (by omega) (by omega), aP_hi (by omega) (by omega) (by omega)]
  have s4 := HS_J (g0 := g) (i := 5) (v := 1) (w := J (2 * g) + 2) s3 hb3 hg (Or.inr rfl) (by
    rw [if_neg (by omega), n5 4 (by omega), z4, w0]
    rcases ok.2.1 with y | y <;> rw [y] <;> decide)
  have s4' : HS G F3 D H V (upd J (2 * g) (J (2 * g) + 2)) Q (mRefS S g q t) a b c e := s4
  have nP : ∀ i, 72 < i → i ≠ 129 + 7 * g + 5 → mRefS S g q t i = S i := fun i hi h5 => by
    unfold mRefS
    rw [upd_ne h5, aP_hi (by omega) (by omega) hi, aP_hi (by omega) (by omega) hi, aP_hi (by omega) (by omega) hi]
  have hA : AC (mRefS S g q t) a := by
    refine AC_same (S := aP (aP (aP S q 0 (-(sG S g 2) - t)) q 5 (sG S g 2)) q 6 t) ?_ (fun r hr k hk => upd_ne (by omega))
    have ha := h.2.2.1
    rw [AC_iff] at ha ⊢
    intro r hr
    rw [df_aP (by omega) (by omega), df_aP (by omega) (by omega), df_aP (by omega) (by omega), (ha r hr).1, aP_10 (by omega) (Or.inl (by omega)), aP_10 (by omega) (Or.inl (by omega)), aP_10 (by omega) (Or.inl (by omega))]
    refine ⟨?_, (ha r hr).2⟩
    simp only [cf, reduceIte, Nat.reduceEqDiff, or_self, or_true, true_or, or_false, false_or]
    by_cases w1 : r = q
    · rw [if_pos w1, if_pos w1, if_pos w1]; grind
    · rw [if_neg w1, if_neg w1, if_neg w1]
  refine LI_yes h.2.2.2.2.1 h.2.2.2.2.2 (x_refund h.1 _) (S' := mRefS S g q t) ?_ (mRef_ok h.1.2.1 hg hq) s4' hA (KM_same h.2.2.2.1 (fun g hg => nP _ (by omega) (by omega)) (fun k hk j hj => nP _ (by omega) (by omega)))
  unfold mRefund
  rw [if_pos (rf_in h hg), nI_clamp (n := g) (by omega), ep, nI_clamp (by omega), eq, et, if_neg]
  intro z
  rcases z with z | z
  · rw [w0] at z; exact absurd z (by decide)
  · exact hn2 z
-- settings
theorem t_set0 (h : LJ C G F D H V J Q S a b c e od sn) {m : Nat} (hm : 1 ≤ m ∧ m ≤ 100) : (bSet C 0 (nI m)).1 = G 0 ∧ LI (bSet C 0 (nI m)).2 (upd G 0 (nI m)) F D H V J Q (kOd (bSet C 0 (nI m)).1 od sn) (kSn (bSet C 0 (nI m)).1 sn) := by
  rw [h.2.1.1.1]
  exact LI_yes h.2.2.2.2.1 h.2.2.2.2.2 (x_set h.1 _ _) (S' := upd S 0 (nI m)) (by
    unfold mSet
    rw [if_pos (show (0 : Int32) = 0 from rfl), if_pos (show (0 : Int32) = 0 from rfl), show bIn (nI m) 1 100 = true from bIn_n (lo := 1) (hi := 100) hm.1 hm.2 (by omega)]
    rfl) (sOk_upd h.1.2.1 (by omega) (fun q hq => by omega) (fun g hg => by omega) (fun g hg => by omega)) (HS_set h.2.1 (Or.inl rfl)) (AC_same h.2.2.1 (fun p hp k hk => upd_ne (by omega))) (KM_same h.2.2.2.1 (fun g hg => upd_ne (by omega)) (fun k hk j hj => upd_ne (by omega)))
theorem t_set1 (h : LJ C G F D H V J Q S a b c e od sn) {m : Nat} (hm : m ≤ 99999) : (bSet C 1 (nI m)).1 = G 1 ∧ LI (bSet C 1 (nI m)).2 (upd G 1 (nI m)) F D H V J Q (kOd (bSet C 1 (nI m)).1 od sn) (kSn (bSet C 1 (nI m)).1 sn) := by
  rw [h.2.1.1.2.1]
  exact LI_yes h.2.2.2.2.1 h.2.2.2.2.2 (x_set h.1 _ _) (S' := upd S 1 (nI m)) (by
    unfold mSet
    rw [if_neg (show ¬ (1 : Int32) = 0 by decide), if_neg (show ¬ (1 : Int32) = 0 by decide), show bIn (nI m) 0 99999 = true from bIn_n (lo := 0) (hi := 99999) (Nat.zero_le _) hm (by omega)]
    rfl) (sOk_upd h.1.2.1 (by omega) (fun q hq => by omega) (fun g hg => by omega) (fun g hg => by omega)) (HS_set h.2.1 (Or.inr (Or.inl rfl))) (AC_same h.2.2.1 (fun p hp k hk => upd_ne (by omega))) (KM_same h.2.2.2.1 (fun g hg => upd_ne (by omega)) (fun k hk j hj => upd_ne (by omega)))
end ACTS3
