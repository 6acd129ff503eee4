/-! Each act of the law: the class answers what the law's house says, and both stay beside each other. -/
section ACTS
/-- pledges that don't run have no miss told; the months of gifts -/
def KM (S : Nat → Int32) (c e : Nat) : Prop := KZ S e ∧ ∀ g, g < c → 0 ≤ (sG S g 3).toInt ∧ (sG S g 3).toInt ≤ 999
def LJ (C G F D H V J Q S : Nat → Int32) (a b c e od sn : Nat) : Prop := Rx C S a b c e 999 ∧ HS G F D H V J Q S a b c e ∧ AC S a ∧ KM S c e ∧ od ≤ 4 ∧ sn ≤ 4
def LI (C G F D H V J Q : Nat → Int32) (od sn : Nat) : Prop := ∃ (S : Nat → Int32) (a b c e : Nat), LJ C G F D H V J Q S a b c e od sn
variable {C G F D H V J Q S : Nat → Int32} {a b c e od sn : Nat}
theorem kOd_le {x : Int32} (h : od ≤ 4) : kOd x od sn ≤ 4 := by
  unfold kOd
  split
  · exact h
  · split
    · exact h
    · omega
theorem kSn_le {x : Int32} (h : sn ≤ 4) : kSn x sn ≤ 4 := by
  unfold kSn
  split
  · exact h
  · split <;> omega
theorem cnt_eq {a' b' c' e' : Nat} (h : sOk S a b c e) (h' : sOk S a' b' c' e') : a = a' ∧ b = b' ∧ c = c' ∧ e = e' := by
  have q := sOk_nn h
  have q' := sOk_nn h'
  omega
theorem Sim_at {r : gx_R} {q : gx_M3} {T : Int} (h : Sim r q T) (hO : sOk q.2.2 a b c e) : r.1 = q.1 ∧ Rx r.2 q.2.2 a b c e T := by
  obtain ⟨h1, -, a', b', c', e', hx⟩ := h
  obtain ⟨rfl, rfl, rfl, rfl⟩ := cnt_eq hO hx.2.1
  exact ⟨h1, hx⟩
theorem KM_same {S' : Nat → Int32} (h : KM S c e) (h1 : ∀ g, g < c → sG S' g 3 = sG S g 3) (h2 : ∀ k, k < e → ∀ j, j < 8 → sK S' k j = sK S k j) : KM S' c e :=
  ⟨KZ_same h.1 h2, fun g hg => by rw [h1 g hg]; exact h.2 g hg⟩
theorem LJ_b (h : LJ C G F D H V J Q S a b c e od sn) : 1 ≤ a ∧ a ≤ 6 ∧ b ≤ 8 ∧ c ≤ 24 ∧ e ≤ 6 := Rx_b h.1
theorem LJ_b3 (h : LJ C G F D H V J Q S a b c e od sn) : a ≤ 6 ∧ b ≤ 8 ∧ c ≤ 24 := by have := Rx_b h.1; omega
/-- refused -/
theorem LJ_no {r : gx_R} {q : gx_M3} {x : Int32} (h : LJ C G F D H V J Q S a b c e od sn) (hs : Sim r q 999) (hq : q = (x, false, S)) : r.1 = x ∧ LJ r.2 G F D H V J Q S a b c e (kOd r.1 od sn) (kSn r.1 sn) := by
  subst hq
  obtain ⟨e1, hx⟩ := Sim_at hs (show sOk S a b c e from h.1.2.1)
  exact ⟨e1, hx, h.2.1, h.2.2.1, h.2.2.2.1, kOd_le h.2.2.2.2.1, kSn_le h.2.2.2.2.2⟩
theorem LI_no {r : gx_R} {q : gx_M3} {x : Int32} (h : LJ C G F D H V J Q S a b c e od sn) (hs : Sim r q 999) (hq : q = (x, false, S)) : r.1 = x ∧ LI r.2 G F D H V J Q (kOd r.1 od sn) (kSn r.1 sn) :=
  ⟨(LJ_no h hs hq).1, S, a, b, c, e, (LJ_no h hs hq).2⟩
/-- done -/
theorem LI_yes {S' : Nat → Int32} {r : gx_R} {q : gx_M3} {x : Int32} (ho : od ≤ 4) (hn : sn ≤ 4) (hs : Sim r q 999) (hq : q = (x, true, S')) (hO : sOk S' a b c e) (hh : HS G F D H V J Q S' a b c e) (ha : AC S' a) (hk : KM S' c e) : r.1 = x ∧ LI r.2 G F D H V J Q (kOd r.1 od sn) (kSn r.1 sn) := by
  subst hq
  obtain ⟨e1, hx⟩ := Sim_at hs (show sOk S' a b c e from hO)
  exact ⟨e1, S', a, b, c, e, hx, hh, ha, hk, kOd_le ho, kSn_le hn⟩
theorem F9 (h : LJ C G F D H V J Q S a b c e od sn) {p : Nat} (hp : p < a) : sClosed S p = decide (0 ≤ F (10 * p + 9)) := by
  rw [h.2.1.2.1 p hp 9 (by omega)]; rfl
theorem isP_L (h : LJ C G F D H V J Q S a b c e od sn) {p : Nat} (hp : p < a) : sIsP S (nI p) = true := isP_n h.1 hp
theorem isD_L (h : LJ C G F D H V J Q S a b c e od sn) {d : Nat} (hd : d < b) : sIsD S (nI d) = true := by
  have hb := LJ_b h
  unfold sIsD
  rw [h.1.2.1.1.2.1, decide_eq_true (nI_pos (by omega)), decide_eq_true (nI_lt hd (by omega))]
  rfl
theorem isK_L (h : LJ C G F D H V J Q S a b c e od sn) {k : Nat} (hk : k < e) : sIsK S (nI k) = true := by
  have hb := LJ_b h
  unfold sIsK
  rw [h.1.2.1.1.2.2.2.1, decide_eq_true (nI_pos (by omega)), decide_eq_true (nI_lt hk (by omega))]
  rfl
theorem bIn_n {v lo hi : Nat} (h1 : lo ≤ v) (h2 : v ≤ hi) (h3 : hi < 2 ^ 31) : bIn (nI v) (nI lo) (nI hi) = true := by
  rw [bIn_ti, nI_toInt (by omega), nI_toInt (by omega), nI_toInt (by omega)]
  omega
-- purposes
theorem t_pur_no (h : LJ C G F D H V J Q S a b c e od sn) (h6 : nI a = 6) : (bAddPurpose C).1 = -3 ∧ LI (bAddPurpose C).2 G F D H V J Q (kOd (bAddPurpose C).1 od sn) (kSn (bAddPurpose C).1 sn) :=
  LI_no h (x_purpose h.1) (by unfold mPurpose; rw [if_pos h6])
theorem t_pur_ok (h : LJ C G F D H V J Q S a b c e od sn) (h6 : ¬ nI a = 6) : (bAddPurpose C).1 = nI a ∧ LI (bAddPurpose C).2 (upd G 2 (nI (a + 1))) (rowP F a 10) D H V J Q (kOd (bAddPurpose C).1 od sn) (kSn (bAddPurpose C).1 sn) := by
  have hb := LJ_b h
  have ha : a < 6 := nI_ne (n := 6) h6 (by omega)
  refine LI_yes (a := a + 1) h.2.2.2.2.1 h.2.2.2.2.2 (x_purpose h.1) (by unfold mPurpose; rw [if_neg h6]) (mPurpose_ok h.1.2.1 ha) (HS_purpose h.2.1 (LJ_b3 h) ha hb.1 (fun d hd j hj => (h.1.1.2.2.2.1 d hd).2.2 j hj)) ?_ (KM_same h.2.2.2.1 (fun g hg => mPur_out ha _ (by omega) (by omega) (by omega)) (fun k hk j hj => mPur_out ha _ (by omega) (by omega) (by omega)))
  intro p hp
  by_cases w : p = a
  · subst w
    have z : ∀ k, k < 11 → k ≠ 9 → sP (mPurposeS S p) p k = 0 := fun k hk h9 => (mPur_row ha k hk).trans (if_neg (show ¬ nI k = 9 from fun y => h9 ((nI_eq (b := 9) (by omega) (by omega)).mp y)))
    refine ⟨?_, fun _ => z 10 (by omega) (by omega)⟩
    unfold due
    rw [z 0 (by omega) (by omega), z 1 (by omega) (by omega), z 2 (by omega) (by omega), z 3 (by omega) (by omega), z 4 (by omega) (by omega), z 5 (by omega) (by omega), z 6 (by omega) (by omega), z 7 (by omega) (by omega), z 8 (by omega) (by omega), if_neg (by omega)]
    decide
  · have z : ∀ k, k < 11 → sP (mPurposeS S a) p k = sP S p k := fun k hk => mPur_out ha _ (by omega) (by omega) (by omega)
    rw [due_same z, z 0 (by omega), z 10 (by omega)]
    exact h.2.2.1 p (by omega)
-- donors
theorem t_don_no (h : LJ C G F D H V J Q S a b c e od sn) (h8 : nI b = 8) : (bAddDonor C).1 = -3 ∧ LI (bAddDonor C).2 G F D H V J Q (kOd (bAddDonor C).1 od sn) (kSn (bAddDonor C).1 sn) :=
  LI_no h (x_donor h.1) (by unfold mDonor; rw [if_pos h8])
theorem t_don_ok (h : LJ C G F D H V J Q S a b c e od sn) (h8 : ¬ nI b = 8) : (bAddDonor C).1 = nI b ∧ LI (bAddDonor C).2 (upd G 3 (nI (b + 1))) F (rowD D b 7) H V J Q (kOd (bAddDonor C).1 od sn) (kSn (bAddDonor C).1 sn) := by
  have hb := LJ_b h
  have hb8 : b < 8 := nI_ne (n := 8) h8 (by omega)
  exact LI_yes (b := b + 1) h.2.2.2.2.1 h.2.2.2.2.2 (x_donor h.1) (by unfold mDonor; rw [if_neg h8]) (mDonor_ok h.1.2.1 hb8) (HS_donor h.2.1 (LJ_b3 h) hb8) (AC_same h.2.2.1 (fun p hp k hk => mDonorS_out (by omega) (by omega))) (KM_same h.2.2.2.1 (fun g hg => mDonorS_out (by omega) (by omega)) (fun k hk j hj => mDonorS_out (by omega) (by omega)))
theorem t_decl (h : LJ C G F D H V J Q S a b c e od sn) {d : Nat} (hd : d < b) {v : Int32} (hv : v = 0 ∨ v = 1) : (bDeclare C (nI d) v).1 = D (7 * d) ∧ LI (bDeclare C (nI d) v).2 G F (upd D (7 * d) v) H V J Q (kOd (bDeclare C (nI d) v).1 od sn) (kSn (bDeclare C (nI d) v).1 sn) := by
  have hb := LJ_b h
  have e0 : D (7 * d) = sD S d 0 := h.2.1.2.2.1 d hd 0 (by omega)
  rw [e0]
  exact LI_yes h.2.2.2.2.1 h.2.2.2.2.2 (x_declare h.1 (nI d) v) (by unfold mDeclare; rw [isD_L h hd, nI_clamp (by omega), if_pos (by rcases hv with z | z <;> rw [z] <;> decide)]) (sOk_uD h.1.2.1 (by omega) (by omega)) (HS_D (j := 0) h.2.1 (LJ_b3 h) hd (by omega)) (AC_same h.2.2.1 (fun p hp k hk => upd_ne (by omega))) (KM_same h.2.2.2.1 (fun g hg => upd_ne (by omega)) (fun k hk j hj => upd_ne (by omega)))
-- gifts
theorem mGives_P (hb : a ≤ 6 ∧ b ≤ 8 ∧ c ≤ 24) {p : Nat} {x z w : Int32} (hp : p < a) : ∀ q, q < a → ∀ k, k < 11 → sP (mGives S c x p z w) q k = sP (aP (aP S p 0 z) p 1 z) q k := by
  intro q hq k hk
  rw [show aP (aP S p 0 z) p 1 z = uP (aP S p 0 z) p 1 (sP (aP S p 0 z) p 1 + z) from rfl, uP_at (by omega) hk, show aP S p 0 z = uP S p 0 (sP S p 0 + z) from rfl, uP_at (by omega) hk, uP_at (by omega) (by omega)]
  by_cases w1 : q = p ∧ k = 1
  · obtain ⟨rfl, rfl⟩ := w1
    rw [if_pos ⟨rfl, rfl⟩, if_neg (by omega)]
    unfold mGives sP aP
    dsimp only
    rw [upd_eq, upd_ne (by omega), upd_ne (by omega), upd_ne (by omega), upd_ne (by omega), upd_ne (by omega), upd_ne (by omega), upd_ne (by omega), upd_ne (by omega), upd_ne (by omega)]
  · rw [if_neg w1]
    by_cases w0 : q = p ∧ k = 0
    · obtain ⟨rfl, rfl⟩ := w0
      rw [if_pos ⟨rfl, rfl⟩]
      unfold mGives sP aP
      dsimp only
      rw [upd_ne (by omega), upd_eq, upd_ne (by omega), upd_ne (by omega), upd_ne (by omega), upd_ne (by omega), upd_ne (by omega), upd_ne (by omega), upd_ne (by omega), upd_ne (by omega)]
    · rw [if_neg w0]
      exact mGives_out (by omega) (by omega) (by omega) (by omega)
theorem AC_gives (h : AC S a) (hb : a ≤ 6 ∧ b ≤ 8 ∧ c ≤ 24) {p : Nat} {x z w : Int32} (hp : p < a) : AC (mGives S c x p z w) a := by
  refine AC_same (S := aP (aP S p 0 z) p 1 z) ?_ (fun q hq k hk => mGives_P hb hp q hq k hk)
  rw [AC_iff] at h ⊢
  intro q hq
  rw [df_aP (by omega) (by omega), df_aP (by omega) (by omega), aP_10 (by omega) (Or.inl (by omega)), aP_10 (by omega) (Or.inl (by omega)), (h q hq).1]
  refine ⟨?_, (h q hq).2⟩
  by_cases w : q = p
  · rw [if_pos w, if_pos w]
    show (0 : Int32) + -z + z = 0
    rw [Int32.zero_add, Int32.add_left_neg]
  · rw [if_neg w, if_neg w]
theorem KM_gives (h : KM S c e) (hb : a ≤ 6 ∧ b ≤ 8 ∧ c ≤ 24) (hc : c < 24) (h6 : 0 ≤ (S 6).toInt ∧ (S 6).toInt ≤ 999) {p : Nat} {x z w : Int32} (hp : p < a) : KM (mGives S c x p z w) (c + 1) e := by
  refine ⟨KZ_same h.1 (fun k hk j hj => mGives_out (by omega) (by omega) (by omega) (by omega)), fun g hg => ?_⟩
  by_cases q : g = c
  · subst q
    rw [(mGives_g (S := S) (c := g) (x := x) (p := p) (z := z) (u := w) (by omega)).2.2.2.1]
    exact h6
  · rw [show sG (mGives S c x p z w) g 3 = sG S g 3 from mGives_out (by omega) (by omega) (by omega) (by omega)]
    exact h.2 g (by omega)
theorem t_give_no1 (h : LJ C G F D H V J Q S a b c e od sn) {d p m : Nat} (hd : d < b) (hp : p < a) (hm : 1 ≤ m ∧ m ≤ 9999) (hc : 0 ≤ F (10 * p + 9)) : (bGive C (nI d) (nI p) (nI m)).1 = -2 ∧ LI (bGive C (nI d) (nI p) (nI m)).2 G F D H V J Q (kOd (bGive C (nI d) (nI p) (nI m)).1 od sn) (kSn (bGive C (nI d) (nI p) (nI m)).1 sn) := by
  have hb := LJ_b h
  exact LI_no h (x_give h.1 _ _ _) (by unfold mGive; rw [isD_L h hd, isP_L h hp, show bIn (nI m) 1 9999 = true from bIn_n (lo := 1) (hi := 9999) hm.1 hm.2 (by omega), nI_clamp (n := p) (by omega), F9 h hp, decide_eq_true hc]; rfl)
theorem t_give_no2 (h : LJ C G F D H V J Q S a b c e od sn) {d p m : Nat} (hd : d < b) (hp : p < a) (hm : 1 ≤ m ∧ m ≤ 9999) (hc : ¬ 0 ≤ F (10 * p + 9)) (h24 : nI c = 24) : (bGive C (nI d) (nI p) (nI m)).1 = -3 ∧ LI (bGive C (nI d) (nI p) (nI m)).2 G F D H V J Q (kOd (bGive C (nI d) (nI p) (nI m)).1 od sn) (kSn (bGive C (nI d) (nI p) (nI m)).1 sn) := by
  have hb := LJ_b h
  exact LI_no h (x_give h.1 _ _ _) (by unfold mGive; rw [isD_L h hd, isP_L h hp, show bIn (nI m) 1 9999 = true from bIn_n (lo := 1) (hi := 9999) hm.1 hm.2 (by omega), nI_clamp (n := p) (by omega), F9 h hp, decide_eq_false hc, if_pos (by rfl), if_neg (by decide), if_pos h24])
theorem t_give_ok (h : LJ C G F D H V J Q S a b c e od sn) {d p m : Nat} (hd : d < b) (hp : p < a) (hm : 1 ≤ m ∧ m ≤ 9999) (hc : ¬ 0 ≤ F (10 * p + 9)) (h24 : ¬ nI c = 24) : (bGive C (nI d) (nI p) (nI m)).1 = nI c ∧ LI (bGive C (nI d) (nI p) (nI m)).2 (upd G 4 (nI (c + 1))) (upd (upd F (10 * p) (F (10 * p) + nI m)) (10 * p + 1) (upd F (10 * p) (F (10 * p) + nI m) (10 * p + 1) + nI m)) D (upd (upd H (2 * c) (nI d)) (2 * c + 1) (nI p)) (upd (upd V (2 * c) (nI m)) (2 * c + 1) (G 6)) (upd (upd J (2 * c) 0) (2 * c + 1) (-4)) Q (kOd (bGive C (nI d) (nI p) (nI m)).1 od sn) (kSn (bGive C (nI d) (nI p) (nI m)).1 sn) := by
  have hb := LJ_b h
  have hc24 : c < 24 := nI_ne (n := 24) h24 (by omega)
  exact LI_yes (c := c + 1) h.2.2.2.2.1 h.2.2.2.2.2 (x_give h.1 _ _ _) (by unfold mGive; rw [isD_L h hd, isP_L h hp, show bIn (nI m) 1 9999 = true from bIn_n (lo := 1) (hi := 9999) hm.1 hm.2 (by omega), nI_clamp (n := p) (by omega), F9 h hp, decide_eq_false hc, if_pos (by rfl), if_neg (by decide), if_neg h24]) (mGives_ok h.1.2.1 hc24 hd hp) (HS_gift h.2.1 (LJ_b3 h) hc24 hp) (AC_gives h.2.2.1 (LJ_b3 h) hp) (KM_gives h.2.2.2.1 (LJ_b3 h) hc24 h.1.2.2.1.2.2 hp)
-- pledges
theorem t_pl_no1 (h : LJ C G F D H V J Q S a b c e od sn) {d p m u : Nat} (hd : d < b) (hp : p < a) (hm : 1 ≤ m ∧ m ≤ 999) (hu : 1 ≤ u ∧ u ≤ 60) (hc : 0 ≤ F (10 * p + 9)) : (bPledge C (nI d) (nI p) (nI m) (nI u)).1 = -2 ∧ LI (bPledge C (nI d) (nI p) (nI m) (nI u)).2 G F D H V J Q (kOd (bPledge C (nI d) (nI p) (nI m) (nI u)).1 od sn) (kSn (bPledge C (nI d) (nI p) (nI m) (nI u)).1 sn) := by
  have hb := LJ_b h
  exact LI_no h (x_pledge h.1 _ _ _ _) (by unfold mPledge; rw [isD_L h hd, isP_L h hp, show bIn (nI m) 1 999 = true from bIn_n (lo := 1) (hi := 999) hm.1 hm.2 (by omega), show bIn (nI u) 1 60 = true from bIn_n (lo := 1) (hi := 60) hu.1 hu.2 (by omega), nI_clamp (n := p) (by omega), F9 h hp, decide_eq_true hc]; rfl)
theorem t_pl_no2 (h : LJ C G F D H V J Q S a b c e od sn) {d p m u : Nat} (hd : d < b) (hp : p < a) (hm : 1 ≤ m ∧ m ≤ 999) (hu : 1 ≤ u ∧ u ≤ 60) (hc : ¬ 0 ≤ F (10 * p + 9)) (h6 : nI e = 6) : (bPledge C (nI d) (nI p) (nI m) (nI u)).1 = -3 ∧ LI (bPledge C (nI d) (nI p) (nI m) (nI u)).2 G F D H V J Q (kOd (bPledge C (nI d) (nI p) (nI m) (nI u)).1 od sn) (kSn (bPledge C (nI d) (nI p) (nI m) (nI u)).1 sn) := by
  have hb := LJ_b h
  exact LI_no h (x_pledge h.1 _ _ _ _) (by unfold mPledge; rw [isD_L h hd, isP_L h hp, show bIn (nI m) 1 999 = true from bIn_n (lo := 1) (hi := 999) hm.1 hm.2 (by omega), show bIn (nI u) 1 60 = true from bIn_n (lo := 1) (hi := 60) hu.1 hu.2 (by omega), nI_clamp (n := p) (by omega), F9 h hp, decide_eq_false hc, if_pos (by rfl), if_neg (by decide), if_pos h6])
theorem t_pl_ok (h : LJ C G F D H V J Q S a b c e od sn) {d p m u : Nat} (hd : d < b) (hp : p < a) (hm : 1 ≤ m ∧ m ≤ 999) (hu : 1 ≤ u ∧ u ≤ 60) (hc : ¬ 0 ≤ F (10 * p + 9)) (h6 : ¬ nI e = 6) : (bPledge C (nI d) (nI p) (nI m) (nI u)).1 = nI e ∧ LI (bPledge C (nI d) (nI p) (nI m) (nI u)).2 (upd G 5 (nI (e + 1))) F D H V J (rowK Q e (nI d) (nI p) (nI m) (nI u) 8) (kOd (bPledge C (nI d) (nI p) (nI m) (nI u)).1 od sn) (kSn (bPledge C (nI d) (nI p) (nI m) (nI u)).1 sn) := by
  have hb := LJ_b h
  have he : e < 6 := nI_ne (n := 6) h6 (by omega)
  refine LI_yes (e := e + 1) h.2.2.2.2.1 h.2.2.2.2.2 (x_pledge h.1 _ _ _ _) (by unfold mPledge; rw [isD_L h hd, isP_L h hp, show bIn (nI m) 1 999 = true from bIn_n (lo := 1) (hi := 999) hm.1 hm.2 (by omega), show bIn (nI u) 1 60 = true from bIn_n (lo := 1) (hi := 60) hu.1 hu.2 (by omega), nI_clamp (n := p) (by omega), F9 h hp, decide_eq_false hc, if_pos (by rfl), if_neg (by decide), if_neg h6]) (mPledge_ok h.1.2.1 he hd hp) (HS_pledge h.2.1 (LJ_b3 h) he) (AC_same h.2.2.1 (fun q hq k hk => mPledgeS_out (by omega) (by omega))) ⟨fun k hk => ?_, fun g hg => ?_⟩
  · by_cases w : k = e
    · subst w
      exact Or.inl ((mPledgeS_k (S := S) (e := k)).2.2.2.2 5 (by omega) (by omega))
    · rw [show sK (mPledgeS S e (nI d) (nI p) (nI m) (nI u)) k 5 = sK S k 5 from mPledgeS_out (by omega) (by omega), show sK (mPledgeS S e (nI d) (nI p) (nI m) (nI u)) k 7 = sK S k 7 from mPledgeS_out (by omega) (by omega)]
      exact h.2.2.2.1.1 k (by omega)
  · rw [show sG (mPledgeS S e (nI d) (nI p) (nI m) (nI u)) g 3 = sG S g 3 from mPledgeS_out (by omega) (by omega)]
    exact h.2.2.2.1.2 g hg
-- misses, stops
theorem KM_uK {k j : Nat} {v : Int32} (h : KM S c e) (hb : c ≤ 24) (hj : j < 8) (hv : (j = 7 ∧ (v = 0 ∨ sK S k 5 = 0)) ∨ (j ≠ 7 ∧ j ≠ 5) ∨ (j = 5 ∧ (v = 0 ∨ sK S k 7 = 0))) : KM (uK S k j v) c e := by
  refine ⟨fun k' hk' => ?_, fun g hg => by rw [show sG (uK S k j v) g 3 = sG S g 3 from upd_ne (by omega)]; exact h.2 g hg⟩
  by_cases w : k' = k
  · subst w
    rcases hv with ⟨rfl, z | z⟩ | ⟨z1, z2⟩ | ⟨rfl, z | z⟩
    · exact Or.inr (uK_eq.trans z)
    · exact Or.inl ((uK_ne (by omega) (by omega) (Or.inr (by omega))).trans z)
    · rw [uK_ne hj (by omega) (Or.inr (by omega)), uK_ne hj (by omega) (Or.inr (by omega))]
      exact h.1 k' hk'
    · exact Or.inl (uK_eq.trans z)
    · exact Or.inr ((uK_ne (by omega) (by omega) (Or.inr (by omega))).trans z)
  · rw [uK_ne hj (by omega) (Or.inl (fun z => w z.symm)), uK_ne hj (by omega) (Or.inl (fun z => w z.symm))]
    exact h.1 k' hk'
theorem t_miss_none (h : LJ C G F D H V J Q S a b c e od sn) (he : nI e = 0) : (bMiss C 0).1 = -1 ∧ LJ (bMiss C 0).2 G F D H V J Q S a b c e (kOd (bMiss C 0).1 od sn) (kSn (bMiss C 0).1 sn) :=
  LJ_no h (x_miss h.1 0) (by unfold mMiss sIsK; rw [h.1.2.1.1.2.2.2.1, he]; rfl)
theorem t_stop_none (h : LJ C G F D H V J Q S a b c e od sn) (he : nI e = 0) : (bStop C 0).1 = -1 ∧ LI (bStop C 0).2 G F D H V J Q (kOd (bStop C 0).1 od sn) (kSn (bStop C 0).1 sn) :=
  LI_no h (x_stop h.1 0) (by unfold mStop sIsK; rw [h.1.2.1.1.2.2.2.1, he]; rfl)
theorem t_miss_ok (h : LJ C G F D H V J Q S a b c e od sn) {k : Nat} (hk : k < e) (h5 : Q (8 * k + 5) = 0) (h7 : Q (8 * k + 7) = 0) : (bMiss C (nI k)).1 = Q (8 * k + 4) ∧ LI (bMiss C (nI k)).2 G F D H V J (upd Q (8 * k + 7) 1) (kOd (bMiss C (nI k)).1 od sn) (kSn (bMiss C (nI k)).1 sn) := by
  have hb := LJ_b h
  have q : ∀ j, j < 8 → Q (8 * k + j) = sK S k j := h.2.1.2.2.2.2 k hk
  rw [q 5 (by omega)] at h5
  rw [q 7 (by omega)] at h7
  rw [q 4 (by omega)]
  exact LI_yes h.2.2.2.2.1 h.2.2.2.2.2 (x_miss h.1 _) (by unfold mMiss; rw [isK_L h hk, nI_clamp (by omega), if_pos rfl, h5, h7, if_neg (by decide), show sK (uK S k 7 1) k 4 = sK S k 4 from uK_ne (by omega) (by omega) (Or.inr (by omega))]) (sOk_uK h.1.2.1 (by omega) (by omega) (by omega)) (HS_Q h.2.1 (LJ_b3 h) hk (by omega)) (AC_same h.2.2.1 (fun p hp k hk => upd_ne (by omega))) (KM_uK h.2.2.2.1 (by omega) (by omega) (Or.inl ⟨rfl, Or.inr h5⟩))
theorem t_miss_no (h : LJ C G F D H V J Q S a b c e od sn) {k : Nat} (hk : k < e) (hn : ¬ Q (8 * k + 5) = 0 ∨ ¬ Q (8 * k + 7) = 0) : (bMiss C (nI k)).1 = -2 ∧ LI (bMiss C (nI k)).2 G F D H V J (upd Q (8 * k + 7) (Q (8 * k + 7))) (kOd (bMiss C (nI k)).1 od sn) (kSn (bMiss C (nI k)).1 sn) := by
  have hb := LJ_b h
  have q : ∀ j, j < 8 → Q (8 * k + j) = sK S k j := h.2.1.2.2.2.2 k hk
  rw [upd_same rfl]
  rw [q 5 (by omega), q 7 (by omega)] at hn
  have hok := h.1.2.2.2.2.2.2.1 k hk
  refine LI_no h (x_miss h.1 _) (by
    unfold mMiss
    rw [isK_L h hk, nI_clamp (by omega), if_pos rfl, if_pos]
    rcases hn with z | z
    · exact Or.inl ((k5_pos h.1 hk).mpr z)
    · exact Or.inr (hok.2.2.2.2.1.resolve_left z))
theorem t_stop_ok (h : LJ C G F D H V J Q S a b c e od sn) {k : Nat} (hk : k < e) (h5 : Q (8 * k + 5) = 0) : (bStop C (nI k)).1 = Q (8 * k + 3) ∧ LI (bStop C (nI k)).2 G F D H V J (upd (upd Q (8 * k + 5) 2) (8 * k + 7) 0) (kOd (bStop C (nI k)).1 od sn) (kSn (bStop C (nI k)).1 sn) := by
  have hb := LJ_b h
  have q : ∀ j, j < 8 → Q (8 * k + j) = sK S k j := h.2.1.2.2.2.2 k hk
  rw [q 5 (by omega)] at h5
  rw [q 3 (by omega)]
  have hkm : KM (mEnds S k 2) c e := by
    refine ⟨fun k' hk' => ?_, fun g hg => ?_⟩
    · by_cases w : k' = k
      · subst w; exact Or.inr uK_eq
      · unfold mEnds
        rw [uK_ne (by omega) (by omega) (Or.inl (fun z => w z.symm)), uK_ne (by omega) (by omega) (Or.inl (fun z => w z.symm)), uK_ne (by omega) (by omega) (Or.inl (fun z => w z.symm)), uK_ne (by omega) (by omega) (Or.inl (fun z => w z.symm))]
        exact h.2.2.2.1.1 k' hk'
    · unfold mEnds
      rw [show sG (uK (uK S k 5 2) k 7 0) g 3 = sG S g 3 from (upd_ne (by omega)).trans (upd_ne (by omega))]
      exact h.2.2.2.1.2 g hg
  exact LI_yes h.2.2.2.2.1 h.2.2.2.2.2 (x_stop h.1 _) (by unfold mStop; rw [isK_L h hk, nI_clamp (by omega), if_pos rfl, h5, if_neg (by decide), show sK (mEnds S k 2) k 3 = sK S k 3 from (uK_ne (by omega) (by omega) (Or.inr (by omega))).trans (uK_ne (by omega) (by omega) (Or.inr (by omega)))]) (mEnds_ok h.1.2.1 (by omega)) (HS_Q (HS_Q h.2.1 (LJ_b3 h) hk (by omega)) (LJ_b3 h) hk (by omega)) (AC_same h.2.2.1 (fun p hp k hk => (upd_ne (by omega)).trans (upd_ne (by omega)))) hkm
theorem t_stop_no (h : LJ C G F D H V J Q S a b c e od sn) {k : Nat} (hk : k < e) (h5 : ¬ Q (8 * k + 5) = 0) : (bStop C (nI k)).1 = -2 ∧ LI (bStop C (nI k)).2 G F D H V J (upd (upd Q (8 * k + 5) (Q (8 * k + 5))) (8 * k + 7) 0) (kOd (bStop C (nI k)).1 od sn) (kSn (bStop C (nI k)).1 sn) := by
  have hb := LJ_b h
  have q : ∀ j, j < 8 → Q (8 * k + j) = sK S k j := h.2.1.2.2.2.2 k hk
  rw [q 5 (by omega)] at h5
  have h7 : Q (8 * k + 7) = 0 := (q 7 (by omega)).trans ((h.2.2.2.1.1 k hk).resolve_left h5)
  rw [upd_same rfl, upd_same h7]
  exact LI_no h (x_stop h.1 _) (by unfold mStop; rw [isK_L h hk, nI_clamp (by omega), if_pos rfl, if_pos ((k5_pos h.1 hk).mpr h5)])
end ACTS
