/-! Acts, further: sums over gifts, claims, spending. -/
section ACTS2
variable {C G F D H V J Q S : Nat → Int32} {a b c e od sn : Nat}
theorem hJ_of {x y : Int32} (hx : x = 0 ∨ x = 1) (hy : y = 0 ∨ y = 1) : (hJ x y = 0 ↔ x = 0 ∧ y = 0) ∧ (hJ x y = 1 ↔ x = 1 ∧ y = 0) ∧ (2 ≤ hJ x y ↔ y = 1) ∧ (hJ x y ≤ 1 ↔ y = 0) ∧ hJ x y &&& 1 = x ∧ hJ x y / 2 = y := by
  rcases hx with rfl | rfl <;> rcases hy with rfl | rfl <;> decide
def yrN (S : Nat → Int32) (x y : Int32) : Nat → Int32
  | 0 => 0
  | n + 1 => yrN S x y n + (if sG S n 0 = x ∧ sG S n 3 / 12 = y ∧ hJ (sG S n 4) (sG S n 5) = 1 then sG S n 2 else 0)
def wtN (S : Nat → Int32) (x y : Int32) : Nat → Int32
  | 0 => 0
  | n + 1 => wtN S x y n + (if sG S n 0 = x ∧ sG S n 1 = y ∧ ¬ 2 ≤ hJ (sG S n 4) (sG S n 5) then sG S n 2 else 0)
def wsN (S : Nat → Int32) (c p : Nat) (y : Int32) : Nat → Int32
  | 0 => 0
  | d + 1 => wsN S c p y d + (if y = -1 ∨ sD S d (1 + p) = y then wtN S (nI d) (nI p) c else 0)
theorem yr_m (hx : Rx C S a b c e 2000) (g : Nat) : ∀ n, n ≤ c → mYearN S g n = yrN S (sG S g 0) (sG S g 3 / 12) n + sG S g 2 := by
  intro n
  induction n with
  | zero => intro _; show sG S g 2 = 0 + sG S g 2; rw [Int32.zero_add]
  | succ n ih =>
    intro hn
    have ok := hx.2.2.2.2.2.1 n (by omega)
    have hj := (hJ_of ok.2.1 ok.2.2.1).2.1
    show mYearN S g n + _ = yrN S _ _ n + _ + _
    rw [ih (by omega), Int32.add_assoc, Int32.add_assoc]
    congr 1
    rw [Int32.add_comm]
    congr 1
    by_cases z : sG S n 0 = sG S g 0 ∧ sG S n 3 / 12 = sG S g 3 / 12 ∧ sG S n 4 = 1 ∧ sG S n 5 = 0
    · rw [if_pos z, if_pos ⟨z.1, z.2.1, hj.mpr z.2.2⟩]
    · rw [if_neg z, if_neg (fun w => z ⟨w.1, w.2.1, hj.mp w.2.2⟩)]
theorem wt_m (hx : Rx C S a b c e 2000) (x y : Int32) : ∀ n, n ≤ c → wtN S x y n = mWtN S x y n := by
  intro n
  induction n with
  | zero => exact fun _ => rfl
  | succ n ih =>
    intro hn
    have ok := hx.2.2.2.2.2.1 n (by omega)
    have hj := (hJ_of ok.2.1 ok.2.2.1).2.2.1
    have h5 : ¬ 2 ≤ hJ (sG S n 4) (sG S n 5) ↔ sG S n 5 = 0 := by
      rw [hj]
      rcases ok.2.2.1 with z | z <;> rw [z] <;> decide
    show wtN S x y n + _ = mWtN S x y n + _
    rw [ih (by omega)]
    congr 1
    by_cases z : sG S n 0 = x ∧ sG S n 1 = y ∧ sG S n 5 = 0
    · rw [if_pos z, if_pos ⟨z.1, z.2.1, h5.mpr z.2.2⟩]
    · rw [if_neg z, if_neg (fun w => z ⟨w.1, w.2.1, h5.mp w.2.2⟩)]
theorem ws_m (hx : Rx C S a b c e 2000) (p : Nat) {y : Int32} (hy : y = -1 ∨ ∃ q, q < a ∧ y = nI q) : ∀ n, wsN S c p y n = mWsN S c p y n := by
  have hb := Rx_b hx
  have h1 : y = -1 ↔ y < 0 := by
    rcases hy with z | ⟨q, h1, z⟩
    · rw [z]; decide
    · rw [z]; exact ⟨fun w => absurd w (nI_m1 (by omega)), fun w => absurd w (nI_pos (by omega))⟩
  intro n
  induction n with
  | zero => rfl
  | succ n ih =>
    show wsN S c p y n + _ = mWsN S c p y n + _
    rw [ih, wt_m hx _ _ c (Nat.le_refl _)]
    congr 1
    by_cases z : y = -1 ∨ sD S n (1 + p) = y
    · rw [if_pos z, if_pos (z.imp h1.mp id)]
    · rw [if_neg z, if_neg (fun w => z (w.imp h1.mpr id))]
theorem Rx_up {T : Int} (h : Rx C S a b c e T) (hT : T ≤ 2000) : Rx C S a b c e 2000 := Rx_T h (by have := h.2.2.1.2.2.2; omega)
-- claims
theorem can_J (hx : Rx C S a b c e 2000) (hs : HS G F D H V J Q S a b c e) (hm : ∀ g, g < c → 0 ≤ (sG S g 3).toInt ∧ (sG S g 3).toInt ≤ 999) {i d : Nat} (hi : i < c) (ed : sG S i 0 = nI d) (hd : d < b) : mCan S c i = true ↔ J (2 * i) = 0 ∧ D (7 * d) = 1 ∧ ¬ V (2 * i + 1) < G 6 - 47 ∧ ¬ G 1 < yrN S (nI d) (V (2 * i + 1) / 12) c + V (2 * i) := by
  have hb := Rx_b hx
  have ok := hx.2.2.2.2.2.1 i hi
  have okd := (hx.2.2.2.2.1 d hd).1
  have hj := (hJ_of ok.2.1 ok.2.2.1).1
  obtain ⟨⟨g0, g1, g2, g3, g4, g5, g6, g7⟩, hF, hD, hG, hK⟩ := hs
  obtain ⟨⟨z0, z1, z2, z3⟩, z4, z5⟩ := hG i hi
  have h6 := hx.2.2.1.2.2
  have m3 := hm i hi
  rw [z4, hj, show D (7 * d) = sD S d 0 from hD d hd 0 (by omega), z3, z2, g6, g1]
  unfold mCan
  rw [ed, nI_clamp (by omega), yr_m hx i c (Nat.le_refl _), ed]
  have e47 : (47 : Int32).toInt = 47 := by decide
  have t45 : 0 < sG S i 4 + sG S i 5 ↔ ¬ (sG S i 4 = 0 ∧ sG S i 5 = 0) := by
    rcases ok.2.1 with w | w <;> rcases ok.2.2.1 with w2 | w2 <;> rw [w, w2] <;> decide
  have t47 : 47 < S 6 - sG S i 3 ↔ sG S i 3 < S 6 - 47 := by
    rw [Int32.lt_iff_toInt_lt, Int32.lt_iff_toInt_lt, ti_sub (by omega) (by omega), ti_sub (by omega) (by omega), e47]
    omega
  have tD : sD S d 0 = 0 ↔ ¬ sD S d 0 = 1 := by
    rcases okd with w | w <;> rw [w] <;> decide
  by_cases q : 0 < sG S i 4 + sG S i 5 ∨ sD S d 0 = 0 ∨ 47 < S 6 - sG S i 3
  · rw [if_pos q]
    refine ⟨fun w => absurd w (by decide), fun w => ?_⟩
    rcases q with q | q | q
    · exact absurd w.1 (t45.mp q)
    · exact absurd w.2.1 (tD.mp q)
    · exact absurd (t47.mp q) w.2.2.1
  · rw [if_neg q, decide_eq_true_eq]
    have q1 : sG S i 4 = 0 ∧ sG S i 5 = 0 := Classical.byContradiction fun w => q (Or.inl (t45.mpr w))
    have q2 : sD S d 0 = 1 := Classical.byContradiction fun w => q (Or.inr (Or.inl (tD.mpr w)))
    have q3 : ¬ sG S i 3 < S 6 - 47 := fun w => q (Or.inr (Or.inr (t47.mpr w)))
    exact ⟨fun w => ⟨q1, q2, q3, Int32.not_lt.mpr w⟩, fun w => Int32.not_lt.mp w.2.2.2⟩
theorem clN_yes {n : Nat} (h : mCan (mClN S c (-1) n).2.2 c n = true) : mClN S c (-1) (n + 1) = ((mClN S c (-1) n).1 + sG (upd (mClN S c (-1) n).2.2 (129 + 7 * n + 4) 1) n 2 / 4, (mClN S c (-1) n).2.1 + 1, mClOne (mClN S c (-1) n).2.2 n) := if_pos ⟨Or.inl (by decide), h⟩
theorem clN_no {n : Nat} (h : ¬ mCan (mClN S c (-1) n).2.2 c n = true) : mClN S c (-1) (n + 1) = mClN S c (-1) n := if_neg (fun z => h z.2)
theorem HS_cl1 (hx : Rx C S a b c e 2000) (hs : HS G F D H V J Q S a b c e) {i p q : Nat} (hi : i < c) (ep : sG S i 1 = nI p) (hp : p < a) (eq : sHome S p = q) (hq : q < a) (h5 : sG S i 5 = 0) : HS G (upd (upd F (10 * q) (F (10 * q) + V (2 * i) / 4)) (10 * q + 2) (upd F (10 * q) (F (10 * q) + V (2 * i) / 4) (10 * q + 2) + V (2 * i) / 4)) D H V (upd J (2 * i) 1) Q (mClOne S i) a b c e := by
  have hb := Rx_b hx
  have hb3 : a ≤ 6 ∧ b ≤ 8 ∧ c ≤ 24 := by omega
  rw [(hs.2.2.2.1 i hi).1.2.2.1]
  have h1 := HS_J (v := 1) (w := 1) (i := 4) hs hb3 hi (Or.inl rfl) (by rw [if_pos rfl, h5]; decide)
  unfold mClOne
  dsimp only
  rw [show sG (upd S (129 + 7 * i + 4) 1) i 1 = nI p from (upd_ne (by omega)).trans ep, nI_clamp (by omega), sHome_congr (T := upd S (129 + 7 * i + 4) 1) hx.2.1 (fun r hr => upd_ne (by omega)) hp, eq, show sG (upd S (129 + 7 * i + 4) 1) i 2 = sG S i 2 from upd_ne (by omega)]
  exact HS_aF (k := 2) (HS_aF (k := 0) h1 hb3 hq (by omega)) hb3 hq (by omega)
theorem AC_cl1 (h : AC S a) (hx : Rx C S a b c e 2000) {i : Nat} (hi : i < c) : AC (mClOne S i) a := by
  have hb := Rx_b hx
  have h1 : AC (upd S (129 + 7 * i + 4) 1) a := AC_same h (fun p hp k hk => upd_ne (by omega))
  unfold mClOne
  dsimp only
  generalize sHome (upd S (129 + 7 * i + 4) 1) (sG (upd S (129 + 7 * i + 4) 1) i 1).toNatClampNeg = q
  generalize sG (upd S (129 + 7 * i + 4) 1) i 2 / 4 = t
  rw [AC_iff] at h1 ⊢
  intro r hr
  rw [df_aP (by omega) (by omega), df_aP (by omega) (by omega), aP_10 (by omega) (Or.inl (by omega)), aP_10 (by omega) (Or.inl (by omega)), (h1 r hr).1]
  refine ⟨?_, (h1 r hr).2⟩
  by_cases w : r = q
  · rw [if_pos w, if_pos w]
    show (0 : Int32) + -t + t = 0
    rw [Int32.zero_add, Int32.add_left_neg]
  · rw [if_neg w, if_neg w]
theorem mClOne_out {i j : Nat} (hq : sHome (upd S (129 + 7 * i + 4) 1) (sG (upd S (129 + 7 * i + 4) 1) i 1).toNatClampNeg < 6) (h1 : j ≠ 129 + 7 * i + 4) (h2 : 72 < j) : mClOne S i j = S j := by
  unfold mClOne
  try dsimp only
  generalize sHome (upd S (129 + 7 * i + 4) 1) (sG (upd S (129 + 7 * i + 4) 1) i 1).toNatClampNeg = q at *
  rw [aP_hi hq (by omega) h2, aP_hi hq (by omega) h2]
  exact upd_ne h1
theorem KM_cl1 (h : KM S c e) (hx : Rx C S a b c e 2000) {i : Nat} (hi : i < c) : KM (mClOne S i) c e := by
  have hb := Rx_b hx
  have hO1 : sOk (upd S (129 + 7 * i + 4) 1) a b c e := sOk_upd hx.2.1 (by omega) (fun q hq => by omega) (fun g hg => by omega) (fun g hg => by omega)
  obtain ⟨p, hp, ep⟩ := (hO1.2.1 i hi).2
  have hh := sOk_home hO1 hp
  have hq : sHome (upd S (129 + 7 * i + 4) 1) (sG (upd S (129 + 7 * i + 4) 1) i 1).toNatClampNeg < 6 := by rw [ep, nI_clamp (by omega)]; omega
  exact KM_same h (fun g hg => mClOne_out hq (by omega) (by omega)) (fun k hk j hj => mClOne_out hq (by omega) (by omega))
theorem clN_keep (hx : Rx C S a b c e 2000) (ha : AC S a) (hk : KM S c e) : ∀ n, n ≤ c → Rx (bClaimN C (-1) n).2.2 (mClN S c (-1) n).2.2 a b c e 2000 ∧ AC (mClN S c (-1) n).2.2 a ∧ KM (mClN S c (-1) n).2.2 c e := by
  intro n
  induction n with
  | zero => exact fun _ => ⟨hx, ha, hk⟩
  | succ n ih =>
    intro hn
    refine ⟨(x_claimN hx (Or.inl rfl) (n + 1) hn).1, ?_⟩
    obtain ⟨i1, i2, i3⟩ := ih (by omega)
    by_cases w : mCan (mClN S c (-1) n).2.2 c n = true
    · rw [clN_yes w]
      exact ⟨AC_cl1 i2 i1 (by omega), KM_cl1 i3 i1 (by omega)⟩
    · rw [clN_no w]
      exact ⟨i2, i3⟩
theorem clN_same (hx : Rx C S a b c e 2000) : ∀ n, n ≤ c → (mClN S c (-1) n).2.1 = 0 → (mClN S c (-1) n).2.2 = S := by
  intro n
  induction n with
  | zero => exact fun _ _ => rfl
  | succ n ih =>
    intro hn
    have hb := Rx_b hx
    by_cases w : mCan (mClN S c (-1) n).2.2 c n = true
    · rw [clN_yes w]
      intro z
      obtain ⟨-, -, -, k, hk, h4, -⟩ := x_claimN hx (Or.inl rfl) n (by omega)
      have w2 : (mClN S c (-1) n).2.1 + 1 = 0 := z
      rw [h4, nI_1] at w2
      exact absurd w2 (nI_ne0 (by omega) (by omega))
    · rw [clN_no w]
      exact ih (by omega)
theorem t_cl_no {F' J' : Nat → Int32} (h : LJ C G F D H V J Q S a b c e od sn) (hs : HS G F' D H V J' Q (mClN S c (-1) c).2.2 a b c e) (h0 : (mClN S c (-1) c).2.1 = 0) : (bClaim C (-1)).1 = -2 ∧ LI (bClaim C (-1)).2 G F' D H V J' Q (kOd (bClaim C (-1)).1 od sn) (kSn (bClaim C (-1)).1 sn) := by
  rw [clN_same (Rx_up h.1 (by omega)) c (Nat.le_refl _) h0] at hs
  exact LI_no (F := F') (J := J') ⟨h.1, hs, h.2.2⟩ (x_claim h.1) (by unfold mClaim; rw [if_pos h0])
theorem t_cl_ok {F' J' : Nat → Int32} (h : LJ C G F D H V J Q S a b c e od sn) (hs : HS G F' D H V J' Q (mClN S c (-1) c).2.2 a b c e) (h0 : ¬ (mClN S c (-1) c).2.1 = 0) : (bClaim C (-1)).1 = (mClN S c (-1) c).1 ∧ LI (bClaim C (-1)).2 G F' D H V J' Q (kOd (bClaim C (-1)).1 od sn) (kSn (bClaim C (-1)).1 sn) := by
  obtain ⟨i1, i2, i3⟩ := clN_keep (Rx_up h.1 (by omega)) h.2.2.1 h.2.2.2.1 c (Nat.le_refl _)
  exact LI_yes h.2.2.2.2.1 h.2.2.2.2.2 (x_claim h.1) (by unfold mClaim; rw [if_neg h0]) i1.2.1 hs i2 i3
-- spending
theorem t_sp_no (h : LJ C G F D H V J Q S a b c e od sn) {p m : Nat} {v : Int32} (hp : p < a) (hm : 1 ≤ m ∧ m ≤ 9999) (hv : v = if F (10 * p) < nI m then nI m - F (10 * p) else 0) (hn : 0 ≤ F (10 * p + 9) ∨ (0 < v ∧ (nI p = 0 ∨ F 0 < v))) : (bSpend C (nI p) (nI m)).1 = -2 ∧ LI (bSpend C (nI p) (nI m)).2 G F D H V J Q (kOd (bSpend C (nI p) (nI m)).1 od sn) (kSn (bSpend C (nI p) (nI m)).1 sn) := by
  have hb := LJ_b h
  have e0 : F (10 * p) = sP S p 0 := h.2.1.2.1 p hp 0 (by omega)
  have e00 : F 0 = sP S 0 0 := h.2.1.2.1 0 (by omega) 0 (by omega)
  refine LI_no h (x_spend h.1 _ _) (by
    unfold mSpend
    rw [isP_L h hp, show bIn (nI m) 1 9999 = true from bIn_n (lo := 1) (hi := 9999) hm.1 hm.2 (by omega), nI_clamp (by omega), F9 h hp, if_pos (by rfl), if_pos]
    rw [e0] at hv
    rw [show mSpendH S p (nI m) = v from hv.symm, decide_eq_true_eq]
    rcases hn with z | ⟨z1, z2⟩
    · exact Or.inl z
    · right
      by_cases q : nI p = 0
      · rw [if_pos q]; exact z1
      · rw [if_neg q, ← e00]; exact z2.resolve_left q)
theorem t_sp_ok {F1 F2 F3 F4 : Nat → Int32} (h : LJ C G F D H V J Q S a b c e od sn) {p m : Nat} {v : Int32} (hp : p < a) (hm : 1 ≤ m ∧ m ≤ 9999) (hv : v = if F (10 * p) < nI m then nI m - F (10 * p) else 0) (hc : ¬ 0 ≤ F (10 * p + 9)) (hn : ¬ (0 < v ∧ (nI p = 0 ∨ F 0 < v)))
    (h1 : F1 = upd F (10 * p) (F (10 * p) - (nI m - v))) (h2 : F2 = upd F1 (10 * p + 3) (F1 (10 * p + 3) + nI m)) (h3 : F3 = upd F2 (10 * p + 4) (F2 (10 * p + 4) + v)) (h4 : F4 = upd F3 0 (F3 0 - v)) : (bSpend C (nI p) (nI m)).1 = v ∧ LI (bSpend C (nI p) (nI m)).2 (upd G 7 (G 7 + v)) F4 D H V J Q (kOd (bSpend C (nI p) (nI m)).1 od sn) (kSn (bSpend C (nI p) (nI m)).1 sn) := by
  have hb := LJ_b h
  have hb3 := LJ_b3 h
  have e0 : F (10 * p) = sP S p 0 := h.2.1.2.1 p hp 0 (by omega)
  have e00 : F 0 = sP S 0 0 := h.2.1.2.1 0 (by omega) 0 (by omega)
  have okp := (h.1.2.2.2.1 0 (by omega)).1
  have hv' : mSpendH S p (nI m) = v := by rw [e0] at hv; exact hv.symm
  have c1 : F (10 * p) - (nI m - v) = F (10 * p) + (v - nI m) := by
    rw [Int32.sub_eq_add_neg, Int32.neg_sub]
  have c4 : F3 0 - v = F3 0 + -v := Int32.sub_eq_add_neg _ _
  rw [c1] at h1
  rw [c4] at h4
  have s1 := HS_aF (p := p) (k := 0) (v := v - nI m) h.2.1 hb3 hp (by omega)
  rw [show upd F (10 * p + 0) (F (10 * p + 0) + (v - nI m)) = F1 from h1.symm] at s1
  have s2 := HS_aF (p := p) (k := 3) (v := nI m) s1 hb3 hp (by omega)
  rw [← h2] at s2
  have s3 := HS_aF (p := p) (k := 4) (v := v) s2 hb3 hp (by omega)
  rw [← h3] at s3
  have s4 := HS_aF (p := 0) (k := 0) (v := -v) s3 hb3 (by omega) (by omega)
  rw [show upd F3 (10 * 0 + 0) (F3 (10 * 0 + 0) + -v) = F4 from h4.symm] at s4
  have s5 := HS_lent (v := v) s4 hb3
  have hO : sOk (mSpendS S p (nI m) v) a b c e := sOk_aP (sOk_aP (sOk_aP (sOk_aP (sOk_aP h.1.2.1 (by omega) (by omega) (by omega)) (by omega) (by omega) (by omega)) (by omega) (by omega) (by omega)) (by omega) (by omega) (by omega)) (by omega) (by omega) (by omega)
  have nP : ∀ i, 72 < i → mSpendS S p (nI m) v i = S i := fun i hi => by
    unfold mSpendS
    rw [aP_hi (by omega) (by omega) hi, aP_hi (by omega) (by omega) hi, aP_hi (by omega) (by omega) hi, aP_hi (by omega) (by omega) hi, aP_hi (by omega) (by omega) hi]
  have hA : AC (mSpendS S p (nI m) v) a := by
    have ha := h.2.2.1
    unfold mSpendS
    rw [AC_iff] at ha ⊢
    intro r hr
    rw [df_aP (by omega) (by omega), df_aP (by omega) (by omega), df_aP (by omega) (by omega), df_aP (by omega) (by omega), df_aP (by omega) (by omega), (ha r hr).1]
    constructor
    · simp only [cf, reduceIte, Nat.reduceEqDiff, or_self, or_true, true_or, or_false, false_or]
      by_cases w0 : r = 0 <;> by_cases w1 : r = p <;> simp only [w0, w1, reduceIte]
      all_goals (try subst w0) <;> (try subst w1)
      all_goals (try simp only [*, reduceIte]) <;> grind
    · intro hr0
      rw [aP_10 (by omega) (Or.inr hr0), aP_10 (by omega) (Or.inl (by omega)), aP_10 (by omega) (Or.inl (by omega)), aP_10 (by omega) (Or.inl (by omega)), aP_10 (by omega) (Or.inl (by omega))]
      exact (ha r hr).2 hr0
  refine LI_yes h.2.2.2.2.1 h.2.2.2.2.2 (x_spend h.1 _ _) (S' := mSpendS S p (nI m) v) ?_ hO s5 hA (KM_same h.2.2.2.1 (fun g hg => nP _ (by omega)) (fun k hk j hj => nP _ (by omega)))
  unfold mSpend
  rw [isP_L h hp, show bIn (nI m) 1 9999 = true from bIn_n (lo := 1) (hi := 9999) hm.1 hm.2 (by omega), nI_clamp (by omega), F9 h hp, if_pos (by rfl), if_neg, hv']
  rw [hv', decide_eq_true_eq]
  intro z
  rcases z with z | z
  · exact hc z
  · by_cases q : nI p = 0
    · rw [if_pos q] at z
      exact hn ⟨z, Or.inl q⟩
    · rw [if_neg q, ← e00] at z
      refine hn ⟨?_, Or.inr z⟩
      rw [e00, Int32.lt_iff_toInt_lt] at z
      rw [Int32.lt_iff_toInt_lt, ti_0]
      omega
end ACTS2
