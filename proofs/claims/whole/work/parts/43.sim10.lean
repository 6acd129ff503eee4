/-! A command read: class and reference read the same. -/
theorem scC_run {X : Nat → Int32} {ty sp : Nat} {lo hi : Int32} : ∀ f i j, i ≤ j → j < scC X ty sp lo hi f i → xAt X ty (sp + j) lo hi = true := by
  intro f
  induction f with
  | zero => intro i j h1 h2; have h3 : scC X ty sp lo hi 0 i = i := rfl; omega
  | succ f ih =>
    intro i j h1 h2
    unfold scC at h2
    by_cases w : xAt X ty (sp + i) lo hi = true
    · rw [if_pos w] at h2
      by_cases z : j = i
      · rw [z]; exact w
      · exact ih (i + 1) j (by omega) h2
    · rw [if_neg w] at h2; omega
theorem scC_stop {X : Nat → Int32} {ty sp : Nat} {lo hi : Int32} : ∀ f i, scC X ty sp lo hi f i < i + f → xAt X ty (sp + scC X ty sp lo hi f i) lo hi = false := by
  intro f
  induction f with
  | zero => intro i h; have h3 : scC X ty sp lo hi 0 i = i := rfl; omega
  | succ f ih =>
    intro i h
    unfold scC at h ⊢
    by_cases w : xAt X ty (sp + i) lo hi = true
    · rw [if_pos w] at h ⊢
      exact ih (i + 1) (by omega)
    · rw [if_neg w]
      cases hv : xAt X ty (sp + i) lo hi with
      | false => rfl
      | true => exact absurd hv w
theorem scC_eq {X : Nat → Int32} {ty sp n : Nat} {lo hi : Int32} (hs : xAt X ty (sp + n) lo hi = false) : ∀ f i, i ≤ n → n < i + f → (∀ j, i ≤ j → j < n → xAt X ty (sp + j) lo hi = true) → scC X ty sp lo hi f i = n := by
  intro f
  induction f with
  | zero => intro i h1 h2 _; omega
  | succ f ih =>
    intro i h1 h2 h3
    unfold scC
    by_cases z : i = n
    · rw [z, if_neg (by rw [hs]; decide)]
    · rw [if_pos (h3 i (Nat.le_refl _) (by omega))]
      exact ih (i + 1) (by omega) (by omega) (fun j h4 h5 => h3 j (by omega) h5)
/-- numbers of base 256 -/
def wv (f : Nat → Nat) : Nat → Nat
  | 0 => 0
  | n + 1 => wv f n * 256 + f n
theorem wv_inj {f g : Nat → Nat} : ∀ n m, (∀ j, j < n → 1 ≤ f j ∧ f j < 256) → (∀ j, j < m → 1 ≤ g j ∧ g j < 256) → wv f n = wv g m → n = m ∧ ∀ j, j < n → f j = g j := by
  intro n
  induction n with
  | zero =>
    intro m _ hg h
    cases m with
    | zero => exact ⟨rfl, fun j hj => absurd hj (by omega)⟩
    | succ m =>
      have h1 : (0 : Nat) = wv g m * 256 + g m := h
      have := hg m (by omega)
      omega
  | succ n ih =>
    intro m hf hg h
    cases m with
    | zero =>
      have h1 : wv f n * 256 + f n = 0 := h
      have := hf n (by omega)
      omega
    | succ m =>
      have h1 : wv f n * 256 + f n = wv g m * 256 + g m := h
      have h2 := hf n (by omega)
      have h3 := hg m (by omega)
      obtain ⟨r1, r2⟩ := ih m (fun j hj => hf j (by omega)) (fun j hj => hg j (by omega)) (by omega)
      subst r1
      refine ⟨rfl, fun j hj => ?_⟩
      by_cases z : j = n
      · rw [z]; omega
      · exact r2 j (by omega)
theorem wv_lt {f : Nat → Nat} : ∀ n, (∀ j, j < n → f j < 256) → wv f n < 256 ^ n := by
  intro n
  induction n with
  | zero => exact fun _ => Nat.one_pos
  | succ n ih =>
    intro hf
    have h1 := ih (fun j hj => hf j (by omega))
    have h2 := hf n (by omega)
    show wv f n * 256 + f n < _
    rw [Nat.pow_succ]
    omega
def wbt (w j : Nat) : Nat := ((gx_byt.getD w []).getD j 0).toNatClampNeg
def wln (w : Nat) : Nat := gx_len.getD w 0
def dgt (X : Nat → Int32) (r j : Nat) : Nat := (X (r + j)).toNatClampNeg
theorem wbt_in : ∀ w, w < 9 → ∀ j, j < wln w → (97 ≤ wbt w j ∧ wbt w j ≤ 122) ∧ (gx_byt.getD w []).getD j 0 = nI (wbt w j) := by decide +kernel
theorem mW_wv : ∀ w, w < 9 → mW w = lN (wv (wbt w) (wln w)) := by decide +kernel
theorem wln_le : ∀ w, w < 9 → 4 ≤ wln w ∧ wln w ≤ 6 := by decide +kernel
theorem pre_no : ∀ i, i < 9 → ∀ w, w < 9 → i ≠ w → ((List.range 6).any fun j => decide (j < wln i) && decide (j < wln w) && decide (wbt i j ≠ wbt w j)) = true := by decide +kernel
theorem nbM_mN : ∀ w, w < 9 → (mN w).toNatClampNeg = nbM w := by decide +kernel
theorem lt_of {X : Nat → Int32} {ln k : Nat} (h : xAt X ln k 97 122 = true) : k < ln ∧ ∃ d, 97 ≤ d ∧ d ≤ 122 ∧ X k = nI d := by
  simp only [xAt, Bool.and_eq_true, decide_eq_true_eq] at h
  have h2 := bIn_ti.mp h.2
  rw [show (97 : Int32).toInt = 97 from by decide, show (122 : Int32).toInt = 122 from by decide] at h2
  obtain ⟨d, hd, ed⟩ := nI_of (x := X k) (by rw [ti_neg_iff]; omega)
  rw [ed, nI_toInt hd] at h2
  exact ⟨h.1, d, by omega, by omega, ed⟩
theorem lt_is {X : Nat → Int32} {ln k d : Nat} (hk : k < ln) (h1 : 97 ≤ d) (h2 : d ≤ 122) (e : X k = nI d) : xAt X ln k 97 122 = true := by
  unfold xAt
  rw [decide_eq_true hk, Bool.true_and, bIn_ti, show (97 : Int32).toInt = 97 from by decide, show (122 : Int32).toInt = 122 from by decide, e, nI_toInt (by omega)]
  omega
theorem woV_n {X : Nat → Int32} {ln r : Nat} : ∀ n, (∀ j, j < n → xAt X ln (r + j) 97 122 = true) → woV X r n = lN (wv (dgt X r) n) := by
  intro n
  induction n with
  | zero => exact fun _ => rfl
  | succ n ih =>
    intro h
    obtain ⟨-, d, d1, d2, e⟩ := lt_of (h n (by omega))
    show woV X r n * 256 + (X (r + n)).toInt64 = lN (wv (dgt X r) n * 256 + (X (r + n)).toNatClampNeg)
    rw [ih (fun j hj => h j (by omega)), e, nI_l (by omega), nI_clamp (by omega), show (256 : Int64) = lN 256 from rfl, lN_mul, lN_add]
theorem lN_inj {x y : Nat} (hx : x < 2 ^ 62) (hy : y < 2 ^ 62) (h : lN x = lN y) : x = y := by
  have h1 : (lN x).toInt = (lN y).toInt := by rw [h]
  unfold lN at h1
  rw [lg_ofNat_toInt (by omega), lg_ofNat_toInt (by omega)] at h1
  omega
/-- a word stands at r: its letters, and no letter behind -/
def stW (X : Nat → Int32) (ln r w : Nat) : Prop := (∀ j, j < wln w → r + j < ln ∧ X (r + j) = nI (wbt w j)) ∧ xAt X ln (r + wln w) 97 122 = false
theorem run7 : (256 : Nat) ^ 7 < 2 ^ 62 := by decide
theorem dgt_in {X : Nat → Int32} {ln r n : Nat} (h : ∀ j, j < n → xAt X ln (r + j) 97 122 = true) : ∀ j, j < n → 1 ≤ dgt X r j ∧ dgt X r j < 256 := fun j hj => by
  obtain ⟨-, d, d1, d2, e⟩ := lt_of (h j hj)
  unfold dgt
  rw [e, nI_clamp (by omega)]
  omega
theorem wbt_in2 {w : Nat} (hw : w < 9) : ∀ j, j < wln w → 1 ≤ wbt w j ∧ wbt w j < 256 := fun j hj => by
  have := (wbt_in w hw j hj).1
  omega
theorem wv_62 {f : Nat → Nat} {n : Nat} (hn : n ≤ 7) (h : ∀ j, j < n → f j < 256) : wv f n < 2 ^ 62 := by
  have h1 := wv_lt n h
  have h2 : (256 : Nat) ^ n ≤ 256 ^ 7 := Nat.pow_le_pow_right (by omega) hn
  have := run7
  omega
theorem st_run {X : Nat → Int32} {ln r w : Nat} (hw : w < 9) (h : stW X ln r w) : woC X ln r = wln w := by
  have hl := wln_le w hw
  refine scC_eq h.2 7 0 (by omega) (by omega) (fun j _ hj => ?_)
  have hb := (wbt_in w hw j hj).1
  exact lt_is (h.1 j hj).1 hb.1 hb.2 (h.1 j hj).2
theorem fdN_hit {v : Int64} {w : Nat} (hv : mW w = v) (hu : ∀ i, i < 9 → mW i = v → i = w) : ∀ k, k ≤ 9 → w < k → fdN v k = nI w := by
  intro k
  induction k with
  | zero => intro _ h; omega
  | succ k ih =>
    intro hk h
    unfold fdN
    by_cases z : mW k = v
    · rw [if_pos z, hu k (by omega) z]
    · rw [if_neg z]
      exact ih (by omega) (by
        by_cases q : w = k
        · rw [q] at hv; exact absurd hv z
        · omega)
theorem mW_u {i w : Nat} (hi : i < 9) (hw : w < 9) (h : mW i = mW w) : i = w := by
  rw [mW_wv i hi, mW_wv w hw] at h
  have hi6 := wln_le i hi
  have hw6 := wln_le w hw
  obtain ⟨r1, r2⟩ := wv_inj _ _ (wbt_in2 hi) (wbt_in2 hw) (lN_inj (wv_62 (by omega) (fun j hj => (wbt_in2 hi j hj).2)) (wv_62 (by omega) (fun j hj => (wbt_in2 hw j hj).2)) h)
  by_cases z : i = w
  · exact z
  · have hp := pre_no i hi w hw z
    rw [List.any_eq_true] at hp
    obtain ⟨j, -, hj⟩ := hp
    simp only [Bool.and_eq_true, decide_eq_true_eq] at hj
    exact absurd (r2 j hj.1.1) hj.2
theorem st_wv {X : Nat → Int32} {ln r w : Nat} (hw : w < 9) (h : stW X ln r w) : ∀ n, n ≤ wln w → wv (wbt w) n = wv (dgt X r) n := by
  intro n
  induction n with
  | zero => intro _; unfold wv; rfl
  | succ n ih =>
    intro hn
    have hb := (wbt_in w hw n (by omega)).1
    have e : dgt X r n = wbt w n := by unfold dgt; rw [(h.1 n (by omega)).2, nI_clamp (by omega)]
    unfold wv
    rw [ih (by omega), e]
theorem st_hv {X : Nat → Int32} {ln r w : Nat} (hw : w < 9) (h : stW X ln r w) : mW w = woV X r (wln w) := by
  have hr : ∀ j, j < wln w → xAt X ln (r + j) 97 122 = true := fun j hj => by
    have hb := (wbt_in w hw j hj).1
    exact lt_is (h.1 j hj).1 hb.1 hb.2 (h.1 j hj).2
  rw [woV_n _ hr, mW_wv w hw, st_wv hw h _ (Nat.le_refl _)]
theorem st_woF {X : Nat → Int32} {ln r w : Nat} (hw : w < 9) (h : stW X ln r w) : woF X ln r = nI w := by
  have hv := st_hv hw h
  have e : woF X ln r = fdN (woV X r (woC X ln r)) 9 := rfl
  rw [e, st_run hw h, ← hv]
  exact fdN_hit rfl (fun i hi e => mW_u hi hw e) 9 (Nat.le_refl _) hw
/-- what the reference reads as a word stands there -/
theorem st_of {X : Nat → Int32} {ln r w : Nat} (hw : w < 9) (h : woF X ln r = nI w) : stW X ln r w := by
  have hl := wln_le w hw
  have hc := @woC_le X ln r
  have hrun : ∀ j, j < woC X ln r → xAt X ln (r + j) 97 122 = true := fun j hj => scC_run 7 0 j (by omega) hj
  have hm : mW w = woV X r (woC X ln r) := by
    unfold woF at h
    rcases fdN_of (v := woV X r (woC X ln r)) 9 (by omega) with z | ⟨w2, h1, h2, h3⟩
    · rw [z] at h; exact absurd h.symm (nI_m4 (by omega))
    · rw [h2] at h
      have e := (nI_eq (by omega) (by omega)).mp h
      rw [← e]; exact h3
  rw [woV_n _ hrun, mW_wv w hw] at hm
  obtain ⟨r1, r2⟩ := wv_inj _ _ (wbt_in2 hw) (dgt_in hrun) (lN_inj (wv_62 (by omega) (fun j hj => (wbt_in2 hw j hj).2)) (wv_62 hc (fun j hj => (dgt_in hrun j hj).2)) hm)
  refine ⟨fun j hj => ?_, ?_⟩
  · obtain ⟨k1, d, d1, d2, e⟩ := lt_of (hrun j (by omega))
    refine ⟨k1, ?_⟩
    have e2 : dgt X r j = d := by unfold dgt; rw [e, nI_clamp (by omega)]
    rw [e, r2 j hj, e2]
  · rw [r1]
    exact scC_stop 7 0 (by show scC X ln r 97 122 7 0 < 0 + 7; have : scC X ln r 97 122 7 0 = woC X ln r := rfl; omega)
-- the class's words
theorem sgn_lt {X : Nat → Int32} {ln k d : Nat} (h0 : 0 < d) (hd : d < 2 ^ 31) : sgn X ln k = nI d ↔ k < ln ∧ X k = nI d := by
  unfold sgn
  by_cases z : k < ln
  · rw [if_pos z]; exact ⟨fun q => ⟨z, q⟩, fun q => q.2⟩
  · rw [if_neg z]
    exact ⟨fun q => absurd q.symm (nI_ne0 h0 hd), fun q => absurd q.1 z⟩
theorem swN_iff {X : Nat → Int32} {ln r i : Nat} : ∀ n, swN X ln r i n = true ↔ ∀ j, j < n → sgn X ln (r + j) = (gx_byt.getD i []).getD j 0 := by
  intro n
  induction n with
  | zero => exact ⟨fun _ j hj => absurd hj (by omega), fun _ => rfl⟩
  | succ n ih =>
    show (swN X ln r i n && decide (sgn X ln (r + n) = (gx_byt.getD i []).getD n 0)) = true ↔ _
    rw [Bool.and_eq_true, ih, decide_eq_true_eq]
    refine ⟨fun q j hj => ?_, fun q => ⟨fun j hj => q j (by omega), q n (by omega)⟩⟩
    by_cases z : j = n
    · rw [z]; exact q.2
    · exact q.1 j (by omega)
theorem swA_iff {X : Nat → Int32} {ln r w : Nat} (hw : w < 9) (hl : ln ≤ 80) (hr : r ≤ 200) : swA X ln r w = true ↔ ∀ j, j < wln w → r + j < ln ∧ X (r + j) = nI (wbt w j) := by
  have h4 := wln_le w hw
  have hk : ∀ j, j < wln w → (sgn X ln (r + j) = (gx_byt.getD w []).getD j 0 ↔ r + j < ln ∧ X (r + j) = nI (wbt w j)) := fun j hj => by
    have hb := wbt_in w hw j hj
    rw [hb.2]
    exact sgn_lt (by omega) (by omega)
  unfold swA
  rw [Bool.and_eq_true, swN_iff, decide_eq_true_eq]
  refine ⟨fun q j hj => (hk j hj).mp (q.2 j hj), fun q => ⟨?_, fun j hj => (hk j hj).mpr (q j hj)⟩⟩
  have h5 := (q (wln w - 1) (by omega)).1
  rw [show gx_len.getD w 0 = wln w from rfl, Int32.lt_iff_toInt_lt, pk_sub_toInt (by omega) (by omega), nI_toInt (by omega)]
  omega
theorem swA_u {X : Nat → Int32} {ln r i w : Nat} (hi : i < 9) (hw : w < 9) (hl : ln ≤ 80) (hr : r ≤ 200) (h1 : swA X ln r i = true) (h2 : swA X ln r w = true) : i = w := by
  by_cases z : i = w
  · exact z
  · have hp := pre_no i hi w hw z
    rw [List.any_eq_true] at hp
    obtain ⟨j, -, hj⟩ := hp
    simp only [Bool.and_eq_true, decide_eq_true_eq] at hj
    have e1 := ((swA_iff hi hl hr).mp h1 j hj.1.1).2
    have e2 := ((swA_iff hw hl hr).mp h2 j hj.1.2).2
    have b1 := (wbt_in i hi j hj.1.1).1
    have b2 := (wbt_in w hw j hj.1.2).1
    exact absurd ((nI_eq (by omega) (by omega)).mp (e1.symm.trans e2)) hj.2
theorem kdF_hit {X : Nat → Int32} {ln r w : Nat} (hw : swA X ln r w = true) (hu : ∀ i, i < w → swA X ln r i = false) : ∀ f i, i ≤ w → w < i + f → kdF X ln r f i = w := by
  intro f
  induction f with
  | zero => intro i h1 h2; omega
  | succ f ih =>
    intro i h1 h2
    unfold kdF
    by_cases z : i = w
    · rw [z, if_pos hw]
    · rw [if_neg (by rw [hu i (by omega)]; decide)]
      exact ih (i + 1) (by omega) (by omega)
theorem kdF_sw {X : Nat → Int32} {ln r : Nat} : ∀ f i, kdF X ln r f i < i + f → swA X ln r (kdF X ln r f i) = true := by
  intro f
  induction f with
  | zero => intro i h; have : kdF X ln r 0 i = i := rfl; omega
  | succ f ih =>
    intro i h
    unfold kdF at h ⊢
    by_cases z : swA X ln r i = true
    · rw [if_pos z]; exact z
    · rw [if_neg z] at h ⊢
      exact ih (i + 1) (by omega)
theorem kdA_hit {X : Nat → Int32} {ln r w : Nat} (hw : w < 9) (hl : ln ≤ 80) (hr : r ≤ 200) (h : swA X ln r w = true) : kdA X ln r = w :=
  kdF_hit h (fun i hi => by
    cases hv : swA X ln r i with
    | false => rfl
    | true => exact absurd (swA_u (by omega) hw hl hr hv h) (by omega)) 9 0 (by omega) (by omega)
-- numbers
theorem x32 {X : Nat → Int32} {ln k : Nat} {v : Int32} {d : Nat} (hv : v = nI d) (h0 : 0 < d) (hd : d < 2 ^ 31) : xAt X ln k v v = decide (sgn X ln k = v) := by
  unfold xAt
  rw [hv]
  have h1 : bIn (X k) (nI d) (nI d) = true ↔ X k = nI d := by
    rw [bIn_ti]
    exact ⟨fun q => ti_eq (by omega), fun q => by rw [q]; omega⟩
  by_cases z : k < ln
  · rw [decide_eq_true z, Bool.true_and]
    have h2 : sgn X ln k = X k := if_pos z
    rw [h2]
    by_cases w : X k = nI d
    · rw [decide_eq_true w, h1.mpr w]
    · rw [decide_eq_false w]
      cases hb : bIn (X k) (nI d) (nI d) with
      | false => rfl
      | true => exact absurd (h1.mp hb) w
  · rw [decide_eq_false z, Bool.false_and, decide_eq_false (fun q => z ((sgn_lt h0 hd).mp q).1)]
theorem x_32 {X : Nat → Int32} {ln k : Nat} : xAt X ln k 32 32 = decide (sgn X ln k = 32) := x32 (d := 32) rfl (by omega) (by omega)
theorem x_59 {X : Nat → Int32} {ln k : Nat} : xAt X ln k 59 59 = decide (sgn X ln k = 59) := x32 (d := 59) rfl (by omega) (by omega)
theorem dig_x {X : Nat → Int32} {ln k : Nat} : bIn (sgn X ln k) 48 57 = xAt X ln k 48 57 := by
  unfold xAt sgn
  by_cases z : k < ln
  · rw [if_pos z, decide_eq_true z, Bool.true_and]
  · rw [if_neg z, decide_eq_false z, Bool.false_and]
    decide
theorem dxC_n {X : Nat → Int32} {ln r : Nat} : ∀ f i, dxC X ln r f i = scC X ln r 48 57 f i := by
  intro f
  induction f with
  | zero => exact fun _ => rfl
  | succ f ih =>
    intro i
    unfold dxC scC
    rw [dig_x, ih]
theorem dxN_n {X : Nat → Int32} {ln r : Nat} : dxN X ln r = nuC X ln r := dxC_n 4 0
theorem dxV_n {X : Nat → Int32} {ln r : Nat} : ∀ n, (∀ j, j < n → r + j < ln) → dxV X ln r n = nuV X r n := by
  intro n
  induction n with
  | zero => exact fun _ => rfl
  | succ n ih =>
    intro h
    show dxV X ln r n * 10 + sgn X ln (r + n) - 48 = 10 * nuV X r n + X (r + n) - 48
    rw [ih (fun j hj => h j (by omega)), show sgn X ln (r + n) = X (r + n) from if_pos (h n (by omega)), Int32.mul_comm]
theorem nu_in {X : Nat → Int32} {ln r : Nat} : ∀ j, j < nuC X ln r → r + j < ln := fun j hj => by
  have h := scC_run (X := X) (ty := ln) (sp := r) (lo := 48) (hi := 57) 4 0 j (by omega) hj
  simp only [xAt, Bool.and_eq_true, decide_eq_true_eq] at h
  exact h.1
def rdF (X : Nat → Int32) (ty : Nat) : Nat → Nat → gx_Rd → gx_Rd
  | 0, _, s => s
  | f + 1, i, s => rdF X ty f (i + 1) (rd1 X ty i s)
theorem rdF_end {X : Nat → Int32} {ty : Nat} : ∀ f i s, rdF X ty (f + 1) i s = rd1 X ty (i + f) (rdF X ty f i s) := by
  intro f
  induction f with
  | zero => exact fun i s => rfl
  | succ f ih =>
    intro i s
    show rdF X ty (f + 1) (i + 1) (rd1 X ty i s) = _
    rw [ih]
    congr 1
    omega
theorem rdN_F {X : Nat → Int32} {ty sp : Nat} {Z : Nat → Int32} : ∀ k, rdN X ty Z sp k = rdF X ty k 0 (true, sp, Z) := by
  intro k
  induction k with
  | zero => rfl
  | succ k ih =>
    rw [rdF_end, Nat.zero_add, ← ih]
    rfl
theorem rdF_no {X : Nat → Int32} {ty : Nat} : ∀ f i s, s.1 = false → (rdF X ty f i s).1 = false := by
  intro f
  induction f with
  | zero => exact fun i s h => h
  | succ f ih =>
    intro i s h
    show (rdF X ty f (i + 1) (rd1 X ty i s)).1 = false
    refine ih _ _ ?_
    unfold rd1
    rw [h]
    exact h
theorem rcL_n {X : Nat → Int32} {ln : Nat} : ∀ f i r M Z, (∀ j, j < i → M j = Z j) → (rcL X ln f i r M).1 = (rdF X ln f i (true, r, Z)).1 ∧ ((rcL X ln f i r M).1 = true → (rcL X ln f i r M).2.1 = (rdF X ln f i (true, r, Z)).2.1 ∧ ∀ j, j < i + f → (rcL X ln f i r M).2.2 j = (rdF X ln f i (true, r, Z)).2.2 j) := by
  intro f
  induction f with
  | zero => exact fun i r M Z h => ⟨rfl, fun _ => ⟨rfl, fun j hj => h j (by omega)⟩⟩
  | succ f ih =>
    intro i r M Z h
    show (rcL X ln (f + 1) i r M).1 = (rdF X ln f (i + 1) (rd1 X ln i (true, r, Z))).1 ∧ ((rcL X ln (f + 1) i r M).1 = true → (rcL X ln (f + 1) i r M).2.1 = (rdF X ln f (i + 1) (rd1 X ln i (true, r, Z))).2.1 ∧ ∀ j, j < i + (f + 1) → (rcL X ln (f + 1) i r M).2.2 j = (rdF X ln f (i + 1) (rd1 X ln i (true, r, Z))).2.2 j)
    unfold rcL rd1
    rw [if_pos (show (true, r, Z).1 = true from rfl), x_32, dxN_n]
    dsimp only
    by_cases w : sgn X ln r = 32
    · rw [if_pos w, if_pos (decide_eq_true w)]
      by_cases z : nuC X ln (r + 1) = 0
      · rw [if_pos z, z]
        have e := rdF_no (X := X) (ty := ln) f (i + 1) (decide (0 < 0), r + 1 + 0, upd Z i (nuV X (r + 1) 0)) rfl
        rw [e]
        exact ⟨rfl, fun q => absurd q Bool.false_ne_true⟩
      · rw [if_neg z, decide_eq_true (by omega : 0 < nuC X ln (r + 1)), dxV_n _ nu_in]
        have i1 := ih (i + 1) (r + 1 + nuC X ln (r + 1)) (upd M i (nuV X (r + 1) (nuC X ln (r + 1)))) (upd Z i (nuV X (r + 1) (nuC X ln (r + 1)))) (fun j hj => by
          by_cases q : j = i
          · rw [q, upd_eq, upd_eq]
          · rw [upd_ne q, upd_ne q]; exact h j (by omega))
        refine ⟨i1.1, fun q => ?_⟩
        obtain ⟨j1, j2⟩ := i1.2 q
        exact ⟨j1, fun j hj => j2 j (by omega)⟩
    · rw [if_neg w, if_neg (by rw [decide_eq_false w]; decide)]
      have e := rdF_no (X := X) (ty := ln) f (i + 1) (false, r, Z) rfl
      rw [e]
      exact ⟨rfl, fun q => absurd q Bool.false_ne_true⟩
theorem lt_not {X : Nat → Int32} {ln k d : Nat} (h : xAt X ln k 97 122 = true) (hd : d < 97) : ¬ sgn X ln k = nI d := fun q => by
  obtain ⟨k1, d2, d3, d4, e⟩ := lt_of h
  rw [show sgn X ln k = X k from if_pos k1, e] at q
  have := (nI_eq (by omega) (by omega)).mp q
  omega
/-- both read the same command, or both none -/
theorem parse {X : Nat → Int32} {ln r : Nat} (N Z : Nat → Int32) (hl : ln ≤ 80) (hr : r ≤ 200) : (rcK X ln r N = -1 ∧ (rdR X ln Z r).1 < 0) ∨ ∃ w, w < 9 ∧ rcK X ln r N = nI w ∧ (rdR X ln Z r).1 = nI w ∧ rcP X ln r N = (rdR X ln Z r).2.1 ∧ ∀ j, j < nbM w → rcN X ln r N j = (rdR X ln Z r).2.2 j := by
  by_cases hE : ∃ w, w < 9 ∧ stW X ln r w
  · obtain ⟨w, hw, hs⟩ := hE
    have e1 := st_run hw hs
    have e2 := st_woF hw hs
    have e3 : kdA X ln r = w := kdA_hit hw hl hr ((swA_iff hw hl hr).mpr hs.1)
    have e4 : kdP X ln r = r + wln w := by unfold kdP; rw [e3, if_pos hw]; rfl
    have e5 : kdR X ln r = nI w := by unfold kdR; rw [e3, if_pos hw]
    have e6 : rdE X ln Z r w = rdF X ln (nbM w) 0 (true, r + wln w, Z) := by unfold rdE; rw [e1, nbM_mN w hw, rdN_F]
    obtain ⟨i1, i2⟩ := rcL_n (X := X) (ln := ln) (nbM w) 0 (r + wln w) N Z (fun j hj => absurd hj (by omega))
    unfold rcK rcP rcN rdR rcA
    rw [e2, e3, e4, e5, if_neg (nI_pos (by omega)), nI_clamp (by omega), e6]
    by_cases z : (rcL X ln (nbM w) 0 (r + wln w) N).1 = true
    · obtain ⟨j1, j2⟩ := i2 z
      rw [if_pos z, if_pos z, if_pos (i1.symm.trans z), x_59, ← j1]
      by_cases y : sgn X ln (rcL X ln (nbM w) 0 (r + wln w) N).2.1 = 59
      · rw [if_pos y, if_pos y, if_pos (decide_eq_true y)]
        exact Or.inr ⟨w, hw, rfl, rfl, rfl, fun j hj => j2 j (by omega)⟩
      · rw [if_neg y, if_neg (by rw [decide_eq_false y]; decide)]
        exact Or.inl ⟨rfl, by show (-4 : Int32) < 0; decide⟩
    · rw [if_neg z, if_neg (fun q => z (i1.trans q))]
      exact Or.inl ⟨rfl, by show (-4 : Int32) < 0; decide⟩
  · left
    refine ⟨?_, ?_⟩
    · unfold rcK
      have hk := @kdA_le X ln r
      by_cases z : kdA X ln r < 9
      · have hs : swA X ln r (kdA X ln r) = true := kdF_sw 9 0 (by show kdA X ln r < 0 + 9; omega)
        have hlet : xAt X ln (r + wln (kdA X ln r)) 97 122 = true := by
          cases hv : xAt X ln (r + wln (kdA X ln r)) 97 122 with
          | true => rfl
          | false => exact absurd ⟨kdA X ln r, z, (swA_iff z hl hr).mp hs, hv⟩ hE
        have e4 : kdP X ln r = r + wln (kdA X ln r) := by unfold kdP; rw [if_pos z]; rfl
        unfold rcA
        rw [e4]
        generalize hn : nbM (kdA X ln r) = n
        cases n with
        | zero =>
          show (if (true = true) then (if sgn X ln (r + wln (kdA X ln r)) = 59 then kdR X ln r else -1) else -1) = -1
          rw [if_pos rfl, if_neg (show ¬ sgn X ln (r + wln (kdA X ln r)) = 59 from lt_not (d := 59) hlet (by omega))]
        | succ n =>
          have e : (rcL X ln (n + 1) 0 (r + wln (kdA X ln r)) N).1 = false := by
            unfold rcL
            rw [if_neg (show ¬ sgn X ln (r + wln (kdA X ln r)) = 32 from lt_not (d := 32) hlet (by omega))]
          rw [e]
          rfl
      · have e5 : kdR X ln r = -1 := by unfold kdR; rw [if_neg z]
        rw [e5]
        split
        · split <;> rfl
        · rfl
    · unfold rdR
      have h1 : woF X ln r < 0 := by
        by_cases q : woF X ln r < 0
        · exact q
        · obtain ⟨w, hw, e⟩ := woF_of q
          exact absurd ⟨w, hw, st_of hw e⟩ hE
      rw [if_pos h1]
      exact (by decide : (-4 : Int32) < 0)
