def fitp (v : Nat → Int64) (b : Int32) (i : Nat) : Bool := (!decide (Int32.toInt64 b < v (2 * i))) == decide (v (2 * i + 1) = jd 1)
def fit (v : Nat → Int64) (P : Int32) (k x : Nat) : Bool := alb (fitp v (bmin (wd x + P))) k
theorem lt_64 {b : Int32} {s : Nat} (hs : s < 2147483648) : (Int32.toInt64 b < jd s) = (b < wd s) := by
  rw [Int64.lt_iff_toInt_lt, Int32.lt_iff_toInt_lt, Int32.toInt_toInt64, jd_int (by omega), wd_int hs]
def ctb (q : Nat → Bool) : Nat → Nat
  | 0 => 0
  | i + 1 => ctb q i + (if q i then 1 else 0)
theorem ctb_s (q : Nat → Bool) (i : Nat) : ctb q (i + 1) = ctb q i + (if q i then 1 else 0) := rfl
theorem ctb_le (q : Nat → Bool) : ∀ i, ctb q i ≤ i := by
  intro i
  induction i with
  | zero => exact Nat.le_refl 0
  | succ i ih => rw [ctb_s]; split <;> omega
theorem ctb_congr {p q : Nat → Bool} : ∀ n, (∀ i, i < n → p i = q i) → ctb p n = ctb q n := by
  intro n
  induction n with
  | zero => intro _; rfl
  | succ n ih => intro h; rw [ctb_s, ctb_s, ih (fun i hi => h i (by omega)), h n (by omega)]
theorem ctb_sub {p q : Nat → Bool} (h : ∀ i, p i = true → q i = true) : ∀ n, ctb p n ≤ ctb q n := by
  intro n
  induction n with
  | zero => exact Nat.le_refl 0
  | succ n ih =>
    rw [ctb_s, ctb_s]
    have := h n
    cases h1 : p n
    · simp only [Bool.false_eq_true, if_false]; omega
    · rw [this h1]; omega
/-- a set without holes -/
theorem conv_ex {p : Nat → Bool} (h : ∀ a b d, a ≤ b → b ≤ d → p a = true → p d = true → p b = true) : ∀ n, ∃ lo hi, lo ≤ n ∧ hi ≤ n ∧ ∀ x, x < n → p x = decide (lo ≤ x ∧ x < hi) := by
  intro n
  induction n with
  | zero => exact ⟨0, 0, by omega, by omega, fun x hx => absurd hx (by omega)⟩
  | succ n ih =>
    obtain ⟨lo, hi, h1, h2, h3⟩ := ih
    cases hp : p n
    · refine ⟨lo, hi, by omega, by omega, fun x hx => ?_⟩
      by_cases hxn : x = n
      · subst hxn; rw [hp]; symm; simp; omega
      · exact h3 x (by omega)
    · by_cases hl : lo < hi
      · refine ⟨lo, n + 1, by omega, by omega, fun x hx => ?_⟩
        by_cases hxl : lo ≤ x
        · have : p lo = true := by rw [h3 lo (by omega)]; simp; omega
          rw [h lo x n hxl (by omega) this hp]; symm; simp; omega
        · rw [h3 x (by omega)]; simp [hxl]
      · refine ⟨n, n + 1, by omega, by omega, fun x hx => ?_⟩
        by_cases hxn : x = n
        · subst hxn; rw [hp]; symm; simp
        · rw [h3 x (by omega)]
          apply decide_eq_decide.2
          omega
theorem bc_21 : ∀ lo, lo ≤ 21 → ∀ hi, hi ≤ 21 → f_J6_bitCount_0f7a4 0 (wd (mask (fun x => decide (lo ≤ x ∧ x < hi)) 21)) = some (wd (ctb (fun x => decide (lo ≤ x ∧ x < hi)) 21)) := by decide +kernel
theorem c_bc21 {fu : Nat} {p : Nat → Bool} (h : ∀ a b d, a ≤ b → b ≤ d → p a = true → p d = true → p b = true) : f_J6_bitCount_0f7a4 fu (wd (mask p 21)) = some (wd (ctb p 21)) := by
  obtain ⟨lo, hi, h1, h2, h3⟩ := conv_ex h 21
  rw [mask_congr h3, ctb_congr 21 h3]
  exact bc_21 lo h1 hi h2
def bwn (PM x : Nat) : Nat := if x + PM < 99 then x + PM else 99
theorem bw_e {PM x : Nat} (hP : PM ≤ 1000) (hx : x ≤ 1000) : bmin (wd x + wd PM) = wd (bwn PM x) := by
  unfold bmin bwn
  rw [wd_add]
  simp (disch := omega) only [wd_lt]
  by_cases h : x + PM < 99
  · rw [if_pos h, if_pos h]
  · rw [if_neg h, if_neg h]
theorem bwn_mono {PM x y : Nat} (h : x ≤ y) : bwn PM x ≤ bwn PM y := by
  unfold bwn
  split <;> split <;> omega
theorem bwn_le (PM x : Nat) : bwn PM x ≤ 99 := by unfold bwn; split <;> omega
theorem fit_conv {v : Nat → Int64} {PM k : Nat} (hP : PM ≤ 1000) (hv : ∀ i, i < k → osz (v (2 * i)) = true) : ∀ a b d, a ≤ b → b ≤ d → (decide (a ≤ 20) && fit v (wd PM) k a) = true → (decide (d ≤ 20) && fit v (wd PM) k d) = true → (decide (b ≤ 20) && fit v (wd PM) k b) = true := by
  intro a b d hab hbd ha hd
  rw [Bool.and_eq_true, decide_eq_true_eq] at ha hd ⊢
  obtain ⟨ha0, ha⟩ := ha
  obtain ⟨hd0, hd⟩ := hd
  refine ⟨by omega, ?_⟩
  unfold fit at ha hd ⊢
  rw [alb_iff] at ha hd ⊢
  intro i hi
  have h1 := ha i hi
  have h2 := hd i hi
  obtain ⟨s, hs1, hs2, es⟩ := osz_ex (hv i hi)
  have hm1 := bwn_mono (PM := PM) hab
  have hm2 := bwn_mono (PM := PM) hbd
  have hl := bwn_le PM d
  unfold fitp at h1 h2 ⊢
  rw [es, bw_e hP (by omega)] at h1 h2 ⊢
  simp (disch := omega) only [lt_64, wd_lt, beq_iff_eq] at h1 h2 ⊢
  rw [← h1]
  rw [← h1] at h2
  by_cases c1 : bwn PM a < s
  · have c2 : bwn PM d < s := by
      apply Classical.byContradiction
      intro h
      simp [c1, h] at h2
    have c3 : bwn PM b < s := by omega
    simp [c1, c3]
  · have c3 : ¬ bwn PM b < s := by omega
    simp [c1, c3]
section
variable {fu c : Nat} {at_ cou wei med sto fle lik vot : Nat → Int32} {cnt liv pri quo mel los st st' : Int32}
theorem c_fitl {row : Nat → Int64} {n k x m : Nat} {med : Nat → Int32} {cnt pri x4 b : Int32} {K : Int32 → Int32 → Option Int32} (hx : x ≤ 20) (hn : n ≤ 60) (hk : 2 * k ≤ n) (hf : 1000 ≤ fu) : f_X11_fittingCourages_l57 fu row (wd n) med cnt pri (wd m) (wd k) K fu x4 (wd x) b (wd 1) (wd 0) = if alb (fitp row b) k then K (x4 ||| wd (1 <<< x)) (wd (x + 1)) else K x4 (wd (x + 1)) := by
  have key : ∀ d i mm, i + d = k → d + 1 < mm → alb (fitp row b) i = true → f_X11_fittingCourages_l57 fu row (wd n) med cnt pri (wd m) (wd k) K mm x4 (wd x) b (wd 1) (wd i) = if alb (fitp row b) k then K (x4 ||| wd (1 <<< x)) (wd (x + 1)) else K x4 (wd (x + 1)) := by
    intro d
    induction d with
    | zero =>
      intro i mm hi hm hI
      obtain ⟨mm, rfl⟩ : ∃ z, mm = z + 1 := ⟨mm - 1, by omega⟩
      have : i = k := by omega
      subst this
      rw [hI]
      simp (disch := omega) only [f_X11_fittingCourages_l57, f_X11_fittingCourages_b57, f_X11_fittingCourages_j124, Nat.le_refl, wd_lit, wd_of, wd_add, wd_mul, wd_neg, Option.bind_some, bnd, rdI_wd, wrI_wd, rdJ_wd, wrJ_wd, wd_31, wd_le, wd_lt, wd_inj, wd_eqm, wd_eqm', wd_ltm, wd_lem, wd_ltm2, wd_lem2, wd_bit0', wd_bit1', wd_shl, wd_or, wd_dif, i01_t, i01_f, jd_lit, i01_bz, bz_1, bz_0, f_X11_refuse, f_X11_answer, f_X11_allow, f_X11_deny, f_X12_refuse, f_X12_gives, f_X12_is, Option.some.injEq, exists_eq', if_true, if_false, ↓reduceIte, Nat.reduceEqDiff, Nat.reduceLT, Nat.reduceAdd]
    | succ d ih =>
      intro i mm hi hm hI
      obtain ⟨mm, rfl⟩ : ∃ z, mm = z + 1 + 1 := ⟨mm - 2, by omega⟩
      have hq0 := imn_wd (c := n) (by omega) (show 2 * i < n by omega)
      have hq1 := imn_wd (c := n) (by omega) (show 2 * i + 1 < n by omega)
      have e0 : f_X8_at fu row (wd n) (wd (2 * i)) = some (row (2 * i)) := by
        simp (disch := omega) only [f_X8_at, wd_lit, wd_of, wd_add, wd_mul, wd_neg, Option.bind_some, bnd, rdI_wd, wrI_wd, rdJ_wd, wrJ_wd, wd_31, wd_le, wd_lt, wd_inj, wd_eqm, wd_eqm', wd_ltm, wd_lem, wd_ltm2, wd_lem2, wd_bit0', wd_bit1', wd_shl, wd_or, wd_dif, c_hasP1, hq0, i01_t, Nat.reduceEqDiff, if_false]
      have e1 : f_X8_at fu row (wd n) (wd (2 * i + 1)) = some (row (2 * i + 1)) := by
        simp (disch := omega) only [f_X8_at, wd_lit, wd_of, wd_add, wd_mul, wd_neg, Option.bind_some, bnd, rdI_wd, wrI_wd, rdJ_wd, wrJ_wd, wd_31, wd_le, wd_lt, wd_inj, wd_eqm, wd_eqm', wd_ltm, wd_lem, wd_ltm2, wd_lem2, wd_bit0', wd_bit1', wd_shl, wd_or, wd_dif, c_hasP1, hq1, i01_t, Nat.reduceEqDiff, if_false]
      have hstep : f_X11_fittingCourages_l57 fu row (wd n) med cnt pri (wd m) (wd k) K (mm + 1 + 1) x4 (wd x) b (wd 1) (wd i) = f_X11_fittingCourages_l57 fu row (wd n) med cnt pri (wd m) (wd k) K (mm + 1) x4 (wd x) b (i01 (fitp row b i)) (wd (i + 1)) := by
        rw [f_X11_fittingCourages_l57]
        have ni : ¬ k ≤ i := by omega
        simp (disch := omega) only [f_X11_fittingCourages_b57, f_X11_fittingCourages_j88, f_X11_fittingCourages_j108, wd_lit, wd_of, wd_add, wd_mul, wd_neg, Option.bind_some, bnd, rdI_wd, wrI_wd, rdJ_wd, wrJ_wd, wd_31, wd_le, wd_lt, wd_inj, wd_eqm, wd_eqm', wd_ltm, wd_lem, wd_ltm2, wd_lem2, wd_bit0', wd_bit1', wd_shl, wd_or, wd_dif, e0, e1, lgc_ltw, lgc_eqw, jd_lit, ni, if_false, Nat.reduceEqDiff]
        unfold fitp
        by_cases c1 : Int32.toInt64 b < row (2 * i)
        · by_cases c2 : row (2 * i + 1) = jd 1
          · simp [c1, c2, i01]
          · simp [c1, c2, i01]
        · by_cases c2 : row (2 * i + 1) = jd 1
          · simp [c1, c2, i01]
          · simp [c1, c2, i01]
      rw [hstep]
      cases hp : fitp row b i
      · rw [alb_f (show i < k by omega) hp]
        simp (disch := omega) only [f_X11_fittingCourages_l57, f_X11_fittingCourages_b57, f_X11_fittingCourages_j124, ite_self, Bool.false_eq_true, wd_lit, wd_of, wd_add, wd_mul, wd_neg, Option.bind_some, bnd, rdI_wd, wrI_wd, rdJ_wd, wrJ_wd, wd_31, wd_le, wd_lt, wd_inj, wd_eqm, wd_eqm', wd_ltm, wd_lem, wd_ltm2, wd_lem2, wd_bit0', wd_bit1', wd_shl, wd_or, wd_dif, i01_t, i01_f, jd_lit, i01_bz, bz_1, bz_0, f_X11_refuse, f_X11_answer, f_X11_allow, f_X11_deny, f_X12_refuse, f_X12_gives, f_X12_is, Option.some.injEq, exists_eq', if_true, if_false, ↓reduceIte, Nat.reduceEqDiff, Nat.reduceLT, Nat.reduceAdd]
      · exact ih (i + 1) (mm + 1) (by omega) (by omega) (by rw [alb_s, hI, hp]; rfl)
  exact key k 0 fu (by omega) (by omega) rfl
theorem c_fitting {row : Nat → Int64} {n k m : Nat} {med : Nat → Int32} (hm : m < c) (h8 : c ≤ 8) (hmed : med m = mn at_ m 2) (hn : n ≤ 60) (hk : 2 * k ≤ n) (hf : 1000 ≤ fu) : f_X11_fittingCourages fu row (wd n) med (wd c) (at_ 1) (wd m) (wd k) = some (wd (mask (fit row (at_ 1 * mn at_ m 2) k) 21)) := by
  have q0 := imn_wd (c := c) (by omega) hm
  unfold f_X11_fittingCourages
  simp (disch := omega) only [c_isM, q0, wd_lit, wd_of, wd_add, wd_mul, wd_neg, Option.bind_some, bnd, rdI_wd, wrI_wd, rdJ_wd, wrJ_wd, wd_31, wd_le, wd_lt, wd_inj, wd_eqm, wd_eqm', wd_ltm, wd_lem, wd_ltm2, wd_lem2, wd_bit0', wd_bit1', wd_shl, wd_or, wd_dif, i01_t, Nat.reduceEqDiff, if_false]
  refine loop_seq (fun mm i (x : Nat) => f_X11_fittingCourages_l24 fu row (wd n) med (wd c) (at_ 1) (wd m) (wd k) mm (wd x) (wd i)) (fun i => mask (fit row (at_ 1 * mn at_ m 2) k) i) 21 _ ?_ ?_ 0 fu (by omega) (by omega)
  · intro mm i hi
    have ni : ¬ 20 < i := by omega
    rw [f_X11_fittingCourages_l24, f_X11_fittingCourages_b24]
    simp (disch := omega) only [hmed, c_bw, ni, wd_lit, wd_of, wd_add, wd_mul, wd_neg, Option.bind_some, bnd, rdI_wd, wrI_wd, rdJ_wd, wrJ_wd, wd_31, wd_le, wd_lt, wd_inj, wd_eqm, wd_eqm', wd_ltm, wd_lem, wd_ltm2, wd_lem2, wd_bit0', wd_bit1', wd_shl, wd_or, wd_dif, i01_t, i01_f, jd_lit, i01_bz, bz_1, bz_0, f_X11_refuse, f_X11_answer, f_X11_allow, f_X11_deny, f_X12_refuse, f_X12_gives, f_X12_is, Option.some.injEq, exists_eq', if_true, if_false, ↓reduceIte, Nat.reduceEqDiff, Nat.reduceLT, Nat.reduceAdd, c_fitl (show i ≤ 20 by omega) hn hk hf]
    rw [mask_s]
    show (if fit row (at_ 1 * mn at_ m 2) k i = true then _ else _) = _
    cases fit row (at_ 1 * mn at_ m 2) k i
    · simp
    · simp
  · intro mm
    simp (disch := omega) only [f_X11_fittingCourages_l24, f_X11_fittingCourages_b24, wd_lit, wd_of, wd_add, wd_mul, wd_neg, Option.bind_some, bnd, rdI_wd, wrI_wd, rdJ_wd, wrJ_wd, wd_31, wd_le, wd_lt, wd_inj, wd_eqm, wd_eqm', wd_ltm, wd_lem, wd_ltm2, wd_lem2, wd_bit0', wd_bit1', wd_shl, wd_or, wd_dif, i01_t, i01_f, jd_lit, i01_bz, bz_1, bz_0, f_X11_refuse, f_X11_answer, f_X11_allow, f_X11_deny, f_X12_refuse, f_X12_gives, f_X12_is, Option.some.injEq, exists_eq', if_true, if_false, ↓reduceIte, Nat.reduceEqDiff, Nat.reduceLT, Nat.reduceAdd]
theorem r_would {m : Nat} {x z : Int32} (hm : m < 8) : f_X12_wouldStand fu at_ x (wd m) z = some (i01 (!decide (bmin (x + at_ 1 * mn at_ m 2) < z))) := by
  simp (disch := omega) only [f_X12_wouldStand, wd_lit, wd_of, wd_add, wd_mul, wd_neg, Option.bind_some, bnd, rdI_wd, wrI_wd, rdJ_wd, wrJ_wd, wd_31, r_manOf, bmin]
  exact ie_i01 (α := Nat)
theorem r_fits {tr : Nat → Int64} {k x m t : Nat} (hm : m < 8) (ht : t < 4) (hk : k ≤ 20) (hx : x ≤ 1000) (hv : ∀ i, i < k → osz (shJ (60 * t) tr (2 * i)) = true) (hf : 1000 ≤ fu) : f_X12_fits fu at_ tr (wd x) (wd m) (wd t) (wd k) = some (i01 (fit (shJ (60 * t) tr) (at_ 1 * mn at_ m 2) k x)) := by
  unfold f_X12_fits fit
  simp (disch := omega) only [wd_lit, wd_of, wd_add, wd_mul, wd_neg, Option.bind_some, bnd, rdI_wd, wrI_wd, rdJ_wd, wrJ_wd, wd_31]
  generalize hb : bmin (wd x + at_ 1 * mn at_ m 2) = b
  have key := loop_inv2 (fun mm i (_ : Unit) => f_X12_fits_l9 fu at_ tr (wd x) (wd m) (wd t) (wd k) mm (wd (60 * t)) (wd i)) (fun i _ => alb (fitp (shJ (60 * t) tr) b) i = true) (fun r => r = i01 (alb (fitp (shJ (60 * t) tr) b) k)) k ?_ ?_ 0 fu () (by omega) (by omega) rfl
  · obtain ⟨r, e, rfl⟩ := key
    exact e
  · intro mm i _ hi hI
    have ni : ¬ k ≤ i := by omega
    obtain ⟨s, hs1, hs2, es⟩ := osz_ex (hv i hi)
    have e1 : tr (60 * t + 2 * i) = jd s := es
    have e2 : tr (60 * t + 2 * i + 1) = shJ (60 * t) tr (2 * i + 1) := rfl
    cases hp : fitp (shJ (60 * t) tr) b i
    · right
      refine ⟨wd 0, ?_, by rw [alb_f hi hp]; rfl⟩
      unfold fitp at hp
      rw [es] at hp
      simp (disch := omega) only [lt_64] at hp
      simp (disch := omega) only [f_X12_fits_l9, f_X12_fits_b9, f_X12_fits_j59, r_would hm, hb, e1, e2, jd_i32, lgc_eqw, ni, jd_lit, wd_lit, wd_of, wd_add, wd_mul, wd_neg, Option.bind_some, bnd, rdI_wd, wrI_wd, rdJ_wd, wrJ_wd, wd_31, wd_le, wd_lt, wd_inj, wd_eqm, wd_eqm', wd_ltm, wd_lem, wd_ltm2, wd_lem2, wd_bit0', wd_bit1', wd_shl, wd_or, wd_dif, if_false]
      by_cases c1 : b < wd s
      · by_cases c2 : shJ (60 * t) tr (2 * i + 1) = jd 1
        · simp [c1, c2, i01]; intro h; exact absurd h (by decide)
        · simp [c1, c2] at hp
      · by_cases c2 : shJ (60 * t) tr (2 * i + 1) = jd 1
        · simp [c1, c2] at hp
        · simp [c1, c2, i01]; intro h; exact absurd h (by decide)
    · left
      refine ⟨(), ?_, by rw [alb_s, hI, hp]; rfl⟩
      unfold fitp at hp
      rw [es] at hp
      simp (disch := omega) only [lt_64] at hp
      simp (disch := omega) only [f_X12_fits_l9, f_X12_fits_b9, f_X12_fits_j59, r_would hm, hb, e1, e2, jd_i32, lgc_eqw, ni, jd_lit, wd_lit, wd_of, wd_add, wd_mul, wd_neg, Option.bind_some, bnd, rdI_wd, wrI_wd, rdJ_wd, wrJ_wd, wd_31, wd_le, wd_lt, wd_inj, wd_eqm, wd_eqm', wd_ltm, wd_lem, wd_ltm2, wd_lem2, wd_bit0', wd_bit1', wd_shl, wd_or, wd_dif, if_false]
      by_cases c1 : b < wd s
      · by_cases c2 : shJ (60 * t) tr (2 * i + 1) = jd 1
        · simp [c1, c2] at hp
        · simp [c1, c2, i01]
      · by_cases c2 : shJ (60 * t) tr (2 * i + 1) = jd 1
        · simp [c1, c2, i01]
        · simp [c1, c2] at hp
  · intro mm _ hI
    refine ⟨wd 1, ?_, by rw [hI]; rfl⟩
    simp (disch := omega) only [f_X12_fits_l9, f_X12_fits_b9, Nat.le_refl, wd_lit, wd_of, wd_add, wd_mul, wd_neg, Option.bind_some, bnd, rdI_wd, wrI_wd, rdJ_wd, wrJ_wd, wd_31, wd_le, wd_lt, wd_inj, wd_eqm, wd_eqm', wd_ltm, wd_lem, wd_ltm2, wd_lem2, wd_bit0', wd_bit1', wd_shl, wd_or, wd_dif, i01_t, i01_f, jd_lit, i01_bz, bz_1, bz_0, f_X11_refuse, f_X11_answer, f_X11_allow, f_X11_deny, f_X12_refuse, f_X12_gives, f_X12_is, Option.some.injEq, exists_eq', if_true, if_false, ↓reduceIte, Nat.reduceEqDiff, Nat.reduceLT, Nat.reduceAdd]
theorem r_fitting {tr : Nat → Int64} {k m t : Nat} {z : Int32} (hm : m < 8) (ht : t < 4) (hk : k ≤ 20) (hv : ∀ i, i < k → osz (shJ (60 * t) tr (2 * i)) = true) (hf : 1000 ≤ fu) : f_X12_fitting fu at_ tr (wd m) (wd t) (wd k) z = some (wd (ctb (fun x => fit (shJ (60 * t) tr) (at_ 1 * mn at_ m 2) k x && !decide (bmin (wd x + at_ 1 * mn at_ m 2) < z)) 21)) := by
  unfold f_X12_fitting
  refine loop_seq (fun mm i (x : Nat) => f_X12_fitting_l6 fu at_ tr (wd m) (wd t) (wd k) z mm (wd x) (wd i)) (fun i => ctb (fun x => fit (shJ (60 * t) tr) (at_ 1 * mn at_ m 2) k x && !decide (bmin (wd x + at_ 1 * mn at_ m 2) < z)) i) 21 _ ?_ ?_ 0 fu (by omega) (by omega)
  · intro mm i hi
    have ni : ¬ 20 < i := by omega
    rw [ctb_s]
    simp (disch := omega) only [f_X12_fitting_l6, f_X12_fitting_b6, r_fits hm ht hk (show i ≤ 1000 by omega) hv hf, r_would hm, i01_0, ni, wd_lit, wd_of, wd_add, wd_mul, wd_neg, Option.bind_some, bnd, rdI_wd, wrI_wd, rdJ_wd, wrJ_wd, wd_31, wd_le, wd_lt, wd_inj, wd_eqm, wd_eqm', wd_ltm, wd_lem, wd_ltm2, wd_lem2, wd_bit0', wd_bit1', wd_shl, wd_or, wd_dif, i01_t, i01_f, jd_lit, i01_bz, bz_1, bz_0, f_X11_refuse, f_X11_answer, f_X11_allow, f_X11_deny, f_X12_refuse, f_X12_gives, f_X12_is, Option.some.injEq, exists_eq', if_true, if_false, ↓reduceIte, Nat.reduceEqDiff, Nat.reduceLT, Nat.reduceAdd]
    cases h1 : fit (shJ (60 * t) tr) (at_ 1 * mn at_ m 2) k i
    · simp
    · by_cases h2 : bmin (wd i + at_ 1 * mn at_ m 2) < z
      · simp [h2]
      · simp [h2]
  · intro mm
    simp (disch := omega) only [f_X12_fitting_l6, f_X12_fitting_b6, wd_lit, wd_of, wd_add, wd_mul, wd_neg, Option.bind_some, bnd, rdI_wd, wrI_wd, rdJ_wd, wrJ_wd, wd_31, wd_le, wd_lt, wd_inj, wd_eqm, wd_eqm', wd_ltm, wd_lem, wd_ltm2, wd_lem2, wd_bit0', wd_bit1', wd_shl, wd_or, wd_dif, i01_t, i01_f, jd_lit, i01_bz, bz_1, bz_0, f_X11_refuse, f_X11_answer, f_X11_allow, f_X11_deny, f_X12_refuse, f_X12_gives, f_X12_is, Option.some.injEq, exists_eq', if_true, if_false, ↓reduceIte, Nat.reduceEqDiff, Nat.reduceLT, Nat.reduceAdd]
end
