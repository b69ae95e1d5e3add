theorem two {α : Type} {a b : Option α} (h1 : a = b) (h2 : ∃ z, b = some z) : ∃ z, a = some z ∧ b = some z := by
  obtain ⟨z, hz⟩ := h2
  exact ⟨z, h1.trans hz, hz⟩
theorem i01_t : i01 true = wd 1 := rfl
theorem i01_f : i01 false = wd 0 := rfl
theorem bz_1 : bz (wd 1) = some (wd 1) := rfl
theorem bz_0 : bz (wd 0) = some (wd 0) := rfl
def wn (a b : Nat) (x : Int32) : Bool := decide (wd a ≤ x ∧ x ≤ wd b)
theorem c_within {fu a b : Nat} {x : Int32} : f_X11_within fu x (wd a) (wd b) = some (i01 (wn a b x)) := by
  unfold f_X11_within wn
  simp only [wd_lit]
  by_cases h : x < wd a
  · rw [if_pos h]
    have : ¬ (wd a ≤ x ∧ x ≤ wd b) := fun h1 => Int32.not_le.2 h h1.1
    simp [this, i01]
  · rw [if_neg h]
    by_cases h2 : wd b < x
    · rw [if_pos h2]
      have : ¬ (wd a ≤ x ∧ x ≤ wd b) := fun h1 => Int32.not_le.2 h2 h1.2
      simp [this, i01]
    · rw [if_neg h2]
      have : (wd a ≤ x ∧ x ≤ wd b) := ⟨Int32.not_lt.1 h, Int32.not_lt.1 h2⟩
      simp [this, i01]
theorem wn_ex {a b : Nat} {x : Int32} (hb : b < 2147483648) (ha : a < 2147483648) (h : wn a b x = true) : ∃ s, a ≤ s ∧ s ≤ b ∧ x = wd s := by
  simp only [wn, decide_eq_true_eq] at h
  have h0 : ¬ x < wd 0 := by
    have h1 : wd 0 ≤ wd a := by rw [wd_le (by omega) ha]; omega
    exact Int32.not_lt.2 (Int32.le_trans h1 h.1)
  obtain ⟨n, hn, rfl⟩ := wd_ex h0
  rw [wd_le ha hn, wd_le hn hb] at h
  exact ⟨n, h.1, h.2, rfl⟩
theorem wn_wd {a b s : Nat} (ha : a < 2147483648) (hb : b < 2147483648) (hs : s < 2147483648) : wn a b (wd s) = decide (a ≤ s ∧ s ≤ b) := by
  unfold wn
  simp only [wd_le ha hs, wd_le hs hb]
theorem lgc_lt {x y : Int64} : (lg_cmp x y < 0) = (x < y) := by
  unfold lg_cmp
  by_cases h : y < x
  · have : ¬ x < y := fun h2 => Int64.lt_irrefl (Int64.lt_trans h h2)
    simp only [gt_iff_lt, h, if_true, this]; exact eq_false (by decide)
  · by_cases h2 : x = y
    · subst h2; simp only [gt_iff_lt, h, if_false, if_true]; exact eq_false (by decide)
    · have h3 : x < y := Int64.lt_of_le_of_ne (Int64.not_lt.1 h) h2
      simp only [gt_iff_lt, h, if_false, h2, h3]; exact eq_true (by decide)
theorem lgc_gt {x y : Int64} : ((0 : Int32) < lg_cmp x y) = (y < x) := by
  unfold lg_cmp
  by_cases h : y < x
  · simp only [gt_iff_lt, h, if_true]; exact eq_true (by decide)
  · by_cases h2 : x = y
    · subst h2; simp only [gt_iff_lt, h, if_false, if_true]; exact eq_false (by decide)
    · simp only [gt_iff_lt, h, if_false, h2]; exact eq_false (by decide)
theorem lgc_eq {x y : Int64} : (lg_cmp x y = 0) = (x = y) := by
  unfold lg_cmp
  by_cases h : y < x
  · have : ¬ x = y := fun h2 => by subst h2; exact Int64.lt_irrefl h
    simp only [gt_iff_lt, h, if_true, this]; exact eq_false (by decide)
  · by_cases h2 : x = y
    · subst h2; simp only [gt_iff_lt, h, if_false, if_true]
    · simp only [gt_iff_lt, h, if_false, h2]; exact eq_false (by decide)
theorem r_isFromJ {fu : Nat} {x a b : Int64} : f_X12_isFrom fu x a b = some (i01 (decide (a ≤ x ∧ x ≤ b))) := by
  unfold f_X12_isFrom
  simp only [lgc_lt, lgc_gt]
  by_cases h : x < a
  · rw [if_pos h]
    have : ¬ (a ≤ x ∧ x ≤ b) := fun h1 => Int64.not_le.2 h h1.1
    simp [this, i01]; rfl
  · rw [if_neg h]
    by_cases h2 : b < x
    · rw [if_pos h2]
      have : ¬ (a ≤ x ∧ x ≤ b) := fun h1 => Int64.not_le.2 h2 h1.2
      simp [this, i01]; rfl
    · rw [if_neg h2]
      have : (a ≤ x ∧ x ≤ b) := ⟨Int64.not_lt.1 h, Int64.not_lt.1 h2⟩
      simp [this, i01]; rfl
def jd (n : Nat) : Int64 := Int64.ofNat n
theorem jd_lit (n : Nat) : (no_index (OfNat.ofNat n) : Int64) = jd (OfNat.ofNat n) := by
  cases n with
  | zero => rfl
  | succ n => rfl
theorem jd_int {a : Nat} (h : a < 9223372036854775808) : (jd a).toInt = a := by
  unfold jd
  rw [Int64.toInt_ofNat_of_lt (by omega)]
theorem r_from {fu a b : Nat} {x : Int32} (ha : a < 2147483648) (hb : b < 2147483648) : f_X12_isFrom fu (Int32.toInt64 x) (jd a) (jd b) = some (i01 (wn a b x)) := by
  rw [r_isFromJ]
  congr 2
  unfold wn
  apply decide_eq_decide.2
  rw [Int64.le_iff_toInt_le, Int64.le_iff_toInt_le, Int32.le_iff_toInt_le, Int32.le_iff_toInt_le, jd_int (by omega), jd_int (by omega), wd_int ha, wd_int hb, Int32.toInt_toInt64]
def imn (c : Nat) (x : Int32) : Bool := decide (¬ x < wd 0 ∧ x < wd c)
theorem imn_ex {c : Nat} {x : Int32} (hc : c < 2147483648) (h : imn c x = true) : ∃ m, m < c ∧ x = wd m := by
  simp only [imn, decide_eq_true_eq] at h
  obtain ⟨n, hn, rfl⟩ := wd_ex h.1
  rw [wd_lt hn hc] at h
  exact ⟨n, h.2, rfl⟩
theorem imn_wd {c m : Nat} (hc : c < 2147483648) (h : m < c) : imn c (wd m) = true := by
  simp only [imn, decide_eq_true_eq]
  rw [wd_lt (by omega) (by omega), wd_lt (by omega) (by omega)]
  omega
theorem c_isM {fu c : Nat} {x : Int32} : f_X0_isMan fu (wd c) x = some (i01 (imn c x)) := by
  unfold f_X0_isMan imn
  simp only [wd_lit]
  by_cases h : x < wd 0
  · simp [h, i01]
  · by_cases h2 : x < wd c
    · simp [h, h2, Int32.not_le.2 h2, i01]
    · simp [h, h2, Int32.not_lt.1 h2, i01]
theorem r_isM {fu c : Nat} {at_ : Nat → Int32} {x : Int32} (hc : at_ 0 = wd c) : f_X12_isMan fu at_ x = some (i01 (imn c x)) := by
  unfold f_X12_isMan imn
  simp (disch := omega) only [wd_lit, wd_of, wd_add, wd_mul, wd_neg, Option.bind_some, bnd, rdI_wd, wrI_wd, rdJ_wd, wrJ_wd, wd_31, hc]
  by_cases h : x < wd 0
  · simp [h, i01]
  · by_cases h2 : x < wd c
    · simp [h, h2, Int32.not_le.2 h2, i01]
    · simp [h, h2, Int32.not_lt.1 h2, i01]
theorem c_isSize {fu : Nat} {x : Int32} : f_X11_isSize fu x = some (i01 (wn 1 99 x)) := by
  simp only [f_X11_isSize, wd_lit, wd_of, wd_add, wd_mul, wd_neg, Option.bind_some, bnd, rdI_wd, wrI_wd, rdJ_wd, wrJ_wd, wd_31, c_within, i01_bz]
theorem r_isSize {fu : Nat} {x : Int32} : f_X12_isSize fu (Int32.toInt64 x) = some (i01 (wn 1 99 x)) := by
  simp (disch := omega) only [f_X12_isSize, jd_lit, r_from, Option.bind_some, i01_bz]
section
variable {fu c : Nat} {at_ cou wei med sto fle lik vot : Nat → Int32} {cnt liv pri quo mel los st st' : Int32}
theorem t_brave {x : Int32} (hW : WF at_ c) (hR : RA at_ c cou wei med sto fle lik cnt liv pri quo mel los) (hf : 1000 ≤ fu) : ∃ z, f_X11_brave fu st cou med cnt liv pri x = some z ∧ f_X12_brave fu at_ st' x = some z := by
  obtain ⟨hV, rfl, rfl, rfl, rfl, rfl, rfl, h3, h4, h0⟩ := hR
  have h8 := hW.1
  have hc := hW.2.1
  cases hx : wn 1 99 x
  · apply two <;> simp (disch := omega) only [f_X11_brave, f_X12_brave, c_isSize, r_isSize, hx, wd_lit, wd_of, wd_add, wd_mul, wd_neg, Option.bind_some, bnd, rdI_wd, wrI_wd, rdJ_wd, wrJ_wd, wd_31, wd_le, wd_lt, wd_inj, wd_eqm, wd_eqm', wd_ltm, wd_lem, wd_ltm2, wd_lem2, wd_bit0', wd_bit1', wd_shl, wd_or, wd_dif, i01_t, i01_f, jd_lit, i01_bz, bz_1, bz_0, f_X11_refuse, f_X11_answer, f_X11_allow, f_X11_deny, f_X12_refuse, f_X12_gives, f_X12_is, Option.some.injEq, exists_eq', if_true, if_false, ↓reduceIte, Nat.reduceEqDiff, Nat.reduceLT, Nat.reduceAdd]
  · have e : sdf (mask (alv at_) c) (mask (rns at_ x) c) = mask (stn at_ x) c := by
      have := mask_256 (alv at_) h8
      apply Nat.eq_of_testBit_eq
      intro k
      rw [sdf_bit (by omega), mask_bit, mask_bit, mask_bit, rns, stn]
      by_cases hk : k < c
      · cases alv at_ k <;> simp [hk]
      · simp [hk]
    apply two <;> simp (disch := omega) only [f_X11_brave, f_X12_brave, c_isSize, r_isSize, hx, c_runners h8 hf hV.1 hV.2.2.1, r_standing hc h8 hf, e, wd_lit, wd_of, wd_add, wd_mul, wd_neg, Option.bind_some, bnd, rdI_wd, wrI_wd, rdJ_wd, wrJ_wd, wd_31, wd_le, wd_lt, wd_inj, wd_eqm, wd_eqm', wd_ltm, wd_lem, wd_ltm2, wd_lem2, wd_bit0', wd_bit1', wd_shl, wd_or, wd_dif, i01_t, i01_f, jd_lit, i01_bz, bz_1, bz_0, f_X11_refuse, f_X11_answer, f_X11_allow, f_X11_deny, f_X12_refuse, f_X12_gives, f_X12_is, Option.some.injEq, exists_eq', if_true, if_false, ↓reduceIte, Nat.reduceEqDiff, Nat.reduceLT, Nat.reduceAdd]
end
