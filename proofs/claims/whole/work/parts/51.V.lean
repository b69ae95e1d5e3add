/-! what was seen -/
def alb (p : Nat → Bool) : Nat → Bool
  | 0 => true
  | i + 1 => alb p i && p i
theorem alb_s (p : Nat → Bool) (i : Nat) : alb p (i + 1) = (alb p i && p i) := rfl
theorem alb_iff (p : Nat → Bool) : ∀ n, alb p n = true ↔ ∀ i, i < n → p i = true := by
  intro n
  induction n with
  | zero => exact ⟨fun _ i hi => absurd hi (by omega), fun _ => rfl⟩
  | succ n ih =>
    rw [alb_s, Bool.and_eq_true, ih]
    constructor
    · rintro ⟨h1, h2⟩ i hi
      by_cases h : i = n
      · subst h; exact h2
      · exact h1 i (by omega)
    · intro h
      exact ⟨fun i hi => h i (by omega), h n (by omega)⟩
theorem alb_f {p : Nat → Bool} {i n : Nat} (hi : i < n) (h : p i = false) : alb p n = false := by
  cases h1 : alb p n
  · rfl
  · rw [alb_iff] at h1
    rw [h1 i hi] at h; cases h
def osz (v : Int64) : Bool := decide (jd 1 ≤ v ∧ v ≤ jd 99)
def oon (v : Int64) : Bool := decide (v = jd 0 ∨ v = jd 1)
theorem r_isSizeJ {fu : Nat} {v : Int64} : f_X12_isSize fu v = some (i01 (osz v)) := by
  simp only [f_X12_isSize, r_isFromJ, Option.bind_some, i01_bz]; rfl
theorem r_oon {fu : Nat} {v : Int64} : f_X12_isFrom fu v (jd 0) (jd 1) = some (i01 (oon v)) := by
  rw [r_isFromJ]
  congr 2
  unfold oon
  apply decide_eq_decide.2
  rw [Int64.le_iff_toInt_le, Int64.le_iff_toInt_le, ← Int64.toInt_inj, ← Int64.toInt_inj, jd_int (by omega), jd_int (by omega)]
  omega
theorem osz_ex {v : Int64} (h : osz v = true) : ∃ s, 1 ≤ s ∧ s ≤ 99 ∧ v = jd s := by
  simp only [osz, decide_eq_true_eq, Int64.le_iff_toInt_le] at h
  rw [jd_int (by omega), jd_int (by omega)] at h
  refine ⟨v.toInt.toNat, by omega, by omega, ?_⟩
  apply Int64.toInt_inj.1
  rw [jd_int (by omega)]
  omega
theorem jd_i32 {s : Nat} (h : s < 2147483648) : Int64.toInt32 (jd s) = wd s := by
  apply Int32.toInt_inj.1
  rw [Int64.toInt_toInt32, jd_int (by omega), wd_int h]
  apply Int.bmod_eq_of_le <;> omega
section
variable {fu c : Nat} {at_ cou wei med sto fle lik vot : Nat → Int32} {cnt liv pri quo mel los st st' : Int32}
/-- the sizes of a tray -/
theorem c_sizes {row : Nat → Int64} {n k a : Nat} (hn : n ≤ 60) (ha1 : 1 ≤ a) (ha : a ≤ 2) (hk : k ≤ 30) (hf : 1000 ≤ fu) : f_X8_sizesRefusal fu row (wd 0) (wd n) (wd k) (wd a) = some (if k * a ≤ n then (if alb (fun i => osz (row (i * a))) k then wd 0 else wd 5) else wd 3) := by
  have hka : k * a ≤ 60 := Nat.le_trans (Nat.mul_le_mul hk ha) (by omega)
  unfold f_X8_sizesRefusal
  simp (disch := omega) only [wd_lit, wd_of, wd_add, wd_mul, wd_neg, Option.bind_some, bnd, rdI_wd, wrI_wd, rdJ_wd, wrJ_wd, wd_31, wd_le, wd_lt, wd_inj, wd_eqm, wd_eqm', wd_ltm, wd_lem, wd_ltm2, wd_lem2, wd_bit0', wd_bit1', wd_shl, wd_or, wd_dif, c_hasP, if_true, i01_0, Nat.zero_add]
  by_cases h1 : k * a ≤ n
  · rw [if_neg (by simp [h1]), if_pos h1]
    have key := loop_inv2 (fun m i (_ : Unit) => f_X8_sizesRefusal_l24 fu row (wd 0) (wd n) (wd k) (wd a) m (wd i)) (fun i _ => alb (fun i => osz (row (i * a))) i = true) (fun r => r = if alb (fun i => osz (row (i * a))) k then wd 0 else wd 5) k ?_ ?_ 0 fu () (by omega) (by omega) rfl
    · obtain ⟨r, e, rfl⟩ := key
      exact e
    · intro m i _ hi hI
      have hia : i * a + 1 ≤ n := by
        have : (i + 1) * a ≤ k * a := Nat.mul_le_mul (by omega) (Nat.le_refl a)
        rw [Nat.add_mul] at this
        omega
      have hq := imn_wd (c := n) (by omega) (show i * a < n by omega)
      have e1 : f_X8_at fu row (wd n) (wd (i * a)) = some (row (i * a)) := by
        simp (disch := omega) only [f_X8_at, wd_lit, wd_of, wd_add, wd_mul, wd_neg, Option.bind_some, bnd, rdI_wd, wrI_wd, rdJ_wd, wrJ_wd, wd_31, wd_le, wd_lt, wd_inj, wd_eqm, wd_eqm', wd_ltm, wd_lem, wd_ltm2, wd_lem2, wd_bit0', wd_bit1', wd_shl, wd_or, wd_dif, c_hasP1, hq, i01_t, Nat.reduceEqDiff, if_false]
      cases ho : osz (row (i * a))
      · right
        refine ⟨wd 5, ?_, by rw [alb_f hi ho]; rfl⟩
        simp (disch := omega) only [f_X8_sizesRefusal_l24, f_X8_sizesRefusal_b24, wd_lit, wd_of, wd_add, wd_mul, wd_neg, Option.bind_some, bnd, rdI_wd, wrI_wd, rdJ_wd, wrJ_wd, wd_31, wd_le, wd_lt, wd_inj, wd_eqm, wd_eqm', wd_ltm, wd_lem, wd_ltm2, wd_lem2, wd_bit0', wd_bit1', wd_shl, wd_or, wd_dif, e1, lgc_ltw, lgc_lew, jd_lit]
        rw [if_neg (by omega)]
        simp only [osz, decide_eq_false_iff_not] at ho
        by_cases h2 : row (i * a) < jd 1
        · rw [if_pos h2]
        · rw [if_neg h2, if_neg (fun h3 => ho ⟨Int64.not_lt.1 h2, h3⟩)]
      · left
        refine ⟨(), ?_, by rw [alb_s, hI, ho]; rfl⟩
        simp (disch := omega) only [f_X8_sizesRefusal_l24, f_X8_sizesRefusal_b24, wd_lit, wd_of, wd_add, wd_mul, wd_neg, Option.bind_some, bnd, rdI_wd, wrI_wd, rdJ_wd, wrJ_wd, wd_31, wd_le, wd_lt, wd_inj, wd_eqm, wd_eqm', wd_ltm, wd_lem, wd_ltm2, wd_lem2, wd_bit0', wd_bit1', wd_shl, wd_or, wd_dif, e1, lgc_ltw, lgc_lew, jd_lit]
        simp only [osz, decide_eq_true_eq] at ho
        rw [if_neg (by omega), if_neg (Int64.not_lt.2 ho.1), if_pos ho.2]
    · intro m _ hI
      refine ⟨wd 0, ?_, by rw [hI]; rfl⟩
      simp (disch := omega) only [f_X8_sizesRefusal_l24, f_X8_sizesRefusal_b24, wd_lit, wd_of, wd_add, wd_mul, wd_neg, Option.bind_some, bnd, rdI_wd, wrI_wd, rdJ_wd, wrJ_wd, wd_31, wd_le, wd_lt, wd_inj, wd_eqm, wd_eqm', wd_ltm, wd_lem, wd_ltm2, wd_lem2, wd_bit0', wd_bit1', wd_shl, wd_or, wd_dif]
      rw [if_pos (by omega)]
  · rw [if_pos (by simp [h1]), if_neg h1]
/-- what is wrong with what was seen -/
def wseen (n k : Nat) (tr : Nat → Int64) : Int32 := if 2 * k ≤ n then (if alb (fun i => osz (tr (2 * i)) && oon (tr (2 * i + 1))) k then wd 0 else wd 5) else wd 3
theorem c_seenRef {row : Nat → Int64} {n k m : Nat} (hm : m < c) (h8 : c ≤ 8) (hn : n ≤ 60) (hk : k ≤ 20) (hf : 1000 ≤ fu) : f_X11_seenRefusal fu row (wd 0) (wd n) (wd c) (wd m) (wd k) = some (wseen n k row) := by
  have q0 := imn_wd (c := c) (by omega) hm
  have q1 : wn 0 20 (wd k) = true := by rw [wn_wd (by omega) (by omega) (by omega)]; simp; omega
  unfold f_X11_seenRefusal wseen
  simp (disch := omega) only [c_isM, q0, c_within, q1, c_sizes, wd_lit, wd_of, wd_add, wd_mul, wd_neg, Option.bind_some, bnd, rdI_wd, wrI_wd, rdJ_wd, wrJ_wd, wd_31, wd_le, wd_lt, wd_inj, wd_eqm, wd_eqm', wd_ltm, wd_lem, wd_ltm2, wd_lem2, wd_bit0', wd_bit1', wd_shl, wd_or, wd_dif, i01_t, Nat.reduceEqDiff, if_false]
  by_cases h1 : k * 2 ≤ n
  · rw [if_pos h1, if_pos (show 2 * k ≤ n by omega)]
    cases h2 : alb (fun i => osz (row (i * 2))) k
    · simp only [Bool.false_eq_true, if_false]
      rw [if_neg (by decide)]
      rw [if_neg]
      intro h3
      rw [alb_iff] at h3
      have : alb (fun i => osz (row (i * 2))) k = true := by
        rw [alb_iff]
        intro i hi
        have := h3 i hi
        rw [Bool.and_eq_true] at this
        rw [Nat.mul_comm]; exact this.1
      rw [h2] at this; cases this
    · simp only [if_true]
      rw [alb_iff] at h2
      have key := loop_inv2 (fun m' i (_ : Unit) => f_X11_seenRefusal_l46 fu row (wd 0) (wd n) (wd c) (wd m) (wd k) m' (wd i)) (fun i _ => alb (fun i => osz (row (2 * i)) && oon (row (2 * i + 1))) i = true) (fun r => r = if alb (fun i => osz (row (2 * i)) && oon (row (2 * i + 1))) k then wd 0 else wd 5) k ?_ ?_ 0 fu () (by omega) (by omega) rfl
      · obtain ⟨r, e, rfl⟩ := key
        exact e
      · intro m' i _ hi hI
        have hq := imn_wd (c := n) (by omega) (show 2 * i + 1 < n by omega)
        have hs : osz (row (2 * i)) = true := by have := h2 i hi; rw [Nat.mul_comm] at this; exact this
        have e1 : f_X8_at fu row (wd n) (wd (2 * i + 1)) = some (row (2 * i + 1)) := by
          simp (disch := omega) only [f_X8_at, wd_lit, wd_of, wd_add, wd_mul, wd_neg, Option.bind_some, bnd, rdI_wd, wrI_wd, rdJ_wd, wrJ_wd, wd_31, wd_le, wd_lt, wd_inj, wd_eqm, wd_eqm', wd_ltm, wd_lem, wd_ltm2, wd_lem2, wd_bit0', wd_bit1', wd_shl, wd_or, wd_dif, c_hasP1, hq, i01_t, Nat.reduceEqDiff, if_false]
        cases ho : oon (row (2 * i + 1))
        · right
          refine ⟨wd 5, ?_, by rw [alb_f hi (by rw [ho, Bool.and_false])]; rfl⟩
          simp only [oon, decide_eq_false_iff_not] at ho
          simp (disch := omega) only [f_X11_seenRefusal_l46, f_X11_seenRefusal_b46, wd_lit, wd_of, wd_add, wd_mul, wd_neg, Option.bind_some, bnd, rdI_wd, wrI_wd, rdJ_wd, wrJ_wd, wd_31, wd_le, wd_lt, wd_inj, wd_eqm, wd_eqm', wd_ltm, wd_lem, wd_ltm2, wd_lem2, wd_bit0', wd_bit1', wd_shl, wd_or, wd_dif, e1, lgc_eqw, jd_lit]
          rw [if_neg (by omega), if_neg (fun h => ho (Or.inl h)), if_neg (fun h => ho (Or.inr h))]
        · left
          refine ⟨(), ?_, by rw [alb_s, hI, ho, hs]; rfl⟩
          simp only [oon, decide_eq_true_eq] at ho
          simp (disch := omega) only [f_X11_seenRefusal_l46, f_X11_seenRefusal_b46, wd_lit, wd_of, wd_add, wd_mul, wd_neg, Option.bind_some, bnd, rdI_wd, wrI_wd, rdJ_wd, wrJ_wd, wd_31, wd_le, wd_lt, wd_inj, wd_eqm, wd_eqm', wd_ltm, wd_lem, wd_ltm2, wd_lem2, wd_bit0', wd_bit1', wd_shl, wd_or, wd_dif, e1, lgc_eqw, jd_lit]
          rw [if_neg (by omega)]
          by_cases h4 : row (2 * i + 1) = jd 0
          · rw [if_pos h4]
          · rw [if_neg h4, if_pos (by rcases ho with h | h; exact absurd h h4; exact h)]
      · intro m' _ hI
        refine ⟨wd 0, ?_, by rw [hI]; rfl⟩
        simp (disch := omega) only [f_X11_seenRefusal_l46, f_X11_seenRefusal_b46, wd_lit, wd_of, wd_add, wd_mul, wd_neg, Option.bind_some, bnd, rdI_wd, wrI_wd, rdJ_wd, wrJ_wd, wd_31, wd_le, wd_lt, wd_inj, wd_eqm, wd_eqm', wd_ltm, wd_lem, wd_ltm2, wd_lem2, wd_bit0', wd_bit1', wd_shl, wd_or, wd_dif]
        rw [if_pos (by omega)]
  · rw [if_neg h1, if_neg (show ¬ 2 * k ≤ n by omega), if_neg (by decide)]
theorem r_seenRef {tm : Nat → Int32} {tr : Nat → Int64} {n k m t : Nat} (hc : at_ 0 = wd c) (hm : m < c) (h8 : c ≤ 8) (ht : t < 4) (hn : n ≤ 60) (hk : k ≤ 20) (htm : tm t = wd n) (hf : 1000 ≤ fu) : f_X12_wrongSeen fu at_ tm tr (wd m) (wd t) (wd k) = some (wseen n k (shJ (60 * t) tr)) := by
  have q0 := imn_wd (c := c) (by omega) hm
  have qt := imn_wd (c := 4) (by omega) ht
  have q1 : wn 0 20 (wd k) = true := by rw [wn_wd (by omega) (by omega) (by omega)]; simp; omega
  unfold f_X12_wrongSeen wseen
  simp (disch := omega) only [r_isM hc, q0, r_isTray, qt, jd_lit, r_from, q1, htm, wd_lit, wd_of, wd_add, wd_mul, wd_neg, Option.bind_some, bnd, rdI_wd, wrI_wd, rdJ_wd, wrJ_wd, wd_31, wd_le, wd_lt, wd_inj, wd_eqm, wd_eqm', wd_ltm, wd_lem, wd_ltm2, wd_lem2, wd_bit0', wd_bit1', wd_shl, wd_or, wd_dif, i01_t, Nat.reduceEqDiff, if_false]
  by_cases h1 : 2 * k ≤ n
  · rw [if_pos h1, if_pos h1]
    have key := loop_inv2 (fun m' i (_ : Unit) => f_X12_wrongSeen_l64 fu at_ tm tr (wd m) (wd t) (wd k) m' (wd (60 * t)) (wd i)) (fun i _ => alb (fun i => osz (shJ (60 * t) tr (2 * i)) && oon (shJ (60 * t) tr (2 * i + 1))) i = true) (fun r => r = if alb (fun i => osz (shJ (60 * t) tr (2 * i)) && oon (shJ (60 * t) tr (2 * i + 1))) k then wd 0 else wd 5) k ?_ ?_ 0 fu () (by omega) (by omega) rfl
    · obtain ⟨r, e, rfl⟩ := key
      exact e
    · intro m' i _ hi hI
      have e1 : tr (60 * t + 2 * i) = shJ (60 * t) tr (2 * i) := rfl
      have e2 : tr (60 * t + 2 * i + 1) = shJ (60 * t) tr (2 * i + 1) := rfl
      cases hs : osz (shJ (60 * t) tr (2 * i))
      · right
        refine ⟨wd 5, ?_, by rw [alb_f hi (by rw [hs, Bool.false_and])]; rfl⟩
        simp (disch := omega) only [f_X12_wrongSeen_l64, f_X12_wrongSeen_b64, r_isSizeJ, e1, hs, wd_lit, wd_of, wd_add, wd_mul, wd_neg, Option.bind_some, bnd, rdI_wd, wrI_wd, rdJ_wd, wrJ_wd, wd_31, wd_le, wd_lt, wd_inj, wd_eqm, wd_eqm', wd_ltm, wd_lem, wd_ltm2, wd_lem2, wd_bit0', wd_bit1', wd_shl, wd_or, wd_dif, i01_t, i01_f, jd_lit, i01_bz, bz_1, bz_0, f_X11_refuse, f_X11_answer, f_X11_allow, f_X11_deny, f_X12_refuse, f_X12_gives, f_X12_is, Option.some.injEq, exists_eq', if_true, if_false, ↓reduceIte, Nat.reduceEqDiff, Nat.reduceLT, Nat.reduceAdd]
        rw [if_neg (by omega)]
      · cases ho : oon (shJ (60 * t) tr (2 * i + 1))
        · right
          refine ⟨wd 5, ?_, by rw [alb_f hi (by rw [ho, Bool.and_false])]; rfl⟩
          simp (disch := omega) only [f_X12_wrongSeen_l64, f_X12_wrongSeen_b64, r_isSizeJ, r_oon, e1, e2, hs, ho, wd_lit, wd_of, wd_add, wd_mul, wd_neg, Option.bind_some, bnd, rdI_wd, wrI_wd, rdJ_wd, wrJ_wd, wd_31, wd_le, wd_lt, wd_inj, wd_eqm, wd_eqm', wd_ltm, wd_lem, wd_ltm2, wd_lem2, wd_bit0', wd_bit1', wd_shl, wd_or, wd_dif, i01_t, i01_f, jd_lit, i01_bz, bz_1, bz_0, f_X11_refuse, f_X11_answer, f_X11_allow, f_X11_deny, f_X12_refuse, f_X12_gives, f_X12_is, Option.some.injEq, exists_eq', if_true, if_false, ↓reduceIte, Nat.reduceEqDiff, Nat.reduceLT, Nat.reduceAdd]
          rw [if_neg (by omega)]
        · left
          refine ⟨(), ?_, by rw [alb_s, hI, ho, hs]; rfl⟩
          simp (disch := omega) only [f_X12_wrongSeen_l64, f_X12_wrongSeen_b64, r_isSizeJ, r_oon, e1, e2, hs, ho, wd_lit, wd_of, wd_add, wd_mul, wd_neg, Option.bind_some, bnd, rdI_wd, wrI_wd, rdJ_wd, wrJ_wd, wd_31, wd_le, wd_lt, wd_inj, wd_eqm, wd_eqm', wd_ltm, wd_lem, wd_ltm2, wd_lem2, wd_bit0', wd_bit1', wd_shl, wd_or, wd_dif, i01_t, i01_f, jd_lit, i01_bz, bz_1, bz_0, f_X11_refuse, f_X11_answer, f_X11_allow, f_X11_deny, f_X12_refuse, f_X12_gives, f_X12_is, Option.some.injEq, exists_eq', if_true, if_false, ↓reduceIte, Nat.reduceEqDiff, Nat.reduceLT, Nat.reduceAdd]
          rw [if_neg (by omega)]
    · intro m' _ hI
      refine ⟨wd 0, ?_, by rw [hI]; rfl⟩
      simp (disch := omega) only [f_X12_wrongSeen_l64, f_X12_wrongSeen_b64, wd_lit, wd_of, wd_add, wd_mul, wd_neg, Option.bind_some, bnd, rdI_wd, wrI_wd, rdJ_wd, wrJ_wd, wd_31, wd_le, wd_lt, wd_inj, wd_eqm, wd_eqm', wd_ltm, wd_lem, wd_ltm2, wd_lem2, wd_bit0', wd_bit1', wd_shl, wd_or, wd_dif]
      rw [if_pos (by omega)]
  · rw [if_neg h1, if_neg h1]
end
