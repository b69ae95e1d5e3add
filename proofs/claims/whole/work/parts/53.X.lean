theorem fit_congr {v w : Nat → Int64} {P : Int32} {k x : Nat} (h : ∀ i, i < 2 * k → v i = w i) : fit v P k x = fit w P k x := by
  have : fit v P k x = true ↔ fit w P k x = true := by
    unfold fit
    rw [alb_iff, alb_iff]
    constructor
    · intro h1 i hi
      have := h1 i hi
      unfold fitp at this ⊢
      rw [← h (2 * i) (by omega), ← h (2 * i + 1) (by omega)]
      exact this
    · intro h1 i hi
      have := h1 i hi
      unfold fitp at this ⊢
      rw [h (2 * i) (by omega), h (2 * i + 1) (by omega)]
      exact this
  cases h1 : fit v P k x <;> cases h2 : fit w P k x <;> simp_all
theorem c_holds30 {fu k x : Nat} (hk : k ≤ 30) (hx : x < 2147483648) : f_X11_holds fu (wd x) (wd k) = some (i01 (x.testBit k)) := by
  have h9 : wn 0 30 (wd k) = true := by rw [wn_wd (by omega) (by omega) (by omega)]; simp; omega
  simp (disch := omega) only [f_X11_holds, wd_lit, wd_of, wd_add, wd_mul, wd_neg, Option.bind_some, bnd, rdI_wd, wrI_wd, rdJ_wd, wrJ_wd, wd_31, c_within, h9, i01_t, wd_le, wd_lt, wd_inj, wd_eqm, wd_eqm', wd_ltm, wd_lem, wd_ltm2, wd_lem2, wd_bit0', wd_bit1', wd_shl, wd_or, wd_dif, Nat.reduceEqDiff, if_false]
  cases x.testBit k <;> rfl
section
variable {fu c : Nat} {at_ cou wei med sto fle lik vot : Nat → Int32} {cnt liv pri quo mel los st st' : Int32}
theorem t_seenRef {t : Nat} {y : tX8} {srt tm : Nat → Int32} {tr : Nat → Int64} {x1 x3 : Int32} (hc : at_ 0 = wd c) (h8 : c ≤ 8) (ht : t < 4) (hy : RY y (srt t) (tm t) (shJ (60 * t) tr)) (hf : 1000 ≤ fu) : ∃ j, j ≤ 5 ∧ f_X11_seenRefusal fu (vX8_row y) (vX8_missing y) (vX8_many y) (wd c) x1 x3 = some (wd j) ∧ f_X12_wrongSeen fu at_ tm tr x1 (wd t) x3 = some (wd j) ∧ (j = 0 → ∃ m k n, m < c ∧ x1 = wd m ∧ k ≤ 20 ∧ x3 = wd k ∧ n ≤ 60 ∧ 2 * k ≤ n ∧ vX8_many y = wd n ∧ (∀ i, i < k → osz (shJ (60 * t) tr (2 * i)) = true) ∧ ∀ i, i < 2 * k → vX8_row y i = shJ (60 * t) tr i) := by
  have qt := imn_wd (c := 4) (by omega) ht
  cases q0 : imn c x1
  · exact ⟨1, by omega, by simp (disch := omega) only [f_X11_seenRefusal, c_isM, q0, wd_lit, wd_of, wd_add, wd_mul, wd_neg, Option.bind_some, bnd, rdI_wd, wrI_wd, rdJ_wd, wrJ_wd, wd_31, wd_le, wd_lt, wd_inj, wd_eqm, wd_eqm', wd_ltm, wd_lem, wd_ltm2, wd_lem2, wd_bit0', wd_bit1', wd_shl, wd_or, wd_dif, i01_t, i01_f, jd_lit, i01_bz, bz_1, bz_0, f_X11_refuse, f_X11_answer, f_X11_allow, f_X11_deny, f_X12_refuse, f_X12_gives, f_X12_is, Option.some.injEq, exists_eq', if_true, if_false, ↓reduceIte, Nat.reduceEqDiff, Nat.reduceLT, Nat.reduceAdd], by simp (disch := omega) only [f_X12_wrongSeen, r_isM hc, q0, wd_lit, wd_of, wd_add, wd_mul, wd_neg, Option.bind_some, bnd, rdI_wd, wrI_wd, rdJ_wd, wrJ_wd, wd_31, wd_le, wd_lt, wd_inj, wd_eqm, wd_eqm', wd_ltm, wd_lem, wd_ltm2, wd_lem2, wd_bit0', wd_bit1', wd_shl, wd_or, wd_dif, i01_t, i01_f, jd_lit, i01_bz, bz_1, bz_0, f_X11_refuse, f_X11_answer, f_X11_allow, f_X11_deny, f_X12_refuse, f_X12_gives, f_X12_is, Option.some.injEq, exists_eq', if_true, if_false, ↓reduceIte, Nat.reduceEqDiff, Nat.reduceLT, Nat.reduceAdd], fun h => absurd h (by omega)⟩
  · obtain ⟨m, hm, rfl⟩ := imn_ex (by omega) q0
    cases q1 : wn 0 20 x3
    · exact ⟨1, by omega, by simp (disch := omega) only [f_X11_seenRefusal, c_isM, q0, c_within, q1, wd_lit, wd_of, wd_add, wd_mul, wd_neg, Option.bind_some, bnd, rdI_wd, wrI_wd, rdJ_wd, wrJ_wd, wd_31, wd_le, wd_lt, wd_inj, wd_eqm, wd_eqm', wd_ltm, wd_lem, wd_ltm2, wd_lem2, wd_bit0', wd_bit1', wd_shl, wd_or, wd_dif, i01_t, i01_f, jd_lit, i01_bz, bz_1, bz_0, f_X11_refuse, f_X11_answer, f_X11_allow, f_X11_deny, f_X12_refuse, f_X12_gives, f_X12_is, Option.some.injEq, exists_eq', if_true, if_false, ↓reduceIte, Nat.reduceEqDiff, Nat.reduceLT, Nat.reduceAdd], by simp (disch := omega) only [f_X12_wrongSeen, r_isM hc, q0, r_isTray, qt, r_from, q1, wd_lit, wd_of, wd_add, wd_mul, wd_neg, Option.bind_some, bnd, rdI_wd, wrI_wd, rdJ_wd, wrJ_wd, wd_31, wd_le, wd_lt, wd_inj, wd_eqm, wd_eqm', wd_ltm, wd_lem, wd_ltm2, wd_lem2, wd_bit0', wd_bit1', wd_shl, wd_or, wd_dif, i01_t, i01_f, jd_lit, i01_bz, bz_1, bz_0, f_X11_refuse, f_X11_answer, f_X11_allow, f_X11_deny, f_X12_refuse, f_X12_gives, f_X12_is, Option.some.injEq, exists_eq', if_true, if_false, ↓reduceIte, Nat.reduceEqDiff, Nat.reduceLT, Nat.reduceAdd], fun h => absurd h (by omega)⟩
    · obtain ⟨k, _, hk, rfl⟩ := wn_ex (by omega) (by omega) q1
      rcases hy with ⟨em, ea⟩ | ⟨em, n, s, hn, hs, ea, en, es, es', hr⟩
      · exact ⟨2, by omega, by simp (disch := omega) only [f_X11_seenRefusal, f_X8_sizesRefusal, em, c_isM, q0, c_within, q1, wd_lit, wd_of, wd_add, wd_mul, wd_neg, Option.bind_some, bnd, rdI_wd, wrI_wd, rdJ_wd, wrJ_wd, wd_31, wd_le, wd_lt, wd_inj, wd_eqm, wd_eqm', wd_ltm, wd_lem, wd_ltm2, wd_lem2, wd_bit0', wd_bit1', wd_shl, wd_or, wd_dif, i01_t, i01_f, jd_lit, i01_bz, bz_1, bz_0, f_X11_refuse, f_X11_answer, f_X11_allow, f_X11_deny, f_X12_refuse, f_X12_gives, f_X12_is, Option.some.injEq, exists_eq', if_true, if_false, ↓reduceIte, Nat.reduceEqDiff, Nat.reduceLT, Nat.reduceAdd], by simp (disch := omega) only [f_X12_wrongSeen, r_isM hc, q0, r_isTray, qt, r_from, q1, ea, wd_lit, wd_of, wd_add, wd_mul, wd_neg, Option.bind_some, bnd, rdI_wd, wrI_wd, rdJ_wd, wrJ_wd, wd_31, wd_le, wd_lt, wd_inj, wd_eqm, wd_eqm', wd_ltm, wd_lem, wd_ltm2, wd_lem2, wd_bit0', wd_bit1', wd_shl, wd_or, wd_dif, i01_t, i01_f, jd_lit, i01_bz, bz_1, bz_0, f_X11_refuse, f_X11_answer, f_X11_allow, f_X11_deny, f_X12_refuse, f_X12_gives, f_X12_is, Option.some.injEq, exists_eq', if_true, if_false, ↓reduceIte, Nat.reduceEqDiff, Nat.reduceLT, Nat.reduceAdd], fun h => absurd h (by omega)⟩
      · have e1 := c_seenRef (row := vX8_row y) (k := k) hm h8 hn hk hf
        have e2 := r_seenRef (tr := tr) (k := k) hc hm h8 ht hn hk ea hf
        have e3 : wseen n k (vX8_row y) = wseen n k (shJ (60 * t) tr) := by
          unfold wseen
          by_cases h1 : 2 * k ≤ n
          · rw [if_pos h1, if_pos h1]
            have : alb (fun i => osz (vX8_row y (2 * i)) && oon (vX8_row y (2 * i + 1))) k = alb (fun i => osz (shJ (60 * t) tr (2 * i)) && oon (shJ (60 * t) tr (2 * i + 1))) k := by
              have : alb (fun i => osz (vX8_row y (2 * i)) && oon (vX8_row y (2 * i + 1))) k = true ↔ alb (fun i => osz (shJ (60 * t) tr (2 * i)) && oon (shJ (60 * t) tr (2 * i + 1))) k = true := by
                rw [alb_iff, alb_iff]
                constructor
                · intro h i hi; rw [← hr _ (by omega), ← hr _ (by omega)]; exact h i hi
                · intro h i hi; rw [hr _ (by omega), hr _ (by omega)]; exact h i hi
              generalize alb (fun i => osz (vX8_row y (2 * i)) && oon (vX8_row y (2 * i + 1))) k = u1 at this ⊢
              generalize alb (fun i => osz (shJ (60 * t) tr (2 * i)) && oon (shJ (60 * t) tr (2 * i + 1))) k = u2 at this ⊢
              cases u1 <;> cases u2 <;> simp_all
            rw [this]
          · rw [if_neg h1, if_neg h1]
        rw [e3] at e1
        rw [em, en]
        unfold wseen at e1 e2
        by_cases h1 : 2 * k ≤ n
        · rw [if_pos h1] at e1 e2
          cases h2 : alb (fun i => osz (shJ (60 * t) tr (2 * i)) && oon (shJ (60 * t) tr (2 * i + 1))) k
          · rw [h2] at e1 e2
            exact ⟨5, by omega, e1, e2, fun h => absurd h (by omega)⟩
          · rw [h2] at e1 e2
            refine ⟨0, by omega, e1, e2, fun _ => ⟨m, k, n, hm, rfl, hk, rfl, hn, h1, rfl, ?_, fun i hi => hr i (by omega)⟩⟩
            intro i hi
            rw [alb_iff] at h2
            have := h2 i hi
            rw [Bool.and_eq_true] at this
            exact this.1
        · rw [if_neg h1] at e1 e2
          exact ⟨3, by omega, e1, e2, fun h => absurd h (by omega)⟩
theorem r_seenRefn {tm : Nat → Int32} {tr : Nat → Int64} {x1 x2 x3 : Int32} (hc : at_ 0 = wd c) (q : imn 4 x2 = false) : f_X12_wrongSeen fu at_ tm tr x1 x2 x3 = some (wd 1) := by
  cases q0 : imn c x1
  · simp (disch := omega) only [f_X12_wrongSeen, r_isM hc, q0, wd_lit, wd_of, wd_add, wd_mul, wd_neg, Option.bind_some, bnd, rdI_wd, wrI_wd, rdJ_wd, wrJ_wd, wd_31, wd_le, wd_lt, wd_inj, wd_eqm, wd_eqm', wd_ltm, wd_lem, wd_ltm2, wd_lem2, wd_bit0', wd_bit1', wd_shl, wd_or, wd_dif, i01_t, i01_f, jd_lit, i01_bz, bz_1, bz_0, f_X11_refuse, f_X11_answer, f_X11_allow, f_X11_deny, f_X12_refuse, f_X12_gives, f_X12_is, Option.some.injEq, exists_eq', if_true, if_false, ↓reduceIte, Nat.reduceEqDiff, Nat.reduceLT, Nat.reduceAdd]
  · unfold f_X12_wrongSeen
    rw [r_isM hc, q0, r_isTray, q]; rfl
theorem pm_ex {m : Nat} (hW : WF at_ c) (hm : m < c) : ∃ PM, PM ≤ 900 ∧ at_ 1 * mn at_ m 2 = wd PM := by
  obtain ⟨p, hp, ep⟩ := hW.2.2.1
  obtain ⟨b, hb, eb⟩ := (hW.2.2.2.2 m hm).2.2.1
  have : p * b ≤ 9 * 99 := Nat.mul_le_mul hp hb
  exact ⟨p * b, by omega, by rw [ep, eb, wd_mul]⟩
def fit20 (v : Nat → Int64) (P : Int32) (k x : Nat) : Bool := decide (x ≤ 20) && fit v P k x
theorem fit20_e {v : Nat → Int64} {P : Int32} {k x : Nat} (h : x < 21) : fit20 v P k x = fit v P k x := by unfold fit20; simp; omega
/-- the set of those that fit, and how many -/
theorem c_fitb {row : Nat → Int64} {n k m : Nat} {tr : Nat → Int64} {t : Nat} (hW : WF at_ c) (hm : m < c) (hmed : med m = mn at_ m 2) (hn : n ≤ 60) (hk : 2 * k ≤ n) (hv : ∀ i, i < k → osz (shJ (60 * t) tr (2 * i)) = true) (hr : ∀ i, i < 2 * k → row i = shJ (60 * t) tr i) (hf : 1000 ≤ fu) : f_X11_fittingCourages fu row (wd n) med (wd c) (at_ 1) (wd m) (wd k) = some (wd (mask (fit20 (shJ (60 * t) tr) (at_ 1 * mn at_ m 2) k) 21)) ∧ f_J6_bitCount_0f7a4 fu (wd (mask (fit20 (shJ (60 * t) tr) (at_ 1 * mn at_ m 2) k) 21)) = some (wd (ctb (fit20 (shJ (60 * t) tr) (at_ 1 * mn at_ m 2) k) 21)) := by
  refine ⟨?_, ?_⟩
  · rw [c_fitting hm hW.1 hmed hn hk hf]
    congr 2
    apply mask_congr
    intro x hx
    rw [fit20_e hx]
    exact fit_congr hr
  · obtain ⟨PM, hP, eP⟩ := pm_ex hW hm
    rw [eP]
    exact c_bc21 (fit_conv (by omega) hv)
theorem m21_lt (p : Nat → Bool) : mask p 21 < 2097152 := mask_lt p 21
theorem r_all {tr : Nat → Int64} {k m t : Nat} (hW : WF at_ c) (hm : m < c) (ht : t < 4) (hk : k ≤ 20) (hv : ∀ i, i < k → osz (shJ (60 * t) tr (2 * i)) = true) (hf : 1000 ≤ fu) : f_X12_fitting fu at_ tr (wd m) (wd t) (wd k) (wd 0) = some (wd (ctb (fit20 (shJ (60 * t) tr) (at_ 1 * mn at_ m 2) k) 21)) := by
  have h8 := hW.1
  rw [r_fitting (show m < 8 by omega) ht hk hv hf]
  congr 2
  apply ctb_congr
  intro x hx
  rw [fit20_e hx]
  obtain ⟨PM, hP, eP⟩ := pm_ex hW hm
  rw [eP, bw_e (by omega) (by omega)]
  have := bwn_le PM x
  simp (disch := omega) only [wd_lt]
  simp
def seenG (fu : Nat) (st : Int32) (row : Nat → Int64) (mis man : Int32) (med : Nat → Int32) (cnt pri x1 x3 : Int32) : Option (Int32 × Int32) := (f_X11_seenRefusal fu row mis man cnt x1 x3).bind fun z => (if z = 0 then (f_X11_fittingCourages fu row man med cnt pri x1 x3).bind fun z1 => (f_J6_bitCount_0f7a4 fu z1).bind fun z2 => (f_X11_answer fu st z2).bind fun z3 => some (z3.1, z3.2) else (f_X11_refuse fu st z).bind fun z4 => some (z4.1, z4.2))
theorem t_seen {t : Nat} {y : tX8} {srt tm : Nat → Int32} {tr : Nat → Int64} {x1 x3 : Int32} (hW : WF at_ c) (hR : RA at_ c cou wei med sto fle lik cnt liv pri quo mel los) (ht : t < 4) (hy : RY y (srt t) (tm t) (shJ (60 * t) tr)) (hf : 1000 ≤ fu) : ∃ z, seenG fu st (vX8_row y) (vX8_missing y) (vX8_many y) med cnt pri x1 x3 = some z ∧ f_X12_seen fu at_ st' tm tr x1 (wd t) x3 = some z := by
  obtain ⟨hV, rfl, rfl, rfl, rfl, rfl, rfl, h3, h4, h0⟩ := hR
  have h8 := hW.1
  have hc := hW.2.1
  obtain ⟨j, hj, e1, e2, e3⟩ := t_seenRef (x1 := x1) (x3 := x3) hc h8 ht hy hf
  by_cases hj0 : j = 0
  · subst hj0
    obtain ⟨m, k, n, hm, rfl, hk, rfl, hn, hkn, en, hv, hr⟩ := e3 rfl
    rw [en] at e1 ⊢
    obtain ⟨f1, f2⟩ := c_fitb (fu := fu) hW hm (hV.2.2.1 m hm) hn hkn hv hr hf
    have f3 := r_all (fu := fu) hW hm ht hk hv hf
    apply two <;> simp (disch := omega) only [seenG, f_X12_seen, e1, e2, f1, f2, f3, Nat.le_refl, wd_lit, wd_of, wd_add, wd_mul, wd_neg, Option.bind_some, bnd, rdI_wd, wrI_wd, rdJ_wd, wrJ_wd, wd_31, wd_le, wd_lt, wd_inj, wd_eqm, wd_eqm', wd_ltm, wd_lem, wd_ltm2, wd_lem2, wd_bit0', wd_bit1', wd_shl, wd_or, wd_dif, i01_t, i01_f, jd_lit, i01_bz, bz_1, bz_0, f_X11_refuse, f_X11_answer, f_X11_allow, f_X11_deny, f_X12_refuse, f_X12_gives, f_X12_is, Option.some.injEq, exists_eq', if_true, if_false, ↓reduceIte, Nat.reduceEqDiff, Nat.reduceLT, Nat.reduceAdd]
  · have hj0' : ¬ j ≤ 0 := by omega
    apply two <;> simp (disch := omega) only [seenG, f_X12_seen, e1, e2, hj0, hj0', wd_lit, wd_of, wd_add, wd_mul, wd_neg, Option.bind_some, bnd, rdI_wd, wrI_wd, rdJ_wd, wrJ_wd, wd_31, wd_le, wd_lt, wd_inj, wd_eqm, wd_eqm', wd_ltm, wd_lem, wd_ltm2, wd_lem2, wd_bit0', wd_bit1', wd_shl, wd_or, wd_dif, i01_t, i01_f, jd_lit, i01_bz, bz_1, bz_0, f_X11_refuse, f_X11_answer, f_X11_allow, f_X11_deny, f_X12_refuse, f_X12_gives, f_X12_is, Option.some.injEq, exists_eq', if_true, if_false, ↓reduceIte, Nat.reduceEqDiff, Nat.reduceLT, Nat.reduceAdd]
/-! the first and the last that fit -/
def fsx (p : Nat → Bool) : Nat → Option Nat
  | 0 => none
  | i + 1 => match fsx p i with
    | some a => some a
    | none => if p i then some i else none
theorem fsx_n {p : Nat → Bool} {i : Nat} (h : fsx p i = none) (hp : p i = false) : fsx p (i + 1) = none := by
  show (match fsx p i with | some a => some a | none => if p i then some i else none) = none
  rw [h, hp]; rfl
theorem fsx_f {p : Nat → Bool} {i : Nat} (h : fsx p i = none) (hp : p i = true) : ∀ d, fsx p (i + 1 + d) = some i := by
  intro d
  induction d with
  | zero =>
    show (match fsx p i with | some a => some a | none => if p i then some i else none) = some i
    rw [h, hp]; rfl
  | succ d ih =>
    show (match fsx p (i + 1 + d) with | some a => some a | none => if p (i + 1 + d) then some (i + 1 + d) else none) = some i
    rw [ih]
theorem fsx_none {p : Nat → Bool} : ∀ n, fsx p n = none → ∀ i, i < n → p i = false := by
  intro n
  induction n with
  | zero => intro _ i hi; omega
  | succ n ih =>
    intro h i hi
    have h' : (match fsx p n with | some a => some a | none => if p n then some n else none) = none := h
    cases h1 : fsx p n with
    | some a => rw [h1] at h'; cases h'
    | none =>
      rw [h1] at h'
      by_cases hin : i = n
      · subst hin
        cases h2 : p i
        · rfl
        · simp [h2] at h'
      · exact ih h1 i (by omega)
theorem fsx_some {p : Nat → Bool} : ∀ n a, fsx p n = some a → a < n ∧ p a = true := by
  intro n
  induction n with
  | zero => intro a h; cases h
  | succ n ih =>
    intro a h
    have h' : (match fsx p n with | some a => some a | none => if p n then some n else none) = some a := h
    cases h1 : fsx p n with
    | some b => rw [h1] at h'; injection h' with h'; subst h'; have := ih b h1; exact ⟨by omega, this.2⟩
    | none =>
      rw [h1] at h'
      cases h2 : p n
      · simp [h2] at h'
      · simp [h2] at h'; subst h'; exact ⟨by omega, h2⟩
theorem c_first {p : Nat → Bool} (hf : 1000 ≤ fu) : f_X11_firstOf fu (wd (mask p 21)) = some (oe (fsx p 21)) := by
  have hl := m21_lt p
  unfold f_X11_firstOf
  have key := loop_inv2 (fun m i (_ : Unit) => f_X11_firstOf_l2 fu (wd (mask p 21)) m (wd i)) (fun i _ => fsx p i = none) (fun r => r = oe (fsx p 21)) 21 ?_ ?_ 0 fu () (by omega) (by omega) rfl
  · obtain ⟨r, e, rfl⟩ := key
    exact e
  · intro m i _ hi hI
    have ni : ¬ 20 < i := by omega
    cases hp : p i
    · left
      refine ⟨(), ?_, fsx_n hI hp⟩
      simp (disch := omega) only [f_X11_firstOf_l2, f_X11_firstOf_b2, c_holds30, mask_in hi, hp, ni, wd_lit, wd_of, wd_add, wd_mul, wd_neg, Option.bind_some, bnd, rdI_wd, wrI_wd, rdJ_wd, wrJ_wd, wd_31, wd_le, wd_lt, wd_inj, wd_eqm, wd_eqm', wd_ltm, wd_lem, wd_ltm2, wd_lem2, wd_bit0', wd_bit1', wd_shl, wd_or, wd_dif, i01_t, i01_f, jd_lit, i01_bz, bz_1, bz_0, f_X11_refuse, f_X11_answer, f_X11_allow, f_X11_deny, f_X12_refuse, f_X12_gives, f_X12_is, Option.some.injEq, exists_eq', if_true, if_false, ↓reduceIte, Nat.reduceEqDiff, Nat.reduceLT, Nat.reduceAdd]
    · right
      have := fsx_f hI hp (20 - i)
      rw [show i + 1 + (20 - i) = 21 by omega] at this
      refine ⟨wd i, ?_, by rw [this]; rfl⟩
      simp (disch := omega) only [f_X11_firstOf_l2, f_X11_firstOf_b2, c_holds30, mask_in hi, hp, ni, wd_lit, wd_of, wd_add, wd_mul, wd_neg, Option.bind_some, bnd, rdI_wd, wrI_wd, rdJ_wd, wrJ_wd, wd_31, wd_le, wd_lt, wd_inj, wd_eqm, wd_eqm', wd_ltm, wd_lem, wd_ltm2, wd_lem2, wd_bit0', wd_bit1', wd_shl, wd_or, wd_dif, i01_t, i01_f, jd_lit, i01_bz, bz_1, bz_0, f_X11_refuse, f_X11_answer, f_X11_allow, f_X11_deny, f_X12_refuse, f_X12_gives, f_X12_is, Option.some.injEq, exists_eq', if_true, if_false, ↓reduceIte, Nat.reduceEqDiff, Nat.reduceLT, Nat.reduceAdd]
  · intro m _ hI
    refine ⟨nn, ?_, by rw [hI]; rfl⟩
    simp (disch := omega) only [f_X11_firstOf_l2, f_X11_firstOf_b2, wd_lit, wd_of, wd_add, wd_mul, wd_neg, Option.bind_some, bnd, rdI_wd, wrI_wd, rdJ_wd, wrJ_wd, wd_31, wd_le, wd_lt, wd_inj, wd_eqm, wd_eqm', wd_ltm, wd_lem, wd_ltm2, wd_lem2, wd_bit0', wd_bit1', wd_shl, wd_or, wd_dif, i01_t, i01_f, jd_lit, i01_bz, bz_1, bz_0, f_X11_refuse, f_X11_answer, f_X11_allow, f_X11_deny, f_X12_refuse, f_X12_gives, f_X12_is, Option.some.injEq, exists_eq', if_true, if_false, ↓reduceIte, Nat.reduceEqDiff, Nat.reduceLT, Nat.reduceAdd]
def ct20 (t : Nat) : Int32 := if t < 21 then wd (20 - t) else nn
theorem c_last {p : Nat → Bool} {a : Nat} (hf : 1000 ≤ fu) (ha : fsx (fun i => p (20 - i)) 21 = some a) : f_X11_lastOf fu (wd (mask p 21)) = some (wd (20 - a)) := by
  have hl := m21_lt p
  unfold f_X11_lastOf
  have key := loop_inv2 (fun m i (_ : Unit) => f_X11_lastOf_l3 fu (wd (mask p 21)) m (ct20 i)) (fun i _ => fsx (fun i => p (20 - i)) i = none) (fun r => r = wd (20 - a)) 21 ?_ ?_ 0 fu () (by omega) (by omega) rfl
  · obtain ⟨r, e, rfl⟩ := key
    exact e
  · intro m i _ hi hI
    have e0 : ct20 i = wd (20 - i) := if_pos hi
    have n0 : ¬ 20 - i < 0 := by omega
    cases hp : p (20 - i)
    · left
      refine ⟨(), ?_, fsx_n hI hp⟩
      have e1 : wd (20 - i) + nn = ct20 (i + 1) := by
        unfold ct20
        by_cases h : i + 1 < 21
        · rw [if_pos h, wd_dec (by omega)]; congr 1
        · rw [if_neg h, show 20 - i = 0 from by omega, wd_dec0]
      simp (disch := omega) only [f_X11_lastOf_l3, f_X11_lastOf_b3, e0, c_holds30, mask_in (show 20 - i < 21 by omega), hp, n0, e1, wd_lit, wd_of, wd_add, wd_mul, wd_neg, Option.bind_some, bnd, rdI_wd, wrI_wd, rdJ_wd, wrJ_wd, wd_31, wd_le, wd_lt, wd_inj, wd_eqm, wd_eqm', wd_ltm, wd_lem, wd_ltm2, wd_lem2, wd_bit0', wd_bit1', wd_shl, wd_or, wd_dif, i01_t, i01_f, jd_lit, i01_bz, bz_1, bz_0, f_X11_refuse, f_X11_answer, f_X11_allow, f_X11_deny, f_X12_refuse, f_X12_gives, f_X12_is, Option.some.injEq, exists_eq', if_true, if_false, ↓reduceIte, Nat.reduceEqDiff, Nat.reduceLT, Nat.reduceAdd]
    · right
      have := fsx_f hI hp (20 - i)
      rw [show i + 1 + (20 - i) = 21 by omega, ha] at this
      injection this with this
      refine ⟨wd (20 - i), ?_, by rw [this]⟩
      simp (disch := omega) only [f_X11_lastOf_l3, f_X11_lastOf_b3, e0, c_holds30, mask_in (show 20 - i < 21 by omega), hp, n0, wd_lit, wd_of, wd_add, wd_mul, wd_neg, Option.bind_some, bnd, rdI_wd, wrI_wd, rdJ_wd, wrJ_wd, wd_31, wd_le, wd_lt, wd_inj, wd_eqm, wd_eqm', wd_ltm, wd_lem, wd_ltm2, wd_lem2, wd_bit0', wd_bit1', wd_shl, wd_or, wd_dif, i01_t, i01_f, jd_lit, i01_bz, bz_1, bz_0, f_X11_refuse, f_X11_answer, f_X11_allow, f_X11_deny, f_X12_refuse, f_X12_gives, f_X12_is, Option.some.injEq, exists_eq', if_true, if_false, ↓reduceIte, Nat.reduceEqDiff, Nat.reduceLT, Nat.reduceAdd]
  · intro m _ hI
    rw [ha] at hI; cases hI
end
