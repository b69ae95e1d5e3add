section
variable {fu c : Nat} {at_ cou wei med sto fle lik vot : Nat → Int32} {cnt liv pri quo mel los st st' : Int32}
theorem mask_0 {p : Nat → Bool} {n : Nat} (h : ∀ i, i < n → p i = false) : mask p n = 0 := by
  apply Nat.eq_of_testBit_eq
  intro k
  rw [mask_bit, Nat.zero_testBit]
  by_cases hk : k < n
  · rw [h k hk]; simp
  · simp [hk]
theorem mask_n0 {p : Nat → Bool} {n a : Nat} (ha : a < n) (h : p a = true) : ¬ mask p n = 0 := by
  intro h0
  have := mask_in (p := p) ha
  rw [h0, Nat.zero_testBit, h] at this
  cases this
def psn (w i : Nat) : Nat := if w = 0 then i else 20 - i
theorem r_seenAtL {tm : Nat → Int32} {tr : Nat → Int64} {k m t w : Nat} (hm : m < 8) (ht : t < 4) (hk : k ≤ 20) (hw : w ≤ 1) (hv : ∀ i, i < k → osz (shJ (60 * t) tr (2 * i)) = true) (hf : 1000 ≤ fu) : f_X12_seenAt_l39 fu at_ tm tr (wd m) (wd t) (wd k) (wd w) fu st' (wd 0) = some (match fsx (fun i => fit (shJ (60 * t) tr) (at_ 1 * mn at_ m 2) k (psn w i)) 21 with | none => (nn, wd 6) | some a => (wd (psn w a), wd 0)) := by
  have key := loop_inv2 (fun mm i (_ : Unit) => f_X12_seenAt_l39 fu at_ tm tr (wd m) (wd t) (wd k) (wd w) mm st' (wd i)) (fun i _ => fsx (fun i => fit (shJ (60 * t) tr) (at_ 1 * mn at_ m 2) k (psn w i)) i = none) (fun r => r = match fsx (fun i => fit (shJ (60 * t) tr) (at_ 1 * mn at_ m 2) k (psn w i)) 21 with | none => (nn, wd 6) | some a => (wd (psn w a), wd 0)) 21 ?_ ?_ 0 fu () (by omega) (by omega) rfl
  · obtain ⟨r, e, rfl⟩ := key
    exact e
  · intro mm i _ hi hI
    have ni : ¬ 20 < i := by omega
    have hps : psn w i ≤ 20 := by unfold psn; split <;> omega
    have e1 : f_X12_seenAt_l39 fu at_ tm tr (wd m) (wd t) (wd k) (wd w) (mm + 1) st' (wd i) = f_X12_seenAt_j61 fu at_ tm tr (wd m) (wd t) (wd k) (wd w) (f_X12_seenAt_l39 fu at_ tm tr (wd m) (wd t) (wd k) (wd w) mm) st' (wd i) (wd (psn w i)) := by
      rw [f_X12_seenAt_l39, f_X12_seenAt_b39]
      simp (disch := omega) only [wd_lit, wd_lt, wd_inj, ni, if_false, wd_sub (show i ≤ 20 by omega)]
      unfold psn
      by_cases h0 : w = 0
      · rw [if_pos h0, if_pos h0]
      · rw [if_neg h0, if_neg h0]
    cases hp : fit (shJ (60 * t) tr) (at_ 1 * mn at_ m 2) k (psn w i)
    · left
      refine ⟨(), ?_, fsx_n hI hp⟩
      rw [e1]
      simp (disch := omega) only [f_X12_seenAt_j61, r_fits hm ht hk (show psn w i ≤ 1000 by omega) hv hf, hp, wd_lit, wd_of, wd_add, wd_mul, wd_neg, Option.bind_some, bnd, rdI_wd, wrI_wd, rdJ_wd, wrJ_wd, wd_31, wd_le, wd_lt, wd_inj, wd_eqm, wd_eqm', wd_ltm, wd_lem, wd_ltm2, wd_lem2, wd_bit0', wd_bit1', wd_shl, wd_or, wd_dif, i01_t, i01_f, jd_lit, i01_bz, bz_1, bz_0, f_X11_refuse, f_X11_answer, f_X11_allow, f_X11_deny, f_X12_refuse, f_X12_gives, f_X12_is, Option.some.injEq, exists_eq', if_true, if_false, ↓reduceIte, Nat.reduceEqDiff, Nat.reduceLT, Nat.reduceAdd]
    · right
      have := fsx_f hI hp (20 - i)
      rw [show i + 1 + (20 - i) = 21 by omega] at this
      refine ⟨(wd (psn w i), wd 0), ?_, by rw [this]⟩
      rw [e1]
      simp (disch := omega) only [f_X12_seenAt_j61, r_fits hm ht hk (show psn w i ≤ 1000 by omega) hv hf, hp, wd_lit, wd_of, wd_add, wd_mul, wd_neg, Option.bind_some, bnd, rdI_wd, wrI_wd, rdJ_wd, wrJ_wd, wd_31, wd_le, wd_lt, wd_inj, wd_eqm, wd_eqm', wd_ltm, wd_lem, wd_ltm2, wd_lem2, wd_bit0', wd_bit1', wd_shl, wd_or, wd_dif, i01_t, i01_f, jd_lit, i01_bz, bz_1, bz_0, f_X11_refuse, f_X11_answer, f_X11_allow, f_X11_deny, f_X12_refuse, f_X12_gives, f_X12_is, Option.some.injEq, exists_eq', if_true, if_false, ↓reduceIte, Nat.reduceEqDiff, Nat.reduceLT, Nat.reduceAdd]
  · intro mm _ hI
    refine ⟨(nn, wd 6), ?_, by rw [hI]⟩
    simp (disch := omega) only [f_X12_seenAt_l39, f_X12_seenAt_b39, wd_lit, wd_of, wd_add, wd_mul, wd_neg, Option.bind_some, bnd, rdI_wd, wrI_wd, rdJ_wd, wrJ_wd, wd_31, wd_le, wd_lt, wd_inj, wd_eqm, wd_eqm', wd_ltm, wd_lem, wd_ltm2, wd_lem2, wd_bit0', wd_bit1', wd_shl, wd_or, wd_dif, i01_t, i01_f, jd_lit, i01_bz, bz_1, bz_0, f_X11_refuse, f_X11_answer, f_X11_allow, f_X11_deny, f_X12_refuse, f_X12_gives, f_X12_is, Option.some.injEq, exists_eq', if_true, if_false, ↓reduceIte, Nat.reduceEqDiff, Nat.reduceLT, Nat.reduceAdd]
def seenAtG (fu : Nat) (st : Int32) (row : Nat → Int64) (mis man : Int32) (med : Nat → Int32) (cnt pri x1 x3 x4 : Int32) : Option (Int32 × Int32) := (f_X11_seenRefusal fu row mis man cnt x1 x3).bind fun z_86 => (if z_86 = 1 then (f_X11_refuse fu st 1).bind fun z_88 => some (z_88.1, z_88.2) else (f_X11_within fu x4 0 1).bind fun z_89 => (if z_89 = 0 then (f_X11_refuse fu st 1).bind fun z_101 => some (z_101.1, z_101.2) else (if z_86 = 0 then (f_X11_fittingCourages fu row man med cnt pri x1 x3).bind fun z_92 => (if z_92 = 0 then (f_X11_refuse fu st 6).bind fun z_99 => some (z_99.1, z_99.2) else (if x4 = 0 then (f_X11_firstOf fu z_92).bind fun z_97 => (f_X11_answer fu st z_97).bind fun z_98 => some (z_98.1, z_98.2) else (f_X11_lastOf fu z_92).bind fun z_95 => (f_X11_answer fu st z_95).bind fun z_96 => some (z_96.1, z_96.2))) else (f_X11_refuse fu st z_86).bind fun z_100 => some (z_100.1, z_100.2))))
theorem fsx_congr {p q : Nat → Bool} : ∀ n, (∀ i, i < n → p i = q i) → fsx p n = fsx q n := by
  intro n
  induction n with
  | zero => intro _; rfl
  | succ n ih =>
    intro h
    show (match fsx p n with | some a => some a | none => if p n then some n else none) = (match fsx q n with | some a => some a | none => if q n then some n else none)
    rw [ih (fun i hi => h i (by omega)), h n (by omega)]
theorem t_seenAt {t : Nat} {y : tX8} {srt tm : Nat → Int32} {tr : Nat → Int64} {x1 x3 x4 : Int32} (hW : WF at_ c) (hR : RA at_ c cou wei med sto fle lik cnt liv pri quo mel los) (ht : t < 4) (hy : RY y (srt t) (tm t) (shJ (60 * t) tr)) (hf : 1000 ≤ fu) : ∃ z, seenAtG fu st (vX8_row y) (vX8_missing y) (vX8_many y) med cnt pri x1 x3 x4 = some z ∧ f_X12_seenAt fu at_ st' tm tr x1 (wd t) x3 x4 = some z := by
  obtain ⟨hV, rfl, rfl, rfl, rfl, rfl, rfl, h3, h4, h0⟩ := hR
  have h8 := hW.1
  have hc := hW.2.1
  obtain ⟨j, hj, e1, e2, e3⟩ := t_seenRef (x1 := x1) (x3 := x3) hc h8 ht hy hf
  cases q4 : wn 0 1 x4
  · refine ⟨(nn, wd 1), ?_, ?_⟩
    · by_cases hj1 : j = 1
      · simp (disch := omega) only [seenAtG, e1, hj1, wd_lit, wd_of, wd_add, wd_mul, wd_neg, Option.bind_some, bnd, rdI_wd, wrI_wd, rdJ_wd, wrJ_wd, wd_31, wd_le, wd_lt, wd_inj, wd_eqm, wd_eqm', wd_ltm, wd_lem, wd_ltm2, wd_lem2, wd_bit0', wd_bit1', wd_shl, wd_or, wd_dif, i01_t, i01_f, jd_lit, i01_bz, bz_1, bz_0, f_X11_refuse, f_X11_answer, f_X11_allow, f_X11_deny, f_X12_refuse, f_X12_gives, f_X12_is, Option.some.injEq, exists_eq', if_true, if_false, ↓reduceIte, Nat.reduceEqDiff, Nat.reduceLT, Nat.reduceAdd]
      · simp (disch := omega) only [seenAtG, e1, hj1, c_within, q4, wd_lit, wd_of, wd_add, wd_mul, wd_neg, Option.bind_some, bnd, rdI_wd, wrI_wd, rdJ_wd, wrJ_wd, wd_31, wd_le, wd_lt, wd_inj, wd_eqm, wd_eqm', wd_ltm, wd_lem, wd_ltm2, wd_lem2, wd_bit0', wd_bit1', wd_shl, wd_or, wd_dif, i01_t, i01_f, jd_lit, i01_bz, bz_1, bz_0, f_X11_refuse, f_X11_answer, f_X11_allow, f_X11_deny, f_X12_refuse, f_X12_gives, f_X12_is, Option.some.injEq, exists_eq', if_true, if_false, ↓reduceIte, Nat.reduceEqDiff, Nat.reduceLT, Nat.reduceAdd]
    · have l1 : ¬ 1 ≤ 0 := by omega
      simp (disch := omega) only [f_X12_seenAt, f_X12_seenAt_j22, e2, l1, wd_lit, wd_of, wd_add, wd_mul, wd_neg, Option.bind_some, bnd, rdI_wd, wrI_wd, rdJ_wd, wrJ_wd, wd_31, wd_le, wd_lt, wd_inj, wd_eqm, wd_eqm', wd_ltm, wd_lem, wd_ltm2, wd_lem2, wd_bit0', wd_bit1', wd_shl, wd_or, wd_dif, i01_t, i01_f, jd_lit, i01_bz, bz_1, bz_0, f_X11_refuse, f_X11_answer, f_X11_allow, f_X11_deny, f_X12_refuse, f_X12_gives, f_X12_is, Option.some.injEq, exists_eq', if_true, if_false, ↓reduceIte, Nat.reduceEqDiff, Nat.reduceLT, Nat.reduceAdd]
      simp only [wn, decide_eq_false_iff_not] at q4
      by_cases a1 : x4 < wd 0
      · rw [if_pos a1]
      · rw [if_neg a1, if_neg (fun h2 => q4 ⟨Int32.not_lt.1 a1, h2⟩)]
  · obtain ⟨w, _, hw, rfl⟩ := wn_ex (by omega) (by omega) q4
    have nw : ¬ w < 0 := by omega
    by_cases hj0 : j = 0
    · subst hj0
      obtain ⟨m, k, n, hm, rfl, hk, rfl, hn, hkn, en, hv, hr⟩ := e3 rfl
      rw [en] at e1 ⊢
      obtain ⟨f1, f2⟩ := c_fitb (fu := fu) hW hm (hV.2.2.1 m hm) hn hkn hv hr hf
      have f4 := r_seenAtL (fu := fu) (at_ := at_) (tm := tm) (st' := st') (show m < 8 by omega) ht hk hw hv hf
      have hl := m21_lt (fit20 (shJ (60 * t) tr) (at_ 1 * mn at_ m 2) k)
      cases hx : fsx (fun i => fit (shJ (60 * t) tr) (at_ 1 * mn at_ m 2) k (psn w i)) 21 with
      | none =>
        rw [hx] at f4
        have f5 : mask (fit20 (shJ (60 * t) tr) (at_ 1 * mn at_ m 2) k) 21 = 0 := by
          apply mask_0
          intro i hi
          rw [fit20_e hi]
          by_cases h0 : w = 0
          · have := fsx_none 21 hx i hi
            unfold psn at this
            rwa [if_pos h0] at this
          · have := fsx_none 21 hx (20 - i) (by omega)
            unfold psn at this
            rw [if_neg h0, show 20 - (20 - i) = i from by omega] at this
            exact this
        apply two <;> simp (disch := omega) only [seenAtG, f_X12_seenAt, f_X12_seenAt_j22, e1, e2, c_within, q4, f1, f4, f5, nw, hw, Nat.le_refl, wd_lit, wd_of, wd_add, wd_mul, wd_neg, Option.bind_some, bnd, rdI_wd, wrI_wd, rdJ_wd, wrJ_wd, wd_31, wd_le, wd_lt, wd_inj, wd_eqm, wd_eqm', wd_ltm, wd_lem, wd_ltm2, wd_lem2, wd_bit0', wd_bit1', wd_shl, wd_or, wd_dif, i01_t, i01_f, jd_lit, i01_bz, bz_1, bz_0, f_X11_refuse, f_X11_answer, f_X11_allow, f_X11_deny, f_X12_refuse, f_X12_gives, f_X12_is, Option.some.injEq, exists_eq', if_true, if_false, ↓reduceIte, Nat.reduceEqDiff, Nat.reduceLT, Nat.reduceAdd]
      | some a =>
        rw [hx] at f4
        have ha := fsx_some 21 a hx
        have f5 : ¬ mask (fit20 (shJ (60 * t) tr) (at_ 1 * mn at_ m 2) k) 21 = 0 := by
          refine mask_n0 (a := psn w a) (by unfold psn; split <;> omega) ?_
          rw [fit20_e (by unfold psn; split <;> omega)]
          exact ha.2
        by_cases h0 : w = 0
        · subst h0
          have f6 := c_first (fu := fu) (p := fit20 (shJ (60 * t) tr) (at_ 1 * mn at_ m 2) k) hf
          rw [fsx_congr (p := fit20 (shJ (60 * t) tr) (at_ 1 * mn at_ m 2) k) (q := fun i => fit (shJ (60 * t) tr) (at_ 1 * mn at_ m 2) k (psn 0 i)) 21 (fun i hi => fit20_e hi), hx] at f6
          apply two <;> simp (disch := omega) only [seenAtG, f_X12_seenAt, f_X12_seenAt_j22, e1, e2, c_within, q4, f1, f4, f5, f6, oe_s, psn, Nat.le_refl, Nat.zero_le, Nat.lt_irrefl, wd_lit, wd_of, wd_add, wd_mul, wd_neg, Option.bind_some, bnd, rdI_wd, wrI_wd, rdJ_wd, wrJ_wd, wd_31, wd_le, wd_lt, wd_inj, wd_eqm, wd_eqm', wd_ltm, wd_lem, wd_ltm2, wd_lem2, wd_bit0', wd_bit1', wd_shl, wd_or, wd_dif, i01_t, i01_f, jd_lit, i01_bz, bz_1, bz_0, f_X11_refuse, f_X11_answer, f_X11_allow, f_X11_deny, f_X12_refuse, f_X12_gives, f_X12_is, Option.some.injEq, exists_eq', if_true, if_false, ↓reduceIte, Nat.reduceEqDiff, Nat.reduceLT, Nat.reduceAdd]
        · have hw1 : w = 1 := by omega
          subst hw1
          have f6 := c_last (fu := fu) (a := a) (p := fit20 (shJ (60 * t) tr) (at_ 1 * mn at_ m 2) k) hf (by
            rw [← hx]
            apply fsx_congr
            intro i hi
            rw [fit20_e (by omega)]
            rfl)
          apply two <;> simp (disch := omega) only [seenAtG, f_X12_seenAt, f_X12_seenAt_j22, e1, e2, c_within, q4, f1, f4, f5, f6, psn, nw, Nat.le_refl, wd_lit, wd_of, wd_add, wd_mul, wd_neg, Option.bind_some, bnd, rdI_wd, wrI_wd, rdJ_wd, wrJ_wd, wd_31, wd_le, wd_lt, wd_inj, wd_eqm, wd_eqm', wd_ltm, wd_lem, wd_ltm2, wd_lem2, wd_bit0', wd_bit1', wd_shl, wd_or, wd_dif, i01_t, i01_f, jd_lit, i01_bz, bz_1, bz_0, f_X11_refuse, f_X11_answer, f_X11_allow, f_X11_deny, f_X12_refuse, f_X12_gives, f_X12_is, Option.some.injEq, exists_eq', if_true, if_false, ↓reduceIte, Nat.reduceEqDiff, Nat.reduceLT, Nat.reduceAdd]
    · have hj0' : ¬ j ≤ 0 := by omega
      by_cases hj1 : j = 1
      · subst hj1
        have l1 : ¬ 1 ≤ 0 := by omega
        apply two <;> simp (disch := omega) only [seenAtG, f_X12_seenAt, f_X12_seenAt_j22, e1, e2, nw, hw, l1, wd_lit, wd_of, wd_add, wd_mul, wd_neg, Option.bind_some, bnd, rdI_wd, wrI_wd, rdJ_wd, wrJ_wd, wd_31, wd_le, wd_lt, wd_inj, wd_eqm, wd_eqm', wd_ltm, wd_lem, wd_ltm2, wd_lem2, wd_bit0', wd_bit1', wd_shl, wd_or, wd_dif, i01_t, i01_f, jd_lit, i01_bz, bz_1, bz_0, f_X11_refuse, f_X11_answer, f_X11_allow, f_X11_deny, f_X12_refuse, f_X12_gives, f_X12_is, Option.some.injEq, exists_eq', if_true, if_false, ↓reduceIte, Nat.reduceEqDiff, Nat.reduceLT, Nat.reduceAdd]
      · apply two <;> simp (disch := omega) only [seenAtG, f_X12_seenAt, f_X12_seenAt_j22, e1, e2, c_within, q4, hj0, hj0', hj1, nw, hw, wd_lit, wd_of, wd_add, wd_mul, wd_neg, Option.bind_some, bnd, rdI_wd, wrI_wd, rdJ_wd, wrJ_wd, wd_31, wd_le, wd_lt, wd_inj, wd_eqm, wd_eqm', wd_ltm, wd_lem, wd_ltm2, wd_lem2, wd_bit0', wd_bit1', wd_shl, wd_or, wd_dif, i01_t, i01_f, jd_lit, i01_bz, bz_1, bz_0, f_X11_refuse, f_X11_answer, f_X11_allow, f_X11_deny, f_X12_refuse, f_X12_gives, f_X12_is, Option.some.injEq, exists_eq', if_true, if_false, ↓reduceIte, Nat.reduceEqDiff, Nat.reduceLT, Nat.reduceAdd]
theorem r_seenAtn {tm : Nat → Int32} {tr : Nat → Int64} {x1 x2 x3 x4 : Int32} (hc : at_ 0 = wd c) (q : imn 4 x2 = false) : f_X12_seenAt fu at_ st' tm tr x1 x2 x3 x4 = some (nn, wd 1) := by
  have l1 : ¬ 1 ≤ 0 := by omega
  simp (disch := omega) only [f_X12_seenAt, f_X12_seenAt_j22, r_seenRefn hc q, l1, wd_lit, wd_of, wd_add, wd_mul, wd_neg, Option.bind_some, bnd, rdI_wd, wrI_wd, rdJ_wd, wrJ_wd, wd_31, wd_le, wd_lt, wd_inj, wd_eqm, wd_eqm', wd_ltm, wd_lem, wd_ltm2, wd_lem2, wd_bit0', wd_bit1', wd_shl, wd_or, wd_dif, i01_t, i01_f, jd_lit, i01_bz, bz_1, bz_0, f_X11_refuse, f_X11_answer, f_X11_allow, f_X11_deny, f_X12_refuse, f_X12_gives, f_X12_is, Option.some.injEq, exists_eq', if_true, if_false, ↓reduceIte, Nat.reduceEqDiff, Nat.reduceLT, Nat.reduceAdd, ite_self]
end
theorem seenRef_n {fu c : Nat} {x1 x3 : Int32} : f_X11_seenRefusal_n2 fu (wd c) x1 x3 = some 1 := by
  unfold f_X11_seenRefusal_n2
  rw [c_isM]
  cases imn c x1 <;> rfl
theorem seen_0 {fu : Nat} {m0 n0 m1 n1 m2 n2 m3 n3 st cnt pri x1 x3 : Int32} {r0 r1 r2 r3 : Nat → Int64} {med : Nat → Int32} : f_X11_seen fu st r0 m0 n0 r1 m1 n1 r2 m2 n2 r3 m3 n3 med cnt pri x1 (wd 0) x3 = seenG fu st r0 m0 n0 med cnt pri x1 x3 := by
  unfold f_X11_seen seenG
  rw [if_pos (show wd 0 = 0 by decide)]
theorem seen_1 {fu : Nat} {m0 n0 m1 n1 m2 n2 m3 n3 st cnt pri x1 x3 : Int32} {r0 r1 r2 r3 : Nat → Int64} {med : Nat → Int32} : f_X11_seen fu st r0 m0 n0 r1 m1 n1 r2 m2 n2 r3 m3 n3 med cnt pri x1 (wd 1) x3 = seenG fu st r1 m1 n1 med cnt pri x1 x3 := by
  unfold f_X11_seen seenG
  rw [if_neg (show ¬ wd 1 = 0 by decide), if_pos (show wd 1 = 1 by decide)]
theorem seen_2 {fu : Nat} {m0 n0 m1 n1 m2 n2 m3 n3 st cnt pri x1 x3 : Int32} {r0 r1 r2 r3 : Nat → Int64} {med : Nat → Int32} : f_X11_seen fu st r0 m0 n0 r1 m1 n1 r2 m2 n2 r3 m3 n3 med cnt pri x1 (wd 2) x3 = seenG fu st r2 m2 n2 med cnt pri x1 x3 := by
  unfold f_X11_seen seenG
  rw [if_neg (show ¬ wd 2 = 0 by decide), if_neg (show ¬ wd 2 = 1 by decide), if_pos (show wd 2 = 2 by decide)]
theorem seen_3 {fu : Nat} {m0 n0 m1 n1 m2 n2 m3 n3 st cnt pri x1 x3 : Int32} {r0 r1 r2 r3 : Nat → Int64} {med : Nat → Int32} : f_X11_seen fu st r0 m0 n0 r1 m1 n1 r2 m2 n2 r3 m3 n3 med cnt pri x1 (wd 3) x3 = seenG fu st r3 m3 n3 med cnt pri x1 x3 := by
  unfold f_X11_seen seenG
  rw [if_neg (show ¬ wd 3 = 0 by decide), if_neg (show ¬ wd 3 = 1 by decide), if_neg (show ¬ wd 3 = 2 by decide), if_pos (show wd 3 = 3 by decide)]
theorem seen_n {fu c : Nat} {m0 n0 m1 n1 m2 n2 m3 n3 st pri x1 x3 : Int32} {r0 r1 r2 r3 : Nat → Int64} {med : Nat → Int32} {x2 : Int32} (h : ¬ x2 = wd 0 ∧ ¬ x2 = wd 1 ∧ ¬ x2 = wd 2 ∧ ¬ x2 = wd 3) : f_X11_seen fu st r0 m0 n0 r1 m1 n1 r2 m2 n2 r3 m3 n3 med (wd c) pri x1 x2 x3 = some (nn, wd 1) := by
  unfold f_X11_seen
  rw [if_neg (show ¬ x2 = 0 from h.1), if_neg (show ¬ x2 = 1 from h.2.1), if_neg (show ¬ x2 = 2 from h.2.2.1), if_neg (show ¬ x2 = 3 from h.2.2.2), seenRef_n]
  rfl
theorem r_seenn {fu c : Nat} {at_ tm : Nat → Int32} {tr : Nat → Int64} {st' x1 x2 x3 : Int32} (hc : at_ 0 = wd c) (q : imn 4 x2 = false) : f_X12_seen fu at_ st' tm tr x1 x2 x3 = some (nn, wd 1) := by
  have l1 : ¬ 1 ≤ 0 := by omega
  simp (disch := omega) only [f_X12_seen, r_seenRefn hc q, l1, wd_lit, wd_of, wd_add, wd_mul, wd_neg, Option.bind_some, bnd, rdI_wd, wrI_wd, rdJ_wd, wrJ_wd, wd_31, wd_le, wd_lt, wd_inj, wd_eqm, wd_eqm', wd_ltm, wd_lem, wd_ltm2, wd_lem2, wd_bit0', wd_bit1', wd_shl, wd_or, wd_dif, i01_t, i01_f, jd_lit, i01_bz, bz_1, bz_0, f_X11_refuse, f_X11_answer, f_X11_allow, f_X11_deny, f_X12_refuse, f_X12_gives, f_X12_is, Option.some.injEq, exists_eq', if_true, if_false, ↓reduceIte, Nat.reduceEqDiff, Nat.reduceLT, Nat.reduceAdd]
theorem Q1_seen {fu : Nat} (hf : 1000 ≤ fu) : Q_seen fu RR := by
  intro S M x1 x2 x3 h
  have hy := h.2.1
  obtain ⟨c, hW, hA, hN, hWr⟩ := h.2.2.1
  cases q0 : imn 4 x2
  · exact q_of (bind_e (by rw [hA.2.1]; exact seen_n (imn4 q0))) (bind_e (r_seenn hW.2.1 q0)) ⟨⟨rfl, h.1.2⟩, h.2⟩
  · obtain ⟨t, ht, rfl⟩ := imn_ex (by omega) q0
    obtain rfl | rfl | rfl | rfl : t = 0 ∨ t = 1 ∨ t = 2 ∨ t = 3 := by omega
    · obtain ⟨z, e1, e2⟩ := t_seen (st := vX11_latestStatus (S_b S)) (st' := vX12_status M) (x1 := x1) (x3 := x3) hW hA (show 0 < 4 by omega) hy.1 hf
      exact q_of (bind_e (seen_0.trans e1)) (bind_e e2) ⟨⟨rfl, h.1.2⟩, h.2⟩
    · obtain ⟨z, e1, e2⟩ := t_seen (st := vX11_latestStatus (S_b S)) (st' := vX12_status M) (x1 := x1) (x3 := x3) hW hA (show 1 < 4 by omega) hy.2.1 hf
      exact q_of (bind_e (seen_1.trans e1)) (bind_e e2) ⟨⟨rfl, h.1.2⟩, h.2⟩
    · obtain ⟨z, e1, e2⟩ := t_seen (st := vX11_latestStatus (S_b S)) (st' := vX12_status M) (x1 := x1) (x3 := x3) hW hA (show 2 < 4 by omega) hy.2.2.1 hf
      exact q_of (bind_e (seen_2.trans e1)) (bind_e e2) ⟨⟨rfl, h.1.2⟩, h.2⟩
    · obtain ⟨z, e1, e2⟩ := t_seen (st := vX11_latestStatus (S_b S)) (st' := vX12_status M) (x1 := x1) (x3 := x3) hW hA (show 3 < 4 by omega) hy.2.2.2 hf
      exact q_of (bind_e (seen_3.trans e1)) (bind_e e2) ⟨⟨rfl, h.1.2⟩, h.2⟩
theorem seenAt_0 {fu : Nat} {m0 n0 m1 n1 m2 n2 m3 n3 st cnt pri x1 x3 x4 : Int32} {r0 r1 r2 r3 : Nat → Int64} {med : Nat → Int32} : f_X11_seenAt fu st r0 m0 n0 r1 m1 n1 r2 m2 n2 r3 m3 n3 med cnt pri x1 (wd 0) x3 x4 = seenAtG fu st r0 m0 n0 med cnt pri x1 x3 x4 := by
  unfold f_X11_seenAt seenAtG
  rw [if_pos (show wd 0 = 0 by decide)]
theorem seenAt_1 {fu : Nat} {m0 n0 m1 n1 m2 n2 m3 n3 st cnt pri x1 x3 x4 : Int32} {r0 r1 r2 r3 : Nat → Int64} {med : Nat → Int32} : f_X11_seenAt fu st r0 m0 n0 r1 m1 n1 r2 m2 n2 r3 m3 n3 med cnt pri x1 (wd 1) x3 x4 = seenAtG fu st r1 m1 n1 med cnt pri x1 x3 x4 := by
  unfold f_X11_seenAt seenAtG
  rw [if_neg (show ¬ wd 1 = 0 by decide), if_pos (show wd 1 = 1 by decide)]
theorem seenAt_2 {fu : Nat} {m0 n0 m1 n1 m2 n2 m3 n3 st cnt pri x1 x3 x4 : Int32} {r0 r1 r2 r3 : Nat → Int64} {med : Nat → Int32} : f_X11_seenAt fu st r0 m0 n0 r1 m1 n1 r2 m2 n2 r3 m3 n3 med cnt pri x1 (wd 2) x3 x4 = seenAtG fu st r2 m2 n2 med cnt pri x1 x3 x4 := by
  unfold f_X11_seenAt seenAtG
  rw [if_neg (show ¬ wd 2 = 0 by decide), if_neg (show ¬ wd 2 = 1 by decide), if_pos (show wd 2 = 2 by decide)]
theorem seenAt_3 {fu : Nat} {m0 n0 m1 n1 m2 n2 m3 n3 st cnt pri x1 x3 x4 : Int32} {r0 r1 r2 r3 : Nat → Int64} {med : Nat → Int32} : f_X11_seenAt fu st r0 m0 n0 r1 m1 n1 r2 m2 n2 r3 m3 n3 med cnt pri x1 (wd 3) x3 x4 = seenAtG fu st r3 m3 n3 med cnt pri x1 x3 x4 := by
  unfold f_X11_seenAt seenAtG
  rw [if_neg (show ¬ wd 3 = 0 by decide), if_neg (show ¬ wd 3 = 1 by decide), if_neg (show ¬ wd 3 = 2 by decide), if_pos (show wd 3 = 3 by decide)]
theorem seenAt_n {fu c : Nat} {m0 n0 m1 n1 m2 n2 m3 n3 st pri x1 x3 x4 : Int32} {r0 r1 r2 r3 : Nat → Int64} {med : Nat → Int32} {x2 : Int32} (h : ¬ x2 = wd 0 ∧ ¬ x2 = wd 1 ∧ ¬ x2 = wd 2 ∧ ¬ x2 = wd 3) : f_X11_seenAt fu st r0 m0 n0 r1 m1 n1 r2 m2 n2 r3 m3 n3 med (wd c) pri x1 x2 x3 x4 = some (nn, wd 1) := by
  unfold f_X11_seenAt
  rw [if_neg (show ¬ x2 = 0 from h.1), if_neg (show ¬ x2 = 1 from h.2.1), if_neg (show ¬ x2 = 2 from h.2.2.1), if_neg (show ¬ x2 = 3 from h.2.2.2), seenRef_n]
  rfl
theorem Q1_seenAt {fu : Nat} (hf : 1000 ≤ fu) : Q_seenAt fu RR := by
  intro S M x1 x2 x3 x4 h
  have hy := h.2.1
  obtain ⟨c, hW, hA, hN, hWr⟩ := h.2.2.1
  cases q0 : imn 4 x2
  · exact q_of (bind_e (by rw [hA.2.1]; exact seenAt_n (imn4 q0))) (bind_e (r_seenAtn hW.2.1 q0)) ⟨⟨rfl, h.1.2⟩, h.2⟩
  · obtain ⟨t, ht, rfl⟩ := imn_ex (by omega) q0
    obtain rfl | rfl | rfl | rfl : t = 0 ∨ t = 1 ∨ t = 2 ∨ t = 3 := by omega
    · obtain ⟨z, e1, e2⟩ := t_seenAt (st := vX11_latestStatus (S_b S)) (st' := vX12_status M) (x1 := x1) (x3 := x3) (x4 := x4) hW hA (show 0 < 4 by omega) hy.1 hf
      exact q_of (bind_e (seenAt_0.trans e1)) (bind_e e2) ⟨⟨rfl, h.1.2⟩, h.2⟩
    · obtain ⟨z, e1, e2⟩ := t_seenAt (st := vX11_latestStatus (S_b S)) (st' := vX12_status M) (x1 := x1) (x3 := x3) (x4 := x4) hW hA (show 1 < 4 by omega) hy.2.1 hf
      exact q_of (bind_e (seenAt_1.trans e1)) (bind_e e2) ⟨⟨rfl, h.1.2⟩, h.2⟩
    · obtain ⟨z, e1, e2⟩ := t_seenAt (st := vX11_latestStatus (S_b S)) (st' := vX12_status M) (x1 := x1) (x3 := x3) (x4 := x4) hW hA (show 2 < 4 by omega) hy.2.2.1 hf
      exact q_of (bind_e (seenAt_2.trans e1)) (bind_e e2) ⟨⟨rfl, h.1.2⟩, h.2⟩
    · obtain ⟨z, e1, e2⟩ := t_seenAt (st := vX11_latestStatus (S_b S)) (st' := vX12_status M) (x1 := x1) (x3 := x3) (x4 := x4) hW hA (show 3 < 4 by omega) hy.2.2.2 hf
      exact q_of (bind_e (seenAt_3.trans e1)) (bind_e e2) ⟨⟨rfl, h.1.2⟩, h.2⟩
