/-! how many are in a set of less than nine -/
def pc : Nat → Nat → Nat
  | 0, _ => 0
  | i + 1, x => pc i x + (if x.testBit i then 1 else 0)
theorem pc_le (x : Nat) : ∀ i, pc i x ≤ i := by
  intro i
  induction i with
  | zero => exact Nat.le_refl 0
  | succ i ih =>
    show pc i x + (if x.testBit i then 1 else 0) ≤ i + 1
    split <;> omega
theorem c_bc8 : ∀ x, x < 256 → f_J6_bitCount_0f7a4 0 (wd x) = some (wd (pc 8 x)) := by decide +kernel
theorem c_bc {fu x : Nat} (h : x < 256) : f_J6_bitCount_0f7a4 fu (wd x) = some (wd (pc 8 x)) := c_bc8 x h
theorem bits_mono {fu x0 fu' x0' : Nat} : ∀ n a b r, f_X12_bits_l4 fu (wd x0) n a b = some r → ∀ k, n ≤ k → f_X12_bits_l4 fu' (wd x0') k a b = some r := by
  intro n
  induction n with
  | zero => intro a b r h; cases h
  | succ n ih =>
    intro a b r h k hk
    obtain ⟨k, rfl⟩ : ∃ m, k = m + 1 := ⟨k - 1, by omega⟩
    simp only [f_X12_bits_l4, f_X12_bits_b4, bnd] at h ⊢
    by_cases hb : b = 0
    · rw [if_pos hb] at h ⊢; exact h
    · rw [if_neg hb] at h ⊢; exact ih _ _ _ h k (by omega)
theorem r_bits8 : ∀ x, x < 256 → f_X12_bits_l4 0 (wd 0) 9 0 (wd x) = some (wd (pc 8 x)) := by decide +kernel
theorem r_bits {fu x : Nat} (h : x < 256) (hf : 1000 ≤ fu) : f_X12_bits fu (wd x) = some (wd (pc 8 x)) := bits_mono 9 0 (wd x) _ (r_bits8 x h) fu (by omega)
section
variable {fu c : Nat} {at_ cou wei med sto fle lik vot : Nat → Int32} {cnt liv pri quo mel los st st' : Int32}
theorem t_face {x1 x2 : Int32} (hW : WF at_ c) (hR : RA at_ c cou wei med sto fle lik cnt liv pri quo mel los) (hf : 1000 ≤ fu) : ∃ r st1 at' med' sto' fle' vot' mel' los', f_X11_face fu st cou wei med sto fle lik vot cnt liv pri mel los x1 x2 = some (r, st1, med', sto', fle', vot', mel', los') ∧ f_X12_face fu at_ st' x1 x2 = some (r, at', st1) ∧ WF at' c ∧ RA at' c cou wei med' sto' fle' lik cnt liv pri quo mel' los' ∧ FR at_ at' := by
  have h8 := hW.1
  have hc := hW.2.1
  have ec := hR.2.1
  have el := hR.2.2.1
  cases q0 : imn c x1
  · refine ⟨nn, wd 1, at_, med, sto, fle, vot, mel, los, ?_, ?_, hW, hR, FR.rf⟩ <;> simp (disch := omega) only [f_X11_face, f_X12_face, f_X11_dangerRefusal, q0, c_isM, r_isM hc, ec, wd_lit, wd_of, wd_add, wd_mul, wd_neg, Option.bind_some, bnd, rdI_wd, wrI_wd, rdJ_wd, wrJ_wd, wd_31, wd_le, wd_lt, wd_inj, wd_eqm, wd_eqm', wd_ltm, wd_lem, wd_ltm2, wd_lem2, wd_bit0', wd_bit1', wd_shl, wd_or, wd_dif, i01_t, i01_f, jd_lit, i01_bz, bz_1, bz_0, f_X11_refuse, f_X11_answer, f_X11_allow, f_X11_deny, f_X12_refuse, f_X12_gives, f_X12_is, Option.some.injEq, exists_eq', if_true, if_false, ↓reduceIte, Nat.reduceEqDiff, Nat.reduceLT, Nat.reduceAdd]
  · obtain ⟨m, hm, rfl⟩ := imn_ex (by omega) q0
    cases q1 : wn 1 99 x2
    · refine ⟨nn, wd 1, at_, med, sto, fle, vot, mel, los, ?_, ?_, hW, hR, FR.rf⟩ <;> simp (disch := omega) only [f_X11_face, f_X12_face, f_X11_dangerRefusal, q0, q1, c_isM, r_isM hc, ec, c_isSize, r_isSize, wd_lit, wd_of, wd_add, wd_mul, wd_neg, Option.bind_some, bnd, rdI_wd, wrI_wd, rdJ_wd, wrJ_wd, wd_31, wd_le, wd_lt, wd_inj, wd_eqm, wd_eqm', wd_ltm, wd_lem, wd_ltm2, wd_lem2, wd_bit0', wd_bit1', wd_shl, wd_or, wd_dif, i01_t, i01_f, jd_lit, i01_bz, bz_1, bz_0, f_X11_refuse, f_X11_answer, f_X11_allow, f_X11_deny, f_X12_refuse, f_X12_gives, f_X12_is, Option.some.injEq, exists_eq', if_true, if_false, ↓reduceIte, Nat.reduceEqDiff, Nat.reduceLT, Nat.reduceAdd]
    · cases q2 : alv at_ m
      · refine ⟨nn, wd 7, at_, med, sto, fle, vot, mel, los, ?_, ?_, hW, hR, FR.rf⟩ <;> simp (disch := omega) only [f_X11_face, f_X12_face, f_X11_dangerRefusal, q0, q1, q2, c_isM, r_isM hc, ec, el, c_isSize, r_isSize, c_lives hm h8, r_isAlive, wd_lit, wd_of, wd_add, wd_mul, wd_neg, Option.bind_some, bnd, rdI_wd, wrI_wd, rdJ_wd, wrJ_wd, wd_31, wd_le, wd_lt, wd_inj, wd_eqm, wd_eqm', wd_ltm, wd_lem, wd_ltm2, wd_lem2, wd_bit0', wd_bit1', wd_shl, wd_or, wd_dif, i01_t, i01_f, jd_lit, i01_bz, bz_1, bz_0, f_X11_refuse, f_X11_answer, f_X11_allow, f_X11_deny, f_X12_refuse, f_X12_gives, f_X12_is, Option.some.injEq, exists_eq', if_true, if_false, ↓reduceIte, Nat.reduceEqDiff, Nat.reduceLT, Nat.reduceAdd]
      · obtain ⟨med', sto', fle', vot', mel', los', e1, hW', hR', hF⟩ := p_faces (vot := vot) (s := x2) hW hR hm hf
        refine ⟨(facesA at_ c m x2).1, wd 0, _, med', sto', fle', vot', mel', los', ?_, ?_, hW', hR', hF⟩
        · simp (disch := omega) only [f_X11_face, f_X11_dangerRefusal, q0, q1, q2, c_isM, c_isSize, e1, Option.bind_some]
          simp (disch := omega) only [ec, el, c_isM, q0, c_isSize, q1, c_lives hm h8, q2, wd_lit, wd_of, wd_add, wd_mul, wd_neg, Option.bind_some, bnd, rdI_wd, wrI_wd, rdJ_wd, wrJ_wd, wd_31, wd_le, wd_lt, wd_inj, wd_eqm, wd_eqm', wd_ltm, wd_lem, wd_ltm2, wd_lem2, wd_bit0', wd_bit1', wd_shl, wd_or, wd_dif, i01_t, i01_f, jd_lit, i01_bz, bz_1, bz_0, f_X11_refuse, f_X11_answer, f_X11_allow, f_X11_deny, f_X12_refuse, f_X12_gives, f_X12_is, Option.some.injEq, exists_eq', if_true, if_false, ↓reduceIte, Nat.reduceEqDiff, Nat.reduceLT, Nat.reduceAdd]
        · simp (disch := omega) only [f_X12_face, q0, q1, q2, r_isM hc, r_isSize, r_isAlive, r_faces (show m < 8 by omega) hc h8 hf, wd_lit, wd_of, wd_add, wd_mul, wd_neg, Option.bind_some, bnd, rdI_wd, wrI_wd, rdJ_wd, wrJ_wd, wd_31, wd_le, wd_lt, wd_inj, wd_eqm, wd_eqm', wd_ltm, wd_lem, wd_ltm2, wd_lem2, wd_bit0', wd_bit1', wd_shl, wd_or, wd_dif, i01_t, i01_f, jd_lit, i01_bz, bz_1, bz_0, f_X11_refuse, f_X11_answer, f_X11_allow, f_X11_deny, f_X12_refuse, f_X12_gives, f_X12_is, Option.some.injEq, exists_eq', if_true, if_false, ↓reduceIte, Nat.reduceEqDiff, Nat.reduceLT, Nat.reduceAdd]
theorem t_give {x1 x2 : Int32} (hW : WF at_ c) (hR : RA at_ c cou wei med sto fle lik cnt liv pri quo mel los) (hf : 1000 ≤ fu) : ∃ r st1 at' med', f_X11_give fu st med cnt liv x1 x2 = some (r, st1, med') ∧ f_X12_give fu at_ st' x1 x2 = some (r, at', st1) ∧ WF at' c ∧ RA at' c cou wei med' sto fle lik cnt liv pri quo mel los ∧ FR at_ at' := by
  have h8 := hW.1
  have hc := hW.2.1
  have ec := hR.2.1
  have el := hR.2.2.1
  cases q0 : imn c x1
  · refine ⟨nn, wd 1, at_, med, ?_, ?_, hW, hR, FR.rf⟩ <;> simp (disch := omega) only [f_X11_give, f_X12_give, q0, c_isM, r_isM hc, ec, wd_lit, wd_of, wd_add, wd_mul, wd_neg, Option.bind_some, bnd, rdI_wd, wrI_wd, rdJ_wd, wrJ_wd, wd_31, wd_le, wd_lt, wd_inj, wd_eqm, wd_eqm', wd_ltm, wd_lem, wd_ltm2, wd_lem2, wd_bit0', wd_bit1', wd_shl, wd_or, wd_dif, i01_t, i01_f, jd_lit, i01_bz, bz_1, bz_0, f_X11_refuse, f_X11_answer, f_X11_allow, f_X11_deny, f_X12_refuse, f_X12_gives, f_X12_is, Option.some.injEq, exists_eq', if_true, if_false, ↓reduceIte, Nat.reduceEqDiff, Nat.reduceLT, Nat.reduceAdd]
  · obtain ⟨a, ha, rfl⟩ := imn_ex (by omega) q0
    cases q1 : imn c x2
    · refine ⟨nn, wd 1, at_, med, ?_, ?_, hW, hR, FR.rf⟩ <;> simp (disch := omega) only [f_X11_give, f_X12_give, q0, q1, c_isM, r_isM hc, ec, wd_lit, wd_of, wd_add, wd_mul, wd_neg, Option.bind_some, bnd, rdI_wd, wrI_wd, rdJ_wd, wrJ_wd, wd_31, wd_le, wd_lt, wd_inj, wd_eqm, wd_eqm', wd_ltm, wd_lem, wd_ltm2, wd_lem2, wd_bit0', wd_bit1', wd_shl, wd_or, wd_dif, i01_t, i01_f, jd_lit, i01_bz, bz_1, bz_0, f_X11_refuse, f_X11_answer, f_X11_allow, f_X11_deny, f_X12_refuse, f_X12_gives, f_X12_is, Option.some.injEq, exists_eq', if_true, if_false, ↓reduceIte, Nat.reduceEqDiff, Nat.reduceLT, Nat.reduceAdd]
    · obtain ⟨b, hb, rfl⟩ := imn_ex (by omega) q1
      by_cases q2 : hands? at_ a b = true
      · obtain ⟨e1, hW', hR', hF⟩ := p_hands (fu := fu) hW hR ha hb q2
        have hb2 : mn (handsA at_ a b) b 2 = mn at_ b 2 + wd 1 := by unfold handsA; rw [mn_upd (by omega) (by omega), if_pos ⟨rfl, rfl⟩]
        have hb3 := hR'.1.2.2.1 b hb
        rw [hb2] at hb3
        refine ⟨mn at_ b 2 + wd 1, wd 0, _, _, ?_, ?_, hW', hR', hF⟩
        · simp (disch := omega) only [f_X11_give, e1, Option.bind_some]
          simp (disch := omega) only [ec, c_isM, q0, q1, hb3, wd_lit, wd_of, wd_add, wd_mul, wd_neg, Option.bind_some, bnd, rdI_wd, wrI_wd, rdJ_wd, wrJ_wd, wd_31, wd_le, wd_lt, wd_inj, wd_eqm, wd_eqm', wd_ltm, wd_lem, wd_ltm2, wd_lem2, wd_bit0', wd_bit1', wd_shl, wd_or, wd_dif, i01_t, i01_f, jd_lit, i01_bz, bz_1, bz_0, f_X11_refuse, f_X11_answer, f_X11_allow, f_X11_deny, f_X12_refuse, f_X12_gives, f_X12_is, Option.some.injEq, exists_eq', if_true, if_false, ↓reduceIte, Nat.reduceEqDiff, Nat.reduceLT, Nat.reduceAdd]
        · simp (disch := omega) only [f_X12_give, q0, q1, r_isM hc, r_hands (show a < 8 by omega) (show b < 8 by omega), q2, r_manOf, hb2, wd_lit, wd_of, wd_add, wd_mul, wd_neg, Option.bind_some, bnd, rdI_wd, wrI_wd, rdJ_wd, wrJ_wd, wd_31, wd_le, wd_lt, wd_inj, wd_eqm, wd_eqm', wd_ltm, wd_lem, wd_ltm2, wd_lem2, wd_bit0', wd_bit1', wd_shl, wd_or, wd_dif, i01_t, i01_f, jd_lit, i01_bz, bz_1, bz_0, f_X11_refuse, f_X11_answer, f_X11_allow, f_X11_deny, f_X12_refuse, f_X12_gives, f_X12_is, Option.some.injEq, exists_eq', if_true, if_false, ↓reduceIte, Nat.reduceEqDiff, Nat.reduceLT, Nat.reduceAdd]
      · obtain ⟨med', e1, rfl⟩ := p_hands0 (fu := fu) hW hR ha hb q2
        refine ⟨nn, wd 7, at_, med', ?_, ?_, hW, hR, FR.rf⟩
        · simp (disch := omega) only [f_X11_give, e1, Option.bind_some]
          simp (disch := omega) only [ec, c_isM, q0, q1, wd_lit, wd_of, wd_add, wd_mul, wd_neg, Option.bind_some, bnd, rdI_wd, wrI_wd, rdJ_wd, wrJ_wd, wd_31, wd_le, wd_lt, wd_inj, wd_eqm, wd_eqm', wd_ltm, wd_lem, wd_ltm2, wd_lem2, wd_bit0', wd_bit1', wd_shl, wd_or, wd_dif, i01_t, i01_f, jd_lit, i01_bz, bz_1, bz_0, f_X11_refuse, f_X11_answer, f_X11_allow, f_X11_deny, f_X12_refuse, f_X12_gives, f_X12_is, Option.some.injEq, exists_eq', if_true, if_false, ↓reduceIte, Nat.reduceEqDiff, Nat.reduceLT, Nat.reduceAdd]
        · simp (disch := omega) only [f_X12_give, q0, q1, r_isM hc, r_hands (show a < 8 by omega) (show b < 8 by omega), q2, r_manOf, wd_lit, wd_of, wd_add, wd_mul, wd_neg, Option.bind_some, bnd, rdI_wd, wrI_wd, rdJ_wd, wrJ_wd, wd_31, wd_le, wd_lt, wd_inj, wd_eqm, wd_eqm', wd_ltm, wd_lem, wd_ltm2, wd_lem2, wd_bit0', wd_bit1', wd_shl, wd_or, wd_dif, i01_t, i01_f, jd_lit, i01_bz, bz_1, bz_0, f_X11_refuse, f_X11_answer, f_X11_allow, f_X11_deny, f_X12_refuse, f_X12_gives, f_X12_is, Option.some.injEq, exists_eq', if_true, if_false, ↓reduceIte, Nat.reduceEqDiff, Nat.reduceLT, Nat.reduceAdd, Bool.false_eq_true]
theorem t_lose {x1 : Int32} (hW : WF at_ c) (hR : RA at_ c cou wei med sto fle lik cnt liv pri quo mel los) (hf : 1000 ≤ fu) : ∃ r st1 at' med' los', f_X11_lose fu st med cnt los x1 = some (r, st1, med', los') ∧ f_X12_lose fu at_ st' x1 = some (r, at', st1) ∧ WF at' c ∧ RA at' c cou wei med' sto fle lik cnt liv pri quo mel los' ∧ FR at_ at' := by
  have h8 := hW.1
  have hc := hW.2.1
  have ec := hR.2.1
  cases q0 : imn c x1
  · refine ⟨nn, wd 1, at_, med, los, ?_, ?_, hW, hR, FR.rf⟩ <;> simp (disch := omega) only [f_X11_lose, f_X12_lose, q0, c_isM, r_isM hc, ec, wd_lit, wd_of, wd_add, wd_mul, wd_neg, Option.bind_some, bnd, rdI_wd, wrI_wd, rdJ_wd, wrJ_wd, wd_31, wd_le, wd_lt, wd_inj, wd_eqm, wd_eqm', wd_ltm, wd_lem, wd_ltm2, wd_lem2, wd_bit0', wd_bit1', wd_shl, wd_or, wd_dif, i01_t, i01_f, jd_lit, i01_bz, bz_1, bz_0, f_X11_refuse, f_X11_answer, f_X11_allow, f_X11_deny, f_X12_refuse, f_X12_gives, f_X12_is, Option.some.injEq, exists_eq', if_true, if_false, ↓reduceIte, Nat.reduceEqDiff, Nat.reduceLT, Nat.reduceAdd]
  · obtain ⟨a, ha, rfl⟩ := imn_ex (by omega) q0
    by_cases q2 : mn at_ a 2 = wd 0
    · have e1 := p_loses0 (fu := fu) hW hR ha q2
      refine ⟨nn, wd 7, at_, med, los, ?_, ?_, hW, hR, FR.rf⟩
      · simp (disch := omega) only [f_X11_lose, e1, Option.bind_some]
        simp (disch := omega) only [ec, c_isM, q0, wd_lit, wd_of, wd_add, wd_mul, wd_neg, Option.bind_some, bnd, rdI_wd, wrI_wd, rdJ_wd, wrJ_wd, wd_31, wd_le, wd_lt, wd_inj, wd_eqm, wd_eqm', wd_ltm, wd_lem, wd_ltm2, wd_lem2, wd_bit0', wd_bit1', wd_shl, wd_or, wd_dif, i01_t, i01_f, jd_lit, i01_bz, bz_1, bz_0, f_X11_refuse, f_X11_answer, f_X11_allow, f_X11_deny, f_X12_refuse, f_X12_gives, f_X12_is, Option.some.injEq, exists_eq', if_true, if_false, ↓reduceIte, Nat.reduceEqDiff, Nat.reduceLT, Nat.reduceAdd]
      · simp (disch := omega) only [f_X12_lose, q0, r_isM hc, r_loses (show a < 8 by omega), q2, wd_lit, wd_of, wd_add, wd_mul, wd_neg, Option.bind_some, bnd, rdI_wd, wrI_wd, rdJ_wd, wrJ_wd, wd_31, wd_le, wd_lt, wd_inj, wd_eqm, wd_eqm', wd_ltm, wd_lem, wd_ltm2, wd_lem2, wd_bit0', wd_bit1', wd_shl, wd_or, wd_dif, i01_t, i01_f, jd_lit, i01_bz, bz_1, bz_0, f_X11_refuse, f_X11_answer, f_X11_allow, f_X11_deny, f_X12_refuse, f_X12_gives, f_X12_is, Option.some.injEq, exists_eq', if_true, if_false, ↓reduceIte, Nat.reduceEqDiff, Nat.reduceLT, Nat.reduceAdd]
    · obtain ⟨e1, hW', hR', hF⟩ := p_loses (fu := fu) hW hR ha q2
      have hb2 : mn (losesA at_ a) a 2 = mn at_ a 2 - wd 1 := by unfold losesA; rw [mn_upd8 (by omega), mn_upd (by omega) (by omega), if_pos ⟨rfl, rfl⟩]
      refine ⟨mn at_ a 2 - wd 1, wd 0, _, _, _, ?_, ?_, hW', hR', hF⟩
      · simp (disch := omega) only [f_X11_lose, e1, Option.bind_some]
        simp (disch := omega) only [ec, c_isM, q0, upd_eq, wd_lit, wd_of, wd_add, wd_mul, wd_neg, Option.bind_some, bnd, rdI_wd, wrI_wd, rdJ_wd, wrJ_wd, wd_31, wd_le, wd_lt, wd_inj, wd_eqm, wd_eqm', wd_ltm, wd_lem, wd_ltm2, wd_lem2, wd_bit0', wd_bit1', wd_shl, wd_or, wd_dif, i01_t, i01_f, jd_lit, i01_bz, bz_1, bz_0, f_X11_refuse, f_X11_answer, f_X11_allow, f_X11_deny, f_X12_refuse, f_X12_gives, f_X12_is, Option.some.injEq, exists_eq', if_true, if_false, ↓reduceIte, Nat.reduceEqDiff, Nat.reduceLT, Nat.reduceAdd]
      · simp (disch := omega) only [f_X12_lose, q0, r_isM hc, r_loses (show a < 8 by omega), q2, r_manOf, hb2, wd_lit, wd_of, wd_add, wd_mul, wd_neg, Option.bind_some, bnd, rdI_wd, wrI_wd, rdJ_wd, wrJ_wd, wd_31, wd_le, wd_lt, wd_inj, wd_eqm, wd_eqm', wd_ltm, wd_lem, wd_ltm2, wd_lem2, wd_bit0', wd_bit1', wd_shl, wd_or, wd_dif, i01_t, i01_f, jd_lit, i01_bz, bz_1, bz_0, f_X11_refuse, f_X11_answer, f_X11_allow, f_X11_deny, f_X12_refuse, f_X12_gives, f_X12_is, Option.some.injEq, exists_eq', if_true, if_false, ↓reduceIte, Nat.reduceEqDiff, Nat.reduceLT, Nat.reduceAdd]
theorem t_fall {x1 : Int32} (hW : WF at_ c) (hR : RA at_ c cou wei med sto fle lik cnt liv pri quo mel los) (hf : 1000 ≤ fu) : ∃ r st1 at' liv', f_X11_fall fu st cnt liv x1 = some (r, st1, liv') ∧ f_X12_fall fu at_ st' x1 = some (r, at', st1) ∧ WF at' c ∧ RA at' c cou wei med sto fle lik cnt liv' pri quo mel los ∧ FR at_ at' := by
  have h8 := hW.1
  have hc := hW.2.1
  have ec := hR.2.1
  cases q0 : imn c x1
  · refine ⟨nn, wd 1, at_, liv, ?_, ?_, hW, hR, FR.rf⟩ <;> simp (disch := omega) only [f_X11_fall, f_X12_fall, q0, c_isM, r_isM hc, ec, wd_lit, wd_of, wd_add, wd_mul, wd_neg, Option.bind_some, bnd, rdI_wd, wrI_wd, rdJ_wd, wrJ_wd, wd_31, wd_le, wd_lt, wd_inj, wd_eqm, wd_eqm', wd_ltm, wd_lem, wd_ltm2, wd_lem2, wd_bit0', wd_bit1', wd_shl, wd_or, wd_dif, i01_t, i01_f, jd_lit, i01_bz, bz_1, bz_0, f_X11_refuse, f_X11_answer, f_X11_allow, f_X11_deny, f_X12_refuse, f_X12_gives, f_X12_is, Option.some.injEq, exists_eq', if_true, if_false, ↓reduceIte, Nat.reduceEqDiff, Nat.reduceLT, Nat.reduceAdd]
  · obtain ⟨a, ha, rfl⟩ := imn_ex (by omega) q0
    obtain ⟨liv', e1, hW', hR', hF⟩ := p_falls (fu := fu) hW hR ha
    cases q2 : alv at_ a
    · rw [q2] at e1
      refine ⟨nn, wd 7, _, _, ?_, ?_, hW', hR', hF⟩
      · simp (disch := omega) only [f_X11_fall, e1, Option.bind_some]
        simp (disch := omega) only [ec, c_isM, q0, wd_lit, wd_of, wd_add, wd_mul, wd_neg, Option.bind_some, bnd, rdI_wd, wrI_wd, rdJ_wd, wrJ_wd, wd_31, wd_le, wd_lt, wd_inj, wd_eqm, wd_eqm', wd_ltm, wd_lem, wd_ltm2, wd_lem2, wd_bit0', wd_bit1', wd_shl, wd_or, wd_dif, i01_t, i01_f, jd_lit, i01_bz, bz_1, bz_0, f_X11_refuse, f_X11_answer, f_X11_allow, f_X11_deny, f_X12_refuse, f_X12_gives, f_X12_is, Option.some.injEq, exists_eq', if_true, if_false, ↓reduceIte, Nat.reduceEqDiff, Nat.reduceLT, Nat.reduceAdd]
      · simp (disch := omega) only [f_X12_fall, q0, r_isM hc, r_falls (show a < 8 by omega), q2, wd_lit, wd_of, wd_add, wd_mul, wd_neg, Option.bind_some, bnd, rdI_wd, wrI_wd, rdJ_wd, wrJ_wd, wd_31, wd_le, wd_lt, wd_inj, wd_eqm, wd_eqm', wd_ltm, wd_lem, wd_ltm2, wd_lem2, wd_bit0', wd_bit1', wd_shl, wd_or, wd_dif, i01_t, i01_f, jd_lit, i01_bz, bz_1, bz_0, f_X11_refuse, f_X11_answer, f_X11_allow, f_X11_deny, f_X12_refuse, f_X12_gives, f_X12_is, Option.some.injEq, exists_eq', if_true, if_false, ↓reduceIte, Nat.reduceEqDiff, Nat.reduceLT, Nat.reduceAdd]
    · rw [q2] at e1
      have h256 := mask_256 (alv (fallsA at_ a)) h8
      refine ⟨wd (pc 8 (mask (alv (fallsA at_ a)) c)), wd 0, _, _, ?_, ?_, hW', hR', hF⟩
      · simp (disch := omega) only [f_X11_fall, e1, Option.bind_some]
        simp (disch := omega) only [ec, c_isM, q0, hR'.2.2.1, c_bc h256, wd_lit, wd_of, wd_add, wd_mul, wd_neg, Option.bind_some, bnd, rdI_wd, wrI_wd, rdJ_wd, wrJ_wd, wd_31, wd_le, wd_lt, wd_inj, wd_eqm, wd_eqm', wd_ltm, wd_lem, wd_ltm2, wd_lem2, wd_bit0', wd_bit1', wd_shl, wd_or, wd_dif, i01_t, i01_f, jd_lit, i01_bz, bz_1, bz_0, f_X11_refuse, f_X11_answer, f_X11_allow, f_X11_deny, f_X12_refuse, f_X12_gives, f_X12_is, Option.some.injEq, exists_eq', if_true, if_false, ↓reduceIte, Nat.reduceEqDiff, Nat.reduceLT, Nat.reduceAdd]
      · simp (disch := omega) only [f_X12_fall, q0, r_isM hc, r_falls (show a < 8 by omega), q2, r_living hW'.2.1 h8 hf, r_bits h256 hf, wd_lit, wd_of, wd_add, wd_mul, wd_neg, Option.bind_some, bnd, rdI_wd, wrI_wd, rdJ_wd, wrJ_wd, wd_31, wd_le, wd_lt, wd_inj, wd_eqm, wd_eqm', wd_ltm, wd_lem, wd_ltm2, wd_lem2, wd_bit0', wd_bit1', wd_shl, wd_or, wd_dif, i01_t, i01_f, jd_lit, i01_bz, bz_1, bz_0, f_X11_refuse, f_X11_answer, f_X11_allow, f_X11_deny, f_X12_refuse, f_X12_gives, f_X12_is, Option.some.injEq, exists_eq', if_true, if_false, ↓reduceIte, Nat.reduceEqDiff, Nat.reduceLT, Nat.reduceAdd]
end
theorem Q1_face {fu : Nat} (hf : 1000 ≤ fu) : Q_face fu RR := by
  intro S M x1 x2 h
  obtain ⟨c, hW, hA, hN, hWr⟩ := h.2.2.1
  obtain ⟨r, st1, at', med', sto', fle', vot', mel', los', e1, e2, hW', hA', hF⟩ := t_face (st := vX11_latestStatus (S_b S)) (st' := vX12_status M) (vot := vX0_votes (S_a S)) (x1 := x1) (x2 := x2) hW hA hf
  exact q_of (bind_e e1) (bind_e e2) ⟨⟨rfl, h.1.2⟩, h.2.1, ⟨c, hW', hA', hN, hF.w hWr⟩, hF.mk h.2.2.2.1, h.2.2.2.2⟩
theorem Q1_give {fu : Nat} (hf : 1000 ≤ fu) : Q_give fu RR := by
  intro S M x1 x2 h
  obtain ⟨c, hW, hA, hN, hWr⟩ := h.2.2.1
  obtain ⟨r, st1, at', med', e1, e2, hW', hA', hF⟩ := t_give (st := vX11_latestStatus (S_b S)) (st' := vX12_status M) (x1 := x1) (x2 := x2) hW hA hf
  exact q_of (bind_e e1) (bind_e e2) ⟨⟨rfl, h.1.2⟩, h.2.1, ⟨c, hW', hA', hN, hF.w hWr⟩, hF.mk h.2.2.2.1, h.2.2.2.2⟩
theorem Q1_lose {fu : Nat} (hf : 1000 ≤ fu) : Q_lose fu RR := by
  intro S M x1 h
  obtain ⟨c, hW, hA, hN, hWr⟩ := h.2.2.1
  obtain ⟨r, st1, at', med', los', e1, e2, hW', hA', hF⟩ := t_lose (st := vX11_latestStatus (S_b S)) (st' := vX12_status M) (x1 := x1) hW hA hf
  exact q_of (bind_e e1) (bind_e e2) ⟨⟨rfl, h.1.2⟩, h.2.1, ⟨c, hW', hA', hN, hF.w hWr⟩, hF.mk h.2.2.2.1, h.2.2.2.2⟩
theorem Q1_fall {fu : Nat} (hf : 1000 ≤ fu) : Q_fall fu RR := by
  intro S M x1 h
  obtain ⟨c, hW, hA, hN, hWr⟩ := h.2.2.1
  obtain ⟨r, st1, at', liv', e1, e2, hW', hA', hF⟩ := t_fall (st := vX11_latestStatus (S_b S)) (st' := vX12_status M) (x1 := x1) hW hA hf
  exact q_of (bind_e e1) (bind_e e2) ⟨⟨rfl, h.1.2⟩, h.2.1, ⟨c, hW', hA', hN, hF.w hWr⟩, hF.mk h.2.2.2.1, h.2.2.2.2⟩
