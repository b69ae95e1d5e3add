theorem q_of {α : Type} {F : Option (α × SX)} {G : Option (α × tX12)} {R : SX → tX12 → Prop} {r : α} {S1 : SX} {M1 : tX12} (e1 : F = some (r, S1)) (e2 : G = some (r, M1)) (h : R S1 M1) : ∃ r S1 M1, F = some (r, S1) ∧ G = some (r, M1) ∧ R S1 M1 := ⟨r, S1, M1, e1, e2, h⟩
theorem bind_e {α β : Type} {o : Option α} {k : α → Option β} {z : α} (h : o = some z) : o.bind k = k z := by subst h; rfl
theorem r_cand {fu c m : Nat} {at_ : Nat → Int32} {s : Int32} (hc : at_ 0 = wd c) (h8 : c ≤ 8) (hm : m < 8) (hf : 100 ≤ fu) : f_X12_candidatesOf fu at_ (wd m) s = some (wd (cnd at_ c m s)) := r_candidatesOf hc h8 hm hf
theorem Q1_brave {fu : Nat} (hf : 1000 ≤ fu) : Q_brave fu RR := by
  intro S M x1 h
  obtain ⟨c, hW, hA, hN, hWr⟩ := h.2.2.1
  obtain ⟨z, e1, e2⟩ := t_brave (st := vX11_latestStatus (S_b S)) (st' := vX12_status M) (x := x1) hW hA hf
  exact q_of (bind_e e1) (bind_e e2) ⟨⟨rfl, h.1.2⟩, h.2⟩
theorem brv_le {at_ : Nat → Int32} {c m : Nat} (hW : WF at_ c) (hm : m < c) : ∃ k, k ≤ 99 ∧ brv at_ m = wd k := by
  obtain ⟨p, hp, ep⟩ := hW.2.2.1
  obtain ⟨a, ha, ea⟩ := (hW.2.2.2.2 m hm).1
  obtain ⟨b, hb, eb⟩ := (hW.2.2.2.2 m hm).2.2.1
  unfold brv
  rw [ep, ea, eb, wd_mul, wd_add]
  have : p * b ≤ 9 * 99 := Nat.mul_le_mul hp hb
  exact bmin_le (by omega)
theorem t_limit {fu c : Nat} {at_ cou wei med sto fle lik vot : Nat → Int32} {cnt liv pri quo mel los st st' : Int32} {x1 : Int32} (hW : WF at_ c) (hR : RA at_ c cou wei med sto fle lik cnt liv pri quo mel los) (hf : 1000 ≤ fu) : ∃ z, f_X11_limit fu st cou med cnt liv pri x1 = some z ∧ f_X12_limit fu at_ st' x1 = some z := by
  obtain ⟨hV, rfl, rfl, rfl, rfl, rfl, rfl, h3, h4, h0⟩ := hR
  have h8 := hW.1
  have hc := hW.2.1
  cases q0 : imn c x1
  · apply two <;> simp (disch := omega) only [f_X11_limit, f_X12_limit, q0, c_isM, r_isM hc, wd_lit, wd_of, wd_add, wd_mul, wd_neg, Option.bind_some, bnd, rdI_wd, wrI_wd, rdJ_wd, wrJ_wd, wd_31, wd_le, wd_lt, wd_inj, wd_eqm, wd_eqm', wd_ltm, wd_lem, wd_ltm2, wd_lem2, wd_bit0', wd_bit1', wd_shl, wd_or, wd_dif, i01_t, i01_f, jd_lit, i01_bz, bz_1, bz_0, f_X11_refuse, f_X11_answer, f_X11_allow, f_X11_deny, f_X12_refuse, f_X12_gives, f_X12_is, Option.some.injEq, exists_eq', if_true, if_false, ↓reduceIte, Nat.reduceEqDiff, Nat.reduceLT, Nat.reduceAdd]
  · obtain ⟨m, hm, rfl⟩ := imn_ex (by omega) q0
    obtain ⟨k, hk, ek⟩ := brv_le hW hm
    cases q2 : alv at_ m
    · apply two <;> simp (disch := omega) only [f_X11_limit, f_X12_limit, q0, q2, c_isM, r_isM hc, c_lives hm h8, r_isAlive, wd_lit, wd_of, wd_add, wd_mul, wd_neg, Option.bind_some, bnd, rdI_wd, wrI_wd, rdJ_wd, wrJ_wd, wd_31, wd_le, wd_lt, wd_inj, wd_eqm, wd_eqm', wd_ltm, wd_lem, wd_ltm2, wd_lem2, wd_bit0', wd_bit1', wd_shl, wd_or, wd_dif, i01_t, i01_f, jd_lit, i01_bz, bz_1, bz_0, f_X11_refuse, f_X11_answer, f_X11_allow, f_X11_deny, f_X12_refuse, f_X12_gives, f_X12_is, Option.some.injEq, exists_eq', if_true, if_false, ↓reduceIte, Nat.reduceEqDiff, Nat.reduceLT, Nat.reduceAdd]
    · skip
      by_cases hk9 : k = 99
      · subst hk9
        apply two <;> simp (disch := omega) only [f_X11_limit, f_X12_limit, q0, q2, c_isM, r_isM hc, c_lives hm h8, r_isAlive, c_bravery hm h8 (hV.1 m hm) (hV.2.2.1 m hm), r_braveOf, ek, wd_lit, wd_of, wd_add, wd_mul, wd_neg, Option.bind_some, bnd, rdI_wd, wrI_wd, rdJ_wd, wrJ_wd, wd_31, wd_le, wd_lt, wd_inj, wd_eqm, wd_eqm', wd_ltm, wd_lem, wd_ltm2, wd_lem2, wd_bit0', wd_bit1', wd_shl, wd_or, wd_dif, i01_t, i01_f, jd_lit, i01_bz, bz_1, bz_0, f_X11_refuse, f_X11_answer, f_X11_allow, f_X11_deny, f_X12_refuse, f_X12_gives, f_X12_is, Option.some.injEq, exists_eq', if_true, if_false, ↓reduceIte, Nat.reduceEqDiff, Nat.reduceLT, Nat.reduceAdd, Nat.reduceLeDiff]
      · have hk8 : k ≤ 98 := by omega
        apply two <;> simp (disch := omega) only [f_X11_limit, f_X12_limit, q0, q2, c_isM, r_isM hc, c_lives hm h8, r_isAlive, c_bravery hm h8 (hV.1 m hm) (hV.2.2.1 m hm), r_braveOf, ek, wd_lit, wd_of, wd_add, wd_mul, wd_neg, Option.bind_some, bnd, rdI_wd, wrI_wd, rdJ_wd, wrJ_wd, wd_31, wd_le, wd_lt, wd_inj, wd_eqm, wd_eqm', wd_ltm, wd_lem, wd_ltm2, wd_lem2, wd_bit0', wd_bit1', wd_shl, wd_or, wd_dif, i01_t, i01_f, jd_lit, i01_bz, bz_1, bz_0, f_X11_refuse, f_X11_answer, f_X11_allow, f_X11_deny, f_X12_refuse, f_X12_gives, f_X12_is, Option.some.injEq, exists_eq', if_true, if_false, ↓reduceIte, Nat.reduceEqDiff, Nat.reduceLT, Nat.reduceAdd, hk9, hk8, Nat.reduceLeDiff]
theorem Q1_limit {fu : Nat} (hf : 1000 ≤ fu) : Q_limit fu RR := by
  intro S M x1 h
  obtain ⟨c, hW, hA, hN, hWr⟩ := h.2.2.1
  obtain ⟨z, e1, e2⟩ := t_limit (st := vX11_latestStatus (S_b S)) (st' := vX12_status M) (vot := vX0_votes (S_a S)) (x1 := x1) hW hA hf
  exact q_of (bind_e e1) (bind_e e2) ⟨⟨rfl, h.1.2⟩, h.2⟩
theorem t_candidates {fu c : Nat} {at_ cou wei med sto fle lik vot : Nat → Int32} {cnt liv pri quo mel los st st' : Int32} {x1 x2 : Int32} (hW : WF at_ c) (hR : RA at_ c cou wei med sto fle lik cnt liv pri quo mel los) (hf : 1000 ≤ fu) : ∃ z, f_X11_candidates fu st cou med cnt liv pri x1 x2 = some z ∧ f_X12_candidates fu at_ st' x1 x2 = some z := by
  obtain ⟨hV, rfl, rfl, rfl, rfl, rfl, rfl, h3, h4, h0⟩ := hR
  have h8 := hW.1
  have hc := hW.2.1
  cases q0 : imn c x1
  · apply two <;> simp (disch := omega) only [f_X11_candidates, f_X11_dangerRefusal, f_X12_candidates, q0, c_isM, r_isM hc, wd_lit, wd_of, wd_add, wd_mul, wd_neg, Option.bind_some, bnd, rdI_wd, wrI_wd, rdJ_wd, wrJ_wd, wd_31, wd_le, wd_lt, wd_inj, wd_eqm, wd_eqm', wd_ltm, wd_lem, wd_ltm2, wd_lem2, wd_bit0', wd_bit1', wd_shl, wd_or, wd_dif, i01_t, i01_f, jd_lit, i01_bz, bz_1, bz_0, f_X11_refuse, f_X11_answer, f_X11_allow, f_X11_deny, f_X12_refuse, f_X12_gives, f_X12_is, Option.some.injEq, exists_eq', if_true, if_false, ↓reduceIte, Nat.reduceEqDiff, Nat.reduceLT, Nat.reduceAdd]
  · obtain ⟨m, hm, rfl⟩ := imn_ex (by omega) q0
    cases q1 : wn 1 99 x2
    · apply two <;> simp (disch := omega) only [f_X11_candidates, f_X11_dangerRefusal, f_X12_candidates, q0, q1, c_isM, r_isM hc, c_isSize, r_isSize, wd_lit, wd_of, wd_add, wd_mul, wd_neg, Option.bind_some, bnd, rdI_wd, wrI_wd, rdJ_wd, wrJ_wd, wd_31, wd_le, wd_lt, wd_inj, wd_eqm, wd_eqm', wd_ltm, wd_lem, wd_ltm2, wd_lem2, wd_bit0', wd_bit1', wd_shl, wd_or, wd_dif, i01_t, i01_f, jd_lit, i01_bz, bz_1, bz_0, f_X11_refuse, f_X11_answer, f_X11_allow, f_X11_deny, f_X12_refuse, f_X12_gives, f_X12_is, Option.some.injEq, exists_eq', if_true, if_false, ↓reduceIte, Nat.reduceEqDiff, Nat.reduceLT, Nat.reduceAdd]
    · skip
      cases q2 : alv at_ m
      · apply two <;> simp (disch := omega) only [f_X11_candidates, f_X11_dangerRefusal, f_X12_candidates, q0, q1, q2, c_isM, r_isM hc, c_isSize, r_isSize, c_lives hm h8, r_isAlive, wd_lit, wd_of, wd_add, wd_mul, wd_neg, Option.bind_some, bnd, rdI_wd, wrI_wd, rdJ_wd, wrJ_wd, wd_31, wd_le, wd_lt, wd_inj, wd_eqm, wd_eqm', wd_ltm, wd_lem, wd_ltm2, wd_lem2, wd_bit0', wd_bit1', wd_shl, wd_or, wd_dif, i01_t, i01_f, jd_lit, i01_bz, bz_1, bz_0, f_X11_refuse, f_X11_answer, f_X11_allow, f_X11_deny, f_X12_refuse, f_X12_gives, f_X12_is, Option.some.injEq, exists_eq', if_true, if_false, ↓reduceIte, Nat.reduceEqDiff, Nat.reduceLT, Nat.reduceAdd]
      · skip
        apply two <;> simp (disch := omega) only [f_X11_candidates, f_X11_dangerRefusal, f_X12_candidates, q0, q1, q2, c_isM, r_isM hc, c_isSize, r_isSize, c_lives hm h8, r_isAlive, c_others hm h8 hf hV.1 hV.2.2.1, r_cand hc h8 (show m < 8 by omega) (show 100 ≤ fu by omega), wd_lit, wd_of, wd_add, wd_mul, wd_neg, Option.bind_some, bnd, rdI_wd, wrI_wd, rdJ_wd, wrJ_wd, wd_31, wd_le, wd_lt, wd_inj, wd_eqm, wd_eqm', wd_ltm, wd_lem, wd_ltm2, wd_lem2, wd_bit0', wd_bit1', wd_shl, wd_or, wd_dif, i01_t, i01_f, jd_lit, i01_bz, bz_1, bz_0, f_X11_refuse, f_X11_answer, f_X11_allow, f_X11_deny, f_X12_refuse, f_X12_gives, f_X12_is, Option.some.injEq, exists_eq', if_true, if_false, ↓reduceIte, Nat.reduceEqDiff, Nat.reduceLT, Nat.reduceAdd]
theorem Q1_candidates {fu : Nat} (hf : 1000 ≤ fu) : Q_candidates fu RR := by
  intro S M x1 x2 h
  obtain ⟨c, hW, hA, hN, hWr⟩ := h.2.2.1
  obtain ⟨z, e1, e2⟩ := t_candidates (st := vX11_latestStatus (S_b S)) (st' := vX12_status M) (vot := vX0_votes (S_a S)) (x1 := x1) (x2 := x2) hW hA hf
  exact q_of (bind_e e1) (bind_e e2) ⟨⟨rfl, h.1.2⟩, h.2⟩
theorem t_voteOf {fu c : Nat} {at_ cou wei med sto fle lik vot : Nat → Int32} {cnt liv pri quo mel los st st' : Int32} {x1 x2 x3 : Int32} (hW : WF at_ c) (hR : RA at_ c cou wei med sto fle lik cnt liv pri quo mel los) (hf : 1000 ≤ fu) : ∃ z, f_X11_voteOf fu st cou med lik cnt liv pri x1 x2 x3 = some z ∧ f_X12_voteOf fu at_ st' x1 x2 x3 = some z := by
  obtain ⟨hV, rfl, rfl, rfl, rfl, rfl, rfl, h3, h4, h0⟩ := hR
  have h8 := hW.1
  have hc := hW.2.1
  cases q0 : imn c x1
  · apply two <;> simp (disch := omega) only [f_X11_voteOf, f_X12_voteOf, q0, c_isM, r_isM hc, wd_lit, wd_of, wd_add, wd_mul, wd_neg, Option.bind_some, bnd, rdI_wd, wrI_wd, rdJ_wd, wrJ_wd, wd_31, wd_le, wd_lt, wd_inj, wd_eqm, wd_eqm', wd_ltm, wd_lem, wd_ltm2, wd_lem2, wd_bit0', wd_bit1', wd_shl, wd_or, wd_dif, i01_t, i01_f, jd_lit, i01_bz, bz_1, bz_0, f_X11_refuse, f_X11_answer, f_X11_allow, f_X11_deny, f_X12_refuse, f_X12_gives, f_X12_is, Option.some.injEq, exists_eq', if_true, if_false, ↓reduceIte, Nat.reduceEqDiff, Nat.reduceLT, Nat.reduceAdd]
  · obtain ⟨v, hv, rfl⟩ := imn_ex (by omega) q0
    cases q1 : imn c x2
    · apply two <;> simp (disch := omega) only [f_X11_voteOf, f_X12_voteOf, q0, q1, c_isM, r_isM hc, wd_lit, wd_of, wd_add, wd_mul, wd_neg, Option.bind_some, bnd, rdI_wd, wrI_wd, rdJ_wd, wrJ_wd, wd_31, wd_le, wd_lt, wd_inj, wd_eqm, wd_eqm', wd_ltm, wd_lem, wd_ltm2, wd_lem2, wd_bit0', wd_bit1', wd_shl, wd_or, wd_dif, i01_t, i01_f, jd_lit, i01_bz, bz_1, bz_0, f_X11_refuse, f_X11_answer, f_X11_allow, f_X11_deny, f_X12_refuse, f_X12_gives, f_X12_is, Option.some.injEq, exists_eq', if_true, if_false, ↓reduceIte, Nat.reduceEqDiff, Nat.reduceLT, Nat.reduceAdd]
    · obtain ⟨m, hm, rfl⟩ := imn_ex (by omega) q1
      cases q2 : wn 1 99 x3
      · apply two <;> simp (disch := omega) only [f_X11_voteOf, f_X12_voteOf, q0, q1, q2, c_isM, r_isM hc, c_isSize, r_isSize, wd_lit, wd_of, wd_add, wd_mul, wd_neg, Option.bind_some, bnd, rdI_wd, wrI_wd, rdJ_wd, wrJ_wd, wd_31, wd_le, wd_lt, wd_inj, wd_eqm, wd_eqm', wd_ltm, wd_lem, wd_ltm2, wd_lem2, wd_bit0', wd_bit1', wd_shl, wd_or, wd_dif, i01_t, i01_f, jd_lit, i01_bz, bz_1, bz_0, f_X11_refuse, f_X11_answer, f_X11_allow, f_X11_deny, f_X12_refuse, f_X12_gives, f_X12_is, Option.some.injEq, exists_eq', if_true, if_false, ↓reduceIte, Nat.reduceEqDiff, Nat.reduceLT, Nat.reduceAdd]
      · skip
        cases q3 : alv at_ v
        · apply two <;> simp (disch := omega) only [f_X11_voteOf, f_X12_voteOf, q0, q1, q2, q3, c_isM, r_isM hc, c_isSize, r_isSize, c_lives hv h8, r_isAlive, wd_lit, wd_of, wd_add, wd_mul, wd_neg, Option.bind_some, bnd, rdI_wd, wrI_wd, rdJ_wd, wrJ_wd, wd_31, wd_le, wd_lt, wd_inj, wd_eqm, wd_eqm', wd_ltm, wd_lem, wd_ltm2, wd_lem2, wd_bit0', wd_bit1', wd_shl, wd_or, wd_dif, i01_t, i01_f, jd_lit, i01_bz, bz_1, bz_0, f_X11_refuse, f_X11_answer, f_X11_allow, f_X11_deny, f_X12_refuse, f_X12_gives, f_X12_is, Option.some.injEq, exists_eq', if_true, if_false, ↓reduceIte, Nat.reduceEqDiff, Nat.reduceLT, Nat.reduceAdd]
        · skip
          cases q4 : alv at_ m
          · apply two <;> simp (disch := omega) only [f_X11_voteOf, f_X12_voteOf, q0, q1, q2, q3, q4, c_isM, r_isM hc, c_isSize, r_isSize, c_lives hv h8, r_isAlive, c_lives hm h8, wd_lit, wd_of, wd_add, wd_mul, wd_neg, Option.bind_some, bnd, rdI_wd, wrI_wd, rdJ_wd, wrJ_wd, wd_31, wd_le, wd_lt, wd_inj, wd_eqm, wd_eqm', wd_ltm, wd_lem, wd_ltm2, wd_lem2, wd_bit0', wd_bit1', wd_shl, wd_or, wd_dif, i01_t, i01_f, jd_lit, i01_bz, bz_1, bz_0, f_X11_refuse, f_X11_answer, f_X11_allow, f_X11_deny, f_X12_refuse, f_X12_gives, f_X12_is, Option.some.injEq, exists_eq', if_true, if_false, ↓reduceIte, Nat.reduceEqDiff, Nat.reduceLT, Nat.reduceAdd]
          · skip
            have hcn : cnd at_ c m x3 < 256 := mask_256 _ h8
            have hvb := vby_lt at_ v (cnd at_ c m x3) c
            cases hx : vby at_ v (cnd at_ c m x3) c with
            | none =>
              apply two <;> simp (disch := omega) only [f_X11_voteOf, f_X12_voteOf, q0, q1, q2, q3, q4, c_isM, r_isM hc, c_isSize, r_isSize, c_lives hv h8, r_isAlive, c_lives hm h8, c_others hm h8 hf hV.1 hV.2.2.1, r_cand hc h8 (show m < 8 by omega) (show 100 ≤ fu by omega), c_choiceOf hv (show cnd at_ c m x3 < 2147483648 by omega) h8 hf hV.2.2.2 hW.nn, r_voteBy (show v < 8 by omega) (show cnd at_ c m x3 < 2147483648 by omega) hc h8 hf, f_X12_orNone, hx, oe_n, wd_lit, wd_of, wd_add, wd_mul, wd_neg, Option.bind_some, bnd, rdI_wd, wrI_wd, rdJ_wd, wrJ_wd, wd_31, wd_le, wd_lt, wd_inj, wd_eqm, wd_eqm', wd_ltm, wd_lem, wd_ltm2, wd_lem2, wd_bit0', wd_bit1', wd_shl, wd_or, wd_dif, i01_t, i01_f, jd_lit, i01_bz, bz_1, bz_0, f_X11_refuse, f_X11_answer, f_X11_allow, f_X11_deny, f_X12_refuse, f_X12_gives, f_X12_is, Option.some.injEq, exists_eq', if_true, if_false, ↓reduceIte, Nat.reduceEqDiff, Nat.reduceLT, Nat.reduceAdd]
            | some b =>
              have := hvb b hx
              apply two <;> simp (disch := omega) only [f_X11_voteOf, f_X12_voteOf, q0, q1, q2, q3, q4, c_isM, r_isM hc, c_isSize, r_isSize, c_lives hv h8, r_isAlive, c_lives hm h8, c_others hm h8 hf hV.1 hV.2.2.1, r_cand hc h8 (show m < 8 by omega) (show 100 ≤ fu by omega), c_choiceOf hv (show cnd at_ c m x3 < 2147483648 by omega) h8 hf hV.2.2.2 hW.nn, r_voteBy (show v < 8 by omega) (show cnd at_ c m x3 < 2147483648 by omega) hc h8 hf, f_X12_orNone, hx, oe_s, wd_lit, wd_of, wd_add, wd_mul, wd_neg, Option.bind_some, bnd, rdI_wd, wrI_wd, rdJ_wd, wrJ_wd, wd_31, wd_le, wd_lt, wd_inj, wd_eqm, wd_eqm', wd_ltm, wd_lem, wd_ltm2, wd_lem2, wd_bit0', wd_bit1', wd_shl, wd_or, wd_dif, i01_t, i01_f, jd_lit, i01_bz, bz_1, bz_0, f_X11_refuse, f_X11_answer, f_X11_allow, f_X11_deny, f_X12_refuse, f_X12_gives, f_X12_is, Option.some.injEq, exists_eq', if_true, if_false, ↓reduceIte, Nat.reduceEqDiff, Nat.reduceLT, Nat.reduceAdd]
theorem Q1_voteOf {fu : Nat} (hf : 1000 ≤ fu) : Q_voteOf fu RR := by
  intro S M x1 x2 x3 h
  obtain ⟨c, hW, hA, hN, hWr⟩ := h.2.2.1
  obtain ⟨z, e1, e2⟩ := t_voteOf (st := vX11_latestStatus (S_b S)) (st' := vX12_status M) (vot := vX0_votes (S_a S)) (x1 := x1) (x2 := x2) (x3 := x3) hW hA hf
  exact q_of (bind_e e1) (bind_e e2) ⟨⟨rfl, h.1.2⟩, h.2⟩
