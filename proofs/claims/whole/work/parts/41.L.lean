theorem loop_inv {σ ρ : Type} (L : Nat → Nat → σ → Option ρ) (I : Nat → σ → Prop) (P : ρ → Prop) (c : Nat) (hs : ∀ n i s, i < c → I i s → ∃ s', L (n + 1) i s = L n (i + 1) s' ∧ I (i + 1) s') (he : ∀ n s, I c s → ∃ r, L (n + 1) c s = some r ∧ P r) : ∀ i n s, i ≤ c → c - i < n → I i s → ∃ r, L n i s = some r ∧ P r := by
  have key : ∀ d i n s, i + d = c → d < n → I i s → ∃ r, L n i s = some r ∧ P r := by
    intro d
    induction d with
    | zero =>
      intro i n s h1 h2 h3
      obtain ⟨m, rfl⟩ : ∃ m, n = m + 1 := ⟨n - 1, by omega⟩
      have : i = c := by omega
      subst this
      exact he m s h3
    | succ d ih =>
      intro i n s h1 h2 h3
      obtain ⟨m, rfl⟩ : ∃ m, n = m + 1 := ⟨n - 1, by omega⟩
      obtain ⟨s', e, h4⟩ := hs m i s (by omega) h3
      rw [e]
      exact ih (i + 1) m s' (by omega) (by omega) h4
  intro i n s h1 h2 h3
  exact key (c - i) i n s (by omega) (by omega) h3
theorem pw_1 : ∀ c, c ≤ 8 → wd (1 <<< c) - wd 1 = wd (2 ^ c - 1) := by decide +kernel
theorem pw_2 : ∀ c, c ≤ 8 → (jd 1 <<< (Int32.toInt64 (wd c) &&& jd 63)) - jd 1 = jd (2 ^ c - 1) := by decide +kernel
theorem pw_3 : ∀ c, c ≤ 8 → 2 ^ c ≤ 256 := by decide +kernel
theorem t_carries {fu c : Nat} {at_ cou wei med sto fle lik vot : Nat → Int32} {cnt liv pri quo mel los st st' : Int32} {x1 : Int32} (hW : WF at_ c) (hR : RA at_ c cou wei med sto fle lik cnt liv pri quo mel los) (hf : 1000 ≤ fu) : ∃ z, f_X11_carries fu st wei cnt liv quo x1 = some z ∧ f_X12_carries fu at_ st' x1 = some z := by
  obtain ⟨hV, rfl, rfl, rfl, rfl, rfl, rfl, h3, h4, h0⟩ := hR
  have h8 := hW.1
  have hc := hW.2.1
  have p3 := pw_3 c h8
  have h256 := mask_256 (alv at_) h8
  cases q1 : wn 0 (2 ^ c - 1) x1
  · apply two <;> simp (disch := omega) only [f_X11_carries, f_X12_carries, q1, c_within, r_from, pw_1 c h8, pw_2 c h8, hc, wd_lit, wd_of, wd_add, wd_mul, wd_neg, Option.bind_some, bnd, rdI_wd, wrI_wd, rdJ_wd, wrJ_wd, wd_31, wd_le, wd_lt, wd_inj, wd_eqm, wd_eqm', wd_ltm, wd_lem, wd_ltm2, wd_lem2, wd_bit0', wd_bit1', wd_shl, wd_or, wd_dif, i01_t, i01_f, jd_lit, i01_bz, bz_1, bz_0, f_X11_refuse, f_X11_answer, f_X11_allow, f_X11_deny, f_X12_refuse, f_X12_gives, f_X12_is, Option.some.injEq, exists_eq', if_true, if_false, ↓reduceIte, Nat.reduceEqDiff, Nat.reduceLT, Nat.reduceAdd]
  · obtain ⟨s, hs1, hs2, rfl⟩ := wn_ex (by omega) (by omega) q1
    have hsd := sdf_le s (mask (alv at_) c)
    by_cases q2 : sdf s (mask (alv at_) c) = 0
    · cases q3 : cry at_ c s
      · apply two <;> simp (disch := omega) only [f_X11_carries, f_X12_carries, c_within, r_from, pw_1 c h8, pw_2 c h8, hc, q1, q2, q3, r_living hc h8 hf, r_doCarry (show s < 2147483648 by omega) hc h8 hf, c_carried (show s < 2147483648 by omega) h8 hf hV.2.1, wd_lit, wd_of, wd_add, wd_mul, wd_neg, Option.bind_some, bnd, rdI_wd, wrI_wd, rdJ_wd, wrJ_wd, wd_31, wd_le, wd_lt, wd_inj, wd_eqm, wd_eqm', wd_ltm, wd_lem, wd_ltm2, wd_lem2, wd_bit0', wd_bit1', wd_shl, wd_or, wd_dif, i01_t, i01_f, jd_lit, i01_bz, bz_1, bz_0, f_X11_refuse, f_X11_answer, f_X11_allow, f_X11_deny, f_X12_refuse, f_X12_gives, f_X12_is, Option.some.injEq, exists_eq', if_true, if_false, ↓reduceIte, Nat.reduceEqDiff, Nat.reduceLT, Nat.reduceAdd]
      · apply two <;> simp (disch := omega) only [f_X11_carries, f_X12_carries, c_within, r_from, pw_1 c h8, pw_2 c h8, hc, q1, q2, q3, r_living hc h8 hf, r_doCarry (show s < 2147483648 by omega) hc h8 hf, c_carried (show s < 2147483648 by omega) h8 hf hV.2.1, wd_lit, wd_of, wd_add, wd_mul, wd_neg, Option.bind_some, bnd, rdI_wd, wrI_wd, rdJ_wd, wrJ_wd, wd_31, wd_le, wd_lt, wd_inj, wd_eqm, wd_eqm', wd_ltm, wd_lem, wd_ltm2, wd_lem2, wd_bit0', wd_bit1', wd_shl, wd_or, wd_dif, i01_t, i01_f, jd_lit, i01_bz, bz_1, bz_0, f_X11_refuse, f_X11_answer, f_X11_allow, f_X11_deny, f_X12_refuse, f_X12_gives, f_X12_is, Option.some.injEq, exists_eq', if_true, if_false, ↓reduceIte, Nat.reduceEqDiff, Nat.reduceLT, Nat.reduceAdd]
    · apply two <;> simp (disch := omega) only [f_X11_carries, f_X12_carries, c_within, r_from, pw_1 c h8, pw_2 c h8, hc, q1, q2, r_living hc h8 hf, wd_lit, wd_of, wd_add, wd_mul, wd_neg, Option.bind_some, bnd, rdI_wd, wrI_wd, rdJ_wd, wrJ_wd, wd_31, wd_le, wd_lt, wd_inj, wd_eqm, wd_eqm', wd_ltm, wd_lem, wd_ltm2, wd_lem2, wd_bit0', wd_bit1', wd_shl, wd_or, wd_dif, i01_t, i01_f, jd_lit, i01_bz, bz_1, bz_0, f_X11_refuse, f_X11_answer, f_X11_allow, f_X11_deny, f_X12_refuse, f_X12_gives, f_X12_is, Option.some.injEq, exists_eq', if_true, if_false, ↓reduceIte, Nat.reduceEqDiff, Nat.reduceLT, Nat.reduceAdd]
theorem Q1_carries {fu : Nat} (hf : 1000 ≤ fu) : Q_carries fu RR := by
  intro S M x1 h
  obtain ⟨c, hW, hA, hN, hWr⟩ := h.2.2.1
  obtain ⟨z, e1, e2⟩ := t_carries (st := vX11_latestStatus (S_b S)) (st' := vX12_status M) (vot := vX0_votes (S_a S)) (x1 := x1) hW hA hf
  exact q_of (bind_e e1) (bind_e e2) ⟨⟨rfl, h.1.2⟩, h.2⟩
section
variable {fu c : Nat} {at_ cou wei med sto fle lik vot : Nat → Int32} {cnt liv pri quo mel los st st' : Int32}
theorem RA_cou {m : Nat} {x : Int32} (hR : RA at_ c cou wei med sto fle lik cnt liv pri quo mel los) (h8 : c ≤ 8) (hm : m < c) : RA (upd at_ (8 + 14 * m + 0) x) c (upd cou m x) wei med sto fle lik cnt liv pri quo mel los := by
  obtain ⟨⟨a1, a2, a3, a4⟩, e1, e2, e3, e4, e5, e6, h3, h4, h0⟩ := hR
  refine ⟨⟨?_, ?_, ?_, ?_⟩, e1, by rw [alv_upd (by omega) (by omega)]; exact e2, by rw [upd_ne (by omega)]; exact e3, by rw [upd_ne (by omega)]; exact e4, by rw [upd_ne (by omega)]; exact e5, by rw [upd_ne (by omega)]; exact e6, ?_, ?_, ?_⟩
  · intro k hk; rw [mn_upd (by omega) (by omega)]; have := a1 k hk; unfold upd; grind
  · intro k hk; rw [mn_upd (by omega) (by omega), if_neg (by omega)]; exact a2 k hk
  · intro k hk; rw [mn_upd (by omega) (by omega), if_neg (by omega)]; exact a3 k hk
  · intro k o hk ho; rw [mn_upd (by omega) (by omega), if_neg (by omega)]; exact a4 k o hk ho
  · intro k hk; rw [mn_upd (by omega) (by omega), if_neg (by omega)]; exact h3 k hk
  · intro k hk; rw [mn_upd (by omega) (by omega), if_neg (by omega)]; exact h4 k hk
  · intro k hk hk8; exact h0 k hk hk8
theorem RA_wei {m : Nat} {x : Int32} (hR : RA at_ c cou wei med sto fle lik cnt liv pri quo mel los) (h8 : c ≤ 8) (hm : m < c) : RA (upd at_ (8 + 14 * m + 1) x) c cou (upd wei m x) med sto fle lik cnt liv pri quo mel los := by
  obtain ⟨⟨a1, a2, a3, a4⟩, e1, e2, e3, e4, e5, e6, h3, h4, h0⟩ := hR
  refine ⟨⟨?_, ?_, ?_, ?_⟩, e1, by rw [alv_upd (by omega) (by omega)]; exact e2, by rw [upd_ne (by omega)]; exact e3, by rw [upd_ne (by omega)]; exact e4, by rw [upd_ne (by omega)]; exact e5, by rw [upd_ne (by omega)]; exact e6, ?_, ?_, ?_⟩
  · intro k hk; rw [mn_upd (by omega) (by omega), if_neg (by omega)]; exact a1 k hk
  · intro k hk; rw [mn_upd (by omega) (by omega)]; have := a2 k hk; unfold upd; grind
  · intro k hk; rw [mn_upd (by omega) (by omega), if_neg (by omega)]; exact a3 k hk
  · intro k o hk ho; rw [mn_upd (by omega) (by omega), if_neg (by omega)]; exact a4 k o hk ho
  · intro k hk; rw [mn_upd (by omega) (by omega), if_neg (by omega)]; exact h3 k hk
  · intro k hk; rw [mn_upd (by omega) (by omega), if_neg (by omega)]; exact h4 k hk
  · intro k hk hk8; exact h0 k hk hk8
theorem RA_lik {m b : Nat} {x : Int32} (hR : RA at_ c cou wei med sto fle lik cnt liv pri quo mel los) (h8 : c ≤ 8) (hm : m < c) (hb : b < c) : RA (upd at_ (8 + 14 * m + (6 + b)) x) c cou wei med sto fle (upd lik (m * 8 + b) x) cnt liv pri quo mel los := by
  obtain ⟨⟨a1, a2, a3, a4⟩, e1, e2, e3, e4, e5, e6, h3, h4, h0⟩ := hR
  refine ⟨⟨?_, ?_, ?_, ?_⟩, e1, by rw [alv_upd (by omega) (by omega)]; exact e2, by rw [upd_ne (by omega)]; exact e3, by rw [upd_ne (by omega)]; exact e4, by rw [upd_ne (by omega)]; exact e5, by rw [upd_ne (by omega)]; exact e6, ?_, ?_, ?_⟩
  · intro k hk; rw [mn_upd (by omega) (by omega), if_neg (by omega)]; exact a1 k hk
  · intro k hk; rw [mn_upd (by omega) (by omega), if_neg (by omega)]; exact a2 k hk
  · intro k hk; rw [mn_upd (by omega) (by omega), if_neg (by omega)]; exact a3 k hk
  · intro k o hk ho; rw [mn_upd (by omega) (by omega)]; have := a4 k o hk ho; unfold upd; by_cases hh : k = m ∧ 6 + o = 6 + b
    · rw [if_pos hh, if_pos (by omega)]
    · rw [if_neg hh, if_neg (by omega)]; exact this
  · intro k hk; rw [mn_upd (by omega) (by omega), if_neg (by omega)]; exact h3 k hk
  · intro k hk; rw [mn_upd (by omega) (by omega), if_neg (by omega)]; exact h4 k hk
  · intro k hk hk8; exact h0 k hk hk8
theorem t_train {x1 x2 : Int32} (hW : WF at_ c) (hR : RA at_ c cou wei med sto fle lik cnt liv pri quo mel los) (hf : 1000 ≤ fu) : ∃ r st1 at' cou', f_X11_train fu st cou cnt x1 x2 = some (r, st1, cou') ∧ f_X12_train fu at_ st' x1 x2 = some (r, at', st1) ∧ WF at' c ∧ RA at' c cou' wei med sto fle lik cnt liv pri quo mel los ∧ FR at_ at' := by
  have h8 := hW.1
  have hc := hW.2.1
  have ec := hR.2.1
  cases q0 : imn c x1
  · refine ⟨wd 0, wd 1, at_, cou, ?_, ?_, hW, hR, FR.rf⟩ <;> simp (disch := omega) only [f_X11_train, f_X12_train, q0, c_isM, r_isM hc, ec, wd_lit, wd_of, wd_add, wd_mul, wd_neg, Option.bind_some, bnd, rdI_wd, wrI_wd, rdJ_wd, wrJ_wd, wd_31, wd_le, wd_lt, wd_inj, wd_eqm, wd_eqm', wd_ltm, wd_lem, wd_ltm2, wd_lem2, wd_bit0', wd_bit1', wd_shl, wd_or, wd_dif, i01_t, i01_f, jd_lit, i01_bz, bz_1, bz_0, f_X11_refuse, f_X11_answer, f_X11_allow, f_X11_deny, f_X12_refuse, f_X12_gives, f_X12_is, Option.some.injEq, exists_eq', if_true, if_false, ↓reduceIte, Nat.reduceEqDiff, Nat.reduceLT, Nat.reduceAdd]
  · obtain ⟨m, hm, rfl⟩ := imn_ex (by omega) q0
    cases q1 : wn 0 20 x2
    · refine ⟨wd 0, wd 1, at_, cou, ?_, ?_, hW, hR, FR.rf⟩ <;> simp (disch := omega) only [f_X11_train, f_X12_train, q0, q1, c_isM, r_isM hc, ec, c_within, r_from, wd_lit, wd_of, wd_add, wd_mul, wd_neg, Option.bind_some, bnd, rdI_wd, wrI_wd, rdJ_wd, wrJ_wd, wd_31, wd_le, wd_lt, wd_inj, wd_eqm, wd_eqm', wd_ltm, wd_lem, wd_ltm2, wd_lem2, wd_bit0', wd_bit1', wd_shl, wd_or, wd_dif, i01_t, i01_f, jd_lit, i01_bz, bz_1, bz_0, f_X11_refuse, f_X11_answer, f_X11_allow, f_X11_deny, f_X12_refuse, f_X12_gives, f_X12_is, Option.some.injEq, exists_eq', if_true, if_false, ↓reduceIte, Nat.reduceEqDiff, Nat.reduceLT, Nat.reduceAdd]
    · obtain ⟨s, hs0, hs, rfl⟩ := wn_ex (by omega) (by omega) q1
      refine ⟨wd 1, wd 0, upd at_ (8 + 14 * m + 0) (wd s), upd cou m (wd s), ?_, ?_, WF_upd hW (by omega) (by omega) (fun _ => ⟨s, by omega, rfl⟩) (by omega) (by omega) (by omega), RA_cou hR h8 hm, FR_u3 (by omega) (by omega)⟩ <;> simp (disch := omega) only [f_X11_train, f_X12_train, q0, q1, c_isM, r_isM hc, ec, c_within, r_from, r_manRow, Nat.add_zero, wd_lit, wd_of, wd_add, wd_mul, wd_neg, Option.bind_some, bnd, rdI_wd, wrI_wd, rdJ_wd, wrJ_wd, wd_31, wd_le, wd_lt, wd_inj, wd_eqm, wd_eqm', wd_ltm, wd_lem, wd_ltm2, wd_lem2, wd_bit0', wd_bit1', wd_shl, wd_or, wd_dif, i01_t, i01_f, jd_lit, i01_bz, bz_1, bz_0, f_X11_refuse, f_X11_answer, f_X11_allow, f_X11_deny, f_X12_refuse, f_X12_gives, f_X12_is, Option.some.injEq, exists_eq', if_true, if_false, ↓reduceIte, Nat.reduceEqDiff, Nat.reduceLT, Nat.reduceAdd]
theorem t_weigh {x1 x2 : Int32} (hW : WF at_ c) (hR : RA at_ c cou wei med sto fle lik cnt liv pri quo mel los) (hf : 1000 ≤ fu) : ∃ r st1 at' wei', f_X11_weigh fu st wei cnt x1 x2 = some (r, st1, wei') ∧ f_X12_weigh fu at_ st' x1 x2 = some (r, at', st1) ∧ WF at' c ∧ RA at' c cou wei' med sto fle lik cnt liv pri quo mel los ∧ FR at_ at' := by
  have h8 := hW.1
  have hc := hW.2.1
  have ec := hR.2.1
  cases q0 : imn c x1
  · refine ⟨wd 0, wd 1, at_, wei, ?_, ?_, hW, hR, FR.rf⟩ <;> simp (disch := omega) only [f_X11_weigh, f_X12_weigh, q0, c_isM, r_isM hc, ec, wd_lit, wd_of, wd_add, wd_mul, wd_neg, Option.bind_some, bnd, rdI_wd, wrI_wd, rdJ_wd, wrJ_wd, wd_31, wd_le, wd_lt, wd_inj, wd_eqm, wd_eqm', wd_ltm, wd_lem, wd_ltm2, wd_lem2, wd_bit0', wd_bit1', wd_shl, wd_or, wd_dif, i01_t, i01_f, jd_lit, i01_bz, bz_1, bz_0, f_X11_refuse, f_X11_answer, f_X11_allow, f_X11_deny, f_X12_refuse, f_X12_gives, f_X12_is, Option.some.injEq, exists_eq', if_true, if_false, ↓reduceIte, Nat.reduceEqDiff, Nat.reduceLT, Nat.reduceAdd]
  · obtain ⟨m, hm, rfl⟩ := imn_ex (by omega) q0
    cases q1 : wn 0 9 x2
    · refine ⟨wd 0, wd 1, at_, wei, ?_, ?_, hW, hR, FR.rf⟩ <;> simp (disch := omega) only [f_X11_weigh, f_X12_weigh, q0, q1, c_isM, r_isM hc, ec, c_within, r_from, wd_lit, wd_of, wd_add, wd_mul, wd_neg, Option.bind_some, bnd, rdI_wd, wrI_wd, rdJ_wd, wrJ_wd, wd_31, wd_le, wd_lt, wd_inj, wd_eqm, wd_eqm', wd_ltm, wd_lem, wd_ltm2, wd_lem2, wd_bit0', wd_bit1', wd_shl, wd_or, wd_dif, i01_t, i01_f, jd_lit, i01_bz, bz_1, bz_0, f_X11_refuse, f_X11_answer, f_X11_allow, f_X11_deny, f_X12_refuse, f_X12_gives, f_X12_is, Option.some.injEq, exists_eq', if_true, if_false, ↓reduceIte, Nat.reduceEqDiff, Nat.reduceLT, Nat.reduceAdd]
    · obtain ⟨s, hs0, hs, rfl⟩ := wn_ex (by omega) (by omega) q1
      refine ⟨wd 1, wd 0, upd at_ (8 + 14 * m + 1) (wd s), upd wei m (wd s), ?_, ?_, WF_upd hW (by omega) (by omega) (by omega) (fun _ => ⟨s, by omega, rfl⟩) (by omega) (by omega), RA_wei hR h8 hm, FR_u3 (by omega) (by omega)⟩ <;> simp (disch := omega) only [f_X11_weigh, f_X12_weigh, q0, q1, c_isM, r_isM hc, ec, c_within, r_from, r_manRow, Nat.add_zero, wd_lit, wd_of, wd_add, wd_mul, wd_neg, Option.bind_some, bnd, rdI_wd, wrI_wd, rdJ_wd, wrJ_wd, wd_31, wd_le, wd_lt, wd_inj, wd_eqm, wd_eqm', wd_ltm, wd_lem, wd_ltm2, wd_lem2, wd_bit0', wd_bit1', wd_shl, wd_or, wd_dif, i01_t, i01_f, jd_lit, i01_bz, bz_1, bz_0, f_X11_refuse, f_X11_answer, f_X11_allow, f_X11_deny, f_X12_refuse, f_X12_gives, f_X12_is, Option.some.injEq, exists_eq', if_true, if_false, ↓reduceIte, Nat.reduceEqDiff, Nat.reduceLT, Nat.reduceAdd]
theorem t_charm {x1 x2 x3 : Int32} (hW : WF at_ c) (hR : RA at_ c cou wei med sto fle lik cnt liv pri quo mel los) (hf : 1000 ≤ fu) : ∃ r st1 at' lik', f_X11_charm fu st lik cnt x1 x2 x3 = some (r, st1, lik') ∧ f_X12_charm fu at_ st' x1 x2 x3 = some (r, at', st1) ∧ WF at' c ∧ RA at' c cou wei med sto fle lik' cnt liv pri quo mel los ∧ FR at_ at' := by
  have h8 := hW.1
  have hc := hW.2.1
  have ec := hR.2.1
  cases q0 : imn c x1
  · refine ⟨wd 0, wd 1, at_, lik, ?_, ?_, hW, hR, FR.rf⟩ <;> simp (disch := omega) only [f_X11_charm, f_X12_charm, q0, c_isM, r_isM hc, ec, wd_lit, wd_of, wd_add, wd_mul, wd_neg, Option.bind_some, bnd, rdI_wd, wrI_wd, rdJ_wd, wrJ_wd, wd_31, wd_le, wd_lt, wd_inj, wd_eqm, wd_eqm', wd_ltm, wd_lem, wd_ltm2, wd_lem2, wd_bit0', wd_bit1', wd_shl, wd_or, wd_dif, i01_t, i01_f, jd_lit, i01_bz, bz_1, bz_0, f_X11_refuse, f_X11_answer, f_X11_allow, f_X11_deny, f_X12_refuse, f_X12_gives, f_X12_is, Option.some.injEq, exists_eq', if_true, if_false, ↓reduceIte, Nat.reduceEqDiff, Nat.reduceLT, Nat.reduceAdd]
  · obtain ⟨m, hm, rfl⟩ := imn_ex (by omega) q0
    cases q2 : imn c x2
    · refine ⟨wd 0, wd 1, at_, lik, ?_, ?_, hW, hR, FR.rf⟩ <;> simp (disch := omega) only [f_X11_charm, f_X12_charm, q0, q2, c_isM, r_isM hc, ec, wd_lit, wd_of, wd_add, wd_mul, wd_neg, Option.bind_some, bnd, rdI_wd, wrI_wd, rdJ_wd, wrJ_wd, wd_31, wd_le, wd_lt, wd_inj, wd_eqm, wd_eqm', wd_ltm, wd_lem, wd_ltm2, wd_lem2, wd_bit0', wd_bit1', wd_shl, wd_or, wd_dif, i01_t, i01_f, jd_lit, i01_bz, bz_1, bz_0, f_X11_refuse, f_X11_answer, f_X11_allow, f_X11_deny, f_X12_refuse, f_X12_gives, f_X12_is, Option.some.injEq, exists_eq', if_true, if_false, ↓reduceIte, Nat.reduceEqDiff, Nat.reduceLT, Nat.reduceAdd]
    · obtain ⟨b, hb, rfl⟩ := imn_ex (by omega) q2
      cases q1 : wn 0 9 x3
      · refine ⟨wd 0, wd 1, at_, lik, ?_, ?_, hW, hR, FR.rf⟩ <;> simp (disch := omega) only [f_X11_charm, f_X12_charm, q0, q1, q2, c_isM, r_isM hc, ec, c_within, r_from, wd_lit, wd_of, wd_add, wd_mul, wd_neg, Option.bind_some, bnd, rdI_wd, wrI_wd, rdJ_wd, wrJ_wd, wd_31, wd_le, wd_lt, wd_inj, wd_eqm, wd_eqm', wd_ltm, wd_lem, wd_ltm2, wd_lem2, wd_bit0', wd_bit1', wd_shl, wd_or, wd_dif, i01_t, i01_f, jd_lit, i01_bz, bz_1, bz_0, f_X11_refuse, f_X11_answer, f_X11_allow, f_X11_deny, f_X12_refuse, f_X12_gives, f_X12_is, Option.some.injEq, exists_eq', if_true, if_false, ↓reduceIte, Nat.reduceEqDiff, Nat.reduceLT, Nat.reduceAdd]
      · obtain ⟨s, hs0, hs, rfl⟩ := wn_ex (by omega) (by omega) q1
        by_cases q3 : m = b
        · refine ⟨wd 0, wd 7, at_, lik, ?_, ?_, hW, hR, FR.rf⟩ <;> simp (disch := omega) only [f_X11_charm, f_X12_charm, q0, q1, q2, q3, c_isM, r_isM hc, ec, c_within, r_from, wd_lit, wd_of, wd_add, wd_mul, wd_neg, Option.bind_some, bnd, rdI_wd, wrI_wd, rdJ_wd, wrJ_wd, wd_31, wd_le, wd_lt, wd_inj, wd_eqm, wd_eqm', wd_ltm, wd_lem, wd_ltm2, wd_lem2, wd_bit0', wd_bit1', wd_shl, wd_or, wd_dif, i01_t, i01_f, jd_lit, i01_bz, bz_1, bz_0, f_X11_refuse, f_X11_answer, f_X11_allow, f_X11_deny, f_X12_refuse, f_X12_gives, f_X12_is, Option.some.injEq, exists_eq', if_true, if_false, ↓reduceIte, Nat.reduceEqDiff, Nat.reduceLT, Nat.reduceAdd]
        · refine ⟨wd 1, wd 0, upd at_ (8 + 14 * m + (6 + b)) (wd s), upd lik (m * 8 + b) (wd s), ?_, ?_, WF_upd hW (by omega) (by omega) (by omega) (by omega) (by omega) (fun _ => ⟨s, by omega, rfl⟩), RA_lik hR h8 hm hb, FR_u3 (by omega) (by omega)⟩ <;> simp (disch := omega) only [f_X11_charm, f_X12_charm, q0, q1, q2, q3, c_isM, r_isM hc, ec, c_within, r_from, r_manRow, Nat.add_assoc, c_setLiking hm hb h8, wd_lit, wd_of, wd_add, wd_mul, wd_neg, Option.bind_some, bnd, rdI_wd, wrI_wd, rdJ_wd, wrJ_wd, wd_31, wd_le, wd_lt, wd_inj, wd_eqm, wd_eqm', wd_ltm, wd_lem, wd_ltm2, wd_lem2, wd_bit0', wd_bit1', wd_shl, wd_or, wd_dif, i01_t, i01_f, jd_lit, i01_bz, bz_1, bz_0, f_X11_refuse, f_X11_answer, f_X11_allow, f_X11_deny, f_X12_refuse, f_X12_gives, f_X12_is, Option.some.injEq, exists_eq', if_true, if_false, ↓reduceIte, Nat.reduceEqDiff, Nat.reduceLT, Nat.reduceAdd]
theorem RA_pri {x : Int32} (hR : RA at_ c cou wei med sto fle lik cnt liv pri quo mel los) : RA (upd at_ 1 x) c cou wei med sto fle lik cnt liv x quo mel los := by
  obtain ⟨hV, e1, e2, e3, e4, e5, e6, h3, h4, h0⟩ := hR
  exact ⟨RV_u8 hV (by omega), e1, by rw [alv_upd8 (by omega)]; exact e2, upd_eq.symm, by rw [upd_ne (by omega)]; exact e4, by rw [upd_ne (by omega)]; exact e5, by rw [upd_ne (by omega)]; exact e6, fun k hk => by rw [mn_upd8 (by omega)]; exact h3 k hk, fun k hk => by rw [mn_upd8 (by omega)]; exact h4 k hk, h0⟩
theorem RA_quo {x : Int32} (hR : RA at_ c cou wei med sto fle lik cnt liv pri quo mel los) : RA (upd at_ 2 x) c cou wei med sto fle lik cnt liv pri x mel los := by
  obtain ⟨hV, e1, e2, e3, e4, e5, e6, h3, h4, h0⟩ := hR
  exact ⟨RV_u8 hV (by omega), e1, by rw [alv_upd8 (by omega)]; exact e2, by rw [upd_ne (by omega)]; exact e3, upd_eq.symm, by rw [upd_ne (by omega)]; exact e5, by rw [upd_ne (by omega)]; exact e6, fun k hk => by rw [mn_upd8 (by omega)]; exact h3 k hk, fun k hk => by rw [mn_upd8 (by omega)]; exact h4 k hk, h0⟩
theorem WF_pri {s : Nat} (h : WF at_ c) (hs : s ≤ 9) : WF (upd at_ 1 (wd s)) c := by
  obtain ⟨a1, a2, a3, a4, a5⟩ := h
  exact ⟨a1, by rw [upd_ne (by omega)]; exact a2, ⟨s, hs, upd_eq⟩, by rw [upd_ne (by omega)]; exact a4, fun m hm => by simp only [mn_upd8 (show 1 < 8 by omega)]; exact a5 m hm⟩
theorem WF_quo {s : Nat} (h : WF at_ c) (hs : s ≤ 99) : WF (upd at_ 2 (wd s)) c := by
  obtain ⟨a1, a2, a3, a4, a5⟩ := h
  exact ⟨a1, by rw [upd_ne (by omega)]; exact a2, by rw [upd_ne (by omega)]; exact a3, ⟨s, hs, upd_eq⟩, fun m hm => by simp only [mn_upd8 (show 2 < 8 by omega)]; exact a5 m hm⟩
theorem t_rule {x1 x2 : Int32} (hW : WF at_ c) (hR : RA at_ c cou wei med sto fle lik cnt liv pri quo mel los) : ∃ r st1 at' pri' quo', f_X11_rule fu st pri quo x1 x2 = some (r, st1, pri', quo') ∧ f_X12_rule fu at_ st' x1 x2 = some (r, at', st1) ∧ WF at' c ∧ RA at' c cou wei med sto fle lik cnt liv pri' quo' mel los ∧ FR at_ at' := by
  have n12 : ¬ (1 : Nat) = 2 := by omega
  by_cases q0 : x1 = wd 1
  · cases q1 : wn 0 9 x2
    · refine ⟨wd 0, wd 1, at_, pri, quo, ?_, ?_, hW, hR, FR.rf⟩ <;> simp (disch := omega) only [f_X11_rule, f_X11_rule_j28, f_X12_rule, f_X12_rule_j22, f_X12_rule_j36, q0, q1, c_within, r_from, Nat.lt_irrefl, wd_lit, wd_of, wd_add, wd_mul, wd_neg, Option.bind_some, bnd, rdI_wd, wrI_wd, rdJ_wd, wrJ_wd, wd_31, wd_le, wd_lt, wd_inj, wd_eqm, wd_eqm', wd_ltm, wd_lem, wd_ltm2, wd_lem2, wd_bit0', wd_bit1', wd_shl, wd_or, wd_dif, i01_t, i01_f, jd_lit, i01_bz, bz_1, bz_0, f_X11_refuse, f_X11_answer, f_X11_allow, f_X11_deny, f_X12_refuse, f_X12_gives, f_X12_is, Option.some.injEq, exists_eq', if_true, if_false, ↓reduceIte, Nat.reduceEqDiff, Nat.reduceLT, Nat.reduceAdd]
    · obtain ⟨s, hs0, hs, rfl⟩ := wn_ex (by omega) (by omega) q1
      refine ⟨wd 1, wd 0, upd at_ 1 (wd s), wd s, quo, ?_, ?_, WF_pri hW hs, RA_pri hR, FR_u8 (by omega) (by omega)⟩ <;> simp (disch := omega) only [f_X11_rule, f_X11_rule_j28, f_X12_rule, f_X12_rule_j22, f_X12_rule_j36, q0, q1, c_within, r_from, Nat.lt_irrefl, wd_lit, wd_of, wd_add, wd_mul, wd_neg, Option.bind_some, bnd, rdI_wd, wrI_wd, rdJ_wd, wrJ_wd, wd_31, wd_le, wd_lt, wd_inj, wd_eqm, wd_eqm', wd_ltm, wd_lem, wd_ltm2, wd_lem2, wd_bit0', wd_bit1', wd_shl, wd_or, wd_dif, i01_t, i01_f, jd_lit, i01_bz, bz_1, bz_0, f_X11_refuse, f_X11_answer, f_X11_allow, f_X11_deny, f_X12_refuse, f_X12_gives, f_X12_is, Option.some.injEq, exists_eq', if_true, if_false, ↓reduceIte, Nat.reduceEqDiff, Nat.reduceLT, Nat.reduceAdd]
  · by_cases q2 : x1 = wd 2
    · cases q1 : wn 1 99 x2
      · refine ⟨wd 0, wd 1, at_, pri, quo, ?_, ?_, hW, hR, FR.rf⟩ <;> simp (disch := omega) only [f_X11_rule, f_X11_rule_j28, f_X12_rule, f_X12_rule_j22, f_X12_rule_j36, q2, q1, c_within, r_from, Nat.lt_irrefl, wd_lit, wd_of, wd_add, wd_mul, wd_neg, Option.bind_some, bnd, rdI_wd, wrI_wd, rdJ_wd, wrJ_wd, wd_31, wd_le, wd_lt, wd_inj, wd_eqm, wd_eqm', wd_ltm, wd_lem, wd_ltm2, wd_lem2, wd_bit0', wd_bit1', wd_shl, wd_or, wd_dif, i01_t, i01_f, jd_lit, i01_bz, bz_1, bz_0, f_X11_refuse, f_X11_answer, f_X11_allow, f_X11_deny, f_X12_refuse, f_X12_gives, f_X12_is, Option.some.injEq, exists_eq', if_true, if_false, ↓reduceIte, Nat.reduceEqDiff, Nat.reduceLT, Nat.reduceAdd]
      · obtain ⟨s, hs0, hs, rfl⟩ := wn_ex (by omega) (by omega) q1
        refine ⟨wd 1, wd 0, upd at_ 2 (wd s), pri, wd s, ?_, ?_, WF_quo hW hs, RA_quo hR, FR_u8 (by omega) (by omega)⟩ <;> simp (disch := omega) only [f_X11_rule, f_X11_rule_j28, f_X12_rule, f_X12_rule_j22, f_X12_rule_j36, q2, q1, c_within, r_from, Nat.lt_irrefl, wd_lit, wd_of, wd_add, wd_mul, wd_neg, Option.bind_some, bnd, rdI_wd, wrI_wd, rdJ_wd, wrJ_wd, wd_31, wd_le, wd_lt, wd_inj, wd_eqm, wd_eqm', wd_ltm, wd_lem, wd_ltm2, wd_lem2, wd_bit0', wd_bit1', wd_shl, wd_or, wd_dif, i01_t, i01_f, jd_lit, i01_bz, bz_1, bz_0, f_X11_refuse, f_X11_answer, f_X11_allow, f_X11_deny, f_X12_refuse, f_X12_gives, f_X12_is, Option.some.injEq, exists_eq', if_true, if_false, ↓reduceIte, Nat.reduceEqDiff, Nat.reduceLT, Nat.reduceAdd]
    · refine ⟨wd 0, wd 1, at_, pri, quo, ?_, ?_, hW, hR, FR.rf⟩
      · simp (disch := omega) only [f_X11_rule, f_X11_rule_j28, q0, q2, wd_lit, wd_of, wd_add, wd_mul, wd_neg, Option.bind_some, bnd, rdI_wd, wrI_wd, rdJ_wd, wrJ_wd, wd_31, wd_le, wd_lt, wd_inj, wd_eqm, wd_eqm', wd_ltm, wd_lem, wd_ltm2, wd_lem2, wd_bit0', wd_bit1', wd_shl, wd_or, wd_dif, i01_t, i01_f, jd_lit, i01_bz, bz_1, bz_0, f_X11_refuse, f_X11_answer, f_X11_allow, f_X11_deny, f_X12_refuse, f_X12_gives, f_X12_is, Option.some.injEq, exists_eq', if_true, if_false, ↓reduceIte, Nat.reduceEqDiff, Nat.reduceLT, Nat.reduceAdd]
      · unfold f_X12_rule
        simp (disch := omega) only [wd_lit, wd_of, wd_add, wd_mul, wd_neg, Option.bind_some, bnd, rdI_wd, wrI_wd, rdJ_wd, wrJ_wd, wd_31, wd_le, wd_lt, wd_inj, wd_eqm, wd_eqm', wd_ltm, wd_lem, wd_ltm2, wd_lem2, wd_bit0', wd_bit1', wd_shl, wd_or, wd_dif, i01_t, i01_f, jd_lit, i01_bz, bz_1, bz_0, f_X11_refuse, f_X11_answer, f_X11_allow, f_X11_deny, f_X12_refuse, f_X12_gives, f_X12_is, Option.some.injEq, exists_eq', if_true, if_false, ↓reduceIte, Nat.reduceEqDiff, Nat.reduceLT, Nat.reduceAdd]
        by_cases h : x1 < wd 1
        · rw [if_pos h]
        · rw [if_neg h]
          by_cases h2 : wd 2 < x1
          · rw [if_pos h2]
          · exfalso
            have : wn 1 2 x1 = true := by simp only [wn, decide_eq_true_eq]; exact ⟨Int32.not_lt.1 h, Int32.not_lt.1 h2⟩
            obtain ⟨s, h1, h2, rfl⟩ := wn_ex (by omega) (by omega) this
            rcases (by omega : s = 1 ∨ s = 2) with rfl | rfl
            · exact q0 rfl
            · exact q2 rfl
end
theorem Q1_train {fu : Nat} (hf : 1000 ≤ fu) : Q_train fu RR := by
  intro S M x1 x2 h
  obtain ⟨c, hW, hA, hN, hWr⟩ := h.2.2.1
  obtain ⟨r, st1, at', cou', e1, e2, hW', hA', hF⟩ := t_train (fu := fu) (st := vX11_latestStatus (S_b S)) (st' := vX12_status M) (x1 := x1) (x2 := x2) hW hA hf
  exact q_of (bind_e e1) (bind_e e2) ⟨⟨rfl, h.1.2⟩, h.2.1, ⟨c, hW', hA', hN, hF.w hWr⟩, hF.mk h.2.2.2.1, h.2.2.2.2⟩
theorem Q1_weigh {fu : Nat} (hf : 1000 ≤ fu) : Q_weigh fu RR := by
  intro S M x1 x2 h
  obtain ⟨c, hW, hA, hN, hWr⟩ := h.2.2.1
  obtain ⟨r, st1, at', wei', e1, e2, hW', hA', hF⟩ := t_weigh (fu := fu) (st := vX11_latestStatus (S_b S)) (st' := vX12_status M) (x1 := x1) (x2 := x2) hW hA hf
  exact q_of (bind_e e1) (bind_e e2) ⟨⟨rfl, h.1.2⟩, h.2.1, ⟨c, hW', hA', hN, hF.w hWr⟩, hF.mk h.2.2.2.1, h.2.2.2.2⟩
theorem Q1_charm {fu : Nat} (hf : 1000 ≤ fu) : Q_charm fu RR := by
  intro S M x1 x2 x3 h
  obtain ⟨c, hW, hA, hN, hWr⟩ := h.2.2.1
  obtain ⟨r, st1, at', lik', e1, e2, hW', hA', hF⟩ := t_charm (fu := fu) (st := vX11_latestStatus (S_b S)) (st' := vX12_status M) (x1 := x1) (x2 := x2) (x3 := x3) hW hA hf
  exact q_of (bind_e e1) (bind_e e2) ⟨⟨rfl, h.1.2⟩, h.2.1, ⟨c, hW', hA', hN, hF.w hWr⟩, hF.mk h.2.2.2.1, h.2.2.2.2⟩
theorem Q1_rule {fu : Nat} (hf : 1000 ≤ fu) : Q_rule fu RR := by
  intro S M x1 x2 h
  obtain ⟨c, hW, hA, hN, hWr⟩ := h.2.2.1
  obtain ⟨r, st1, at', pri', quo', e1, e2, hW', hA', hF⟩ := t_rule (fu := fu) (st := vX11_latestStatus (S_b S)) (st' := vX12_status M) (x1 := x1) (x2 := x2) hW hA
  exact q_of (bind_e e1) (bind_e e2) ⟨⟨rfl, h.1.2⟩, h.2.1, ⟨c, hW', hA', hN, hF.w hWr⟩, hF.mk h.2.2.2.1, h.2.2.2.2⟩
