theorem loop_inv2 {σ ρ : Type} (L : Nat → Nat → σ → Option ρ) (I : Nat → σ → Prop) (P : ρ → Prop) (c : Nat) (hs : ∀ n i s, i < c → I i s → (∃ s', L (n + 1) i s = L n (i + 1) s' ∧ I (i + 1) s') ∨ ∃ r, L (n + 1) i s = some r ∧ P r) (he : ∀ n s, I c s → ∃ r, L (n + 1) c s = some r ∧ P r) : ∀ i n s, i ≤ c → c - i < n → I i s → ∃ r, L n i s = some r ∧ P r := by
  have key : ∀ d i n s, i + d = c → d < n → I i s → ∃ r, L n i s = some r ∧ P r := by
    intro d
    induction d with
    | zero =>
      intro i n s h1 h2 h3
      obtain ⟨m, rfl⟩ : ∃ m, n = m + 1 := ⟨n - 1, by omega⟩
      have : i = c := by omega
      subst this
      exact he m s h3
    | succ d ih =>
      intro i n s h1 h2 h3
      obtain ⟨m, rfl⟩ : ∃ m, n = m + 1 := ⟨n - 1, by omega⟩
      rcases hs m i s (by omega) h3 with ⟨s', e, h4⟩ | h4
      · rw [e]
        exact ih (i + 1) m s' (by omega) (by omega) h4
      · exact h4
  intro i n s h1 h2 h3
  exact key (c - i) i n s (by omega) (by omega) h3
section
variable {fu c : Nat} {at_ cou wei med sto fle lik vot : Nat → Int32} {cnt liv pri quo mel los st st' : Int32}
def lkt (at_ : Nat → Int32) (c m b i : Nat) : Nat := if ¬ brv at_ m < wd (i + 1) ∧ win at_ c (cnd at_ c m (wd (i + 1))) = some b then 1 else 0
def lks (at_ : Nat → Int32) (c m b : Nat) : Nat → Nat
  | 0 => 0
  | i + 1 => lks at_ c m b i + lkt at_ c m b i
theorem lks_s (at_ : Nat → Int32) (c m b i : Nat) : lks at_ c m b (i + 1) = lks at_ c m b i + lkt at_ c m b i := rfl
theorem lks_le (at_ : Nat → Int32) (c m b : Nat) : ∀ i, lks at_ c m b i ≤ i := by
  intro i
  induction i with
  | zero => exact Nat.le_refl 0
  | succ i ih =>
    rw [lks_s]
    unfold lkt
    split <;> omega
theorem brv_lt {m i j : Nat} (hW : WF at_ c) (hm : m < c) (h : brv at_ m < wd i) (hij : i ≤ j) (hj : j < 1000) : brv at_ m < wd j := by
  obtain ⟨k, hk, e⟩ := brv_le hW hm
  rw [e, wd_lt (by omega) (by omega)] at h ⊢
  omega
theorem lks_st {m b i : Nat} (hW : WF at_ c) (hm : m < c) (h : brv at_ m < wd (i + 1)) : ∀ d, i + d < 900 → lks at_ c m b (i + d) = lks at_ c m b i := by
  intro d
  induction d with
  | zero => intro _; rfl
  | succ d ih =>
    intro hd
    rw [← Nat.add_assoc, lks_s, ih (by omega), lkt, if_neg (fun h1 => h1.1 (brv_lt hW hm h (by omega) (by omega))), Nat.add_zero]
theorem oe_wd {x : Option Nat} {k : Nat} (hx : ∀ b, x = some b → b < 2147483648) (hk : k < 2147483648) : (oe x = wd k) = (x = some k) := by
  cases x with
  | none => simp (disch := omega) only [oe_n, wd_le, wd_lt, wd_inj, wd_eqm, wd_eqm', wd_ltm, wd_lem, wd_ltm2, wd_lem2, wd_bit0', wd_bit1', wd_shl, wd_or, wd_dif]; simp
  | some b => have := hx b rfl; simp (disch := omega) only [oe_s, wd_le, wd_lt, wd_inj, wd_eqm, wd_eqm', wd_ltm, wd_lem, wd_ltm2, wd_lem2, wd_bit0', wd_bit1', wd_shl, wd_or, wd_dif]; simp
theorem t_luck {x1 x2 : Int32} {t0 b0 : Int64} (hW : WF at_ c) (hR : RA at_ c cou wei med sto fle lik cnt liv pri quo mel los) (hf : 1000 ≤ fu) : ∃ r st1 t1 b1 vot', f_X11_luck fu st t0 b0 cou wei med lik vot cnt liv pri x1 x2 = some (r, st1, t1, b1, vot') ∧ f_X12_luck fu at_ st' t0 b0 x1 x2 = some (r, st1, t1, b1) := by
  obtain ⟨hV, rfl, rfl, rfl, rfl, rfl, rfl, h3, h4, h0⟩ := hR
  have h8 := hW.1
  have hc := hW.2.1
  cases q0 : imn c x1
  · refine ⟨wd 0, wd 1, t0, b0, vot, ?_, ?_⟩ <;> simp (disch := omega) only [f_X11_luck, f_X12_luck, f_X12_areTwo, q0, c_isM, r_isM hc, wd_lit, wd_of, wd_add, wd_mul, wd_neg, Option.bind_some, bnd, rdI_wd, wrI_wd, rdJ_wd, wrJ_wd, wd_31, wd_le, wd_lt, wd_inj, wd_eqm, wd_eqm', wd_ltm, wd_lem, wd_ltm2, wd_lem2, wd_bit0', wd_bit1', wd_shl, wd_or, wd_dif, i01_t, i01_f, jd_lit, i01_bz, bz_1, bz_0, f_X11_refuse, f_X11_answer, f_X11_allow, f_X11_deny, f_X12_refuse, f_X12_gives, f_X12_is, Option.some.injEq, exists_eq', if_true, if_false, ↓reduceIte, Nat.reduceEqDiff, Nat.reduceLT, Nat.reduceAdd]
  · obtain ⟨m, hm, rfl⟩ := imn_ex (by omega) q0
    cases q1 : imn c x2
    · refine ⟨wd 0, wd 1, t0, b0, vot, ?_, ?_⟩ <;> simp (disch := omega) only [f_X11_luck, f_X12_luck, f_X12_areTwo, q0, q1, c_isM, r_isM hc, wd_lit, wd_of, wd_add, wd_mul, wd_neg, Option.bind_some, bnd, rdI_wd, wrI_wd, rdJ_wd, wrJ_wd, wd_31, wd_le, wd_lt, wd_inj, wd_eqm, wd_eqm', wd_ltm, wd_lem, wd_ltm2, wd_lem2, wd_bit0', wd_bit1', wd_shl, wd_or, wd_dif, i01_t, i01_f, jd_lit, i01_bz, bz_1, bz_0, f_X11_refuse, f_X11_answer, f_X11_allow, f_X11_deny, f_X12_refuse, f_X12_gives, f_X12_is, Option.some.injEq, exists_eq', if_true, if_false, ↓reduceIte, Nat.reduceEqDiff, Nat.reduceLT, Nat.reduceAdd]
    · obtain ⟨b, hb, rfl⟩ := imn_ex (by omega) q1
      by_cases q2 : m = b
      · refine ⟨wd 0, wd 1, t0, b0, vot, ?_, ?_⟩ <;> simp (disch := omega) only [f_X11_luck, f_X12_luck, f_X12_areTwo, q0, q1, q2, c_isM, r_isM hc, wd_lit, wd_of, wd_add, wd_mul, wd_neg, Option.bind_some, bnd, rdI_wd, wrI_wd, rdJ_wd, wrJ_wd, wd_31, wd_le, wd_lt, wd_inj, wd_eqm, wd_eqm', wd_ltm, wd_lem, wd_ltm2, wd_lem2, wd_bit0', wd_bit1', wd_shl, wd_or, wd_dif, i01_t, i01_f, jd_lit, i01_bz, bz_1, bz_0, f_X11_refuse, f_X11_answer, f_X11_allow, f_X11_deny, f_X12_refuse, f_X12_gives, f_X12_is, Option.some.injEq, exists_eq', if_true, if_false, ↓reduceIte, Nat.reduceEqDiff, Nat.reduceLT, Nat.reduceAdd]
      · cases q3 : alv at_ m
        · refine ⟨wd 0, wd 7, t0, b0, vot, ?_, ?_⟩ <;> simp (disch := omega) only [f_X11_luck, f_X12_luck, f_X12_areTwo, q0, q1, q2, q3, c_isM, r_isM hc, c_lives hm h8, c_lives hb h8, r_isAlive, wd_lit, wd_of, wd_add, wd_mul, wd_neg, Option.bind_some, bnd, rdI_wd, wrI_wd, rdJ_wd, wrJ_wd, wd_31, wd_le, wd_lt, wd_inj, wd_eqm, wd_eqm', wd_ltm, wd_lem, wd_ltm2, wd_lem2, wd_bit0', wd_bit1', wd_shl, wd_or, wd_dif, i01_t, i01_f, jd_lit, i01_bz, bz_1, bz_0, f_X11_refuse, f_X11_answer, f_X11_allow, f_X11_deny, f_X12_refuse, f_X12_gives, f_X12_is, Option.some.injEq, exists_eq', if_true, if_false, ↓reduceIte, Nat.reduceEqDiff, Nat.reduceLT, Nat.reduceAdd]
        · cases q4 : alv at_ b
          · refine ⟨wd 0, wd 7, t0, b0, vot, ?_, ?_⟩ <;> simp (disch := omega) only [f_X11_luck, f_X12_luck, f_X12_areTwo, q0, q1, q2, q3, q4, c_isM, r_isM hc, c_lives hm h8, c_lives hb h8, r_isAlive, wd_lit, wd_of, wd_add, wd_mul, wd_neg, Option.bind_some, bnd, rdI_wd, wrI_wd, rdJ_wd, wrJ_wd, wd_31, wd_le, wd_lt, wd_inj, wd_eqm, wd_eqm', wd_ltm, wd_lem, wd_ltm2, wd_lem2, wd_bit0', wd_bit1', wd_shl, wd_or, wd_dif, i01_t, i01_f, jd_lit, i01_bz, bz_1, bz_0, f_X11_refuse, f_X11_answer, f_X11_allow, f_X11_deny, f_X12_refuse, f_X12_gives, f_X12_is, Option.some.injEq, exists_eq', if_true, if_false, ↓reduceIte, Nat.reduceEqDiff, Nat.reduceLT, Nat.reduceAdd]
          · have hl := lks_le at_ c m b 20
            have hwb : ∀ S k, win at_ c S = some k → k < 2147483648 := fun S k h => by have := win_lt h; omega
            obtain ⟨p, q, e1, e2⟩ := t_tell (fu := fu) (a := lks at_ c m b 20) (b := 20) (t0 := t0) (b0 := b0) (t1 := t0) (b1 := b0) (st := st') (by omega) (by omega) (by omega) hf
            have k1 := loop_inv2 (fun n i (v : Nat → Int32) => f_X11_luck_l67 fu cou wei med lik (wd c) (wd (mask (alv at_) c)) (at_ 1) (wd m) (wd b) n st t0 b0 v (wd (lks at_ c m b i)) (wd (i + 1))) (fun _ _ => True) (fun r => ∃ v, r = (wd 1, wd 0, p, q, v)) 20 ?_ ?_ 0 fu vot (by omega) (by omega) True.intro
            · obtain ⟨r, er, vot', rfl⟩ := k1
              refine ⟨wd 1, wd 0, p, q, vot', ?_, ?_⟩
              · simp (disch := omega) only [f_X11_luck, q0, q1, q2, q3, q4, c_isM, c_lives hm h8, c_lives hb h8, wd_lit, wd_of, wd_add, wd_mul, wd_neg, Option.bind_some, bnd, rdI_wd, wrI_wd, rdJ_wd, wrJ_wd, wd_31, wd_le, wd_lt, wd_inj, wd_eqm, wd_eqm', wd_ltm, wd_lem, wd_ltm2, wd_lem2, wd_bit0', wd_bit1', wd_shl, wd_or, wd_dif, i01_t, i01_f, jd_lit, i01_bz, bz_1, bz_0, f_X11_refuse, f_X11_answer, f_X11_allow, f_X11_deny, f_X12_refuse, f_X12_gives, f_X12_is, Option.some.injEq, exists_eq', if_true, if_false, ↓reduceIte, Nat.reduceEqDiff, Nat.reduceLT, Nat.reduceAdd]
                exact er
              · simp (disch := omega) only [f_X12_luck, f_X12_areTwo, q0, q1, q2, q3, q4, r_isM hc, r_isAlive, wd_lit, wd_of, wd_add, wd_mul, wd_neg, Option.bind_some, bnd, rdI_wd, wrI_wd, rdJ_wd, wrJ_wd, wd_31, wd_le, wd_lt, wd_inj, wd_eqm, wd_eqm', wd_ltm, wd_lem, wd_ltm2, wd_lem2, wd_bit0', wd_bit1', wd_shl, wd_or, wd_dif, i01_t, i01_f, jd_lit, i01_bz, bz_1, bz_0, f_X11_refuse, f_X11_answer, f_X11_allow, f_X11_deny, f_X12_refuse, f_X12_gives, f_X12_is, Option.some.injEq, exists_eq', if_true, if_false, ↓reduceIte, Nat.reduceEqDiff, Nat.reduceLT, Nat.reduceAdd]
                refine loop_seq (fun n i (x : Nat) => f_X12_luck_l43 fu at_ (wd m) (wd b) n st' t0 b0 (wd x) (wd (i + 1))) (fun i => lks at_ c m b i) 20 _ ?_ ?_ 0 fu (by omega) (by omega)
                · intro n i hi
                  rw [lks_s]
                  unfold lkt
                  simp (disch := omega) only [f_X12_luck_l43, f_X12_luck_b43, wd_lit, wd_of, wd_add, wd_mul, wd_neg, Option.bind_some, bnd, rdI_wd, wrI_wd, rdJ_wd, wrJ_wd, wd_31, wd_le, wd_lt, wd_inj, wd_eqm, wd_eqm', wd_ltm, wd_lem, wd_ltm2, wd_lem2, wd_bit0', wd_bit1', wd_shl, wd_or, wd_dif, r_stands, i01_0, r_winner (show m < 8 by omega) hc h8 hf, oe_wd (hwb _), Bool.not_eq_false', decide_eq_true_eq]
                  rw [if_neg (by omega)]
                  by_cases a1 : brv at_ m < wd (i + 1)
                  · rw [if_pos a1, if_neg (fun h => h.1 a1)]
                  · rw [if_neg a1]
                    by_cases a2 : win at_ c (cnd at_ c m (wd (i + 1))) = some b
                    · rw [if_pos a2, if_pos ⟨a1, a2⟩]
                    · rw [if_neg a2, if_neg (fun h => a2 h.2)]
                · intro n
                  simp (disch := omega) only [f_X12_luck_l43, f_X12_luck_b43, wd_lit, wd_of, wd_add, wd_mul, wd_neg, Option.bind_some, bnd, rdI_wd, wrI_wd, rdJ_wd, wrJ_wd, wd_31, wd_le, wd_lt, wd_inj, wd_eqm, wd_eqm', wd_ltm, wd_lem, wd_ltm2, wd_lem2, wd_bit0', wd_bit1', wd_shl, wd_or, wd_dif, wd_64, jd_lit, e2, bz_1]
                  rw [if_pos (by omega)]
            · intro n i v hi _
              have h256 := mask_256 (rns at_ (wd (i + 1))) h8
              have hli := lks_le at_ c m b i
              by_cases a1 : brv at_ m < wd (i + 1)
              · right
                have e3 := lks_st (b := b) hW hm a1 (20 - i) (by omega)
                rw [show i + (20 - i) = 20 by omega] at e3
                refine ⟨_, ?_, v, rfl⟩
                rw [e3] at e1
                simp (disch := omega) only [f_X11_luck_l67, f_X11_luck_b67, f_X11_luck_j116, c_stands hm h8 (hV.1 m hm) (hV.2.2.1 m hm), a1, wd_64, e1, decide_true, Bool.not_true, wd_lit, wd_of, wd_add, wd_mul, wd_neg, Option.bind_some, bnd, rdI_wd, wrI_wd, rdJ_wd, wrJ_wd, wd_31, wd_le, wd_lt, wd_inj, wd_eqm, wd_eqm', wd_ltm, wd_lem, wd_ltm2, wd_lem2, wd_bit0', wd_bit1', wd_shl, wd_or, wd_dif, i01_t, i01_f, jd_lit, i01_bz, bz_1, bz_0, f_X11_refuse, f_X11_answer, f_X11_allow, f_X11_deny, f_X12_refuse, f_X12_gives, f_X12_is, Option.some.injEq, exists_eq', if_true, if_false, ↓reduceIte, Nat.reduceEqDiff, Nat.reduceLT, Nat.reduceAdd]
                rw [if_neg (by omega)]
              · left
                refine ⟨vrow at_ c (mask (rns at_ (wd (i + 1))) c) v c, ?_, True.intro⟩
                rw [lks_s]
                unfold lkt
                rw [cnd_runs a1]
                simp (disch := omega) only [f_X11_luck_l67, f_X11_luck_b67, c_stands hm h8 (hV.1 m hm) (hV.2.2.1 m hm), a1, decide_false, Bool.not_false, c_runners h8 hf hV.1 hV.2.2.1, c_winnerOf (show mask (rns at_ (wd (i + 1))) c < 2147483648 by omega) h8 hf hV.2.1 hV.2.2.2 hW.nn, oe_wd (hwb _), wd_lit, wd_of, wd_add, wd_mul, wd_neg, Option.bind_some, bnd, rdI_wd, wrI_wd, rdJ_wd, wrJ_wd, wd_31, wd_le, wd_lt, wd_inj, wd_eqm, wd_eqm', wd_ltm, wd_lem, wd_ltm2, wd_lem2, wd_bit0', wd_bit1', wd_shl, wd_or, wd_dif, i01_t, i01_f, jd_lit, i01_bz, bz_1, bz_0, f_X11_refuse, f_X11_answer, f_X11_allow, f_X11_deny, f_X12_refuse, f_X12_gives, f_X12_is, Option.some.injEq, exists_eq', if_true, if_false, ↓reduceIte, Nat.reduceEqDiff, Nat.reduceLT, Nat.reduceAdd]
                rw [if_neg (by omega)]
                by_cases a2 : win at_ c (mask (rns at_ (wd (i + 1))) c) = some b
                · simp only [a2, if_true, not_false_eq_true, and_self]
                · simp only [a2, if_false, and_false, Nat.add_zero]
            · intro n v _
              refine ⟨_, ?_, v, rfl⟩
              simp (disch := omega) only [f_X11_luck_l67, f_X11_luck_b67, f_X11_luck_j116, wd_64, e1, wd_lit, wd_of, wd_add, wd_mul, wd_neg, Option.bind_some, bnd, rdI_wd, wrI_wd, rdJ_wd, wrJ_wd, wd_31, wd_le, wd_lt, wd_inj, wd_eqm, wd_eqm', wd_ltm, wd_lem, wd_ltm2, wd_lem2, wd_bit0', wd_bit1', wd_shl, wd_or, wd_dif, i01_t, i01_f, jd_lit, i01_bz, bz_1, bz_0, f_X11_refuse, f_X11_answer, f_X11_allow, f_X11_deny, f_X12_refuse, f_X12_gives, f_X12_is, Option.some.injEq, exists_eq', if_true, if_false, ↓reduceIte, Nat.reduceEqDiff, Nat.reduceLT, Nat.reduceAdd]
end
theorem Q1_luck {fu : Nat} (hf : 1000 ≤ fu) : Q_luck fu RR := by
  intro S M x1 x2 h
  obtain ⟨c, hW, hA, hN, hWr⟩ := h.2.2.1
  obtain ⟨r, st1, t1, b1, vot', e1, e2⟩ := t_luck (st := vX11_latestStatus (S_b S)) (st' := vX12_status M) (vot := vX0_votes (S_a S)) (x1 := x1) (x2 := x2) (t0 := vX11_fractionTop (S_b S)) (b0 := vX11_fractionBottom (S_b S)) hW hA hf
  have e3 : f_X12_luck fu (vX12_at M) (vX12_status M) (vX12_top M) (vX12_bottom M) x1 x2 = some (r, st1, t1, b1) := by rw [← h.1.2.1, ← h.1.2.2]; exact e2
  exact q_of (bind_e e1) (bind_e e3) ⟨⟨rfl, rfl, rfl⟩, h.2⟩
