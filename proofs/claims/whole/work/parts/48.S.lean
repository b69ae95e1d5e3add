def orf (f : Nat → Nat) : Nat → Nat
  | 0 => 0
  | i + 1 => orf f i ||| f i
theorem orf_s (f : Nat → Nat) (i : Nat) : orf f (i + 1) = orf f i ||| f i := rfl
theorem orf_bit (f : Nat → Nat) (k : Nat) : ∀ n, (orf f n).testBit k = true ↔ ∃ i, i < n ∧ (f i).testBit k = true := by
  intro n
  induction n with
  | zero => simp [orf]
  | succ n ih =>
    rw [orf_s, Nat.testBit_or, Bool.or_eq_true, ih]
    constructor
    · rintro (⟨i, h1, h2⟩ | h)
      · exact ⟨i, by omega, h2⟩
      · exact ⟨n, by omega, h⟩
    · rintro ⟨i, h1, h2⟩
      by_cases hi : i = n
      · subst hi; exact Or.inr h2
      · exact Or.inl ⟨i, by omega, h2⟩
theorem orf_lt {f : Nat → Nat} (h : ∀ i, f i < 256) : ∀ n, orf f n < 256 := by
  intro n
  induction n with
  | zero => exact Nat.zero_lt_succ _
  | succ n ih => exact or_lt ih (h n)
def wb : Option Nat → Nat
  | none => 0
  | some w => 1 <<< w
theorem wb_bit (x : Option Nat) (k : Nat) : (wb x).testBit k = true ↔ x = some k := by
  cases x with
  | none => simp [wb]
  | some w => show (1 <<< w).testBit k = true ↔ _; rw [Nat.one_shiftLeft, Nat.testBit_two_pow]; simp
theorem or_self_l {a b : Nat} (h : ∀ k, b.testBit k = true → a.testBit k = true) : a ||| b = a := by
  apply Nat.eq_of_testBit_eq
  intro k
  rw [Nat.testBit_or]
  have := h k
  cases h1 : b.testBit k
  · simp
  · simp [this h1]
section
variable {fu c : Nat} {at_ cou wei med sto fle lik vot : Nat → Int32} {cnt liv pri quo mel los st st' : Int32}
theorem wb_lt {S : Nat} (h8 : c ≤ 8) : wb (win at_ c S) < 256 := by
  cases hx : win at_ c S with
  | none => exact Nat.zero_lt_succ _
  | some w => exact sh_lt (by have := win_lt hx; omega)
theorem wnr_0 (at_ : Nat → Int32) (c : Nat) : ∀ i, wnr at_ c 0 i = (none, nn) := by
  intro i
  induction i with
  | zero => rfl
  | succ i ih => rw [wnr_s, ih]; simp
theorem win_0 (at_ : Nat → Int32) (c : Nat) : win at_ c 0 = none := by unfold win; rw [wnr_0]
def rnr (at_ : Nat → Int32) (c j : Nat) : Nat := mask (rns at_ (wd (j + 1))) c
def hpb (at_ : Nat → Int32) (c j : Nat) : Nat := if rnr at_ c j = mask (alv at_) c then 0 else wb (win at_ c (rnr at_ c j))
def hpv (at_ : Nat → Int32) (c m j : Nat) : Nat := if alv at_ m = true ∧ ¬ brv at_ m < wd (j + 1) then wb (win at_ c (cnd at_ c m (wd (j + 1)))) else 0
theorem hpb_lt (h8 : c ≤ 8) (j : Nat) : hpb at_ c j < 256 := by
  unfold hpb
  split
  · omega
  · exact wb_lt h8
theorem hpv_lt (h8 : c ≤ 8) (m j : Nat) : hpv at_ c m j < 256 := by
  unfold hpv
  split
  · exact wb_lt h8
  · omega
def hbf (at_ : Nat → Int32) (c : Nat) : Nat → Nat
  | 0 => 0
  | i + 1 => rnr at_ c i
theorem hp_same {i : Nat} (h : rnr at_ c i = hbf at_ c i) : orf (hpb at_ c) (i + 1) = orf (hpb at_ c) i := by
  rw [orf_s]
  apply or_self_l
  intro k hk
  cases i with
  | zero =>
    exfalso
    have h : rnr at_ c 0 = 0 := h
    unfold hpb at hk
    rw [h, win_0] at hk
    split at hk <;> simp [wb] at hk
  | succ i =>
    have h : rnr at_ c (i + 1) = rnr at_ c i := h
    have e : hpb at_ c (i + 1) = hpb at_ c i := by unfold hpb; rw [h]
    rw [e] at hk
    rw [orf_s, Nat.testBit_or, hk, Bool.or_true]
theorem hp_eq : orf (fun m => orf (hpv at_ c m) 99) c = orf (hpb at_ c) 99 := by
  apply Nat.eq_of_testBit_eq
  intro k
  have : (orf (fun m => orf (hpv at_ c m) 99) c).testBit k = true ↔ (orf (hpb at_ c) 99).testBit k = true := by
    rw [orf_bit, orf_bit]
    constructor
    · rintro ⟨m, hm, h⟩
      rw [orf_bit] at h
      obtain ⟨j, hj, h⟩ := h
      refine ⟨j, hj, ?_⟩
      unfold hpv at h
      split at h
      · rename_i h1
        unfold hpb
        rw [if_neg]
        · rw [cnd_runs h1.2] at h; exact h
        · intro h2
          have := mask_in (p := rns at_ (wd (j + 1))) hm
          unfold rnr at h2
          rw [h2, mask_in hm, rns, h1.1] at this
          simp [h1.2] at this
      · simp at h
    · rintro ⟨j, hj, h⟩
      unfold hpb at h
      split at h
      · simp at h
      · rename_i h1
        have : ∃ m, m < c ∧ alv at_ m = true ∧ ¬ brv at_ m < wd (j + 1) := by
          apply Classical.byContradiction
          intro h2
          apply h1
          apply mask_congr
          intro m hm
          unfold rns
          cases h3 : alv at_ m
          · rfl
          · by_cases h4 : brv at_ m < wd (j + 1)
            · simp [h4]
            · exact absurd ⟨m, hm, h3, h4⟩ h2
        obtain ⟨m, hm, h3, h4⟩ := this
        refine ⟨m, hm, ?_⟩
        rw [orf_bit]
        refine ⟨j, hj, ?_⟩
        unfold hpv
        rw [if_pos ⟨h3, h4⟩, cnd_runs h4]
        exact h
  cases h1 : (orf (hpb at_ c) 99).testBit k
  · rw [h1] at this; simpa using this
  · rw [h1] at this; simpa using this
theorem c_hopeful (hW : WF at_ c) (hR : RA at_ c cou wei med sto fle lik cnt liv pri quo mel los) (hf : 1000 ≤ fu) : ∃ vot', f_X11_hopeful fu st cou wei med lik vot cnt liv pri = some (wd (orf (hpb at_ c) 99), wd 0, vot') := by
  obtain ⟨hV, rfl, rfl, rfl, rfl, rfl, rfl, h3, h4, h0⟩ := hR
  have h8 := hW.1
  have hc := hW.2.1
  have h256 := mask_256 (alv at_) h8
  have k1 := loop_inv (fun n i (v : Nat → Int32) => f_X11_hopeful_l6 fu cou wei med lik (wd c) (wd (mask (alv at_) c)) (at_ 1) n st v (wd (orf (hpb at_ c) i)) (wd (hbf at_ c i)) (wd (i + 1))) (fun _ _ => True) (fun r => ∃ v, r = (wd (orf (hpb at_ c) 99), wd 0, v)) 99 ?_ ?_ 0 fu vot (by omega) (by omega) True.intro
  · obtain ⟨r, er, vot', rfl⟩ := k1
    exact ⟨vot', er⟩
  · intro n i v hi _
    have hr : rnr at_ c i < 256 := mask_256 _ h8
    have hb : hbf at_ c i < 256 := by
      cases i with
      | zero => exact Nat.zero_lt_succ _
      | succ i => exact mask_256 _ h8
    have e1 : f_X0_runners fu cou med (wd c) (wd (mask (alv at_) c)) (at_ 1) (wd (i + 1)) = some (wd (rnr at_ c i)) := c_runners h8 hf hV.1 hV.2.2.1
    by_cases a1 : rnr at_ c i = hbf at_ c i
    · refine ⟨v, ?_, True.intro⟩
      rw [hp_same a1]
      simp (disch := omega) only [f_X11_hopeful_l6, f_X11_hopeful_b6, e1, a1, wd_lit, wd_of, wd_add, wd_mul, wd_neg, Option.bind_some, bnd, rdI_wd, wrI_wd, rdJ_wd, wrJ_wd, wd_31, wd_le, wd_lt, wd_inj, wd_eqm, wd_eqm', wd_ltm, wd_lem, wd_ltm2, wd_lem2, wd_bit0', wd_bit1', wd_shl, wd_or, wd_dif, i01_t, i01_f, jd_lit, i01_bz, bz_1, bz_0, f_X11_refuse, f_X11_answer, f_X11_allow, f_X11_deny, f_X12_refuse, f_X12_gives, f_X12_is, Option.some.injEq, exists_eq', if_true, if_false, ↓reduceIte, Nat.reduceEqDiff, Nat.reduceLT, Nat.reduceAdd]
      rw [if_neg (by omega)]
      rw [← a1]; rfl
    · by_cases a2 : rnr at_ c i = mask (alv at_) c
      · refine ⟨v, ?_, True.intro⟩
        have e2 : hpb at_ c i = 0 := if_pos a2
        rw [orf_s, e2, Nat.or_zero]
        simp (disch := omega) only [f_X11_hopeful_l6, f_X11_hopeful_b6, e1, a1, wd_lit, wd_of, wd_add, wd_mul, wd_neg, Option.bind_some, bnd, rdI_wd, wrI_wd, rdJ_wd, wrJ_wd, wd_31, wd_le, wd_lt, wd_inj, wd_eqm, wd_eqm', wd_ltm, wd_lem, wd_ltm2, wd_lem2, wd_bit0', wd_bit1', wd_shl, wd_or, wd_dif, i01_t, i01_f, jd_lit, i01_bz, bz_1, bz_0, f_X11_refuse, f_X11_answer, f_X11_allow, f_X11_deny, f_X12_refuse, f_X12_gives, f_X12_is, Option.some.injEq, exists_eq', if_true, if_false, ↓reduceIte, Nat.reduceEqDiff, Nat.reduceLT, Nat.reduceAdd]
        rw [if_neg (by omega), if_pos a2]
        rfl
      · refine ⟨vrow at_ c (rnr at_ c i) v c, ?_, True.intro⟩
        have e2 : hpb at_ c i = wb (win at_ c (rnr at_ c i)) := if_neg a2
        rw [orf_s, e2]
        cases hx : win at_ c (rnr at_ c i) with
        | none =>
          simp (disch := omega) only [f_X11_hopeful_l6, f_X11_hopeful_b6, e1, a1, a2, c_winnerOf (show rnr at_ c i < 2147483648 by omega) h8 hf hV.2.1 hV.2.2.2 hW.nn, hx, oe_n, wd_lit, wd_of, wd_add, wd_mul, wd_neg, Option.bind_some, bnd, rdI_wd, wrI_wd, rdJ_wd, wrJ_wd, wd_31, wd_le, wd_lt, wd_inj, wd_eqm, wd_eqm', wd_ltm, wd_lem, wd_ltm2, wd_lem2, wd_bit0', wd_bit1', wd_shl, wd_or, wd_dif, i01_t, i01_f, jd_lit, i01_bz, bz_1, bz_0, f_X11_refuse, f_X11_answer, f_X11_allow, f_X11_deny, f_X12_refuse, f_X12_gives, f_X12_is, Option.some.injEq, exists_eq', if_true, if_false, ↓reduceIte, Nat.reduceEqDiff, Nat.reduceLT, Nat.reduceAdd]
          rw [if_neg (by omega)]
          rfl
        | some w =>
          have := win_lt hx
          simp (disch := omega) only [f_X11_hopeful_l6, f_X11_hopeful_b6, e1, a1, a2, c_winnerOf (show rnr at_ c i < 2147483648 by omega) h8 hf hV.2.1 hV.2.2.2 hW.nn, hx, oe_s, wd_lit, wd_of, wd_add, wd_mul, wd_neg, Option.bind_some, bnd, rdI_wd, wrI_wd, rdJ_wd, wrJ_wd, wd_31, wd_le, wd_lt, wd_inj, wd_eqm, wd_eqm', wd_ltm, wd_lem, wd_ltm2, wd_lem2, wd_bit0', wd_bit1', wd_shl, wd_or, wd_dif, i01_t, i01_f, jd_lit, i01_bz, bz_1, bz_0, f_X11_refuse, f_X11_answer, f_X11_allow, f_X11_deny, f_X12_refuse, f_X12_gives, f_X12_is, Option.some.injEq, exists_eq', if_true, if_false, ↓reduceIte, Nat.reduceEqDiff, Nat.reduceLT, Nat.reduceAdd]
          rw [if_neg (by omega)]
          rfl
  · intro n v _
    refine ⟨_, ?_, v, rfl⟩
    simp (disch := omega) only [f_X11_hopeful_l6, f_X11_hopeful_b6, wd_lit, wd_of, wd_add, wd_mul, wd_neg, Option.bind_some, bnd, rdI_wd, wrI_wd, rdJ_wd, wrJ_wd, wd_31, wd_le, wd_lt, wd_inj, wd_eqm, wd_eqm', wd_ltm, wd_lem, wd_ltm2, wd_lem2, wd_bit0', wd_bit1', wd_shl, wd_or, wd_dif, i01_t, i01_f, jd_lit, i01_bz, bz_1, bz_0, f_X11_refuse, f_X11_answer, f_X11_allow, f_X11_deny, f_X12_refuse, f_X12_gives, f_X12_is, Option.some.injEq, exists_eq', if_true, if_false, ↓reduceIte, Nat.reduceEqDiff, Nat.reduceLT, Nat.reduceAdd]
theorem r_hopeful (hc : at_ 0 = wd c) (h8 : c ≤ 8) (hf : 1000 ≤ fu) : f_X12_hopeful fu at_ st' = some (wd (orf (hpb at_ c) 99), wd 0) := by
  rw [← hp_eq]
  unfold f_X12_hopeful
  refine loop_seq (fun n i (x : Nat) => f_X12_hopeful_l4 fu at_ n st' (wd x) (wd i)) (fun i => orf (fun m => orf (hpv at_ c m) 99) i) c _ ?_ ?_ 0 fu (by omega) (by omega)
  · intro n i hi
    rw [orf_s]
    simp (disch := omega) only [f_X12_hopeful_l4, f_X12_hopeful_b4, hc, wd_lit, wd_of, wd_add, wd_mul, wd_neg, Option.bind_some, bnd, rdI_wd, wrI_wd, rdJ_wd, wrJ_wd, wd_31, wd_le, wd_lt, wd_inj, wd_eqm, wd_eqm', wd_ltm, wd_lem, wd_ltm2, wd_lem2, wd_bit0', wd_bit1', wd_shl, wd_or, wd_dif]
    rw [if_neg (by omega)]
    generalize orf (fun m => orf (hpv at_ c m) 99) i = V
    cases ha : alv at_ i
    · have e0 : ∀ j, orf (hpv at_ c i) j = 0 := by
        intro j
        induction j with
        | zero => rfl
        | succ j ih =>
          have : hpv at_ c i j = 0 := if_neg (by simp [ha])
          rw [orf_s, ih, this]; rfl
      rw [e0, Nat.or_zero]
      obtain ⟨f', rfl⟩ : ∃ k, fu = k + 1 := ⟨fu - 1, by omega⟩
      rw [f_X12_hopeful_l16]
      simp (disch := omega) only [f_X12_hopeful_b16, r_isAlive, ha, wd_lit, wd_of, wd_add, wd_mul, wd_neg, Option.bind_some, bnd, rdI_wd, wrI_wd, rdJ_wd, wrJ_wd, wd_31, wd_le, wd_lt, wd_inj, wd_eqm, wd_eqm', wd_ltm, wd_lem, wd_ltm2, wd_lem2, wd_bit0', wd_bit1', wd_shl, wd_or, wd_dif, i01_t, i01_f, jd_lit, i01_bz, bz_1, bz_0, f_X11_refuse, f_X11_answer, f_X11_allow, f_X11_deny, f_X12_refuse, f_X12_gives, f_X12_is, Option.some.injEq, exists_eq', if_true, if_false, ↓reduceIte, Nat.reduceEqDiff, Nat.reduceLT, Nat.reduceAdd]
    · have key := loop_seq (fun m j (x : Nat) => f_X12_hopeful_l16 fu at_ (f_X12_hopeful_l4 fu at_ n) m st' (wd x) (wd i) (wd (j + 1))) (fun j => V ||| orf (hpv at_ c i) j) 99 (f_X12_hopeful_l4 fu at_ n st' (wd (V ||| orf (hpv at_ c i) 99)) (wd (i + 1))) ?_ ?_ 0 fu (by omega) (by omega)
      · rw [show orf (hpv at_ c i) 0 = 0 from rfl, Nat.or_zero] at key
        exact key
      · intro m j hj
        rw [orf_s, ← Nat.or_assoc]
        generalize V ||| orf (hpv at_ c i) j = U
        by_cases hb : brv at_ i < wd (j + 1)
        · have e1 : hpv at_ c i j = 0 := if_neg (by simp [hb])
          rw [e1]
          simp (disch := omega) only [f_X12_hopeful_l16, f_X12_hopeful_b16, f_X12_hopeful_j49, r_isAlive, r_stands, ha, hb, decide_true, Bool.not_true, wd_lit, wd_of, wd_add, wd_mul, wd_neg, Option.bind_some, bnd, rdI_wd, wrI_wd, rdJ_wd, wrJ_wd, wd_31, wd_le, wd_lt, wd_inj, wd_eqm, wd_eqm', wd_ltm, wd_lem, wd_ltm2, wd_lem2, wd_bit0', wd_bit1', wd_shl, wd_or, wd_dif, i01_t, i01_f, jd_lit, i01_bz, bz_1, bz_0, f_X11_refuse, f_X11_answer, f_X11_allow, f_X11_deny, f_X12_refuse, f_X12_gives, f_X12_is, Option.some.injEq, exists_eq', if_true, if_false, ↓reduceIte, Nat.reduceEqDiff, Nat.reduceLT, Nat.reduceAdd]
          rw [if_neg (by omega)]
        · have e1 : hpv at_ c i j = wb (win at_ c (cnd at_ c i (wd (j + 1)))) := if_pos ⟨ha, hb⟩
          rw [e1]
          cases hx : win at_ c (cnd at_ c i (wd (j + 1))) with
          | none =>
            simp (disch := omega) only [f_X12_hopeful_l16, f_X12_hopeful_b16, f_X12_hopeful_j49, r_isAlive, r_stands, ha, hb, decide_false, Bool.not_false, r_winner (show i < 8 by omega) hc h8 hf, hx, oe_n, wd_lit, wd_of, wd_add, wd_mul, wd_neg, Option.bind_some, bnd, rdI_wd, wrI_wd, rdJ_wd, wrJ_wd, wd_31, wd_le, wd_lt, wd_inj, wd_eqm, wd_eqm', wd_ltm, wd_lem, wd_ltm2, wd_lem2, wd_bit0', wd_bit1', wd_shl, wd_or, wd_dif, i01_t, i01_f, jd_lit, i01_bz, bz_1, bz_0, f_X11_refuse, f_X11_answer, f_X11_allow, f_X11_deny, f_X12_refuse, f_X12_gives, f_X12_is, Option.some.injEq, exists_eq', if_true, if_false, ↓reduceIte, Nat.reduceEqDiff, Nat.reduceLT, Nat.reduceAdd]
            rw [if_neg (by omega)]
            rfl
          | some w =>
            have := win_lt hx
            simp (disch := omega) only [f_X12_hopeful_l16, f_X12_hopeful_b16, f_X12_hopeful_j49, r_isAlive, r_stands, ha, hb, decide_false, Bool.not_false, r_winner (show i < 8 by omega) hc h8 hf, hx, oe_s, wd_lit, wd_of, wd_add, wd_mul, wd_neg, Option.bind_some, bnd, rdI_wd, wrI_wd, rdJ_wd, wrJ_wd, wd_31, wd_le, wd_lt, wd_inj, wd_eqm, wd_eqm', wd_ltm, wd_lem, wd_ltm2, wd_lem2, wd_bit0', wd_bit1', wd_shl, wd_or, wd_dif, i01_t, i01_f, jd_lit, i01_bz, bz_1, bz_0, f_X11_refuse, f_X11_answer, f_X11_allow, f_X11_deny, f_X12_refuse, f_X12_gives, f_X12_is, Option.some.injEq, exists_eq', if_true, if_false, ↓reduceIte, Nat.reduceEqDiff, Nat.reduceLT, Nat.reduceAdd]
            rw [if_neg (by omega)]
            rfl
      · intro m
        simp (disch := omega) only [f_X12_hopeful_l16, f_X12_hopeful_b16, wd_lit, wd_of, wd_add, wd_mul, wd_neg, Option.bind_some, bnd, rdI_wd, wrI_wd, rdJ_wd, wrJ_wd, wd_31, wd_le, wd_lt, wd_inj, wd_eqm, wd_eqm', wd_ltm, wd_lem, wd_ltm2, wd_lem2, wd_bit0', wd_bit1', wd_shl, wd_or, wd_dif, i01_t, i01_f, jd_lit, i01_bz, bz_1, bz_0, f_X11_refuse, f_X11_answer, f_X11_allow, f_X11_deny, f_X12_refuse, f_X12_gives, f_X12_is, Option.some.injEq, exists_eq', if_true, if_false, ↓reduceIte, Nat.reduceEqDiff, Nat.reduceLT, Nat.reduceAdd]
  · intro n
    simp (disch := omega) only [f_X12_hopeful_l4, f_X12_hopeful_b4, hc, f_X12_gives, wd_lit, wd_of, wd_add, wd_mul, wd_neg, Option.bind_some, bnd, rdI_wd, wrI_wd, rdJ_wd, wrJ_wd, wd_31, wd_le, wd_lt, wd_inj, wd_eqm, wd_eqm', wd_ltm, wd_lem, wd_ltm2, wd_lem2, wd_bit0', wd_bit1', wd_shl, wd_or, wd_dif]
    rw [if_pos (by omega)]
end
theorem Q1_hopeful {fu : Nat} (hf : 1000 ≤ fu) : Q_hopeful fu RR := by
  intro S M h
  obtain ⟨c, hW, hA, hN, hWr⟩ := h.2.2.1
  obtain ⟨vot', e1⟩ := c_hopeful (st := vX11_latestStatus (S_b S)) (vot := vX0_votes (S_a S)) hW hA hf
  have e2 := r_hopeful (st' := vX12_status M) hW.2.1 hW.1 hf
  exact q_of (bind_e e1) (bind_e e2) ⟨⟨rfl, h.1.2⟩, h.2⟩
