section
variable {fu c : Nat} {at_ cou wei med sto fle lik vot : Nat → Int32} {cnt liv pri quo mel los st st' : Int32}
theorem wsz_v (n k : Nat) (tr : Nat → Int64) : wsz n k tr = 0 ∨ wsz n k tr = 3 ∨ wsz n k tr = 5 := by
  unfold wsz
  split
  · split
    · exact Or.inl rfl
    · exact Or.inr (Or.inr rfl)
  · exact Or.inr (Or.inl rfl)
theorem alb_congr {p q : Nat → Bool} : ∀ n, (∀ i, i < n → p i = q i) → alb p n = alb q n := by
  intro n
  induction n with
  | zero => intro _; rfl
  | succ n ih => intro h; rw [alb_s, alb_s, ih (fun i hi => h i (by omega)), h n (by omega)]
theorem wsz_congr {n k : Nat} {v w : Nat → Int64} (h : ∀ i, i < n → v i = w i) : wsz n k v = wsz n k w := by
  unfold wsz
  by_cases h1 : k ≤ n
  · rw [if_pos h1, if_pos h1, alb_congr k (fun i hi => by rw [h i (by omega)])]
  · rw [if_neg h1, if_neg h1]
theorem wsz_0 {n k : Nat} {v : Nat → Int64} (h : wsz n k v = 0) : k ≤ n ∧ ∀ i, i < k → osz (v i) = true := by
  unfold wsz at h
  by_cases h1 : k ≤ n
  · rw [if_pos h1] at h
    refine ⟨h1, ?_⟩
    cases h2 : alb (fun i => osz (v i)) k
    · rw [h2] at h; simp at h
    · rwa [alb_iff] at h2
  · rw [if_neg h1] at h; omega
theorem wn_lo {lo : Nat} {x : Int32} (hlo : lo ≤ 4) (h : wn 0 4 x = false) : wn lo 4 x = false := by
  cases h2 : wn lo 4 x
  · rfl
  · obtain ⟨s, h3, h4, rfl⟩ := wn_ex (by omega) (by omega) h2
    rw [wn_wd (by omega) (by omega) (by omega)] at h
    simp at h
    omega
theorem r_wsz1 {tm : Nat → Int32} {tr : Nat → Int64} {t lo : Nat} {x4 : Int32} (ht : t < 4) (hlo : lo ≤ 4) (h : wn lo 4 x4 = false) : f_X12_wrongSizes fu tm tr (wd t) x4 (wd lo) = some (wd 1) := by
  have qt := imn_wd (c := 4) (by omega) ht
  unfold f_X12_wrongSizes
  rw [bind_e r_isTray, qt, if_neg (show ¬ i01 true = 0 by decide), wd_64 (show lo < 2147483648 by omega), show (4 : Int64) = jd 4 from rfl, bind_e (r_from (by omega) (by omega)), h]
  rfl
theorem r_wsz2 {tm : Nat → Int32} {tr : Nat → Int64} {t lo : Nat} {x4 : Int32} (ht : t < 4) (hlo : lo ≤ 4) (h : wn lo 4 x4 = true) (hm : tm t = nn) : f_X12_wrongSizes fu tm tr (wd t) x4 (wd lo) = some (wd 2) := by
  have qt := imn_wd (c := 4) (by omega) ht
  unfold f_X12_wrongSizes
  rw [bind_e r_isTray, qt, if_neg (show ¬ i01 true = 0 by decide), wd_64 (show lo < 2147483648 by omega), show (4 : Int64) = jd 4 from rfl, bind_e (r_from (by omega) (by omega)), h, if_neg (show ¬ i01 true = 0 by decide), bind_e (rdI_wd ht (by omega)), hm]
  rfl
theorem t_gref {t : Nat} {y : tX8} {srt tm : Nat → Int32} {tr : Nat → Int64} {x1 x2 x4 : Int32} (hc : at_ 0 = wd c) (h8 : c ≤ 8) (ht : t < 4) (hy : RY y (srt t) (tm t) (shJ (60 * t) tr)) (hf : 1000 ≤ fu) : ∃ j w, j ≤ 7 ∧ f_X11_gameRefusal fu (vX8_row y) (vX8_missing y) (vX8_many y) (wd c) (wd (mask (alv at_) c)) x1 x2 x4 = some (wd j) ∧ f_X12_areTwo fu at_ x1 x2 = some (i01 w) ∧ (w = false → j = 1) ∧ (w = true → ∃ a b, a < c ∧ b < c ∧ x1 = wd a ∧ x2 = wd b ∧ ((j = 1 ∧ ¬ x4 = wd 0 ∧ ∀ lo, lo ≤ 1 → f_X12_wrongSizes fu tm tr (wd t) x4 (wd lo) = some (wd 1)) ∨ ∃ k v, k ≤ 4 ∧ x4 = wd k ∧ v ≤ 5 ∧ (∀ lo, lo ≤ k → f_X12_wrongSizes fu tm tr (wd t) x4 (wd lo) = some (wd v)) ∧ ((v ≠ 0 ∧ v ≠ 1 ∧ j = v) ∨ (v = 0 ∧ ((j = 7 ∧ (alv at_ a && alv at_ b) = false) ∨ (j = 0 ∧ alv at_ a = true ∧ alv at_ b = true ∧ ∃ n, n ≤ 60 ∧ k ≤ n ∧ vX8_many y = wd n ∧ ∀ i, i < k → vX8_row y i = shJ (60 * t) tr i)))))) := by
  cases q0 : imn c x1
  · refine ⟨1, false, by omega, ?_, ?_, fun _ => rfl, fun h => by cases h⟩
    · simp (disch := omega) only [f_X11_gameRefusal, f_X11_gameRefusal_j32, c_isM, q0, wd_lit, wd_of, wd_add, wd_mul, wd_neg, Option.bind_some, bnd, rdI_wd, wrI_wd, rdJ_wd, wrJ_wd, wd_31, wd_le, wd_lt, wd_inj, wd_eqm, wd_eqm', wd_ltm, wd_lem, wd_ltm2, wd_lem2, wd_bit0', wd_bit1', wd_shl, wd_or, wd_dif, i01_t, i01_f, jd_lit, i01_bz, bz_1, bz_0, f_X11_refuse, f_X11_answer, f_X11_allow, f_X11_deny, f_X12_refuse, f_X12_gives, f_X12_is, Option.some.injEq, exists_eq', if_true, if_false, ↓reduceIte, Nat.reduceEqDiff, Nat.reduceLT, Nat.reduceAdd]
    · simp (disch := omega) only [f_X12_areTwo, r_isM hc, q0, wd_lit, wd_of, wd_add, wd_mul, wd_neg, Option.bind_some, bnd, rdI_wd, wrI_wd, rdJ_wd, wrJ_wd, wd_31, wd_le, wd_lt, wd_inj, wd_eqm, wd_eqm', wd_ltm, wd_lem, wd_ltm2, wd_lem2, wd_bit0', wd_bit1', wd_shl, wd_or, wd_dif, i01_t, i01_f, jd_lit, i01_bz, bz_1, bz_0, f_X11_refuse, f_X11_answer, f_X11_allow, f_X11_deny, f_X12_refuse, f_X12_gives, f_X12_is, Option.some.injEq, exists_eq', if_true, if_false, ↓reduceIte, Nat.reduceEqDiff, Nat.reduceLT, Nat.reduceAdd]
  obtain ⟨a, ha, rfl⟩ := imn_ex (by omega) q0
  cases q1 : imn c x2
  · refine ⟨1, false, by omega, ?_, ?_, fun _ => rfl, fun h => by cases h⟩
    · simp (disch := omega) only [f_X11_gameRefusal, f_X11_gameRefusal_j32, c_isM, q0, q1, wd_lit, wd_of, wd_add, wd_mul, wd_neg, Option.bind_some, bnd, rdI_wd, wrI_wd, rdJ_wd, wrJ_wd, wd_31, wd_le, wd_lt, wd_inj, wd_eqm, wd_eqm', wd_ltm, wd_lem, wd_ltm2, wd_lem2, wd_bit0', wd_bit1', wd_shl, wd_or, wd_dif, i01_t, i01_f, jd_lit, i01_bz, bz_1, bz_0, f_X11_refuse, f_X11_answer, f_X11_allow, f_X11_deny, f_X12_refuse, f_X12_gives, f_X12_is, Option.some.injEq, exists_eq', if_true, if_false, ↓reduceIte, Nat.reduceEqDiff, Nat.reduceLT, Nat.reduceAdd]
    · simp (disch := omega) only [f_X12_areTwo, r_isM hc, q0, q1, wd_lit, wd_of, wd_add, wd_mul, wd_neg, Option.bind_some, bnd, rdI_wd, wrI_wd, rdJ_wd, wrJ_wd, wd_31, wd_le, wd_lt, wd_inj, wd_eqm, wd_eqm', wd_ltm, wd_lem, wd_ltm2, wd_lem2, wd_bit0', wd_bit1', wd_shl, wd_or, wd_dif, i01_t, i01_f, jd_lit, i01_bz, bz_1, bz_0, f_X11_refuse, f_X11_answer, f_X11_allow, f_X11_deny, f_X12_refuse, f_X12_gives, f_X12_is, Option.some.injEq, exists_eq', if_true, if_false, ↓reduceIte, Nat.reduceEqDiff, Nat.reduceLT, Nat.reduceAdd]
  obtain ⟨b, hb, rfl⟩ := imn_ex (by omega) q1
  by_cases hab : a = b
  · subst hab
    refine ⟨1, false, by omega, ?_, ?_, fun _ => rfl, fun h => by cases h⟩
    · simp (disch := omega) only [f_X11_gameRefusal, f_X11_gameRefusal_j32, c_isM, q0, q1, wd_lit, wd_of, wd_add, wd_mul, wd_neg, Option.bind_some, bnd, rdI_wd, wrI_wd, rdJ_wd, wrJ_wd, wd_31, wd_le, wd_lt, wd_inj, wd_eqm, wd_eqm', wd_ltm, wd_lem, wd_ltm2, wd_lem2, wd_bit0', wd_bit1', wd_shl, wd_or, wd_dif, i01_t, i01_f, jd_lit, i01_bz, bz_1, bz_0, f_X11_refuse, f_X11_answer, f_X11_allow, f_X11_deny, f_X12_refuse, f_X12_gives, f_X12_is, Option.some.injEq, exists_eq', if_true, if_false, ↓reduceIte, Nat.reduceEqDiff, Nat.reduceLT, Nat.reduceAdd]
    · simp (disch := omega) only [f_X12_areTwo, r_isM hc, q0, q1, wd_lit, wd_of, wd_add, wd_mul, wd_neg, Option.bind_some, bnd, rdI_wd, wrI_wd, rdJ_wd, wrJ_wd, wd_31, wd_le, wd_lt, wd_inj, wd_eqm, wd_eqm', wd_ltm, wd_lem, wd_ltm2, wd_lem2, wd_bit0', wd_bit1', wd_shl, wd_or, wd_dif, i01_t, i01_f, jd_lit, i01_bz, bz_1, bz_0, f_X11_refuse, f_X11_answer, f_X11_allow, f_X11_deny, f_X12_refuse, f_X12_gives, f_X12_is, Option.some.injEq, exists_eq', if_true, if_false, ↓reduceIte, Nat.reduceEqDiff, Nat.reduceLT, Nat.reduceAdd]
  have e2 : f_X12_areTwo fu at_ (wd a) (wd b) = some (i01 true) := by
    simp (disch := omega) only [f_X12_areTwo, r_isM hc, q0, q1, hab, wd_lit, wd_of, wd_add, wd_mul, wd_neg, Option.bind_some, bnd, rdI_wd, wrI_wd, rdJ_wd, wrJ_wd, wd_31, wd_le, wd_lt, wd_inj, wd_eqm, wd_eqm', wd_ltm, wd_lem, wd_ltm2, wd_lem2, wd_bit0', wd_bit1', wd_shl, wd_or, wd_dif, i01_t, i01_f, jd_lit, i01_bz, bz_1, bz_0, f_X11_refuse, f_X11_answer, f_X11_allow, f_X11_deny, f_X12_refuse, f_X12_gives, f_X12_is, Option.some.injEq, exists_eq', if_true, if_false, ↓reduceIte, Nat.reduceEqDiff, Nat.reduceLT, Nat.reduceAdd]
  have e1 : f_X11_gameRefusal fu (vX8_row y) (vX8_missing y) (vX8_many y) (wd c) (wd (mask (alv at_) c)) (wd a) (wd b) x4 = f_X11_gameRefusal_j32 fu (vX8_row y) (vX8_missing y) (vX8_many y) (wd c) (wd (mask (alv at_) c)) (wd a) (wd b) x4 (wd 1) := by
    unfold f_X11_gameRefusal
    rw [bind_e c_isM, q0, if_neg (show ¬ i01 true = 0 by decide), bind_e c_isM, q1, if_neg (show ¬ i01 true = 0 by decide), if_neg (by rw [wd_inj (by omega) (by omega)]; exact hab)]
    rfl
  cases q4 : wn 0 4 x4
  · refine ⟨1, true, by omega, ?_, e2, fun h => (by cases h), fun _ => ⟨a, b, ha, hb, rfl, rfl, Or.inl ⟨rfl, ?_, fun lo hlo => r_wsz1 ht (by omega) (wn_lo (by omega) q4)⟩⟩⟩
    · rw [e1]
      unfold f_X11_gameRefusal_j32
      rw [if_neg (show ¬ wd 1 = 0 by decide), show (0 : Int32) = wd 0 from rfl, show (4 : Int32) = wd 4 from rfl, bind_e c_within, q4]
      rfl
    · rintro rfl
      exact absurd q4 (by decide)
  · obtain ⟨k, _, hk, rfl⟩ := wn_ex (by omega) (by omega) q4
    have hj : f_X11_gameRefusal_j32 fu (vX8_row y) (vX8_missing y) (vX8_many y) (wd c) (wd (mask (alv at_) c)) (wd a) (wd b) (wd k) (wd 1) = (f_X8_sizesRefusal fu (vX8_row y) (vX8_missing y) (vX8_many y) (wd k) (wd 1)).bind fun z_18 => (if z_18 = wd 0 then (if alv at_ a && alv at_ b then some (wd 0) else some (wd 7)) else some z_18) := by
      unfold f_X11_gameRefusal_j32
      rw [if_neg (show ¬ wd 1 = 0 by decide), show (0 : Int32) = wd 0 from rfl, show (4 : Int32) = wd 4 from rfl, bind_e c_within, q4, if_neg (show ¬ i01 true = wd 0 by decide), show (1 : Int32) = wd 1 from rfl]
      congr 1
      funext z
      rw [bind_e (c_lives ha h8), bind_e (c_lives hb h8)]
      by_cases hz : z = wd 0
      · rw [if_pos hz, if_pos hz]
        cases alv at_ a <;> cases alv at_ b <;> rfl
      · rw [if_neg hz, if_neg hz]
    have hlo : ∀ lo, lo ≤ k → wn lo 4 (wd k) = true := by
      intro lo hlo
      rw [wn_wd (by omega) (by omega) (by omega)]
      simp; omega
    rcases hy with ⟨em, ea⟩ | ⟨em, n, s, hn, hs, ea, en, es, es', hr⟩
    · refine ⟨2, true, by omega, ?_, e2, fun h => (by cases h), fun _ => ⟨a, b, ha, hb, rfl, rfl, Or.inr ⟨k, 2, hk, rfl, by omega, fun lo hl => r_wsz2 ht (by omega) (hlo lo hl) ea, Or.inl ⟨by omega, by omega, rfl⟩⟩⟩⟩
      rw [e1, hj]
      have : f_X8_sizesRefusal fu (vX8_row y) (vX8_missing y) (vX8_many y) (wd k) (wd 1) = some (wd 2) := by
        unfold f_X8_sizesRefusal
        rw [em, if_neg (by decide)]
        rfl
      rw [bind_e this, if_neg (by decide)]
    · have hc1 := c_wsz (row := vX8_row y) hn hk hf
      have hc2 : ∀ lo, lo ≤ k → f_X12_wrongSizes fu tm tr (wd t) (wd k) (wd lo) = some (wd (wsz n k (shJ (60 * t) tr))) := fun lo hl => r_wsz ht hn hk hl rfl ea hf
      rw [wsz_congr hr] at hc1
      have hj2 := hj
      rw [em, en, bind_e hc1] at hj2
      rw [em, en] at e1 ⊢
      have hv := wsz_v n k (shJ (60 * t) tr)
      by_cases h0 : wsz n k (shJ (60 * t) tr) = 0
      · have hz := wsz_0 h0
        rw [h0] at hc2 hj2
        rw [if_pos rfl] at hj2
        cases hal : alv at_ a && alv at_ b
        · rw [hal] at hj2
          exact ⟨7, true, by omega, e1.trans hj2, e2, fun h => (by cases h), fun _ => ⟨a, b, ha, hb, rfl, rfl, Or.inr ⟨k, 0, hk, rfl, by omega, hc2, Or.inr ⟨rfl, Or.inl ⟨rfl, hal⟩⟩⟩⟩⟩
        · rw [hal] at hj2
          rw [Bool.and_eq_true] at hal
          exact ⟨0, true, by omega, e1.trans hj2, e2, fun h => (by cases h), fun _ => ⟨a, b, ha, hb, rfl, rfl, Or.inr ⟨k, 0, hk, rfl, by omega, hc2, Or.inr ⟨rfl, Or.inr ⟨rfl, hal.1, hal.2, n, hn, hz.1, rfl, fun i hi => hr i (by omega)⟩⟩⟩⟩⟩
      · rw [if_neg (by rw [wd_inj (by omega) (by omega)]; exact h0)] at hj2
        exact ⟨_, true, by omega, e1.trans hj2, e2, fun h => (by cases h), fun _ => ⟨a, b, ha, hb, rfl, rfl, Or.inr ⟨k, _, hk, rfl, by omega, hc2, Or.inl ⟨h0, by omega, rfl⟩⟩⟩⟩
end
