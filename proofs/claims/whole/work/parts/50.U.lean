def cutv (fu : Nat) (s : Int32) (v : Int64) : Int64 := (f_X8_cut fu s v).getD 0
theorem cutv_c (fu : Nat) (s : Int32) (v : Int64) : f_X8_cut fu s v = some (cutv fu s v) := by
  obtain ⟨z, e, _⟩ := cut_ex (fu := fu) (s := s) (v := v)
  unfold cutv
  rw [e]; rfl
theorem cutv_r (fu : Nat) (s : Int32) (v : Int64) : f_X12_cut fu v s = some (cutv fu s v) := by
  obtain ⟨z, e, e'⟩ := cut_ex (fu := fu) (s := s) (v := v)
  unfold cutv
  rw [e, e']; rfl
def cmR (fu : Nat) (s : Int32) (at_ : Nat → Int32) (row : Nat → Int64) (i : Nat) : Nat → Int64 := fun k => if k < i then cutv fu s (Int32.toInt64 (mn at_ k 2)) else row k
def cmT (fu : Nat) (s : Int32) (at_ : Nat → Int32) (tr : Nat → Int64) (b i : Nat) : Nat → Int64 := fun k => if b ≤ k ∧ k < b + i then cutv fu s (Int32.toInt64 (mn at_ (k - b) 2)) else tr k
theorem cmR_0 {fu : Nat} {s : Int32} {at_ : Nat → Int32} {row : Nat → Int64} : cmR fu s at_ row 0 = row := by funext k; unfold cmR; rw [if_neg (by omega)]
theorem cmT_0 {fu : Nat} {s : Int32} {at_ : Nat → Int32} {tr : Nat → Int64} {b : Nat} : cmT fu s at_ tr b 0 = tr := by funext k; unfold cmT; rw [if_neg (by omega)]
theorem cmR_s {fu : Nat} {s : Int32} {at_ : Nat → Int32} {row : Nat → Int64} {i : Nat} : vp_updL (cmR fu s at_ row i) i (cutv fu s (Int32.toInt64 (mn at_ i 2))) = cmR fu s at_ row (i + 1) := by
  funext k
  unfold vp_updL cmR
  grind
theorem cmT_s {fu : Nat} {s : Int32} {at_ : Nat → Int32} {tr : Nat → Int64} {b i : Nat} : vp_updL (cmT fu s at_ tr b i) (b + i) (cutv fu s (Int32.toInt64 (mn at_ i 2))) = cmT fu s at_ tr b (i + 1) := by
  funext k
  unfold vp_updL cmT
  by_cases h : k = b + i
  · rw [if_pos h, if_pos (by omega), show k - b = i from by omega]
  · rw [if_neg h]
    by_cases h2 : b ≤ k ∧ k < b + i
    · rw [if_pos h2, if_pos (by omega)]
    · rw [if_neg h2, if_neg (by omega)]
theorem r_cm {fu c t s : Nat} {at_ srt tm : Nat → Int32} {tr : Nat → Int64} {st : Int32} (ht : t < 4) (hc : at_ 0 = wd c) (h8 : c ≤ 8) (hs : srt t = wd s) (hf : 1000 ≤ fu) : f_X12_copyMedals_l52 fu at_ srt tm (wd t) fu st tr (wd 0) = some (wd c, wd 0, cmT fu (wd s) at_ tr (60 * t) c) := by
  have key := loop_seq (fun n i (x : Nat → Int64) => f_X12_copyMedals_l52 fu at_ srt tm (wd t) n st x (wd i)) (fun i => cmT fu (wd s) at_ tr (60 * t) i) c (some (wd c, wd 0, cmT fu (wd s) at_ tr (60 * t) c)) ?_ ?_ 0 fu (by omega) (by omega)
  · rw [cmT_0] at key; exact key
  · intro n i hi
    simp (disch := omega) only [f_X12_copyMedals_l52, f_X12_copyMedals_b52, hc, r_manOf, hs, cutv_r, cmT_s, wd_lit, wd_of, wd_add, wd_mul, wd_neg, Option.bind_some, bnd, rdI_wd, wrI_wd, rdJ_wd, wrJ_wd, wd_31, wd_le, wd_lt, wd_inj, wd_eqm, wd_eqm', wd_ltm, wd_lem, wd_ltm2, wd_lem2, wd_bit0', wd_bit1', wd_shl, wd_or, wd_dif, i01_t, i01_f, jd_lit, i01_bz, bz_1, bz_0, f_X11_refuse, f_X11_answer, f_X11_allow, f_X11_deny, f_X12_refuse, f_X12_gives, f_X12_is, Option.some.injEq, exists_eq', if_true, if_false, ↓reduceIte, Nat.reduceEqDiff, Nat.reduceLT, Nat.reduceAdd]
    rw [if_neg (by omega)]
  · intro n
    simp (disch := omega) only [f_X12_copyMedals_l52, f_X12_copyMedals_b52, hc, Nat.le_refl, wd_lit, wd_of, wd_add, wd_mul, wd_neg, Option.bind_some, bnd, rdI_wd, wrI_wd, rdJ_wd, wrJ_wd, wd_31, wd_le, wd_lt, wd_inj, wd_eqm, wd_eqm', wd_ltm, wd_lem, wd_ltm2, wd_lem2, wd_bit0', wd_bit1', wd_shl, wd_or, wd_dif, i01_t, i01_f, jd_lit, i01_bz, bz_1, bz_0, f_X11_refuse, f_X11_answer, f_X11_allow, f_X11_deny, f_X12_refuse, f_X12_gives, f_X12_is, Option.some.injEq, exists_eq', if_true, if_false, ↓reduceIte, Nat.reduceEqDiff, Nat.reduceLT, Nat.reduceAdd]
theorem c_cm0 {fu c n s : Nat} {at_ med : Nat → Int32} {st x1 m0 s0 n0 m1 s1 n1 m2 s2 n2 m3 s3 n3 : Int32} {r0 r1 r2 r3 : Nat → Int64} (hm : ∀ m, m < c → med m = mn at_ m 2) (h8 : c ≤ 8) (hcn : c ≤ n) (hn : n ≤ 60) (hs : s0 = wd s) (hn' : n0 = wd n) (hf : 1000 ≤ fu) : f_X11_copyMedals_l100052 fu m0 s0 n0 m1 s1 n1 m2 s2 n2 m3 s3 n3 med (wd c) x1 fu st r0 r1 r2 r3 (wd 0) = some (wd c, wd 0, cmR fu (wd s) at_ r0 c, r1, r2, r3) := by
  subst hs hn'
  have key := loop_seq (fun k i (x : Nat → Int64) => f_X11_copyMedals_l100052 fu m0 (wd s) (wd n) m1 s1 n1 m2 s2 n2 m3 s3 n3 med (wd c) x1 k st x r1 r2 r3 (wd i)) (fun i => cmR fu (wd s) at_ r0 i) c (some (wd c, wd 0, cmR fu (wd s) at_ r0 c, r1, r2, r3)) ?_ ?_ 0 fu (by omega) (by omega)
  · rw [cmR_0] at key; exact key
  · intro k i hi
    have hq := imn_wd (c := n) (by omega) (show i < n by omega)
    simp (disch := omega) only [f_X11_copyMedals_l100052, f_X11_copyMedals_b100052, hm i hi, f_X8_put, c_hasP1, hq, cutv_c, cmR_s, wd_lit, wd_of, wd_add, wd_mul, wd_neg, Option.bind_some, bnd, rdI_wd, wrI_wd, rdJ_wd, wrJ_wd, wd_31, wd_le, wd_lt, wd_inj, wd_eqm, wd_eqm', wd_ltm, wd_lem, wd_ltm2, wd_lem2, wd_bit0', wd_bit1', wd_shl, wd_or, wd_dif, i01_t, i01_f, jd_lit, i01_bz, bz_1, bz_0, f_X11_refuse, f_X11_answer, f_X11_allow, f_X11_deny, f_X12_refuse, f_X12_gives, f_X12_is, Option.some.injEq, exists_eq', if_true, if_false, ↓reduceIte, Nat.reduceEqDiff, Nat.reduceLT, Nat.reduceAdd]
    rw [if_neg (by omega)]
  · intro k
    simp (disch := omega) only [f_X11_copyMedals_l100052, f_X11_copyMedals_b100052, Nat.le_refl, wd_lit, wd_of, wd_add, wd_mul, wd_neg, Option.bind_some, bnd, rdI_wd, wrI_wd, rdJ_wd, wrJ_wd, wd_31, wd_le, wd_lt, wd_inj, wd_eqm, wd_eqm', wd_ltm, wd_lem, wd_ltm2, wd_lem2, wd_bit0', wd_bit1', wd_shl, wd_or, wd_dif, i01_t, i01_f, jd_lit, i01_bz, bz_1, bz_0, f_X11_refuse, f_X11_answer, f_X11_allow, f_X11_deny, f_X12_refuse, f_X12_gives, f_X12_is, Option.some.injEq, exists_eq', if_true, if_false, ↓reduceIte, Nat.reduceEqDiff, Nat.reduceLT, Nat.reduceAdd]
theorem c_cm1 {fu c n s : Nat} {at_ med : Nat → Int32} {st x1 m0 s0 n0 m1 s1 n1 m2 s2 n2 m3 s3 n3 : Int32} {r0 r1 r2 r3 : Nat → Int64} (hm : ∀ m, m < c → med m = mn at_ m 2) (h8 : c ≤ 8) (hcn : c ≤ n) (hn : n ≤ 60) (hs : s1 = wd s) (hn' : n1 = wd n) (hf : 1000 ≤ fu) : f_X11_copyMedals_l200052 fu m0 s0 n0 m1 s1 n1 m2 s2 n2 m3 s3 n3 med (wd c) x1 fu st r0 r1 r2 r3 (wd 0) = some (wd c, wd 0, r0, cmR fu (wd s) at_ r1 c, r2, r3) := by
  subst hs hn'
  have key := loop_seq (fun k i (x : Nat → Int64) => f_X11_copyMedals_l200052 fu m0 s0 n0 m1 (wd s) (wd n) m2 s2 n2 m3 s3 n3 med (wd c) x1 k st r0 x r2 r3 (wd i)) (fun i => cmR fu (wd s) at_ r1 i) c (some (wd c, wd 0, r0, cmR fu (wd s) at_ r1 c, r2, r3)) ?_ ?_ 0 fu (by omega) (by omega)
  · rw [cmR_0] at key; exact key
  · intro k i hi
    have hq := imn_wd (c := n) (by omega) (show i < n by omega)
    simp (disch := omega) only [f_X11_copyMedals_l200052, f_X11_copyMedals_b200052, hm i hi, f_X8_put, c_hasP1, hq, cutv_c, cmR_s, wd_lit, wd_of, wd_add, wd_mul, wd_neg, Option.bind_some, bnd, rdI_wd, wrI_wd, rdJ_wd, wrJ_wd, wd_31, wd_le, wd_lt, wd_inj, wd_eqm, wd_eqm', wd_ltm, wd_lem, wd_ltm2, wd_lem2, wd_bit0', wd_bit1', wd_shl, wd_or, wd_dif, i01_t, i01_f, jd_lit, i01_bz, bz_1, bz_0, f_X11_refuse, f_X11_answer, f_X11_allow, f_X11_deny, f_X12_refuse, f_X12_gives, f_X12_is, Option.some.injEq, exists_eq', if_true, if_false, ↓reduceIte, Nat.reduceEqDiff, Nat.reduceLT, Nat.reduceAdd]
    rw [if_neg (by omega)]
  · intro k
    simp (disch := omega) only [f_X11_copyMedals_l200052, f_X11_copyMedals_b200052, Nat.le_refl, wd_lit, wd_of, wd_add, wd_mul, wd_neg, Option.bind_some, bnd, rdI_wd, wrI_wd, rdJ_wd, wrJ_wd, wd_31, wd_le, wd_lt, wd_inj, wd_eqm, wd_eqm', wd_ltm, wd_lem, wd_ltm2, wd_lem2, wd_bit0', wd_bit1', wd_shl, wd_or, wd_dif, i01_t, i01_f, jd_lit, i01_bz, bz_1, bz_0, f_X11_refuse, f_X11_answer, f_X11_allow, f_X11_deny, f_X12_refuse, f_X12_gives, f_X12_is, Option.some.injEq, exists_eq', if_true, if_false, ↓reduceIte, Nat.reduceEqDiff, Nat.reduceLT, Nat.reduceAdd]
theorem c_cm2 {fu c n s : Nat} {at_ med : Nat → Int32} {st x1 m0 s0 n0 m1 s1 n1 m2 s2 n2 m3 s3 n3 : Int32} {r0 r1 r2 r3 : Nat → Int64} (hm : ∀ m, m < c → med m = mn at_ m 2) (h8 : c ≤ 8) (hcn : c ≤ n) (hn : n ≤ 60) (hs : s2 = wd s) (hn' : n2 = wd n) (hf : 1000 ≤ fu) : f_X11_copyMedals_l300052 fu m0 s0 n0 m1 s1 n1 m2 s2 n2 m3 s3 n3 med (wd c) x1 fu st r0 r1 r2 r3 (wd 0) = some (wd c, wd 0, r0, r1, cmR fu (wd s) at_ r2 c, r3) := by
  subst hs hn'
  have key := loop_seq (fun k i (x : Nat → Int64) => f_X11_copyMedals_l300052 fu m0 s0 n0 m1 s1 n1 m2 (wd s) (wd n) m3 s3 n3 med (wd c) x1 k st r0 r1 x r3 (wd i)) (fun i => cmR fu (wd s) at_ r2 i) c (some (wd c, wd 0, r0, r1, cmR fu (wd s) at_ r2 c, r3)) ?_ ?_ 0 fu (by omega) (by omega)
  · rw [cmR_0] at key; exact key
  · intro k i hi
    have hq := imn_wd (c := n) (by omega) (show i < n by omega)
    simp (disch := omega) only [f_X11_copyMedals_l300052, f_X11_copyMedals_b300052, hm i hi, f_X8_put, c_hasP1, hq, cutv_c, cmR_s, wd_lit, wd_of, wd_add, wd_mul, wd_neg, Option.bind_some, bnd, rdI_wd, wrI_wd, rdJ_wd, wrJ_wd, wd_31, wd_le, wd_lt, wd_inj, wd_eqm, wd_eqm', wd_ltm, wd_lem, wd_ltm2, wd_lem2, wd_bit0', wd_bit1', wd_shl, wd_or, wd_dif, i01_t, i01_f, jd_lit, i01_bz, bz_1, bz_0, f_X11_refuse, f_X11_answer, f_X11_allow, f_X11_deny, f_X12_refuse, f_X12_gives, f_X12_is, Option.some.injEq, exists_eq', if_true, if_false, ↓reduceIte, Nat.reduceEqDiff, Nat.reduceLT, Nat.reduceAdd]
    rw [if_neg (by omega)]
  · intro k
    simp (disch := omega) only [f_X11_copyMedals_l300052, f_X11_copyMedals_b300052, Nat.le_refl, wd_lit, wd_of, wd_add, wd_mul, wd_neg, Option.bind_some, bnd, rdI_wd, wrI_wd, rdJ_wd, wrJ_wd, wd_31, wd_le, wd_lt, wd_inj, wd_eqm, wd_eqm', wd_ltm, wd_lem, wd_ltm2, wd_lem2, wd_bit0', wd_bit1', wd_shl, wd_or, wd_dif, i01_t, i01_f, jd_lit, i01_bz, bz_1, bz_0, f_X11_refuse, f_X11_answer, f_X11_allow, f_X11_deny, f_X12_refuse, f_X12_gives, f_X12_is, Option.some.injEq, exists_eq', if_true, if_false, ↓reduceIte, Nat.reduceEqDiff, Nat.reduceLT, Nat.reduceAdd]
theorem c_cm3 {fu c n s : Nat} {at_ med : Nat → Int32} {st x1 m0 s0 n0 m1 s1 n1 m2 s2 n2 m3 s3 n3 : Int32} {r0 r1 r2 r3 : Nat → Int64} (hm : ∀ m, m < c → med m = mn at_ m 2) (h8 : c ≤ 8) (hcn : c ≤ n) (hn : n ≤ 60) (hs : s3 = wd s) (hn' : n3 = wd n) (hf : 1000 ≤ fu) : f_X11_copyMedals_l400052 fu m0 s0 n0 m1 s1 n1 m2 s2 n2 m3 s3 n3 med (wd c) x1 fu st r0 r1 r2 r3 (wd 0) = some (wd c, wd 0, r0, r1, r2, cmR fu (wd s) at_ r3 c) := by
  subst hs hn'
  have key := loop_seq (fun k i (x : Nat → Int64) => f_X11_copyMedals_l400052 fu m0 s0 n0 m1 s1 n1 m2 s2 n2 m3 (wd s) (wd n) med (wd c) x1 k st r0 r1 r2 x (wd i)) (fun i => cmR fu (wd s) at_ r3 i) c (some (wd c, wd 0, r0, r1, r2, cmR fu (wd s) at_ r3 c)) ?_ ?_ 0 fu (by omega) (by omega)
  · rw [cmR_0] at key; exact key
  · intro k i hi
    have hq := imn_wd (c := n) (by omega) (show i < n by omega)
    simp (disch := omega) only [f_X11_copyMedals_l400052, f_X11_copyMedals_b400052, hm i hi, f_X8_put, c_hasP1, hq, cutv_c, cmR_s, wd_lit, wd_of, wd_add, wd_mul, wd_neg, Option.bind_some, bnd, rdI_wd, wrI_wd, rdJ_wd, wrJ_wd, wd_31, wd_le, wd_lt, wd_inj, wd_eqm, wd_eqm', wd_ltm, wd_lem, wd_ltm2, wd_lem2, wd_bit0', wd_bit1', wd_shl, wd_or, wd_dif, i01_t, i01_f, jd_lit, i01_bz, bz_1, bz_0, f_X11_refuse, f_X11_answer, f_X11_allow, f_X11_deny, f_X12_refuse, f_X12_gives, f_X12_is, Option.some.injEq, exists_eq', if_true, if_false, ↓reduceIte, Nat.reduceEqDiff, Nat.reduceLT, Nat.reduceAdd]
    rw [if_neg (by omega)]
  · intro k
    simp (disch := omega) only [f_X11_copyMedals_l400052, f_X11_copyMedals_b400052, Nat.le_refl, wd_lit, wd_of, wd_add, wd_mul, wd_neg, Option.bind_some, bnd, rdI_wd, wrI_wd, rdJ_wd, wrJ_wd, wd_31, wd_le, wd_lt, wd_inj, wd_eqm, wd_eqm', wd_ltm, wd_lem, wd_ltm2, wd_lem2, wd_bit0', wd_bit1', wd_shl, wd_or, wd_dif, i01_t, i01_f, jd_lit, i01_bz, bz_1, bz_0, f_X11_refuse, f_X11_answer, f_X11_allow, f_X11_deny, f_X12_refuse, f_X12_gives, f_X12_is, Option.some.injEq, exists_eq', if_true, if_false, ↓reduceIte, Nat.reduceEqDiff, Nat.reduceLT, Nat.reduceAdd]
theorem Q1_copyMedals {fu : Nat} (hf : 1000 ≤ fu) : Q_copyMedals fu RR := by
  intro S M x1 h
  have hy := h.2.1
  obtain ⟨c, hW, hA, hN, hWr⟩ := h.2.2.1
  have h8 := hW.1
  have hc := hW.2.1
  have ec := hA.2.1
  cases q0 : imn 4 x1
  · obtain ⟨n0, n1, n2, n3⟩ := imn4 q0
    refine q_of (r := nn) (bind_e (z := (nn, wd 1, vX8_row (S_y0 S), vX8_row (S_y1 S), vX8_row (S_y2 S), vX8_row (S_y3 S))) ?_) (bind_e (z := (nn, wd 1, vX12_trays M)) ?_) ⟨⟨rfl, h.1.2⟩, h.2⟩ <;> simp (disch := omega) only [f_X11_copyMedals, f_X12_copyMedals, r_isTray, q0, n0, n1, n2, n3, wd_lit, wd_of, wd_add, wd_mul, wd_neg, Option.bind_some, bnd, rdI_wd, wrI_wd, rdJ_wd, wrJ_wd, wd_31, wd_le, wd_lt, wd_inj, wd_eqm, wd_eqm', wd_ltm, wd_lem, wd_ltm2, wd_lem2, wd_bit0', wd_bit1', wd_shl, wd_or, wd_dif, i01_t, i01_f, jd_lit, i01_bz, bz_1, bz_0, f_X11_refuse, f_X11_answer, f_X11_allow, f_X11_deny, f_X12_refuse, f_X12_gives, f_X12_is, Option.some.injEq, exists_eq', if_true, if_false, ↓reduceIte, Nat.reduceEqDiff, Nat.reduceLT, Nat.reduceAdd]
  · obtain ⟨t, ht, rfl⟩ := imn_ex (by omega) q0
    obtain rfl | rfl | rfl | rfl : t = 0 ∨ t = 1 ∨ t = 2 ∨ t = 3 := by omega
    · rcases hy.1 with ⟨em, ea⟩ | ⟨em, n, s, hn, hs, ea, en, es, es', hr⟩
      · refine q_of (r := nn) (bind_e (z := (nn, wd 2, vX8_row (S_y0 S), vX8_row (S_y1 S), vX8_row (S_y2 S), vX8_row (S_y3 S))) ?_) (bind_e (z := (nn, wd 2, vX12_trays M)) ?_) ⟨⟨rfl, h.1.2⟩, h.2⟩ <;> simp (disch := omega) only [f_X11_copyMedals, f_X12_copyMedals, r_isTray, q0, ea, em, wd_lit, wd_of, wd_add, wd_mul, wd_neg, Option.bind_some, bnd, rdI_wd, wrI_wd, rdJ_wd, wrJ_wd, wd_31, wd_le, wd_lt, wd_inj, wd_eqm, wd_eqm', wd_ltm, wd_lem, wd_ltm2, wd_lem2, wd_bit0', wd_bit1', wd_shl, wd_or, wd_dif, i01_t, i01_f, jd_lit, i01_bz, bz_1, bz_0, f_X11_refuse, f_X11_answer, f_X11_allow, f_X11_deny, f_X12_refuse, f_X12_gives, f_X12_is, Option.some.injEq, exists_eq', if_true, if_false, ↓reduceIte, Nat.reduceEqDiff, Nat.reduceLT, Nat.reduceAdd]
      · by_cases q1 : c ≤ n
        · have q1' : 0 + c ≤ n := by omega
          refine q_of (r := wd c) (bind_e (z := (wd c, wd 0, cmR fu (wd s) (vX12_at M) (vX8_row (S_y0 S)) c, vX8_row (S_y1 S), vX8_row (S_y2 S), vX8_row (S_y3 S))) ?_) (bind_e (z := (wd c, wd 0, cmT fu (wd s) (vX12_at M) (vX12_trays M) (60 * 0) c)) ?_) ⟨⟨rfl, h.1.2⟩, ⟨Or.inr ⟨em, n, s, hn, hs, ea, en, es, es', fun j hj => by show cmR fu (wd s) (vX12_at M) (vX8_row (S_y0 S)) c j = cmT fu (wd s) (vX12_at M) (vX12_trays M) (60 * 0) c (0 + j); have := hr j hj; unfold cmR cmT; unfold shJ at this; by_cases hjc : j < c; (rw [if_pos hjc, if_pos (by omega), show 0 + j - 60 * 0 = j from by omega]); (rw [if_neg hjc, if_neg (by omega)]; exact this)⟩, hy.2.1.fr (fun k hk => if_neg (by omega)), hy.2.2.1.fr (fun k hk => if_neg (by omega)), hy.2.2.2.fr (fun k hk => if_neg (by omega))⟩, h.2.2⟩
          · simp (disch := omega) only [f_X11_copyMedals, em, en, ec, c_hasP, q1', decide_true, es', c_cm0 (s := s) (n := n) hA.1.2.2.1 h8 q1 hn rfl rfl hf, wd_lit, wd_of, wd_add, wd_mul, wd_neg, Option.bind_some, bnd, rdI_wd, wrI_wd, rdJ_wd, wrJ_wd, wd_31, wd_le, wd_lt, wd_inj, wd_eqm, wd_eqm', wd_ltm, wd_lem, wd_ltm2, wd_lem2, wd_bit0', wd_bit1', wd_shl, wd_or, wd_dif, i01_t, i01_f, jd_lit, i01_bz, bz_1, bz_0, f_X11_refuse, f_X11_answer, f_X11_allow, f_X11_deny, f_X12_refuse, f_X12_gives, f_X12_is, Option.some.injEq, exists_eq', if_true, if_false, ↓reduceIte, Nat.reduceEqDiff, Nat.reduceLT, Nat.reduceAdd]
          · simp (disch := omega) only [f_X12_copyMedals, r_isTray, q0, ea, hc, q1, r_cm (show 0 < 4 by omega) hc h8 es hf, wd_lit, wd_of, wd_add, wd_mul, wd_neg, Option.bind_some, bnd, rdI_wd, wrI_wd, rdJ_wd, wrJ_wd, wd_31, wd_le, wd_lt, wd_inj, wd_eqm, wd_eqm', wd_ltm, wd_lem, wd_ltm2, wd_lem2, wd_bit0', wd_bit1', wd_shl, wd_or, wd_dif, i01_t, i01_f, jd_lit, i01_bz, bz_1, bz_0, f_X11_refuse, f_X11_answer, f_X11_allow, f_X11_deny, f_X12_refuse, f_X12_gives, f_X12_is, Option.some.injEq, exists_eq', if_true, if_false, ↓reduceIte, Nat.reduceEqDiff, Nat.reduceLT, Nat.reduceAdd]
        · have q1' : ¬ 0 + c ≤ n := by omega
          refine q_of (r := nn) (bind_e (z := (nn, wd 3, vX8_row (S_y0 S), vX8_row (S_y1 S), vX8_row (S_y2 S), vX8_row (S_y3 S))) ?_) (bind_e (z := (nn, wd 3, vX12_trays M)) ?_) ⟨⟨rfl, h.1.2⟩, h.2⟩
          · simp (disch := omega) only [f_X11_copyMedals, em, en, ec, c_hasP, q1', decide_false, wd_lit, wd_of, wd_add, wd_mul, wd_neg, Option.bind_some, bnd, rdI_wd, wrI_wd, rdJ_wd, wrJ_wd, wd_31, wd_le, wd_lt, wd_inj, wd_eqm, wd_eqm', wd_ltm, wd_lem, wd_ltm2, wd_lem2, wd_bit0', wd_bit1', wd_shl, wd_or, wd_dif, i01_t, i01_f, jd_lit, i01_bz, bz_1, bz_0, f_X11_refuse, f_X11_answer, f_X11_allow, f_X11_deny, f_X12_refuse, f_X12_gives, f_X12_is, Option.some.injEq, exists_eq', if_true, if_false, ↓reduceIte, Nat.reduceEqDiff, Nat.reduceLT, Nat.reduceAdd]
          · simp (disch := omega) only [f_X12_copyMedals, r_isTray, q0, ea, hc, q1, wd_lit, wd_of, wd_add, wd_mul, wd_neg, Option.bind_some, bnd, rdI_wd, wrI_wd, rdJ_wd, wrJ_wd, wd_31, wd_le, wd_lt, wd_inj, wd_eqm, wd_eqm', wd_ltm, wd_lem, wd_ltm2, wd_lem2, wd_bit0', wd_bit1', wd_shl, wd_or, wd_dif, i01_t, i01_f, jd_lit, i01_bz, bz_1, bz_0, f_X11_refuse, f_X11_answer, f_X11_allow, f_X11_deny, f_X12_refuse, f_X12_gives, f_X12_is, Option.some.injEq, exists_eq', if_true, if_false, ↓reduceIte, Nat.reduceEqDiff, Nat.reduceLT, Nat.reduceAdd]
    · rcases hy.2.1 with ⟨em, ea⟩ | ⟨em, n, s, hn, hs, ea, en, es, es', hr⟩
      · refine q_of (r := nn) (bind_e (z := (nn, wd 2, vX8_row (S_y0 S), vX8_row (S_y1 S), vX8_row (S_y2 S), vX8_row (S_y3 S))) ?_) (bind_e (z := (nn, wd 2, vX12_trays M)) ?_) ⟨⟨rfl, h.1.2⟩, h.2⟩ <;> simp (disch := omega) only [f_X11_copyMedals, f_X12_copyMedals, r_isTray, q0, ea, em, wd_lit, wd_of, wd_add, wd_mul, wd_neg, Option.bind_some, bnd, rdI_wd, wrI_wd, rdJ_wd, wrJ_wd, wd_31, wd_le, wd_lt, wd_inj, wd_eqm, wd_eqm', wd_ltm, wd_lem, wd_ltm2, wd_lem2, wd_bit0', wd_bit1', wd_shl, wd_or, wd_dif, i01_t, i01_f, jd_lit, i01_bz, bz_1, bz_0, f_X11_refuse, f_X11_answer, f_X11_allow, f_X11_deny, f_X12_refuse, f_X12_gives, f_X12_is, Option.some.injEq, exists_eq', if_true, if_false, ↓reduceIte, Nat.reduceEqDiff, Nat.reduceLT, Nat.reduceAdd]
      · by_cases q1 : c ≤ n
        · have q1' : 0 + c ≤ n := by omega
          refine q_of (r := wd c) (bind_e (z := (wd c, wd 0, vX8_row (S_y0 S), cmR fu (wd s) (vX12_at M) (vX8_row (S_y1 S)) c, vX8_row (S_y2 S), vX8_row (S_y3 S))) ?_) (bind_e (z := (wd c, wd 0, cmT fu (wd s) (vX12_at M) (vX12_trays M) (60 * 1) c)) ?_) ⟨⟨rfl, h.1.2⟩, ⟨hy.1.fr (fun k hk => if_neg (by omega)), Or.inr ⟨em, n, s, hn, hs, ea, en, es, es', fun j hj => by show cmR fu (wd s) (vX12_at M) (vX8_row (S_y1 S)) c j = cmT fu (wd s) (vX12_at M) (vX12_trays M) (60 * 1) c (60 + j); have := hr j hj; unfold cmR cmT; unfold shJ at this; by_cases hjc : j < c; (rw [if_pos hjc, if_pos (by omega), show 60 + j - 60 * 1 = j from by omega]); (rw [if_neg hjc, if_neg (by omega)]; exact this)⟩, hy.2.2.1.fr (fun k hk => if_neg (by omega)), hy.2.2.2.fr (fun k hk => if_neg (by omega))⟩, h.2.2⟩
          · simp (disch := omega) only [f_X11_copyMedals, em, en, ec, c_hasP, q1', decide_true, es', c_cm1 (s := s) (n := n) hA.1.2.2.1 h8 q1 hn rfl rfl hf, wd_lit, wd_of, wd_add, wd_mul, wd_neg, Option.bind_some, bnd, rdI_wd, wrI_wd, rdJ_wd, wrJ_wd, wd_31, wd_le, wd_lt, wd_inj, wd_eqm, wd_eqm', wd_ltm, wd_lem, wd_ltm2, wd_lem2, wd_bit0', wd_bit1', wd_shl, wd_or, wd_dif, i01_t, i01_f, jd_lit, i01_bz, bz_1, bz_0, f_X11_refuse, f_X11_answer, f_X11_allow, f_X11_deny, f_X12_refuse, f_X12_gives, f_X12_is, Option.some.injEq, exists_eq', if_true, if_false, ↓reduceIte, Nat.reduceEqDiff, Nat.reduceLT, Nat.reduceAdd]
          · simp (disch := omega) only [f_X12_copyMedals, r_isTray, q0, ea, hc, q1, r_cm (show 1 < 4 by omega) hc h8 es hf, wd_lit, wd_of, wd_add, wd_mul, wd_neg, Option.bind_some, bnd, rdI_wd, wrI_wd, rdJ_wd, wrJ_wd, wd_31, wd_le, wd_lt, wd_inj, wd_eqm, wd_eqm', wd_ltm, wd_lem, wd_ltm2, wd_lem2, wd_bit0', wd_bit1', wd_shl, wd_or, wd_dif, i01_t, i01_f, jd_lit, i01_bz, bz_1, bz_0, f_X11_refuse, f_X11_answer, f_X11_allow, f_X11_deny, f_X12_refuse, f_X12_gives, f_X12_is, Option.some.injEq, exists_eq', if_true, if_false, ↓reduceIte, Nat.reduceEqDiff, Nat.reduceLT, Nat.reduceAdd]
        · have q1' : ¬ 0 + c ≤ n := by omega
          refine q_of (r := nn) (bind_e (z := (nn, wd 3, vX8_row (S_y0 S), vX8_row (S_y1 S), vX8_row (S_y2 S), vX8_row (S_y3 S))) ?_) (bind_e (z := (nn, wd 3, vX12_trays M)) ?_) ⟨⟨rfl, h.1.2⟩, h.2⟩
          · simp (disch := omega) only [f_X11_copyMedals, em, en, ec, c_hasP, q1', decide_false, wd_lit, wd_of, wd_add, wd_mul, wd_neg, Option.bind_some, bnd, rdI_wd, wrI_wd, rdJ_wd, wrJ_wd, wd_31, wd_le, wd_lt, wd_inj, wd_eqm, wd_eqm', wd_ltm, wd_lem, wd_ltm2, wd_lem2, wd_bit0', wd_bit1', wd_shl, wd_or, wd_dif, i01_t, i01_f, jd_lit, i01_bz, bz_1, bz_0, f_X11_refuse, f_X11_answer, f_X11_allow, f_X11_deny, f_X12_refuse, f_X12_gives, f_X12_is, Option.some.injEq, exists_eq', if_true, if_false, ↓reduceIte, Nat.reduceEqDiff, Nat.reduceLT, Nat.reduceAdd]
          · simp (disch := omega) only [f_X12_copyMedals, r_isTray, q0, ea, hc, q1, wd_lit, wd_of, wd_add, wd_mul, wd_neg, Option.bind_some, bnd, rdI_wd, wrI_wd, rdJ_wd, wrJ_wd, wd_31, wd_le, wd_lt, wd_inj, wd_eqm, wd_eqm', wd_ltm, wd_lem, wd_ltm2, wd_lem2, wd_bit0', wd_bit1', wd_shl, wd_or, wd_dif, i01_t, i01_f, jd_lit, i01_bz, bz_1, bz_0, f_X11_refuse, f_X11_answer, f_X11_allow, f_X11_deny, f_X12_refuse, f_X12_gives, f_X12_is, Option.some.injEq, exists_eq', if_true, if_false, ↓reduceIte, Nat.reduceEqDiff, Nat.reduceLT, Nat.reduceAdd]
    · rcases hy.2.2.1 with ⟨em, ea⟩ | ⟨em, n, s, hn, hs, ea, en, es, es', hr⟩
      · refine q_of (r := nn) (bind_e (z := (nn, wd 2, vX8_row (S_y0 S), vX8_row (S_y1 S), vX8_row (S_y2 S), vX8_row (S_y3 S))) ?_) (bind_e (z := (nn, wd 2, vX12_trays M)) ?_) ⟨⟨rfl, h.1.2⟩, h.2⟩ <;> simp (disch := omega) only [f_X11_copyMedals, f_X12_copyMedals, r_isTray, q0, ea, em, wd_lit, wd_of, wd_add, wd_mul, wd_neg, Option.bind_some, bnd, rdI_wd, wrI_wd, rdJ_wd, wrJ_wd, wd_31, wd_le, wd_lt, wd_inj, wd_eqm, wd_eqm', wd_ltm, wd_lem, wd_ltm2, wd_lem2, wd_bit0', wd_bit1', wd_shl, wd_or, wd_dif, i01_t, i01_f, jd_lit, i01_bz, bz_1, bz_0, f_X11_refuse, f_X11_answer, f_X11_allow, f_X11_deny, f_X12_refuse, f_X12_gives, f_X12_is, Option.some.injEq, exists_eq', if_true, if_false, ↓reduceIte, Nat.reduceEqDiff, Nat.reduceLT, Nat.reduceAdd]
      · by_cases q1 : c ≤ n
        · have q1' : 0 + c ≤ n := by omega
          refine q_of (r := wd c) (bind_e (z := (wd c, wd 0, vX8_row (S_y0 S), vX8_row (S_y1 S), cmR fu (wd s) (vX12_at M) (vX8_row (S_y2 S)) c, vX8_row (S_y3 S))) ?_) (bind_e (z := (wd c, wd 0, cmT fu (wd s) (vX12_at M) (vX12_trays M) (60 * 2) c)) ?_) ⟨⟨rfl, h.1.2⟩, ⟨hy.1.fr (fun k hk => if_neg (by omega)), hy.2.1.fr (fun k hk => if_neg (by omega)), Or.inr ⟨em, n, s, hn, hs, ea, en, es, es', fun j hj => by show cmR fu (wd s) (vX12_at M) (vX8_row (S_y2 S)) c j = cmT fu (wd s) (vX12_at M) (vX12_trays M) (60 * 2) c (120 + j); have := hr j hj; unfold cmR cmT; unfold shJ at this; by_cases hjc : j < c; (rw [if_pos hjc, if_pos (by omega), show 120 + j - 60 * 2 = j from by omega]); (rw [if_neg hjc, if_neg (by omega)]; exact this)⟩, hy.2.2.2.fr (fun k hk => if_neg (by omega))⟩, h.2.2⟩
          · simp (disch := omega) only [f_X11_copyMedals, em, en, ec, c_hasP, q1', decide_true, es', c_cm2 (s := s) (n := n) hA.1.2.2.1 h8 q1 hn rfl rfl hf, wd_lit, wd_of, wd_add, wd_mul, wd_neg, Option.bind_some, bnd, rdI_wd, wrI_wd, rdJ_wd, wrJ_wd, wd_31, wd_le, wd_lt, wd_inj, wd_eqm, wd_eqm', wd_ltm, wd_lem, wd_ltm2, wd_lem2, wd_bit0', wd_bit1', wd_shl, wd_or, wd_dif, i01_t, i01_f, jd_lit, i01_bz, bz_1, bz_0, f_X11_refuse, f_X11_answer, f_X11_allow, f_X11_deny, f_X12_refuse, f_X12_gives, f_X12_is, Option.some.injEq, exists_eq', if_true, if_false, ↓reduceIte, Nat.reduceEqDiff, Nat.reduceLT, Nat.reduceAdd]
          · simp (disch := omega) only [f_X12_copyMedals, r_isTray, q0, ea, hc, q1, r_cm (show 2 < 4 by omega) hc h8 es hf, wd_lit, wd_of, wd_add, wd_mul, wd_neg, Option.bind_some, bnd, rdI_wd, wrI_wd, rdJ_wd, wrJ_wd, wd_31, wd_le, wd_lt, wd_inj, wd_eqm, wd_eqm', wd_ltm, wd_lem, wd_ltm2, wd_lem2, wd_bit0', wd_bit1', wd_shl, wd_or, wd_dif, i01_t, i01_f, jd_lit, i01_bz, bz_1, bz_0, f_X11_refuse, f_X11_answer, f_X11_allow, f_X11_deny, f_X12_refuse, f_X12_gives, f_X12_is, Option.some.injEq, exists_eq', if_true, if_false, ↓reduceIte, Nat.reduceEqDiff, Nat.reduceLT, Nat.reduceAdd]
        · have q1' : ¬ 0 + c ≤ n := by omega
          refine q_of (r := nn) (bind_e (z := (nn, wd 3, vX8_row (S_y0 S), vX8_row (S_y1 S), vX8_row (S_y2 S), vX8_row (S_y3 S))) ?_) (bind_e (z := (nn, wd 3, vX12_trays M)) ?_) ⟨⟨rfl, h.1.2⟩, h.2⟩
          · simp (disch := omega) only [f_X11_copyMedals, em, en, ec, c_hasP, q1', decide_false, wd_lit, wd_of, wd_add, wd_mul, wd_neg, Option.bind_some, bnd, rdI_wd, wrI_wd, rdJ_wd, wrJ_wd, wd_31, wd_le, wd_lt, wd_inj, wd_eqm, wd_eqm', wd_ltm, wd_lem, wd_ltm2, wd_lem2, wd_bit0', wd_bit1', wd_shl, wd_or, wd_dif, i01_t, i01_f, jd_lit, i01_bz, bz_1, bz_0, f_X11_refuse, f_X11_answer, f_X11_allow, f_X11_deny, f_X12_refuse, f_X12_gives, f_X12_is, Option.some.injEq, exists_eq', if_true, if_false, ↓reduceIte, Nat.reduceEqDiff, Nat.reduceLT, Nat.reduceAdd]
          · simp (disch := omega) only [f_X12_copyMedals, r_isTray, q0, ea, hc, q1, wd_lit, wd_of, wd_add, wd_mul, wd_neg, Option.bind_some, bnd, rdI_wd, wrI_wd, rdJ_wd, wrJ_wd, wd_31, wd_le, wd_lt, wd_inj, wd_eqm, wd_eqm', wd_ltm, wd_lem, wd_ltm2, wd_lem2, wd_bit0', wd_bit1', wd_shl, wd_or, wd_dif, i01_t, i01_f, jd_lit, i01_bz, bz_1, bz_0, f_X11_refuse, f_X11_answer, f_X11_allow, f_X11_deny, f_X12_refuse, f_X12_gives, f_X12_is, Option.some.injEq, exists_eq', if_true, if_false, ↓reduceIte, Nat.reduceEqDiff, Nat.reduceLT, Nat.reduceAdd]
    · rcases hy.2.2.2 with ⟨em, ea⟩ | ⟨em, n, s, hn, hs, ea, en, es, es', hr⟩
      · refine q_of (r := nn) (bind_e (z := (nn, wd 2, vX8_row (S_y0 S), vX8_row (S_y1 S), vX8_row (S_y2 S), vX8_row (S_y3 S))) ?_) (bind_e (z := (nn, wd 2, vX12_trays M)) ?_) ⟨⟨rfl, h.1.2⟩, h.2⟩ <;> simp (disch := omega) only [f_X11_copyMedals, f_X12_copyMedals, r_isTray, q0, ea, em, wd_lit, wd_of, wd_add, wd_mul, wd_neg, Option.bind_some, bnd, rdI_wd, wrI_wd, rdJ_wd, wrJ_wd, wd_31, wd_le, wd_lt, wd_inj, wd_eqm, wd_eqm', wd_ltm, wd_lem, wd_ltm2, wd_lem2, wd_bit0', wd_bit1', wd_shl, wd_or, wd_dif, i01_t, i01_f, jd_lit, i01_bz, bz_1, bz_0, f_X11_refuse, f_X11_answer, f_X11_allow, f_X11_deny, f_X12_refuse, f_X12_gives, f_X12_is, Option.some.injEq, exists_eq', if_true, if_false, ↓reduceIte, Nat.reduceEqDiff, Nat.reduceLT, Nat.reduceAdd]
      · by_cases q1 : c ≤ n
        · have q1' : 0 + c ≤ n := by omega
          refine q_of (r := wd c) (bind_e (z := (wd c, wd 0, vX8_row (S_y0 S), vX8_row (S_y1 S), vX8_row (S_y2 S), cmR fu (wd s) (vX12_at M) (vX8_row (S_y3 S)) c)) ?_) (bind_e (z := (wd c, wd 0, cmT fu (wd s) (vX12_at M) (vX12_trays M) (60 * 3) c)) ?_) ⟨⟨rfl, h.1.2⟩, ⟨hy.1.fr (fun k hk => if_neg (by omega)), hy.2.1.fr (fun k hk => if_neg (by omega)), hy.2.2.1.fr (fun k hk => if_neg (by omega)), Or.inr ⟨em, n, s, hn, hs, ea, en, es, es', fun j hj => by show cmR fu (wd s) (vX12_at M) (vX8_row (S_y3 S)) c j = cmT fu (wd s) (vX12_at M) (vX12_trays M) (60 * 3) c (180 + j); have := hr j hj; unfold cmR cmT; unfold shJ at this; by_cases hjc : j < c; (rw [if_pos hjc, if_pos (by omega), show 180 + j - 60 * 3 = j from by omega]); (rw [if_neg hjc, if_neg (by omega)]; exact this)⟩⟩, h.2.2⟩
          · simp (disch := omega) only [f_X11_copyMedals, em, en, ec, c_hasP, q1', decide_true, es', c_cm3 (s := s) (n := n) hA.1.2.2.1 h8 q1 hn rfl rfl hf, wd_lit, wd_of, wd_add, wd_mul, wd_neg, Option.bind_some, bnd, rdI_wd, wrI_wd, rdJ_wd, wrJ_wd, wd_31, wd_le, wd_lt, wd_inj, wd_eqm, wd_eqm', wd_ltm, wd_lem, wd_ltm2, wd_lem2, wd_bit0', wd_bit1', wd_shl, wd_or, wd_dif, i01_t, i01_f, jd_lit, i01_bz, bz_1, bz_0, f_X11_refuse, f_X11_answer, f_X11_allow, f_X11_deny, f_X12_refuse, f_X12_gives, f_X12_is, Option.some.injEq, exists_eq', if_true, if_false, ↓reduceIte, Nat.reduceEqDiff, Nat.reduceLT, Nat.reduceAdd]
          · simp (disch := omega) only [f_X12_copyMedals, r_isTray, q0, ea, hc, q1, r_cm (show 3 < 4 by omega) hc h8 es hf, wd_lit, wd_of, wd_add, wd_mul, wd_neg, Option.bind_some, bnd, rdI_wd, wrI_wd, rdJ_wd, wrJ_wd, wd_31, wd_le, wd_lt, wd_inj, wd_eqm, wd_eqm', wd_ltm, wd_lem, wd_ltm2, wd_lem2, wd_bit0', wd_bit1', wd_shl, wd_or, wd_dif, i01_t, i01_f, jd_lit, i01_bz, bz_1, bz_0, f_X11_refuse, f_X11_answer, f_X11_allow, f_X11_deny, f_X12_refuse, f_X12_gives, f_X12_is, Option.some.injEq, exists_eq', if_true, if_false, ↓reduceIte, Nat.reduceEqDiff, Nat.reduceLT, Nat.reduceAdd]
        · have q1' : ¬ 0 + c ≤ n := by omega
          refine q_of (r := nn) (bind_e (z := (nn, wd 3, vX8_row (S_y0 S), vX8_row (S_y1 S), vX8_row (S_y2 S), vX8_row (S_y3 S))) ?_) (bind_e (z := (nn, wd 3, vX12_trays M)) ?_) ⟨⟨rfl, h.1.2⟩, h.2⟩
          · simp (disch := omega) only [f_X11_copyMedals, em, en, ec, c_hasP, q1', decide_false, wd_lit, wd_of, wd_add, wd_mul, wd_neg, Option.bind_some, bnd, rdI_wd, wrI_wd, rdJ_wd, wrJ_wd, wd_31, wd_le, wd_lt, wd_inj, wd_eqm, wd_eqm', wd_ltm, wd_lem, wd_ltm2, wd_lem2, wd_bit0', wd_bit1', wd_shl, wd_or, wd_dif, i01_t, i01_f, jd_lit, i01_bz, bz_1, bz_0, f_X11_refuse, f_X11_answer, f_X11_allow, f_X11_deny, f_X12_refuse, f_X12_gives, f_X12_is, Option.some.injEq, exists_eq', if_true, if_false, ↓reduceIte, Nat.reduceEqDiff, Nat.reduceLT, Nat.reduceAdd]
          · simp (disch := omega) only [f_X12_copyMedals, r_isTray, q0, ea, hc, q1, wd_lit, wd_of, wd_add, wd_mul, wd_neg, Option.bind_some, bnd, rdI_wd, wrI_wd, rdJ_wd, wrJ_wd, wd_31, wd_le, wd_lt, wd_inj, wd_eqm, wd_eqm', wd_ltm, wd_lem, wd_ltm2, wd_lem2, wd_bit0', wd_bit1', wd_shl, wd_or, wd_dif, i01_t, i01_f, jd_lit, i01_bz, bz_1, bz_0, f_X11_refuse, f_X11_answer, f_X11_allow, f_X11_deny, f_X12_refuse, f_X12_gives, f_X12_is, Option.some.injEq, exists_eq', if_true, if_false, ↓reduceIte, Nat.reduceEqDiff, Nat.reduceLT, Nat.reduceAdd]
theorem r_pourL {fu t1 t2 p q k : Nat} {srt tm : Nat → Int32} {tr : Nat → Int64} {st : Int32} (h1 : t1 < 4) (h2 : t2 < 4) (hp : p + k ≤ 60) (hq : q + k ≤ 60) (hf : 1000 ≤ fu) : f_X12_pour_l118 fu srt tm (wd t1) (wd p) (wd t2) (wd q) (wd k) fu st tr (wd 0) = some (wd 1, wd 0, va_cpy tr tr (60 * t1 + p) (60 * t2 + q) k) := by
  by_cases hd : q ≤ p
  · have key := loop_seq (fun n i (x : Nat → Int64) => f_X12_pour_l118 fu srt tm (wd t1) (wd p) (wd t2) (wd q) (wd k) n st x (wd i)) (fun i => va_cpy tr tr (60 * t1 + p) (60 * t2 + q) i) k (some (wd 1, wd 0, va_cpy tr tr (60 * t1 + p) (60 * t2 + q) k)) ?_ ?_ 0 fu (by omega) (by omega)
    · rw [show va_cpy tr tr (60 * t1 + p) (60 * t2 + q) 0 = tr from by funext j; unfold va_cpy; rw [if_neg (by omega)]] at key; exact key
    · intro n i hi
      have e1 : va_cpy tr tr (60 * t1 + p) (60 * t2 + q) i (60 * t1 + p + i) = tr (60 * t1 + p + i) := if_neg (by omega)
      simp (disch := omega) only [f_X12_pour_l118, f_X12_pour_b118, f_X12_pour_j143, e1, hd, wd_lit, wd_of, wd_add, wd_mul, wd_neg, Option.bind_some, bnd, rdI_wd, wrI_wd, rdJ_wd, wrJ_wd, wd_31, wd_le, wd_lt, wd_inj, wd_eqm, wd_eqm', wd_ltm, wd_lem, wd_ltm2, wd_lem2, wd_bit0', wd_bit1', wd_shl, wd_or, wd_dif, i01_t, i01_f, jd_lit, i01_bz, bz_1, bz_0, f_X11_refuse, f_X11_answer, f_X11_allow, f_X11_deny, f_X12_refuse, f_X12_gives, f_X12_is, Option.some.injEq, exists_eq', if_true, if_false, ↓reduceIte, Nat.reduceEqDiff, Nat.reduceLT, Nat.reduceAdd]
      rw [if_neg (by omega)]
      congr 1
      funext j
      unfold vp_updL va_cpy
      by_cases h : j = 60 * t2 + q + i
      · rw [if_pos h, if_pos (by omega)]; congr 1; omega
      · rw [if_neg h]
        by_cases h3 : 60 * t2 + q ≤ j ∧ j < 60 * t2 + q + i
        · rw [if_pos h3, if_pos (by omega)]
        · rw [if_neg h3, if_neg (by omega)]
    · intro n
      simp (disch := omega) only [f_X12_pour_l118, f_X12_pour_b118, Nat.le_refl, wd_lit, wd_of, wd_add, wd_mul, wd_neg, Option.bind_some, bnd, rdI_wd, wrI_wd, rdJ_wd, wrJ_wd, wd_31, wd_le, wd_lt, wd_inj, wd_eqm, wd_eqm', wd_ltm, wd_lem, wd_ltm2, wd_lem2, wd_bit0', wd_bit1', wd_shl, wd_or, wd_dif, i01_t, i01_f, jd_lit, i01_bz, bz_1, bz_0, f_X11_refuse, f_X11_answer, f_X11_allow, f_X11_deny, f_X12_refuse, f_X12_gives, f_X12_is, Option.some.injEq, exists_eq', if_true, if_false, ↓reduceIte, Nat.reduceEqDiff, Nat.reduceLT, Nat.reduceAdd]
  · have key := loop_seq (fun n i (x : Nat → Int64) => f_X12_pour_l118 fu srt tm (wd t1) (wd p) (wd t2) (wd q) (wd k) n st x (wd i)) (fun i => va_cpy tr tr (60 * t1 + p + (k - i)) (60 * t2 + q + (k - i)) i) k (some (wd 1, wd 0, va_cpy tr tr (60 * t1 + p) (60 * t2 + q) k)) ?_ ?_ 0 fu (by omega) (by omega)
    · rw [show va_cpy tr tr (60 * t1 + p + (k - 0)) (60 * t2 + q + (k - 0)) 0 = tr from by funext j; unfold va_cpy; rw [if_neg (by omega)]] at key; exact key
    · intro n i hi
      have e1 : va_cpy tr tr (60 * t1 + p + (k - i)) (60 * t2 + q + (k - i)) i (60 * t1 + p + (k - 1 - i)) = tr (60 * t1 + p + (k - 1 - i)) := if_neg (by omega)
      simp (disch := omega) only [f_X12_pour_l118, f_X12_pour_b118, f_X12_pour_j143, wd_sub (show 1 ≤ k by omega), wd_sub (show i ≤ k - 1 by omega), e1, hd, wd_lit, wd_of, wd_add, wd_mul, wd_neg, Option.bind_some, bnd, rdI_wd, wrI_wd, rdJ_wd, wrJ_wd, wd_31, wd_le, wd_lt, wd_inj, wd_eqm, wd_eqm', wd_ltm, wd_lem, wd_ltm2, wd_lem2, wd_bit0', wd_bit1', wd_shl, wd_or, wd_dif, i01_t, i01_f, jd_lit, i01_bz, bz_1, bz_0, f_X11_refuse, f_X11_answer, f_X11_allow, f_X11_deny, f_X12_refuse, f_X12_gives, f_X12_is, Option.some.injEq, exists_eq', if_true, if_false, ↓reduceIte, Nat.reduceEqDiff, Nat.reduceLT, Nat.reduceAdd]
      rw [if_neg (by omega)]
      congr 1
      funext j
      unfold vp_updL va_cpy
      by_cases h : j = 60 * t2 + q + (k - 1 - i)
      · rw [if_pos h, if_pos (by omega)]; congr 1; omega
      · rw [if_neg h]
        by_cases h3 : 60 * t2 + q + (k - i) ≤ j ∧ j < 60 * t2 + q + (k - i) + i
        · rw [if_pos h3, if_pos (by omega)]; congr 1; omega
        · rw [if_neg h3, if_neg (by omega)]
    · intro n
      rw [show k - k = 0 from by omega]
      simp (disch := omega) only [f_X12_pour_l118, f_X12_pour_b118, Nat.le_refl, Nat.add_zero, wd_lit, wd_of, wd_add, wd_mul, wd_neg, Option.bind_some, bnd, rdI_wd, wrI_wd, rdJ_wd, wrJ_wd, wd_31, wd_le, wd_lt, wd_inj, wd_eqm, wd_eqm', wd_ltm, wd_lem, wd_ltm2, wd_lem2, wd_bit0', wd_bit1', wd_shl, wd_or, wd_dif, i01_t, i01_f, jd_lit, i01_bz, bz_1, bz_0, f_X11_refuse, f_X11_answer, f_X11_allow, f_X11_deny, f_X12_refuse, f_X12_gives, f_X12_is, Option.some.injEq, exists_eq', if_true, if_false, ↓reduceIte, Nat.reduceEqDiff, Nat.reduceLT, Nat.reduceAdd]
theorem pour_r {r1 r2 tr : Nat → Int64} {n n' p q k a b j : Nat} (h1 : ∀ i, i < n → r1 i = shJ a tr i) (h2 : ∀ i, i < n' → r2 i = shJ b tr i) (hp : p + k ≤ n) (hj : j < n') : va_cpy r1 r2 p q k j = va_cpy tr tr (a + p) (b + q) k (b + j) := by
  unfold va_cpy
  by_cases h : q ≤ j ∧ j < q + k
  · rw [if_pos h, if_pos (by omega), h1 _ (by omega)]
    unfold shJ
    congr 1
    omega
  · rw [if_neg h, if_neg (by omega), h2 j hj]
    rfl
def pG (fu : Nat) (r1 : Nat → Int64) (m1 s1 n1 : Int32) (r2 : Nat → Int64) (m2 s2 n2 x2 x4 x5 : Int32) : Option (Int32 × Int32 × (Nat → Int64)) := if x2 < 0 then some (0, 1, r2) else if x4 < 0 then some (0, 1, r2) else if 0 ≤ x5 then (if m1 = 0 then (if m2 = 0 then (if s1 = s2 then (f_X8_hasPlaces fu n1 x2 x5).bind fun z => (if z = 0 then some (0, 3, r2) else (f_X8_hasPlaces fu n2 x4 x5).bind fun z => (if z = 0 then some (0, 3, r2) else (cpJ r1 60 r2 60 x2 x4 x5).bind fun r => some (1, 0, r))) else some (0, 8, r2)) else some (0, 2, r2)) else some (0, 2, r2)) else some (0, 1, r2)
theorem pG_00 {fu : Nat} {st x2 x4 x5 m0 s0 n0 m1 s1 n1 m2 s2 n2 m3 s3 n3 : Int32} {r0 r1 r2 r3 : Nat → Int64} : f_X11_pour fu st r0 m0 s0 n0 r1 m1 s1 n1 r2 m2 s2 n2 r3 m3 s3 n3 (wd 0) x2 (wd 0) x4 x5 = (pG fu r0 m0 s0 n0 r0 m0 s0 n0 x2 x4 x5).bind fun z => some (z.1, z.2.1, z.2.2, r1, r2, r3) := by
  unfold f_X11_pour pG
  rw [if_pos (show wd 0 = 0 by decide), if_pos (show wd 0 = 0 by decide)]
  by_cases a1 : x2 < 0
  · rw [if_pos a1, if_pos a1]; rfl
  rw [if_neg a1, if_neg a1]
  by_cases a2 : x4 < 0
  · rw [if_pos a2, if_pos a2]; rfl
  rw [if_neg a2, if_neg a2]
  by_cases a3 : 0 ≤ x5
  case neg => rw [if_neg a3, if_neg a3]; rfl
  rw [if_pos a3, if_pos a3]
  by_cases a4 : m0 = 0
  case neg => rw [if_neg a4, if_neg a4]; rfl
  rw [if_pos a4, if_pos a4]
  by_cases a5 : m0 = 0
  case neg => exact absurd a4 a5
  rw [if_pos a5, if_pos a5]
  by_cases a6 : s0 = s0
  case neg => exact absurd rfl a6
  rw [if_pos a6, if_pos a6]
  cases f_X8_hasPlaces fu n0 x2 x5 with
  | none => rfl
  | some z =>
    simp only [Option.bind_some]
    by_cases a7 : z = 0
    · rw [if_pos a7, if_pos a7]; rfl
    rw [if_neg a7, if_neg a7]
    cases f_X8_hasPlaces fu n0 x4 x5 with
    | none => rfl
    | some z =>
      simp only [Option.bind_some]
      by_cases a8 : z = 0
      · rw [if_pos a8, if_pos a8]; rfl
      rw [if_neg a8, if_neg a8]
      cases cpJ r0 60 r0 60 x2 x4 x5 <;> rfl
theorem pG_01 {fu : Nat} {st x2 x4 x5 m0 s0 n0 m1 s1 n1 m2 s2 n2 m3 s3 n3 : Int32} {r0 r1 r2 r3 : Nat → Int64} : f_X11_pour fu st r0 m0 s0 n0 r1 m1 s1 n1 r2 m2 s2 n2 r3 m3 s3 n3 (wd 0) x2 (wd 1) x4 x5 = (pG fu r0 m0 s0 n0 r1 m1 s1 n1 x2 x4 x5).bind fun z => some (z.1, z.2.1, r0, z.2.2, r2, r3) := by
  unfold f_X11_pour pG
  rw [if_pos (show wd 0 = 0 by decide), if_neg (show ¬ wd 1 = 0 by decide), if_pos (show wd 1 = 1 by decide)]
  by_cases a1 : x2 < 0
  · rw [if_pos a1, if_pos a1]; rfl
  rw [if_neg a1, if_neg a1]
  by_cases a2 : x4 < 0
  · rw [if_pos a2, if_pos a2]; rfl
  rw [if_neg a2, if_neg a2]
  by_cases a3 : 0 ≤ x5
  case neg => rw [if_neg a3, if_neg a3]; rfl
  rw [if_pos a3, if_pos a3]
  by_cases a4 : m0 = 0
  case neg => rw [if_neg a4, if_neg a4]; rfl
  rw [if_pos a4, if_pos a4]
  by_cases a5 : m1 = 0
  case neg => rw [if_neg a5, if_neg a5]; rfl
  rw [if_pos a5, if_pos a5]
  by_cases a6 : s0 = s1
  case neg => rw [if_neg a6, if_neg a6]; rfl
  rw [if_pos a6, if_pos a6]
  cases f_X8_hasPlaces fu n0 x2 x5 with
  | none => rfl
  | some z =>
    simp only [Option.bind_some]
    by_cases a7 : z = 0
    · rw [if_pos a7, if_pos a7]; rfl
    rw [if_neg a7, if_neg a7]
    cases f_X8_hasPlaces fu n1 x4 x5 with
    | none => rfl
    | some z =>
      simp only [Option.bind_some]
      by_cases a8 : z = 0
      · rw [if_pos a8, if_pos a8]; rfl
      rw [if_neg a8, if_neg a8]
      cases cpJ r0 60 r1 60 x2 x4 x5 <;> rfl
theorem pG_02 {fu : Nat} {st x2 x4 x5 m0 s0 n0 m1 s1 n1 m2 s2 n2 m3 s3 n3 : Int32} {r0 r1 r2 r3 : Nat → Int64} : f_X11_pour fu st r0 m0 s0 n0 r1 m1 s1 n1 r2 m2 s2 n2 r3 m3 s3 n3 (wd 0) x2 (wd 2) x4 x5 = (pG fu r0 m0 s0 n0 r2 m2 s2 n2 x2 x4 x5).bind fun z => some (z.1, z.2.1, r0, r1, z.2.2, r3) := by
  unfold f_X11_pour pG
  rw [if_pos (show wd 0 = 0 by decide), if_neg (show ¬ wd 2 = 0 by decide), if_neg (show ¬ wd 2 = 1 by decide), if_pos (show wd 2 = 2 by decide)]
  by_cases a1 : x2 < 0
  · rw [if_pos a1, if_pos a1]; rfl
  rw [if_neg a1, if_neg a1]
  by_cases a2 : x4 < 0
  · rw [if_pos a2, if_pos a2]; rfl
  rw [if_neg a2, if_neg a2]
  by_cases a3 : 0 ≤ x5
  case neg => rw [if_neg a3, if_neg a3]; rfl
  rw [if_pos a3, if_pos a3]
  by_cases a4 : m0 = 0
  case neg => rw [if_neg a4, if_neg a4]; rfl
  rw [if_pos a4, if_pos a4]
  by_cases a5 : m2 = 0
  case neg => rw [if_neg a5, if_neg a5]; rfl
  rw [if_pos a5, if_pos a5]
  by_cases a6 : s0 = s2
  case neg => rw [if_neg a6, if_neg a6]; rfl
  rw [if_pos a6, if_pos a6]
  cases f_X8_hasPlaces fu n0 x2 x5 with
  | none => rfl
  | some z =>
    simp only [Option.bind_some]
    by_cases a7 : z = 0
    · rw [if_pos a7, if_pos a7]; rfl
    rw [if_neg a7, if_neg a7]
    cases f_X8_hasPlaces fu n2 x4 x5 with
    | none => rfl
    | some z =>
      simp only [Option.bind_some]
      by_cases a8 : z = 0
      · rw [if_pos a8, if_pos a8]; rfl
      rw [if_neg a8, if_neg a8]
      cases cpJ r0 60 r2 60 x2 x4 x5 <;> rfl
theorem pG_03 {fu : Nat} {st x2 x4 x5 m0 s0 n0 m1 s1 n1 m2 s2 n2 m3 s3 n3 : Int32} {r0 r1 r2 r3 : Nat → Int64} : f_X11_pour fu st r0 m0 s0 n0 r1 m1 s1 n1 r2 m2 s2 n2 r3 m3 s3 n3 (wd 0) x2 (wd 3) x4 x5 = (pG fu r0 m0 s0 n0 r3 m3 s3 n3 x2 x4 x5).bind fun z => some (z.1, z.2.1, r0, r1, r2, z.2.2) := by
  unfold f_X11_pour pG
  rw [if_pos (show wd 0 = 0 by decide), if_neg (show ¬ wd 3 = 0 by decide), if_neg (show ¬ wd 3 = 1 by decide), if_neg (show ¬ wd 3 = 2 by decide), if_pos (show wd 3 = 3 by decide)]
  by_cases a1 : x2 < 0
  · rw [if_pos a1, if_pos a1]; rfl
  rw [if_neg a1, if_neg a1]
  by_cases a2 : x4 < 0
  · rw [if_pos a2, if_pos a2]; rfl
  rw [if_neg a2, if_neg a2]
  by_cases a3 : 0 ≤ x5
  case neg => rw [if_neg a3, if_neg a3]; rfl
  rw [if_pos a3, if_pos a3]
  by_cases a4 : m0 = 0
  case neg => rw [if_neg a4, if_neg a4]; rfl
  rw [if_pos a4, if_pos a4]
  by_cases a5 : m3 = 0
  case neg => rw [if_neg a5, if_neg a5]; rfl
  rw [if_pos a5, if_pos a5]
  by_cases a6 : s0 = s3
  case neg => rw [if_neg a6, if_neg a6]; rfl
  rw [if_pos a6, if_pos a6]
  cases f_X8_hasPlaces fu n0 x2 x5 with
  | none => rfl
  | some z =>
    simp only [Option.bind_some]
    by_cases a7 : z = 0
    · rw [if_pos a7, if_pos a7]; rfl
    rw [if_neg a7, if_neg a7]
    cases f_X8_hasPlaces fu n3 x4 x5 with
    | none => rfl
    | some z =>
      simp only [Option.bind_some]
      by_cases a8 : z = 0
      · rw [if_pos a8, if_pos a8]; rfl
      rw [if_neg a8, if_neg a8]
      cases cpJ r0 60 r3 60 x2 x4 x5 <;> rfl
theorem pG_10 {fu : Nat} {st x2 x4 x5 m0 s0 n0 m1 s1 n1 m2 s2 n2 m3 s3 n3 : Int32} {r0 r1 r2 r3 : Nat → Int64} : f_X11_pour fu st r0 m0 s0 n0 r1 m1 s1 n1 r2 m2 s2 n2 r3 m3 s3 n3 (wd 1) x2 (wd 0) x4 x5 = (pG fu r1 m1 s1 n1 r0 m0 s0 n0 x2 x4 x5).bind fun z => some (z.1, z.2.1, z.2.2, r1, r2, r3) := by
  unfold f_X11_pour pG
  rw [if_neg (show ¬ wd 1 = 0 by decide), if_pos (show wd 1 = 1 by decide), if_pos (show wd 0 = 0 by decide)]
  by_cases a1 : x2 < 0
  · rw [if_pos a1, if_pos a1]; rfl
  rw [if_neg a1, if_neg a1]
  by_cases a2 : x4 < 0
  · rw [if_pos a2, if_pos a2]; rfl
  rw [if_neg a2, if_neg a2]
  by_cases a3 : 0 ≤ x5
  case neg => rw [if_neg a3, if_neg a3]; rfl
  rw [if_pos a3, if_pos a3]
  by_cases a4 : m1 = 0
  case neg => rw [if_neg a4, if_neg a4]; rfl
  rw [if_pos a4, if_pos a4]
  by_cases a5 : m0 = 0
  case neg => rw [if_neg a5, if_neg a5]; rfl
  rw [if_pos a5, if_pos a5]
  by_cases a6 : s1 = s0
  case neg => rw [if_neg a6, if_neg a6]; rfl
  rw [if_pos a6, if_pos a6]
  cases f_X8_hasPlaces fu n1 x2 x5 with
  | none => rfl
  | some z =>
    simp only [Option.bind_some]
    by_cases a7 : z = 0
    · rw [if_pos a7, if_pos a7]; rfl
    rw [if_neg a7, if_neg a7]
    cases f_X8_hasPlaces fu n0 x4 x5 with
    | none => rfl
    | some z =>
      simp only [Option.bind_some]
      by_cases a8 : z = 0
      · rw [if_pos a8, if_pos a8]; rfl
      rw [if_neg a8, if_neg a8]
      cases cpJ r1 60 r0 60 x2 x4 x5 <;> rfl
theorem pG_11 {fu : Nat} {st x2 x4 x5 m0 s0 n0 m1 s1 n1 m2 s2 n2 m3 s3 n3 : Int32} {r0 r1 r2 r3 : Nat → Int64} : f_X11_pour fu st r0 m0 s0 n0 r1 m1 s1 n1 r2 m2 s2 n2 r3 m3 s3 n3 (wd 1) x2 (wd 1) x4 x5 = (pG fu r1 m1 s1 n1 r1 m1 s1 n1 x2 x4 x5).bind fun z => some (z.1, z.2.1, r0, z.2.2, r2, r3) := by
  unfold f_X11_pour pG
  rw [if_neg (show ¬ wd 1 = 0 by decide), if_pos (show wd 1 = 1 by decide), if_neg (show ¬ wd 1 = 0 by decide), if_pos (show wd 1 = 1 by decide)]
  by_cases a1 : x2 < 0
  · rw [if_pos a1, if_pos a1]; rfl
  rw [if_neg a1, if_neg a1]
  by_cases a2 : x4 < 0
  · rw [if_pos a2, if_pos a2]; rfl
  rw [if_neg a2, if_neg a2]
  by_cases a3 : 0 ≤ x5
  case neg => rw [if_neg a3, if_neg a3]; rfl
  rw [if_pos a3, if_pos a3]
  by_cases a4 : m1 = 0
  case neg => rw [if_neg a4, if_neg a4]; rfl
  rw [if_pos a4, if_pos a4]
  by_cases a5 : m1 = 0
  case neg => exact absurd a4 a5
  rw [if_pos a5, if_pos a5]
  by_cases a6 : s1 = s1
  case neg => exact absurd rfl a6
  rw [if_pos a6, if_pos a6]
  cases f_X8_hasPlaces fu n1 x2 x5 with
  | none => rfl
  | some z =>
    simp only [Option.bind_some]
    by_cases a7 : z = 0
    · rw [if_pos a7, if_pos a7]; rfl
    rw [if_neg a7, if_neg a7]
    cases f_X8_hasPlaces fu n1 x4 x5 with
    | none => rfl
    | some z =>
      simp only [Option.bind_some]
      by_cases a8 : z = 0
      · rw [if_pos a8, if_pos a8]; rfl
      rw [if_neg a8, if_neg a8]
      cases cpJ r1 60 r1 60 x2 x4 x5 <;> rfl
theorem pG_12 {fu : Nat} {st x2 x4 x5 m0 s0 n0 m1 s1 n1 m2 s2 n2 m3 s3 n3 : Int32} {r0 r1 r2 r3 : Nat → Int64} : f_X11_pour fu st r0 m0 s0 n0 r1 m1 s1 n1 r2 m2 s2 n2 r3 m3 s3 n3 (wd 1) x2 (wd 2) x4 x5 = (pG fu r1 m1 s1 n1 r2 m2 s2 n2 x2 x4 x5).bind fun z => some (z.1, z.2.1, r0, r1, z.2.2, r3) := by
  unfold f_X11_pour pG
  rw [if_neg (show ¬ wd 1 = 0 by decide), if_pos (show wd 1 = 1 by decide), if_neg (show ¬ wd 2 = 0 by decide), if_neg (show ¬ wd 2 = 1 by decide), if_pos (show wd 2 = 2 by decide)]
  by_cases a1 : x2 < 0
  · rw [if_pos a1, if_pos a1]; rfl
  rw [if_neg a1, if_neg a1]
  by_cases a2 : x4 < 0
  · rw [if_pos a2, if_pos a2]; rfl
  rw [if_neg a2, if_neg a2]
  by_cases a3 : 0 ≤ x5
  case neg => rw [if_neg a3, if_neg a3]; rfl
  rw [if_pos a3, if_pos a3]
  by_cases a4 : m1 = 0
  case neg => rw [if_neg a4, if_neg a4]; rfl
  rw [if_pos a4, if_pos a4]
  by_cases a5 : m2 = 0
  case neg => rw [if_neg a5, if_neg a5]; rfl
  rw [if_pos a5, if_pos a5]
  by_cases a6 : s1 = s2
  case neg => rw [if_neg a6, if_neg a6]; rfl
  rw [if_pos a6, if_pos a6]
  cases f_X8_hasPlaces fu n1 x2 x5 with
  | none => rfl
  | some z =>
    simp only [Option.bind_some]
    by_cases a7 : z = 0
    · rw [if_pos a7, if_pos a7]; rfl
    rw [if_neg a7, if_neg a7]
    cases f_X8_hasPlaces fu n2 x4 x5 with
    | none => rfl
    | some z =>
      simp only [Option.bind_some]
      by_cases a8 : z = 0
      · rw [if_pos a8, if_pos a8]; rfl
      rw [if_neg a8, if_neg a8]
      cases cpJ r1 60 r2 60 x2 x4 x5 <;> rfl
theorem pG_13 {fu : Nat} {st x2 x4 x5 m0 s0 n0 m1 s1 n1 m2 s2 n2 m3 s3 n3 : Int32} {r0 r1 r2 r3 : Nat → Int64} : f_X11_pour fu st r0 m0 s0 n0 r1 m1 s1 n1 r2 m2 s2 n2 r3 m3 s3 n3 (wd 1) x2 (wd 3) x4 x5 = (pG fu r1 m1 s1 n1 r3 m3 s3 n3 x2 x4 x5).bind fun z => some (z.1, z.2.1, r0, r1, r2, z.2.2) := by
  unfold f_X11_pour pG
  rw [if_neg (show ¬ wd 1 = 0 by decide), if_pos (show wd 1 = 1 by decide), if_neg (show ¬ wd 3 = 0 by decide), if_neg (show ¬ wd 3 = 1 by decide), if_neg (show ¬ wd 3 = 2 by decide), if_pos (show wd 3 = 3 by decide)]
  by_cases a1 : x2 < 0
  · rw [if_pos a1, if_pos a1]; rfl
  rw [if_neg a1, if_neg a1]
  by_cases a2 : x4 < 0
  · rw [if_pos a2, if_pos a2]; rfl
  rw [if_neg a2, if_neg a2]
  by_cases a3 : 0 ≤ x5
  case neg => rw [if_neg a3, if_neg a3]; rfl
  rw [if_pos a3, if_pos a3]
  by_cases a4 : m1 = 0
  case neg => rw [if_neg a4, if_neg a4]; rfl
  rw [if_pos a4, if_pos a4]
  by_cases a5 : m3 = 0
  case neg => rw [if_neg a5, if_neg a5]; rfl
  rw [if_pos a5, if_pos a5]
  by_cases a6 : s1 = s3
  case neg => rw [if_neg a6, if_neg a6]; rfl
  rw [if_pos a6, if_pos a6]
  cases f_X8_hasPlaces fu n1 x2 x5 with
  | none => rfl
  | some z =>
    simp only [Option.bind_some]
    by_cases a7 : z = 0
    · rw [if_pos a7, if_pos a7]; rfl
    rw [if_neg a7, if_neg a7]
    cases f_X8_hasPlaces fu n3 x4 x5 with
    | none => rfl
    | some z =>
      simp only [Option.bind_some]
      by_cases a8 : z = 0
      · rw [if_pos a8, if_pos a8]; rfl
      rw [if_neg a8, if_neg a8]
      cases cpJ r1 60 r3 60 x2 x4 x5 <;> rfl
theorem pG_20 {fu : Nat} {st x2 x4 x5 m0 s0 n0 m1 s1 n1 m2 s2 n2 m3 s3 n3 : Int32} {r0 r1 r2 r3 : Nat → Int64} : f_X11_pour fu st r0 m0 s0 n0 r1 m1 s1 n1 r2 m2 s2 n2 r3 m3 s3 n3 (wd 2) x2 (wd 0) x4 x5 = (pG fu r2 m2 s2 n2 r0 m0 s0 n0 x2 x4 x5).bind fun z => some (z.1, z.2.1, z.2.2, r1, r2, r3) := by
  unfold f_X11_pour pG
  rw [if_neg (show ¬ wd 2 = 0 by decide), if_neg (show ¬ wd 2 = 1 by decide), if_pos (show wd 2 = 2 by decide), if_pos (show wd 0 = 0 by decide)]
  by_cases a1 : x2 < 0
  · rw [if_pos a1, if_pos a1]; rfl
  rw [if_neg a1, if_neg a1]
  by_cases a2 : x4 < 0
  · rw [if_pos a2, if_pos a2]; rfl
  rw [if_neg a2, if_neg a2]
  by_cases a3 : 0 ≤ x5
  case neg => rw [if_neg a3, if_neg a3]; rfl
  rw [if_pos a3, if_pos a3]
  by_cases a4 : m2 = 0
  case neg => rw [if_neg a4, if_neg a4]; rfl
  rw [if_pos a4, if_pos a4]
  by_cases a5 : m0 = 0
  case neg => rw [if_neg a5, if_neg a5]; rfl
  rw [if_pos a5, if_pos a5]
  by_cases a6 : s2 = s0
  case neg => rw [if_neg a6, if_neg a6]; rfl
  rw [if_pos a6, if_pos a6]
  cases f_X8_hasPlaces fu n2 x2 x5 with
  | none => rfl
  | some z =>
    simp only [Option.bind_some]
    by_cases a7 : z = 0
    · rw [if_pos a7, if_pos a7]; rfl
    rw [if_neg a7, if_neg a7]
    cases f_X8_hasPlaces fu n0 x4 x5 with
    | none => rfl
    | some z =>
      simp only [Option.bind_some]
      by_cases a8 : z = 0
      · rw [if_pos a8, if_pos a8]; rfl
      rw [if_neg a8, if_neg a8]
      cases cpJ r2 60 r0 60 x2 x4 x5 <;> rfl
theorem pG_21 {fu : Nat} {st x2 x4 x5 m0 s0 n0 m1 s1 n1 m2 s2 n2 m3 s3 n3 : Int32} {r0 r1 r2 r3 : Nat → Int64} : f_X11_pour fu st r0 m0 s0 n0 r1 m1 s1 n1 r2 m2 s2 n2 r3 m3 s3 n3 (wd 2) x2 (wd 1) x4 x5 = (pG fu r2 m2 s2 n2 r1 m1 s1 n1 x2 x4 x5).bind fun z => some (z.1, z.2.1, r0, z.2.2, r2, r3) := by
  unfold f_X11_pour pG
  rw [if_neg (show ¬ wd 2 = 0 by decide), if_neg (show ¬ wd 2 = 1 by decide), if_pos (show wd 2 = 2 by decide), if_neg (show ¬ wd 1 = 0 by decide), if_pos (show wd 1 = 1 by decide)]
  by_cases a1 : x2 < 0
  · rw [if_pos a1, if_pos a1]; rfl
  rw [if_neg a1, if_neg a1]
  by_cases a2 : x4 < 0
  · rw [if_pos a2, if_pos a2]; rfl
  rw [if_neg a2, if_neg a2]
  by_cases a3 : 0 ≤ x5
  case neg => rw [if_neg a3, if_neg a3]; rfl
  rw [if_pos a3, if_pos a3]
  by_cases a4 : m2 = 0
  case neg => rw [if_neg a4, if_neg a4]; rfl
  rw [if_pos a4, if_pos a4]
  by_cases a5 : m1 = 0
  case neg => rw [if_neg a5, if_neg a5]; rfl
  rw [if_pos a5, if_pos a5]
  by_cases a6 : s2 = s1
  case neg => rw [if_neg a6, if_neg a6]; rfl
  rw [if_pos a6, if_pos a6]
  cases f_X8_hasPlaces fu n2 x2 x5 with
  | none => rfl
  | some z =>
    simp only [Option.bind_some]
    by_cases a7 : z = 0
    · rw [if_pos a7, if_pos a7]; rfl
    rw [if_neg a7, if_neg a7]
    cases f_X8_hasPlaces fu n1 x4 x5 with
    | none => rfl
    | some z =>
      simp only [Option.bind_some]
      by_cases a8 : z = 0
      · rw [if_pos a8, if_pos a8]; rfl
      rw [if_neg a8, if_neg a8]
      cases cpJ r2 60 r1 60 x2 x4 x5 <;> rfl
theorem pG_22 {fu : Nat} {st x2 x4 x5 m0 s0 n0 m1 s1 n1 m2 s2 n2 m3 s3 n3 : Int32} {r0 r1 r2 r3 : Nat → Int64} : f_X11_pour fu st r0 m0 s0 n0 r1 m1 s1 n1 r2 m2 s2 n2 r3 m3 s3 n3 (wd 2) x2 (wd 2) x4 x5 = (pG fu r2 m2 s2 n2 r2 m2 s2 n2 x2 x4 x5).bind fun z => some (z.1, z.2.1, r0, r1, z.2.2, r3) := by
  unfold f_X11_pour pG
  rw [if_neg (show ¬ wd 2 = 0 by decide), if_neg (show ¬ wd 2 = 1 by decide), if_pos (show wd 2 = 2 by decide), if_neg (show ¬ wd 2 = 0 by decide), if_neg (show ¬ wd 2 = 1 by decide), if_pos (show wd 2 = 2 by decide)]
  by_cases a1 : x2 < 0
  · rw [if_pos a1, if_pos a1]; rfl
  rw [if_neg a1, if_neg a1]
  by_cases a2 : x4 < 0
  · rw [if_pos a2, if_pos a2]; rfl
  rw [if_neg a2, if_neg a2]
  by_cases a3 : 0 ≤ x5
  case neg => rw [if_neg a3, if_neg a3]; rfl
  rw [if_pos a3, if_pos a3]
  by_cases a4 : m2 = 0
  case neg => rw [if_neg a4, if_neg a4]; rfl
  rw [if_pos a4, if_pos a4]
  by_cases a5 : m2 = 0
  case neg => exact absurd a4 a5
  rw [if_pos a5, if_pos a5]
  by_cases a6 : s2 = s2
  case neg => exact absurd rfl a6
  rw [if_pos a6, if_pos a6]
  cases f_X8_hasPlaces fu n2 x2 x5 with
  | none => rfl
  | some z =>
    simp only [Option.bind_some]
    by_cases a7 : z = 0
    · rw [if_pos a7, if_pos a7]; rfl
    rw [if_neg a7, if_neg a7]
    cases f_X8_hasPlaces fu n2 x4 x5 with
    | none => rfl
    | some z =>
      simp only [Option.bind_some]
      by_cases a8 : z = 0
      · rw [if_pos a8, if_pos a8]; rfl
      rw [if_neg a8, if_neg a8]
      cases cpJ r2 60 r2 60 x2 x4 x5 <;> rfl
theorem pG_23 {fu : Nat} {st x2 x4 x5 m0 s0 n0 m1 s1 n1 m2 s2 n2 m3 s3 n3 : Int32} {r0 r1 r2 r3 : Nat → Int64} : f_X11_pour fu st r0 m0 s0 n0 r1 m1 s1 n1 r2 m2 s2 n2 r3 m3 s3 n3 (wd 2) x2 (wd 3) x4 x5 = (pG fu r2 m2 s2 n2 r3 m3 s3 n3 x2 x4 x5).bind fun z => some (z.1, z.2.1, r0, r1, r2, z.2.2) := by
  unfold f_X11_pour pG
  rw [if_neg (show ¬ wd 2 = 0 by decide), if_neg (show ¬ wd 2 = 1 by decide), if_pos (show wd 2 = 2 by decide), if_neg (show ¬ wd 3 = 0 by decide), if_neg (show ¬ wd 3 = 1 by decide), if_neg (show ¬ wd 3 = 2 by decide), if_pos (show wd 3 = 3 by decide)]
  by_cases a1 : x2 < 0
  · rw [if_pos a1, if_pos a1]; rfl
  rw [if_neg a1, if_neg a1]
  by_cases a2 : x4 < 0
  · rw [if_pos a2, if_pos a2]; rfl
  rw [if_neg a2, if_neg a2]
  by_cases a3 : 0 ≤ x5
  case neg => rw [if_neg a3, if_neg a3]; rfl
  rw [if_pos a3, if_pos a3]
  by_cases a4 : m2 = 0
  case neg => rw [if_neg a4, if_neg a4]; rfl
  rw [if_pos a4, if_pos a4]
  by_cases a5 : m3 = 0
  case neg => rw [if_neg a5, if_neg a5]; rfl
  rw [if_pos a5, if_pos a5]
  by_cases a6 : s2 = s3
  case neg => rw [if_neg a6, if_neg a6]; rfl
  rw [if_pos a6, if_pos a6]
  cases f_X8_hasPlaces fu n2 x2 x5 with
  | none => rfl
  | some z =>
    simp only [Option.bind_some]
    by_cases a7 : z = 0
    · rw [if_pos a7, if_pos a7]; rfl
    rw [if_neg a7, if_neg a7]
    cases f_X8_hasPlaces fu n3 x4 x5 with
    | none => rfl
    | some z =>
      simp only [Option.bind_some]
      by_cases a8 : z = 0
      · rw [if_pos a8, if_pos a8]; rfl
      rw [if_neg a8, if_neg a8]
      cases cpJ r2 60 r3 60 x2 x4 x5 <;> rfl
theorem pG_30 {fu : Nat} {st x2 x4 x5 m0 s0 n0 m1 s1 n1 m2 s2 n2 m3 s3 n3 : Int32} {r0 r1 r2 r3 : Nat → Int64} : f_X11_pour fu st r0 m0 s0 n0 r1 m1 s1 n1 r2 m2 s2 n2 r3 m3 s3 n3 (wd 3) x2 (wd 0) x4 x5 = (pG fu r3 m3 s3 n3 r0 m0 s0 n0 x2 x4 x5).bind fun z => some (z.1, z.2.1, z.2.2, r1, r2, r3) := by
  unfold f_X11_pour pG
  rw [if_neg (show ¬ wd 3 = 0 by decide), if_neg (show ¬ wd 3 = 1 by decide), if_neg (show ¬ wd 3 = 2 by decide), if_pos (show wd 3 = 3 by decide), if_pos (show wd 0 = 0 by decide)]
  by_cases a1 : x2 < 0
  · rw [if_pos a1, if_pos a1]; rfl
  rw [if_neg a1, if_neg a1]
  by_cases a2 : x4 < 0
  · rw [if_pos a2, if_pos a2]; rfl
  rw [if_neg a2, if_neg a2]
  by_cases a3 : 0 ≤ x5
  case neg => rw [if_neg a3, if_neg a3]; rfl
  rw [if_pos a3, if_pos a3]
  by_cases a4 : m3 = 0
  case neg => rw [if_neg a4, if_neg a4]; rfl
  rw [if_pos a4, if_pos a4]
  by_cases a5 : m0 = 0
  case neg => rw [if_neg a5, if_neg a5]; rfl
  rw [if_pos a5, if_pos a5]
  by_cases a6 : s3 = s0
  case neg => rw [if_neg a6, if_neg a6]; rfl
  rw [if_pos a6, if_pos a6]
  cases f_X8_hasPlaces fu n3 x2 x5 with
  | none => rfl
  | some z =>
    simp only [Option.bind_some]
    by_cases a7 : z = 0
    · rw [if_pos a7, if_pos a7]; rfl
    rw [if_neg a7, if_neg a7]
    cases f_X8_hasPlaces fu n0 x4 x5 with
    | none => rfl
    | some z =>
      simp only [Option.bind_some]
      by_cases a8 : z = 0
      · rw [if_pos a8, if_pos a8]; rfl
      rw [if_neg a8, if_neg a8]
      cases cpJ r3 60 r0 60 x2 x4 x5 <;> rfl
theorem pG_31 {fu : Nat} {st x2 x4 x5 m0 s0 n0 m1 s1 n1 m2 s2 n2 m3 s3 n3 : Int32} {r0 r1 r2 r3 : Nat → Int64} : f_X11_pour fu st r0 m0 s0 n0 r1 m1 s1 n1 r2 m2 s2 n2 r3 m3 s3 n3 (wd 3) x2 (wd 1) x4 x5 = (pG fu r3 m3 s3 n3 r1 m1 s1 n1 x2 x4 x5).bind fun z => some (z.1, z.2.1, r0, z.2.2, r2, r3) := by
  unfold f_X11_pour pG
  rw [if_neg (show ¬ wd 3 = 0 by decide), if_neg (show ¬ wd 3 = 1 by decide), if_neg (show ¬ wd 3 = 2 by decide), if_pos (show wd 3 = 3 by decide), if_neg (show ¬ wd 1 = 0 by decide), if_pos (show wd 1 = 1 by decide)]
  by_cases a1 : x2 < 0
  · rw [if_pos a1, if_pos a1]; rfl
  rw [if_neg a1, if_neg a1]
  by_cases a2 : x4 < 0
  · rw [if_pos a2, if_pos a2]; rfl
  rw [if_neg a2, if_neg a2]
  by_cases a3 : 0 ≤ x5
  case neg => rw [if_neg a3, if_neg a3]; rfl
  rw [if_pos a3, if_pos a3]
  by_cases a4 : m3 = 0
  case neg => rw [if_neg a4, if_neg a4]; rfl
  rw [if_pos a4, if_pos a4]
  by_cases a5 : m1 = 0
  case neg => rw [if_neg a5, if_neg a5]; rfl
  rw [if_pos a5, if_pos a5]
  by_cases a6 : s3 = s1
  case neg => rw [if_neg a6, if_neg a6]; rfl
  rw [if_pos a6, if_pos a6]
  cases f_X8_hasPlaces fu n3 x2 x5 with
  | none => rfl
  | some z =>
    simp only [Option.bind_some]
    by_cases a7 : z = 0
    · rw [if_pos a7, if_pos a7]; rfl
    rw [if_neg a7, if_neg a7]
    cases f_X8_hasPlaces fu n1 x4 x5 with
    | none => rfl
    | some z =>
      simp only [Option.bind_some]
      by_cases a8 : z = 0
      · rw [if_pos a8, if_pos a8]; rfl
      rw [if_neg a8, if_neg a8]
      cases cpJ r3 60 r1 60 x2 x4 x5 <;> rfl
theorem pG_32 {fu : Nat} {st x2 x4 x5 m0 s0 n0 m1 s1 n1 m2 s2 n2 m3 s3 n3 : Int32} {r0 r1 r2 r3 : Nat → Int64} : f_X11_pour fu st r0 m0 s0 n0 r1 m1 s1 n1 r2 m2 s2 n2 r3 m3 s3 n3 (wd 3) x2 (wd 2) x4 x5 = (pG fu r3 m3 s3 n3 r2 m2 s2 n2 x2 x4 x5).bind fun z => some (z.1, z.2.1, r0, r1, z.2.2, r3) := by
  unfold f_X11_pour pG
  rw [if_neg (show ¬ wd 3 = 0 by decide), if_neg (show ¬ wd 3 = 1 by decide), if_neg (show ¬ wd 3 = 2 by decide), if_pos (show wd 3 = 3 by decide), if_neg (show ¬ wd 2 = 0 by decide), if_neg (show ¬ wd 2 = 1 by decide), if_pos (show wd 2 = 2 by decide)]
  by_cases a1 : x2 < 0
  · rw [if_pos a1, if_pos a1]; rfl
  rw [if_neg a1, if_neg a1]
  by_cases a2 : x4 < 0
  · rw [if_pos a2, if_pos a2]; rfl
  rw [if_neg a2, if_neg a2]
  by_cases a3 : 0 ≤ x5
  case neg => rw [if_neg a3, if_neg a3]; rfl
  rw [if_pos a3, if_pos a3]
  by_cases a4 : m3 = 0
  case neg => rw [if_neg a4, if_neg a4]; rfl
  rw [if_pos a4, if_pos a4]
  by_cases a5 : m2 = 0
  case neg => rw [if_neg a5, if_neg a5]; rfl
  rw [if_pos a5, if_pos a5]
  by_cases a6 : s3 = s2
  case neg => rw [if_neg a6, if_neg a6]; rfl
  rw [if_pos a6, if_pos a6]
  cases f_X8_hasPlaces fu n3 x2 x5 with
  | none => rfl
  | some z =>
    simp only [Option.bind_some]
    by_cases a7 : z = 0
    · rw [if_pos a7, if_pos a7]; rfl
    rw [if_neg a7, if_neg a7]
    cases f_X8_hasPlaces fu n2 x4 x5 with
    | none => rfl
    | some z =>
      simp only [Option.bind_some]
      by_cases a8 : z = 0
      · rw [if_pos a8, if_pos a8]; rfl
      rw [if_neg a8, if_neg a8]
      cases cpJ r3 60 r2 60 x2 x4 x5 <;> rfl
theorem pG_33 {fu : Nat} {st x2 x4 x5 m0 s0 n0 m1 s1 n1 m2 s2 n2 m3 s3 n3 : Int32} {r0 r1 r2 r3 : Nat → Int64} : f_X11_pour fu st r0 m0 s0 n0 r1 m1 s1 n1 r2 m2 s2 n2 r3 m3 s3 n3 (wd 3) x2 (wd 3) x4 x5 = (pG fu r3 m3 s3 n3 r3 m3 s3 n3 x2 x4 x5).bind fun z => some (z.1, z.2.1, r0, r1, r2, z.2.2) := by
  unfold f_X11_pour pG
  rw [if_neg (show ¬ wd 3 = 0 by decide), if_neg (show ¬ wd 3 = 1 by decide), if_neg (show ¬ wd 3 = 2 by decide), if_pos (show wd 3 = 3 by decide), if_neg (show ¬ wd 3 = 0 by decide), if_neg (show ¬ wd 3 = 1 by decide), if_neg (show ¬ wd 3 = 2 by decide), if_pos (show wd 3 = 3 by decide)]
  by_cases a1 : x2 < 0
  · rw [if_pos a1, if_pos a1]; rfl
  rw [if_neg a1, if_neg a1]
  by_cases a2 : x4 < 0
  · rw [if_pos a2, if_pos a2]; rfl
  rw [if_neg a2, if_neg a2]
  by_cases a3 : 0 ≤ x5
  case neg => rw [if_neg a3, if_neg a3]; rfl
  rw [if_pos a3, if_pos a3]
  by_cases a4 : m3 = 0
  case neg => rw [if_neg a4, if_neg a4]; rfl
  rw [if_pos a4, if_pos a4]
  by_cases a5 : m3 = 0
  case neg => exact absurd a4 a5
  rw [if_pos a5, if_pos a5]
  by_cases a6 : s3 = s3
  case neg => exact absurd rfl a6
  rw [if_pos a6, if_pos a6]
  cases f_X8_hasPlaces fu n3 x2 x5 with
  | none => rfl
  | some z =>
    simp only [Option.bind_some]
    by_cases a7 : z = 0
    · rw [if_pos a7, if_pos a7]; rfl
    rw [if_neg a7, if_neg a7]
    cases f_X8_hasPlaces fu n3 x4 x5 with
    | none => rfl
    | some z =>
      simp only [Option.bind_some]
      by_cases a8 : z = 0
      · rw [if_pos a8, if_pos a8]; rfl
      rw [if_neg a8, if_neg a8]
      cases cpJ r3 60 r3 60 x2 x4 x5 <;> rfl
theorem pG_0n {fu : Nat} {st x2 x3 x4 x5 m0 s0 n0 m1 s1 n1 m2 s2 n2 m3 s3 n3 : Int32} {r0 r1 r2 r3 : Nat → Int64} (h : ¬ x3 = wd 0 ∧ ¬ x3 = wd 1 ∧ ¬ x3 = wd 2 ∧ ¬ x3 = wd 3) : f_X11_pour fu st r0 m0 s0 n0 r1 m1 s1 n1 r2 m2 s2 n2 r3 m3 s3 n3 (wd 0) x2 x3 x4 x5 = some (wd 0, wd 1, r0, r1, r2, r3) := by
  unfold f_X11_pour
  rw [if_pos (show wd 0 = 0 by decide), if_neg (show ¬ x3 = 0 from h.1), if_neg (show ¬ x3 = 1 from h.2.1), if_neg (show ¬ x3 = 2 from h.2.2.1), if_neg (show ¬ x3 = 3 from h.2.2.2)]
  rfl
theorem pG_1n {fu : Nat} {st x2 x3 x4 x5 m0 s0 n0 m1 s1 n1 m2 s2 n2 m3 s3 n3 : Int32} {r0 r1 r2 r3 : Nat → Int64} (h : ¬ x3 = wd 0 ∧ ¬ x3 = wd 1 ∧ ¬ x3 = wd 2 ∧ ¬ x3 = wd 3) : f_X11_pour fu st r0 m0 s0 n0 r1 m1 s1 n1 r2 m2 s2 n2 r3 m3 s3 n3 (wd 1) x2 x3 x4 x5 = some (wd 0, wd 1, r0, r1, r2, r3) := by
  unfold f_X11_pour
  rw [if_neg (show ¬ wd 1 = 0 by decide), if_pos (show wd 1 = 1 by decide), if_neg (show ¬ x3 = 0 from h.1), if_neg (show ¬ x3 = 1 from h.2.1), if_neg (show ¬ x3 = 2 from h.2.2.1), if_neg (show ¬ x3 = 3 from h.2.2.2)]
  rfl
theorem pG_2n {fu : Nat} {st x2 x3 x4 x5 m0 s0 n0 m1 s1 n1 m2 s2 n2 m3 s3 n3 : Int32} {r0 r1 r2 r3 : Nat → Int64} (h : ¬ x3 = wd 0 ∧ ¬ x3 = wd 1 ∧ ¬ x3 = wd 2 ∧ ¬ x3 = wd 3) : f_X11_pour fu st r0 m0 s0 n0 r1 m1 s1 n1 r2 m2 s2 n2 r3 m3 s3 n3 (wd 2) x2 x3 x4 x5 = some (wd 0, wd 1, r0, r1, r2, r3) := by
  unfold f_X11_pour
  rw [if_neg (show ¬ wd 2 = 0 by decide), if_neg (show ¬ wd 2 = 1 by decide), if_pos (show wd 2 = 2 by decide), if_neg (show ¬ x3 = 0 from h.1), if_neg (show ¬ x3 = 1 from h.2.1), if_neg (show ¬ x3 = 2 from h.2.2.1), if_neg (show ¬ x3 = 3 from h.2.2.2)]
  rfl
theorem pG_3n {fu : Nat} {st x2 x3 x4 x5 m0 s0 n0 m1 s1 n1 m2 s2 n2 m3 s3 n3 : Int32} {r0 r1 r2 r3 : Nat → Int64} (h : ¬ x3 = wd 0 ∧ ¬ x3 = wd 1 ∧ ¬ x3 = wd 2 ∧ ¬ x3 = wd 3) : f_X11_pour fu st r0 m0 s0 n0 r1 m1 s1 n1 r2 m2 s2 n2 r3 m3 s3 n3 (wd 3) x2 x3 x4 x5 = some (wd 0, wd 1, r0, r1, r2, r3) := by
  unfold f_X11_pour
  rw [if_neg (show ¬ wd 3 = 0 by decide), if_neg (show ¬ wd 3 = 1 by decide), if_neg (show ¬ wd 3 = 2 by decide), if_pos (show wd 3 = 3 by decide), if_neg (show ¬ x3 = 0 from h.1), if_neg (show ¬ x3 = 1 from h.2.1), if_neg (show ¬ x3 = 2 from h.2.2.1), if_neg (show ¬ x3 = 3 from h.2.2.2)]
  rfl
theorem pG_n {fu : Nat} {st x1 x2 x3 x4 x5 m0 s0 n0 m1 s1 n1 m2 s2 n2 m3 s3 n3 : Int32} {r0 r1 r2 r3 : Nat → Int64} (h : ¬ x1 = wd 0 ∧ ¬ x1 = wd 1 ∧ ¬ x1 = wd 2 ∧ ¬ x1 = wd 3) : f_X11_pour fu st r0 m0 s0 n0 r1 m1 s1 n1 r2 m2 s2 n2 r3 m3 s3 n3 x1 x2 x3 x4 x5 = some (wd 0, wd 1, r0, r1, r2, r3) := by
  obtain ⟨h0, h1, h2, h3⟩ := h
  simp only [f_X11_pour, wd_lit, h0, h1, h2, h3, if_false, f_X11_deny, Option.bind_some, bz_0, ite_self]
def rG (fu : Nat) (srt tm : Nat → Int32) (tr : Nat → Int64) (st : Int32) (t u : Nat) (x2 x4 x5 : Int32) : Option (Int32 × Int32 × (Nat → Int64)) := if x2 < 0 then some (0, 1, tr) else if x4 < 0 then some (0, 1, tr) else if 0 ≤ x5 then (if tm t = -1 then some (0, 2, tr) else if tm u = -1 then some (0, 2, tr) else if srt t = srt u then (if tm t - x2 < x5 then some (0, 3, tr) else if x5 ≤ tm u - x4 then f_X12_pour_l118 fu srt tm (wd t) x2 (wd u) x4 x5 fu st tr 0 else some (0, 3, tr)) else some (0, 8, tr)) else some (0, 1, tr)
theorem r_pour_e {fu t u : Nat} {srt tm : Nat → Int32} {tr : Nat → Int64} {st x2 x4 x5 : Int32} (ht : t < 4) (hu : u < 4) : f_X12_pour fu st srt tm tr (wd t) x2 (wd u) x4 x5 = rG fu srt tm tr st t u x2 x4 x5 := by
  have q0 := imn_wd (c := 4) (by omega) ht
  have q1 := imn_wd (c := 4) (by omega) hu
  unfold f_X12_pour rG
  rw [r_isTray, q0, r_isTray, q1, rdI_wd (f := tm) (N := 4) ht (by omega), rdI_wd (f := tm) (N := 4) hu (by omega), rdI_wd (f := srt) (N := 4) ht (by omega), rdI_wd (f := srt) (N := 4) hu (by omega)]
  rfl
theorem t_pGn {fu t u p q k : Nat} {yt yu : tX8} {srt tm : Nat → Int32} {tr : Nat → Int64} {st : Int32} (hp : p < 2147483648) (hq : q < 2147483648) (hk : k < 2147483648) (ht : t < 4) (hu : u < 4) (h1 : RY yt (srt t) (tm t) (shJ (60 * t) tr)) (h2 : RY yu (srt u) (tm u) (shJ (60 * u) tr)) (hf : 1000 ≤ fu) : ∃ r st1 row tr', pG fu (vX8_row yt) (vX8_missing yt) (vX8_sort yt) (vX8_many yt) (vX8_row yu) (vX8_missing yu) (vX8_sort yu) (vX8_many yu) (wd p) (wd q) (wd k) = some (r, st1, row) ∧ f_X12_pour fu st srt tm tr (wd t) (wd p) (wd u) (wd q) (wd k) = some (r, st1, tr') ∧ RY (row, vX8_missing yu, vX8_sort yu, vX8_many yu) (srt u) (tm u) (shJ (60 * u) tr') ∧ ∀ k, k < 60 * u ∨ 60 * u + 60 ≤ k → tr' k = tr k := by
  have b1 : ¬ wd p < wd 0 := by rw [wd_lt hp (by omega)]; omega
  have b2 : ¬ wd q < wd 0 := by rw [wd_lt hq (by omega)]; omega
  have b3' : wd 0 ≤ wd k := by rw [wd_le (by omega) hk]; omega
  rcases h1 with ⟨em, ea⟩ | ⟨em, n, s, hn, hs, ea, en, es, es', hr⟩
  · refine ⟨wd 0, wd 2, _, tr, by simp (disch := omega) only [pG, b1, b2, b3', em, wd_lit, wd_of, wd_add, wd_mul, wd_neg, Option.bind_some, bnd, rdI_wd, wrI_wd, rdJ_wd, wrJ_wd, wd_31, wd_le, wd_lt, wd_inj, wd_eqm, wd_eqm', wd_ltm, wd_lem, wd_ltm2, wd_lem2, wd_bit0', wd_bit1', wd_shl, wd_or, wd_dif, i01_t, i01_f, jd_lit, i01_bz, bz_1, bz_0, f_X11_refuse, f_X11_answer, f_X11_allow, f_X11_deny, f_X12_refuse, f_X12_gives, f_X12_is, Option.some.injEq, exists_eq', if_true, if_false, ↓reduceIte, Nat.reduceEqDiff, Nat.reduceLT, Nat.reduceAdd, Nat.not_lt_zero, Nat.zero_le], ?_, h2, fun _ _ => rfl⟩
    rw [r_pour_e ht hu]; simp (disch := omega) only [rG, ea, wd_lit, wd_of, wd_add, wd_mul, wd_neg, Option.bind_some, bnd, rdI_wd, wrI_wd, rdJ_wd, wrJ_wd, wd_31, wd_le, wd_lt, wd_inj, wd_eqm, wd_eqm', wd_ltm, wd_lem, wd_ltm2, wd_lem2, wd_bit0', wd_bit1', wd_shl, wd_or, wd_dif, i01_t, i01_f, jd_lit, i01_bz, bz_1, bz_0, f_X11_refuse, f_X11_answer, f_X11_allow, f_X11_deny, f_X12_refuse, f_X12_gives, f_X12_is, Option.some.injEq, exists_eq', if_true, if_false, ↓reduceIte, Nat.reduceEqDiff, Nat.reduceLT, Nat.reduceAdd, Nat.not_lt_zero, Nat.zero_le]
  have h2' := h2
  rcases h2 with ⟨gm, ga⟩ | ⟨gm, n', s', gn, gs, ga, gN, gS, gS', gr⟩
  · refine ⟨wd 0, wd 2, _, tr, by simp (disch := omega) only [pG, em, gm, wd_lit, wd_of, wd_add, wd_mul, wd_neg, Option.bind_some, bnd, rdI_wd, wrI_wd, rdJ_wd, wrJ_wd, wd_31, wd_le, wd_lt, wd_inj, wd_eqm, wd_eqm', wd_ltm, wd_lem, wd_ltm2, wd_lem2, wd_bit0', wd_bit1', wd_shl, wd_or, wd_dif, i01_t, i01_f, jd_lit, i01_bz, bz_1, bz_0, f_X11_refuse, f_X11_answer, f_X11_allow, f_X11_deny, f_X12_refuse, f_X12_gives, f_X12_is, Option.some.injEq, exists_eq', if_true, if_false, ↓reduceIte, Nat.reduceEqDiff, Nat.reduceLT, Nat.reduceAdd, Nat.not_lt_zero, Nat.zero_le], ?_, h2', fun _ _ => rfl⟩
    rw [r_pour_e ht hu]; simp (disch := omega) only [rG, ea, ga, wd_lit, wd_of, wd_add, wd_mul, wd_neg, Option.bind_some, bnd, rdI_wd, wrI_wd, rdJ_wd, wrJ_wd, wd_31, wd_le, wd_lt, wd_inj, wd_eqm, wd_eqm', wd_ltm, wd_lem, wd_ltm2, wd_lem2, wd_bit0', wd_bit1', wd_shl, wd_or, wd_dif, i01_t, i01_f, jd_lit, i01_bz, bz_1, bz_0, f_X11_refuse, f_X11_answer, f_X11_allow, f_X11_deny, f_X12_refuse, f_X12_gives, f_X12_is, Option.some.injEq, exists_eq', if_true, if_false, ↓reduceIte, Nat.reduceEqDiff, Nat.reduceLT, Nat.reduceAdd, Nat.not_lt_zero, Nat.zero_le]
  by_cases c0 : s = s'
  case neg =>
    refine ⟨wd 0, wd 8, _, tr, by simp (disch := omega) only [pG, em, gm, es', gS', c0, wd_lit, wd_of, wd_add, wd_mul, wd_neg, Option.bind_some, bnd, rdI_wd, wrI_wd, rdJ_wd, wrJ_wd, wd_31, wd_le, wd_lt, wd_inj, wd_eqm, wd_eqm', wd_ltm, wd_lem, wd_ltm2, wd_lem2, wd_bit0', wd_bit1', wd_shl, wd_or, wd_dif, i01_t, i01_f, jd_lit, i01_bz, bz_1, bz_0, f_X11_refuse, f_X11_answer, f_X11_allow, f_X11_deny, f_X12_refuse, f_X12_gives, f_X12_is, Option.some.injEq, exists_eq', if_true, if_false, ↓reduceIte, Nat.reduceEqDiff, Nat.reduceLT, Nat.reduceAdd, Nat.not_lt_zero, Nat.zero_le], ?_, h2', fun _ _ => rfl⟩
    rw [r_pour_e ht hu]; simp (disch := omega) only [rG, ea, ga, es, gS, c0, wd_lit, wd_of, wd_add, wd_mul, wd_neg, Option.bind_some, bnd, rdI_wd, wrI_wd, rdJ_wd, wrJ_wd, wd_31, wd_le, wd_lt, wd_inj, wd_eqm, wd_eqm', wd_ltm, wd_lem, wd_ltm2, wd_lem2, wd_bit0', wd_bit1', wd_shl, wd_or, wd_dif, i01_t, i01_f, jd_lit, i01_bz, bz_1, bz_0, f_X11_refuse, f_X11_answer, f_X11_allow, f_X11_deny, f_X12_refuse, f_X12_gives, f_X12_is, Option.some.injEq, exists_eq', if_true, if_false, ↓reduceIte, Nat.reduceEqDiff, Nat.reduceLT, Nat.reduceAdd, Nat.not_lt_zero, Nat.zero_le]
  subst c0
  by_cases c1 : p + k ≤ n
  case neg =>
    have c1' : n < p + k := by omega
    refine ⟨wd 0, wd 3, _, tr, by simp (disch := omega) only [pG, em, gm, es', gS', en, c_hasP, c1, decide_false, wd_lit, wd_of, wd_add, wd_mul, wd_neg, Option.bind_some, bnd, rdI_wd, wrI_wd, rdJ_wd, wrJ_wd, wd_31, wd_le, wd_lt, wd_inj, wd_eqm, wd_eqm', wd_ltm, wd_lem, wd_ltm2, wd_lem2, wd_bit0', wd_bit1', wd_shl, wd_or, wd_dif, i01_t, i01_f, jd_lit, i01_bz, bz_1, bz_0, f_X11_refuse, f_X11_answer, f_X11_allow, f_X11_deny, f_X12_refuse, f_X12_gives, f_X12_is, Option.some.injEq, exists_eq', if_true, if_false, ↓reduceIte, Nat.reduceEqDiff, Nat.reduceLT, Nat.reduceAdd, Nat.not_lt_zero, Nat.zero_le], ?_, h2', fun _ _ => rfl⟩
    rw [r_pour_e ht hu]; simp (disch := omega) only [rG, ea, ga, es, gS, wd_sublt, c1', wd_lit, wd_of, wd_add, wd_mul, wd_neg, Option.bind_some, bnd, rdI_wd, wrI_wd, rdJ_wd, wrJ_wd, wd_31, wd_le, wd_lt, wd_inj, wd_eqm, wd_eqm', wd_ltm, wd_lem, wd_ltm2, wd_lem2, wd_bit0', wd_bit1', wd_shl, wd_or, wd_dif, i01_t, i01_f, jd_lit, i01_bz, bz_1, bz_0, f_X11_refuse, f_X11_answer, f_X11_allow, f_X11_deny, f_X12_refuse, f_X12_gives, f_X12_is, Option.some.injEq, exists_eq', if_true, if_false, ↓reduceIte, Nat.reduceEqDiff, Nat.reduceLT, Nat.reduceAdd, Nat.not_lt_zero, Nat.zero_le]
  have c1' : ¬ n < p + k := by omega
  by_cases c2 : q + k ≤ n'
  case neg =>
    refine ⟨wd 0, wd 3, _, tr, by simp (disch := omega) only [pG, em, gm, es', gS', en, gN, c_hasP, c1, c2, decide_true, decide_false, wd_lit, wd_of, wd_add, wd_mul, wd_neg, Option.bind_some, bnd, rdI_wd, wrI_wd, rdJ_wd, wrJ_wd, wd_31, wd_le, wd_lt, wd_inj, wd_eqm, wd_eqm', wd_ltm, wd_lem, wd_ltm2, wd_lem2, wd_bit0', wd_bit1', wd_shl, wd_or, wd_dif, i01_t, i01_f, jd_lit, i01_bz, bz_1, bz_0, f_X11_refuse, f_X11_answer, f_X11_allow, f_X11_deny, f_X12_refuse, f_X12_gives, f_X12_is, Option.some.injEq, exists_eq', if_true, if_false, ↓reduceIte, Nat.reduceEqDiff, Nat.reduceLT, Nat.reduceAdd, Nat.not_lt_zero, Nat.zero_le], ?_, h2', fun _ _ => rfl⟩
    rw [r_pour_e ht hu]; simp (disch := omega) only [rG, ea, ga, es, gS, wd_sublt, wd_lesub, c1', c2, wd_lit, wd_of, wd_add, wd_mul, wd_neg, Option.bind_some, bnd, rdI_wd, wrI_wd, rdJ_wd, wrJ_wd, wd_31, wd_le, wd_lt, wd_inj, wd_eqm, wd_eqm', wd_ltm, wd_lem, wd_ltm2, wd_lem2, wd_bit0', wd_bit1', wd_shl, wd_or, wd_dif, i01_t, i01_f, jd_lit, i01_bz, bz_1, bz_0, f_X11_refuse, f_X11_answer, f_X11_allow, f_X11_deny, f_X12_refuse, f_X12_gives, f_X12_is, Option.some.injEq, exists_eq', if_true, if_false, ↓reduceIte, Nat.reduceEqDiff, Nat.reduceLT, Nat.reduceAdd, Nat.not_lt_zero, Nat.zero_le]
  refine ⟨wd 1, wd 0, va_cpy (vX8_row yt) (vX8_row yu) p q k, va_cpy tr tr (60 * t + p) (60 * u + q) k, ?_, ?_, Or.inr ⟨gm, n', s, gn, gs, ga, gN, gS, gS', fun j hj => pour_r hr gr c1 hj⟩, fun j hj => if_neg (by omega)⟩
  · simp (disch := omega) only [pG, em, en, gm, gN, es', gS', c_hasP, c1, c2, decide_true, cpJ_wd, wd_lit, wd_of, wd_add, wd_mul, wd_neg, Option.bind_some, bnd, rdI_wd, wrI_wd, rdJ_wd, wrJ_wd, wd_31, wd_le, wd_lt, wd_inj, wd_eqm, wd_eqm', wd_ltm, wd_lem, wd_ltm2, wd_lem2, wd_bit0', wd_bit1', wd_shl, wd_or, wd_dif, i01_t, i01_f, jd_lit, i01_bz, bz_1, bz_0, f_X11_refuse, f_X11_answer, f_X11_allow, f_X11_deny, f_X12_refuse, f_X12_gives, f_X12_is, Option.some.injEq, exists_eq', if_true, if_false, ↓reduceIte, Nat.reduceEqDiff, Nat.reduceLT, Nat.reduceAdd, Nat.not_lt_zero, Nat.zero_le]
  · rw [r_pour_e ht hu]; simp (disch := omega) only [rG, ea, es, ga, gS, wd_sublt, wd_lesub, c1', c2, r_pourL ht hu (show p + k ≤ 60 by omega) (show q + k ≤ 60 by omega) hf, wd_lit, wd_of, wd_add, wd_mul, wd_neg, Option.bind_some, bnd, rdI_wd, wrI_wd, rdJ_wd, wrJ_wd, wd_31, wd_le, wd_lt, wd_inj, wd_eqm, wd_eqm', wd_ltm, wd_lem, wd_ltm2, wd_lem2, wd_bit0', wd_bit1', wd_shl, wd_or, wd_dif, i01_t, i01_f, jd_lit, i01_bz, bz_1, bz_0, f_X11_refuse, f_X11_answer, f_X11_allow, f_X11_deny, f_X12_refuse, f_X12_gives, f_X12_is, Option.some.injEq, exists_eq', if_true, if_false, ↓reduceIte, Nat.reduceEqDiff, Nat.reduceLT, Nat.reduceAdd, Nat.not_lt_zero, Nat.zero_le]
theorem t_pG {fu t u : Nat} {yt yu : tX8} {srt tm : Nat → Int32} {tr : Nat → Int64} {st x2 x4 x5 : Int32} (ht : t < 4) (hu : u < 4) (h1 : RY yt (srt t) (tm t) (shJ (60 * t) tr)) (h2 : RY yu (srt u) (tm u) (shJ (60 * u) tr)) (hf : 1000 ≤ fu) : ∃ r st1 row tr', pG fu (vX8_row yt) (vX8_missing yt) (vX8_sort yt) (vX8_many yt) (vX8_row yu) (vX8_missing yu) (vX8_sort yu) (vX8_many yu) x2 x4 x5 = some (r, st1, row) ∧ f_X12_pour fu st srt tm tr (wd t) x2 (wd u) x4 x5 = some (r, st1, tr') ∧ RY (row, vX8_missing yu, vX8_sort yu, vX8_many yu) (srt u) (tm u) (shJ (60 * u) tr') ∧ ∀ k, k < 60 * u ∨ 60 * u + 60 ≤ k → tr' k = tr k := by
  by_cases b1 : x2 < wd 0
  · refine ⟨wd 0, wd 1, _, tr, by simp only [pG, wd_lit, b1, if_true], ?_, h2, fun _ _ => rfl⟩
    rw [r_pour_e ht hu]; simp (disch := omega) only [rG, b1, wd_lit, wd_of, wd_add, wd_mul, wd_neg, Option.bind_some, bnd, rdI_wd, wrI_wd, rdJ_wd, wrJ_wd, wd_31, wd_le, wd_lt, wd_inj, wd_eqm, wd_eqm', wd_ltm, wd_lem, wd_ltm2, wd_lem2, wd_bit0', wd_bit1', wd_shl, wd_or, wd_dif, i01_t, i01_f, jd_lit, i01_bz, bz_1, bz_0, f_X11_refuse, f_X11_answer, f_X11_allow, f_X11_deny, f_X12_refuse, f_X12_gives, f_X12_is, Option.some.injEq, exists_eq', if_true, if_false, ↓reduceIte, Nat.reduceEqDiff, Nat.reduceLT, Nat.reduceAdd]
  by_cases b2 : x4 < wd 0
  · refine ⟨wd 0, wd 1, _, tr, by simp only [pG, wd_lit, b1, b2, if_true, if_false], ?_, h2, fun _ _ => rfl⟩
    rw [r_pour_e ht hu]; simp (disch := omega) only [rG, b1, b2, wd_lit, wd_of, wd_add, wd_mul, wd_neg, Option.bind_some, bnd, rdI_wd, wrI_wd, rdJ_wd, wrJ_wd, wd_31, wd_le, wd_lt, wd_inj, wd_eqm, wd_eqm', wd_ltm, wd_lem, wd_ltm2, wd_lem2, wd_bit0', wd_bit1', wd_shl, wd_or, wd_dif, i01_t, i01_f, jd_lit, i01_bz, bz_1, bz_0, f_X11_refuse, f_X11_answer, f_X11_allow, f_X11_deny, f_X12_refuse, f_X12_gives, f_X12_is, Option.some.injEq, exists_eq', if_true, if_false, ↓reduceIte, Nat.reduceEqDiff, Nat.reduceLT, Nat.reduceAdd]
  by_cases b3 : x5 < wd 0
  · have b3' := Int32.not_le.2 b3
    refine ⟨wd 0, wd 1, _, tr, by simp only [pG, wd_lit, b1, b2, b3', if_true, if_false], ?_, h2, fun _ _ => rfl⟩
    rw [r_pour_e ht hu]; simp (disch := omega) only [rG, b1, b2, b3', wd_lit, wd_of, wd_add, wd_mul, wd_neg, Option.bind_some, bnd, rdI_wd, wrI_wd, rdJ_wd, wrJ_wd, wd_31, wd_le, wd_lt, wd_inj, wd_eqm, wd_eqm', wd_ltm, wd_lem, wd_ltm2, wd_lem2, wd_bit0', wd_bit1', wd_shl, wd_or, wd_dif, i01_t, i01_f, jd_lit, i01_bz, bz_1, bz_0, f_X11_refuse, f_X11_answer, f_X11_allow, f_X11_deny, f_X12_refuse, f_X12_gives, f_X12_is, Option.some.injEq, exists_eq', if_true, if_false, ↓reduceIte, Nat.reduceEqDiff, Nat.reduceLT, Nat.reduceAdd]
  obtain ⟨p, hp, rfl⟩ := wd_ex b1
  obtain ⟨q, hq, rfl⟩ := wd_ex b2
  obtain ⟨k, hk, rfl⟩ := wd_ex b3
  exact t_pGn hp hq hk ht hu h1 h2 hf
theorem r_pour_n {fu : Nat} {srt tm : Nat → Int32} {tr : Nat → Int64} {st x1 x2 x3 x4 x5 : Int32} (h : imn 4 x1 = false ∨ imn 4 x3 = false) : f_X12_pour fu st srt tm tr x1 x2 x3 x4 x5 = some (wd 0, wd 1, tr) := by
  unfold f_X12_pour
  rw [r_isTray, r_isTray]
  cases h1 : imn 4 x1
  · rfl
  · rw [h1] at h
    rcases h with h | h
    · cases h
    · rw [h]; rfl
theorem Q1_pour {fu : Nat} (hf : 1000 ≤ fu) : Q_pour fu RR := by
  intro S M x1 x2 x3 x4 x5 h
  have hy := h.2.1
  cases q0 : imn 4 x1
  · exact q_of (bind_e (pG_n (imn4 q0))) (bind_e (r_pour_n (Or.inl q0))) ⟨⟨rfl, h.1.2⟩, h.2⟩
  · obtain ⟨t, ht, rfl⟩ := imn_ex (by omega) q0
    cases q1 : imn 4 x3
    · obtain rfl | rfl | rfl | rfl : t = 0 ∨ t = 1 ∨ t = 2 ∨ t = 3 := by omega
      · exact q_of (bind_e (pG_0n (imn4 q1))) (bind_e (r_pour_n (Or.inr q1))) ⟨⟨rfl, h.1.2⟩, h.2⟩
      · exact q_of (bind_e (pG_1n (imn4 q1))) (bind_e (r_pour_n (Or.inr q1))) ⟨⟨rfl, h.1.2⟩, h.2⟩
      · exact q_of (bind_e (pG_2n (imn4 q1))) (bind_e (r_pour_n (Or.inr q1))) ⟨⟨rfl, h.1.2⟩, h.2⟩
      · exact q_of (bind_e (pG_3n (imn4 q1))) (bind_e (r_pour_n (Or.inr q1))) ⟨⟨rfl, h.1.2⟩, h.2⟩
    · obtain ⟨u, hu, rfl⟩ := imn_ex (by omega) q1
      obtain rfl | rfl | rfl | rfl : t = 0 ∨ t = 1 ∨ t = 2 ∨ t = 3 := by omega
      · obtain rfl | rfl | rfl | rfl : u = 0 ∨ u = 1 ∨ u = 2 ∨ u = 3 := by omega
        · obtain ⟨r, st1, row, tr', e1, e2, h3, h4⟩ := t_pG (st := vX12_status M) (x2 := x2) (x4 := x4) (x5 := x5) (yt := S_y0 S) (yu := S_y0 S) (show 0 < 4 by omega) (show 0 < 4 by omega) hy.1 hy.1 hf
          refine q_of (bind_e (pG_00.trans (bind_e e1))) (bind_e e2) ⟨⟨rfl, h.1.2⟩, ⟨h3, hy.2.1.fr (fun k hk => h4 _ (by omega)), hy.2.2.1.fr (fun k hk => h4 _ (by omega)), hy.2.2.2.fr (fun k hk => h4 _ (by omega))⟩, h.2.2⟩
        · obtain ⟨r, st1, row, tr', e1, e2, h3, h4⟩ := t_pG (st := vX12_status M) (x2 := x2) (x4 := x4) (x5 := x5) (yt := S_y0 S) (yu := S_y1 S) (show 0 < 4 by omega) (show 1 < 4 by omega) hy.1 hy.2.1 hf
          refine q_of (bind_e (pG_01.trans (bind_e e1))) (bind_e e2) ⟨⟨rfl, h.1.2⟩, ⟨hy.1.fr (fun k hk => h4 _ (by omega)), h3, hy.2.2.1.fr (fun k hk => h4 _ (by omega)), hy.2.2.2.fr (fun k hk => h4 _ (by omega))⟩, h.2.2⟩
        · obtain ⟨r, st1, row, tr', e1, e2, h3, h4⟩ := t_pG (st := vX12_status M) (x2 := x2) (x4 := x4) (x5 := x5) (yt := S_y0 S) (yu := S_y2 S) (show 0 < 4 by omega) (show 2 < 4 by omega) hy.1 hy.2.2.1 hf
          refine q_of (bind_e (pG_02.trans (bind_e e1))) (bind_e e2) ⟨⟨rfl, h.1.2⟩, ⟨hy.1.fr (fun k hk => h4 _ (by omega)), hy.2.1.fr (fun k hk => h4 _ (by omega)), h3, hy.2.2.2.fr (fun k hk => h4 _ (by omega))⟩, h.2.2⟩
        · obtain ⟨r, st1, row, tr', e1, e2, h3, h4⟩ := t_pG (st := vX12_status M) (x2 := x2) (x4 := x4) (x5 := x5) (yt := S_y0 S) (yu := S_y3 S) (show 0 < 4 by omega) (show 3 < 4 by omega) hy.1 hy.2.2.2 hf
          refine q_of (bind_e (pG_03.trans (bind_e e1))) (bind_e e2) ⟨⟨rfl, h.1.2⟩, ⟨hy.1.fr (fun k hk => h4 _ (by omega)), hy.2.1.fr (fun k hk => h4 _ (by omega)), hy.2.2.1.fr (fun k hk => h4 _ (by omega)), h3⟩, h.2.2⟩
      · obtain rfl | rfl | rfl | rfl : u = 0 ∨ u = 1 ∨ u = 2 ∨ u = 3 := by omega
        · obtain ⟨r, st1, row, tr', e1, e2, h3, h4⟩ := t_pG (st := vX12_status M) (x2 := x2) (x4 := x4) (x5 := x5) (yt := S_y1 S) (yu := S_y0 S) (show 1 < 4 by omega) (show 0 < 4 by omega) hy.2.1 hy.1 hf
          refine q_of (bind_e (pG_10.trans (bind_e e1))) (bind_e e2) ⟨⟨rfl, h.1.2⟩, ⟨h3, hy.2.1.fr (fun k hk => h4 _ (by omega)), hy.2.2.1.fr (fun k hk => h4 _ (by omega)), hy.2.2.2.fr (fun k hk => h4 _ (by omega))⟩, h.2.2⟩
        · obtain ⟨r, st1, row, tr', e1, e2, h3, h4⟩ := t_pG (st := vX12_status M) (x2 := x2) (x4 := x4) (x5 := x5) (yt := S_y1 S) (yu := S_y1 S) (show 1 < 4 by omega) (show 1 < 4 by omega) hy.2.1 hy.2.1 hf
          refine q_of (bind_e (pG_11.trans (bind_e e1))) (bind_e e2) ⟨⟨rfl, h.1.2⟩, ⟨hy.1.fr (fun k hk => h4 _ (by omega)), h3, hy.2.2.1.fr (fun k hk => h4 _ (by omega)), hy.2.2.2.fr (fun k hk => h4 _ (by omega))⟩, h.2.2⟩
        · obtain ⟨r, st1, row, tr', e1, e2, h3, h4⟩ := t_pG (st := vX12_status M) (x2 := x2) (x4 := x4) (x5 := x5) (yt := S_y1 S) (yu := S_y2 S) (show 1 < 4 by omega) (show 2 < 4 by omega) hy.2.1 hy.2.2.1 hf
          refine q_of (bind_e (pG_12.trans (bind_e e1))) (bind_e e2) ⟨⟨rfl, h.1.2⟩, ⟨hy.1.fr (fun k hk => h4 _ (by omega)), hy.2.1.fr (fun k hk => h4 _ (by omega)), h3, hy.2.2.2.fr (fun k hk => h4 _ (by omega))⟩, h.2.2⟩
        · obtain ⟨r, st1, row, tr', e1, e2, h3, h4⟩ := t_pG (st := vX12_status M) (x2 := x2) (x4 := x4) (x5 := x5) (yt := S_y1 S) (yu := S_y3 S) (show 1 < 4 by omega) (show 3 < 4 by omega) hy.2.1 hy.2.2.2 hf
          refine q_of (bind_e (pG_13.trans (bind_e e1))) (bind_e e2) ⟨⟨rfl, h.1.2⟩, ⟨hy.1.fr (fun k hk => h4 _ (by omega)), hy.2.1.fr (fun k hk => h4 _ (by omega)), hy.2.2.1.fr (fun k hk => h4 _ (by omega)), h3⟩, h.2.2⟩
      · obtain rfl | rfl | rfl | rfl : u = 0 ∨ u = 1 ∨ u = 2 ∨ u = 3 := by omega
        · obtain ⟨r, st1, row, tr', e1, e2, h3, h4⟩ := t_pG (st := vX12_status M) (x2 := x2) (x4 := x4) (x5 := x5) (yt := S_y2 S) (yu := S_y0 S) (show 2 < 4 by omega) (show 0 < 4 by omega) hy.2.2.1 hy.1 hf
          refine q_of (bind_e (pG_20.trans (bind_e e1))) (bind_e e2) ⟨⟨rfl, h.1.2⟩, ⟨h3, hy.2.1.fr (fun k hk => h4 _ (by omega)), hy.2.2.1.fr (fun k hk => h4 _ (by omega)), hy.2.2.2.fr (fun k hk => h4 _ (by omega))⟩, h.2.2⟩
        · obtain ⟨r, st1, row, tr', e1, e2, h3, h4⟩ := t_pG (st := vX12_status M) (x2 := x2) (x4 := x4) (x5 := x5) (yt := S_y2 S) (yu := S_y1 S) (show 2 < 4 by omega) (show 1 < 4 by omega) hy.2.2.1 hy.2.1 hf
          refine q_of (bind_e (pG_21.trans (bind_e e1))) (bind_e e2) ⟨⟨rfl, h.1.2⟩, ⟨hy.1.fr (fun k hk => h4 _ (by omega)), h3, hy.2.2.1.fr (fun k hk => h4 _ (by omega)), hy.2.2.2.fr (fun k hk => h4 _ (by omega))⟩, h.2.2⟩
        · obtain ⟨r, st1, row, tr', e1, e2, h3, h4⟩ := t_pG (st := vX12_status M) (x2 := x2) (x4 := x4) (x5 := x5) (yt := S_y2 S) (yu := S_y2 S) (show 2 < 4 by omega) (show 2 < 4 by omega) hy.2.2.1 hy.2.2.1 hf
          refine q_of (bind_e (pG_22.trans (bind_e e1))) (bind_e e2) ⟨⟨rfl, h.1.2⟩, ⟨hy.1.fr (fun k hk => h4 _ (by omega)), hy.2.1.fr (fun k hk => h4 _ (by omega)), h3, hy.2.2.2.fr (fun k hk => h4 _ (by omega))⟩, h.2.2⟩
        · obtain ⟨r, st1, row, tr', e1, e2, h3, h4⟩ := t_pG (st := vX12_status M) (x2 := x2) (x4 := x4) (x5 := x5) (yt := S_y2 S) (yu := S_y3 S) (show 2 < 4 by omega) (show 3 < 4 by omega) hy.2.2.1 hy.2.2.2 hf
          refine q_of (bind_e (pG_23.trans (bind_e e1))) (bind_e e2) ⟨⟨rfl, h.1.2⟩, ⟨hy.1.fr (fun k hk => h4 _ (by omega)), hy.2.1.fr (fun k hk => h4 _ (by omega)), hy.2.2.1.fr (fun k hk => h4 _ (by omega)), h3⟩, h.2.2⟩
      · obtain rfl | rfl | rfl | rfl : u = 0 ∨ u = 1 ∨ u = 2 ∨ u = 3 := by omega
        · obtain ⟨r, st1, row, tr', e1, e2, h3, h4⟩ := t_pG (st := vX12_status M) (x2 := x2) (x4 := x4) (x5 := x5) (yt := S_y3 S) (yu := S_y0 S) (show 3 < 4 by omega) (show 0 < 4 by omega) hy.2.2.2 hy.1 hf
          refine q_of (bind_e (pG_30.trans (bind_e e1))) (bind_e e2) ⟨⟨rfl, h.1.2⟩, ⟨h3, hy.2.1.fr (fun k hk => h4 _ (by omega)), hy.2.2.1.fr (fun k hk => h4 _ (by omega)), hy.2.2.2.fr (fun k hk => h4 _ (by omega))⟩, h.2.2⟩
        · obtain ⟨r, st1, row, tr', e1, e2, h3, h4⟩ := t_pG (st := vX12_status M) (x2 := x2) (x4 := x4) (x5 := x5) (yt := S_y3 S) (yu := S_y1 S) (show 3 < 4 by omega) (show 1 < 4 by omega) hy.2.2.2 hy.2.1 hf
          refine q_of (bind_e (pG_31.trans (bind_e e1))) (bind_e e2) ⟨⟨rfl, h.1.2⟩, ⟨hy.1.fr (fun k hk => h4 _ (by omega)), h3, hy.2.2.1.fr (fun k hk => h4 _ (by omega)), hy.2.2.2.fr (fun k hk => h4 _ (by omega))⟩, h.2.2⟩
        · obtain ⟨r, st1, row, tr', e1, e2, h3, h4⟩ := t_pG (st := vX12_status M) (x2 := x2) (x4 := x4) (x5 := x5) (yt := S_y3 S) (yu := S_y2 S) (show 3 < 4 by omega) (show 2 < 4 by omega) hy.2.2.2 hy.2.2.1 hf
          refine q_of (bind_e (pG_32.trans (bind_e e1))) (bind_e e2) ⟨⟨rfl, h.1.2⟩, ⟨hy.1.fr (fun k hk => h4 _ (by omega)), hy.2.1.fr (fun k hk => h4 _ (by omega)), h3, hy.2.2.2.fr (fun k hk => h4 _ (by omega))⟩, h.2.2⟩
        · obtain ⟨r, st1, row, tr', e1, e2, h3, h4⟩ := t_pG (st := vX12_status M) (x2 := x2) (x4 := x4) (x5 := x5) (yt := S_y3 S) (yu := S_y3 S) (show 3 < 4 by omega) (show 3 < 4 by omega) hy.2.2.2 hy.2.2.2 hf
          refine q_of (bind_e (pG_33.trans (bind_e e1))) (bind_e e2) ⟨⟨rfl, h.1.2⟩, ⟨hy.1.fr (fun k hk => h4 _ (by omega)), hy.2.1.fr (fun k hk => h4 _ (by omega)), hy.2.2.1.fr (fun k hk => h4 _ (by omega)), h3⟩, h.2.2⟩
