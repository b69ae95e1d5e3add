theorem Q1_fault {fu : Nat} : Q_fault fu RR := by
  intro S M x1 h
  have e1 := h.2.2.2.2.2.1.1
  have e2 := h.2.2.2.2.2.1.2
  have key : ∃ r, f_X11_fault fu (vX6_fault (S_r S)) (vX6_place (S_r S)) x1 = some r ∧ f_X12_fault fu (vX12_faultKind M) (vX12_faultPlace M) x1 = some r := by
    unfold f_X11_fault f_X12_fault
    rw [e1, e2]
    by_cases h0 : x1 = 0
    · rw [if_pos h0]; exact ⟨_, rfl, rfl⟩
    · rw [if_neg h0]
      by_cases h1 : x1 = 1
      · rw [if_pos h1]; exact ⟨_, rfl, rfl⟩
      · rw [if_neg h1]; exact ⟨_, rfl, rfl⟩
  obtain ⟨r, e1, e2⟩ := key
  exact q_of (bind_e e1) (bind_e e2) h
theorem Q1_lived {fu : Nat} (hf : 1000 ≤ fu) : Q_lived fu RR := by
  intro S M x1 h
  have hd := h.2.2.2.2.2.2.1
  cases q0 : wn 0 4 x1
  · refine q_of (r := nn) (bind_e (z := (nn, wd 1)) ?_) (bind_e (z := (nn, wd 1)) ?_) ⟨⟨rfl, h.1.2⟩, h.2⟩
    · simp (disch := omega) only [f_X11_lived, c_within, q0, wd_lit, wd_of, wd_add, wd_mul, wd_neg, Option.bind_some, bnd, rdI_wd, wrI_wd, rdJ_wd, wrJ_wd, wd_31, wd_le, wd_lt, wd_inj, wd_eqm, wd_eqm', wd_ltm, wd_lem, wd_ltm2, wd_lem2, wd_bit0', wd_bit1', wd_shl, wd_or, wd_dif, i01_t, i01_f, jd_lit, i01_bz, bz_1, bz_0, f_X11_refuse, f_X11_answer, f_X11_allow, f_X11_deny, f_X12_refuse, f_X12_gives, f_X12_is, Option.some.injEq, exists_eq', if_true, if_false, ↓reduceIte, Nat.reduceEqDiff, Nat.reduceLT, Nat.reduceAdd]
    · simp (disch := omega) only [f_X12_lived, wd_lit, wd_of, wd_add, wd_mul, wd_neg, Option.bind_some, bnd, rdI_wd, wrI_wd, rdJ_wd, wrJ_wd, wd_31, wd_le, wd_lt, wd_inj, wd_eqm, wd_eqm', wd_ltm, wd_lem, wd_ltm2, wd_lem2, wd_bit0', wd_bit1', wd_shl, wd_or, wd_dif, i01_t, i01_f, jd_lit, i01_bz, bz_1, bz_0, f_X11_refuse, f_X11_answer, f_X11_allow, f_X11_deny, f_X12_refuse, f_X12_gives, f_X12_is, Option.some.injEq, exists_eq', if_true, if_false, ↓reduceIte, Nat.reduceEqDiff, Nat.reduceLT, Nat.reduceAdd]
      simp only [wn, decide_eq_false_iff_not] at q0
      by_cases a1 : x1 < wd 0
      · rw [if_pos a1]
      · rw [if_neg a1, if_neg (fun h2 => q0 ⟨Int32.not_lt.1 a1, h2⟩)]
  · obtain ⟨k, hk0, hk, rfl⟩ := wn_ex (by omega) (by omega) q0
    have n0 : ¬ k < 0 := by omega
    rcases hd with ⟨d1, d2⟩ | ⟨d1, d2, d3, d4, d5, d6, d7⟩
    · refine q_of (r := nn) (bind_e (z := (nn, wd 6)) ?_) (bind_e (z := (nn, wd 6)) ?_) ⟨⟨rfl, h.1.2⟩, h.2⟩ <;> simp (disch := omega) only [f_X11_lived, f_X12_lived, c_within, q0, d1, d2, n0, hk, wd_lit, wd_of, wd_add, wd_mul, wd_neg, Option.bind_some, bnd, rdI_wd, wrI_wd, rdJ_wd, wrJ_wd, wd_31, wd_le, wd_lt, wd_inj, wd_eqm, wd_eqm', wd_ltm, wd_lem, wd_ltm2, wd_lem2, wd_bit0', wd_bit1', wd_shl, wd_or, wd_dif, i01_t, i01_f, jd_lit, i01_bz, bz_1, bz_0, f_X11_refuse, f_X11_answer, f_X11_allow, f_X11_deny, f_X12_refuse, f_X12_gives, f_X12_is, Option.some.injEq, exists_eq', if_true, if_false, ↓reduceIte, Nat.reduceEqDiff, Nat.reduceLT, Nat.reduceAdd]
    · have key : f_X2_report fu (vX2_missed (S_l S)) (vX2_stood (S_l S)) (vX2_fled (S_l S)) (vX2_pinned (S_l S)) (vX2_left (S_l S)) (wd k) = some (vX12_told1 M k) := by
        unfold f_X2_report
        simp (disch := omega) only [wd_lit, wd_inj, d3, d4, d5, d6, d7]
        obtain rfl | rfl | rfl | rfl | rfl : k = 0 ∨ k = 1 ∨ k = 2 ∨ k = 3 ∨ k = 4 := by omega
        all_goals simp
      refine q_of (r := vX12_told1 M k) (bind_e (z := (vX12_told1 M k, wd 0)) ?_) (bind_e (z := (vX12_told1 M k, wd 0)) ?_) ⟨⟨rfl, h.1.2⟩, h.2⟩ <;> simp (disch := omega) only [f_X11_lived, f_X12_lived, c_within, q0, d1, d2, n0, hk, key, wd_lit, wd_of, wd_add, wd_mul, wd_neg, Option.bind_some, bnd, rdI_wd, wrI_wd, rdJ_wd, wrJ_wd, wd_31, wd_le, wd_lt, wd_inj, wd_eqm, wd_eqm', wd_ltm, wd_lem, wd_ltm2, wd_lem2, wd_bit0', wd_bit1', wd_shl, wd_or, wd_dif, i01_t, i01_f, jd_lit, i01_bz, bz_1, bz_0, f_X11_refuse, f_X11_answer, f_X11_allow, f_X11_deny, f_X12_refuse, f_X12_gives, f_X12_is, Option.some.injEq, exists_eq', if_true, if_false, ↓reduceIte, Nat.reduceEqDiff, Nat.reduceLT, Nat.reduceAdd]
/-! bytes -/
def bt (v : Int32) (s : Nat) : Int32 := vp_nar .byte ((Int32.toInt8 (v >>> wd s)).toInt32)
theorem sb_all : ∀ j, j < 256 → vp_nar .byte ((Int8.ofNat j).toInt32) = sb j := by decide +kernel
theorem bt_sb (v : Int32) (s : Nat) : ∃ j, j < 256 ∧ bt v s = sb j := by
  unfold bt
  generalize Int32.toInt8 (v >>> wd s) = z
  refine ⟨z.toBitVec.toNat, z.toBitVec.isLt, ?_⟩
  rw [← sb_all _ z.toBitVec.isLt]
  congr 2
  apply Int8.toBitVec_inj.1
  simp
def b4 (f : Nat → Int32) (n : Nat) (v : Int32) : Nat → Int32 := upd (upd (upd (upd f n (bt v 24)) (n + 1) (bt v 16)) (n + 2) (bt v 8)) (n + 3) (bt v 0)
theorem e24 : wd 24 + -wd 8 = wd 16 := by decide
theorem e16 : wd 16 + -wd 8 = wd 8 := by decide
theorem e08 : wd 8 + -wd 8 = wd 0 := by decide
theorem e00 : wd 0 + -wd 8 = -wd 8 := by decide
theorem en8 : (-wd 8 < wd 0) = True := by decide
theorem c_four {fu n : Nat} {f : Nat → Int32} {v : Int32} (hn : n + 4 ≤ 900) (hf : 1000 ≤ fu) : f_X7_appendFour fu f (wd n) v = some (b4 f n v, wd (n + 4)) := by
  unfold f_X7_appendFour
  have key : ∀ m, f_X7_appendFour_l3 fu v (m + 5) f (wd n) 24 = some (b4 f n v, wd (n + 4)) := by
    intro m
    have i0 : ¬ 900 ≤ n := by omega
    have i1 : ¬ 900 ≤ n + 1 := by omega
    have i2 : ¬ 900 ≤ n + 1 + 1 := by omega
    have i3 : ¬ 900 ≤ n + 1 + 1 + 1 := by omega
    simp (disch := omega) only [f_X7_appendFour_l3, f_X7_appendFour_b3, wd_lit, wd_of, wd_add, wd_mul, wd_neg, Option.bind_some, bnd, rdI_wd, wrI_wd, rdJ_wd, wrJ_wd, wd_31, wd_le, wd_lt, wd_inj, wd_eqm, wd_eqm', wd_ltm, wd_lem, wd_ltm2, wd_lem2, wd_bit0', wd_bit1', wd_shl, wd_or, wd_dif, e24, e16, e08, e00, en8, i0, i1, i2, i3, if_true, if_false, Nat.not_lt_zero, Nat.lt_irrefl]
    rfl
  obtain ⟨m, rfl⟩ : ∃ m, fu = m + 5 := ⟨fu - 5, by omega⟩
  exact key m
theorem r_four {fu n : Nat} {f : Nat → Int32} {v : Int32} (hn : n + 4 ≤ 900) (hf : 1000 ≤ fu) : f_X12_four fu f (wd n) v = some (b4 f n v, wd (n + 4)) := by
  unfold f_X12_four
  have key : ∀ m, f_X12_four_l3 fu v (m + 5) f (wd n) 24 = some (b4 f n v, wd (n + 4)) := by
    intro m
    simp (disch := omega) only [f_X12_four_l3, f_X12_four_b3, wd_lit, wd_of, wd_add, wd_mul, wd_neg, Option.bind_some, bnd, rdI_wd, wrI_wd, rdJ_wd, wrJ_wd, wd_31, wd_le, wd_lt, wd_inj, wd_eqm, wd_eqm', wd_ltm, wd_lem, wd_ltm2, wd_lem2, wd_bit0', wd_bit1', wd_shl, wd_or, wd_dif, e24, e16, e08, e00, en8, if_true, if_false, Nat.not_lt_zero, Nat.lt_irrefl]
    rfl
  obtain ⟨m, rfl⟩ : ∃ m, fu = m + 5 := ⟨fu - 5, by omega⟩
  exact key m
theorem b4_tp {f g : Nat → Int32} {n : Nat} {v : Int32} (h : ∀ k, k < n → f k = g k ∧ ∃ j, j < 256 ∧ g k = sb j) : ∀ k, k < n + 4 → b4 f n v k = b4 g n v k ∧ ∃ j, j < 256 ∧ b4 g n v k = sb j := by
  intro k hk
  have e : ∀ f : Nat → Int32, b4 f n v k = if k = n + 3 then bt v 0 else if k = n + 2 then bt v 8 else if k = n + 1 then bt v 16 else if k = n then bt v 24 else f k := fun f => rfl
  rw [e, e]
  by_cases h3 : k = n + 3
  · simp only [if_pos h3]; exact ⟨trivial, bt_sb v 0⟩
  simp only [if_neg h3]
  by_cases h2 : k = n + 2
  · simp only [if_pos h2]; exact ⟨trivial, bt_sb v 8⟩
  simp only [if_neg h2]
  by_cases h1 : k = n + 1
  · simp only [if_pos h1]; exact ⟨trivial, bt_sb v 16⟩
  simp only [if_neg h1]
  by_cases h0 : k = n
  · simp only [if_pos h0]; exact ⟨trivial, bt_sb v 24⟩
  simp only [if_neg h0]
  exact h k (by omega)
theorem Q1_feed {fu : Nat} (hf : 1000 ≤ fu) : Q_feed fu RR := by
  intro S M x1 x2 x3 x4 x5 h
  obtain ⟨n, hn, en, en', ht⟩ := h.2.2.2.2.1
  by_cases q : n ≤ 880
  · have q' : n + 20 ≤ 900 := by omega
    refine q_of (r := wd (n + 4 + 4 + 4 + 4 + 4)) (bind_e (z := (wd (n + 4 + 4 + 4 + 4 + 4), b4 (b4 (b4 (b4 (b4 (vX7_bytes (S_t S)) n x1) (n + 4) x2) (n + 4 + 4) x3) (n + 4 + 4 + 4) x4) (n + 4 + 4 + 4 + 4) x5, wd (n + 4 + 4 + 4 + 4 + 4))) ?_) (bind_e (z := (wd (n + 4 + 4 + 4 + 4 + 4), b4 (b4 (b4 (b4 (b4 (vX12_tape M) n x1) (n + 4) x2) (n + 4 + 4) x3) (n + 4 + 4 + 4) x4) (n + 4 + 4 + 4 + 4) x5, wd (n + 4 + 4 + 4 + 4 + 4))) ?_) ⟨h.1, h.2.1, h.2.2.1, h.2.2.2.1, ⟨n + 4 + 4 + 4 + 4 + 4, by omega, rfl, rfl, b4_tp (b4_tp (b4_tp (b4_tp (b4_tp ht))))⟩, h.2.2.2.2.2⟩
    · simp (disch := omega) only [f_X11_feed, f_X7_append, en, c_four, q, wd_lit, wd_of, wd_add, wd_mul, wd_neg, Option.bind_some, bnd, rdI_wd, wrI_wd, rdJ_wd, wrJ_wd, wd_31, wd_le, wd_lt, wd_inj, wd_eqm, wd_eqm', wd_ltm, wd_lem, wd_ltm2, wd_lem2, wd_bit0', wd_bit1', wd_shl, wd_or, wd_dif, i01_t, i01_f, jd_lit, i01_bz, bz_1, bz_0, f_X11_refuse, f_X11_answer, f_X11_allow, f_X11_deny, f_X12_refuse, f_X12_gives, f_X12_is, Option.some.injEq, exists_eq', if_true, if_false, ↓reduceIte, Nat.reduceEqDiff, Nat.reduceLT, Nat.reduceAdd]
    · simp (disch := omega) only [f_X12_feed, en', r_four, q', wd_lit, wd_of, wd_add, wd_mul, wd_neg, Option.bind_some, bnd, rdI_wd, wrI_wd, rdJ_wd, wrJ_wd, wd_31, wd_le, wd_lt, wd_inj, wd_eqm, wd_eqm', wd_ltm, wd_lem, wd_ltm2, wd_lem2, wd_bit0', wd_bit1', wd_shl, wd_or, wd_dif, i01_t, i01_f, jd_lit, i01_bz, bz_1, bz_0, f_X11_refuse, f_X11_answer, f_X11_allow, f_X11_deny, f_X12_refuse, f_X12_gives, f_X12_is, Option.some.injEq, exists_eq', if_true, if_false, ↓reduceIte, Nat.reduceEqDiff, Nat.reduceLT, Nat.reduceAdd]
  · have q' : ¬ n + 20 ≤ 900 := by omega
    refine q_of (r := nn) (bind_e (z := (nn, vX7_bytes (S_t S), wd n)) ?_) (bind_e (z := (nn, vX12_tape M, wd n)) ?_) ⟨h.1, h.2.1, h.2.2.1, h.2.2.2.1, ⟨n, hn, rfl, rfl, ht⟩, h.2.2.2.2.2⟩
    · simp (disch := omega) only [f_X11_feed, f_X7_append, en, q, wd_lit, wd_of, wd_add, wd_mul, wd_neg, Option.bind_some, bnd, rdI_wd, wrI_wd, rdJ_wd, wrJ_wd, wd_31, wd_le, wd_lt, wd_inj, wd_eqm, wd_eqm', wd_ltm, wd_lem, wd_ltm2, wd_lem2, wd_bit0', wd_bit1', wd_shl, wd_or, wd_dif, i01_t, i01_f, jd_lit, i01_bz, bz_1, bz_0, f_X11_refuse, f_X11_answer, f_X11_allow, f_X11_deny, f_X12_refuse, f_X12_gives, f_X12_is, Option.some.injEq, exists_eq', if_true, if_false, ↓reduceIte, Nat.reduceEqDiff, Nat.reduceLT, Nat.reduceAdd]
    · simp (disch := omega) only [f_X12_feed, en', q', wd_lit, wd_of, wd_add, wd_mul, wd_neg, Option.bind_some, bnd, rdI_wd, wrI_wd, rdJ_wd, wrJ_wd, wd_31, wd_le, wd_lt, wd_inj, wd_eqm, wd_eqm', wd_ltm, wd_lem, wd_ltm2, wd_lem2, wd_bit0', wd_bit1', wd_shl, wd_or, wd_dif, i01_t, i01_f, jd_lit, i01_bz, bz_1, bz_0, f_X11_refuse, f_X11_answer, f_X11_allow, f_X11_deny, f_X12_refuse, f_X12_gives, f_X12_is, Option.some.injEq, exists_eq', if_true, if_false, ↓reduceIte, Nat.reduceEqDiff, Nat.reduceLT, Nat.reduceAdd]
/-! an army and a war of the same contents -/
theorem cpy0 {α : Type} {f g : Nat → α} {n k : Nat} (h : k < n) : va_cpy f g 0 0 n k = f k := by
  unfold va_cpy
  rw [if_pos (by omega)]
  congr 1
  omega
def AE (a b : tX0) : Prop := (∀ k, k < 8 → vX0_name b k = vX0_name a k ∧ vX0_courage b k = vX0_courage a k ∧ vX0_weight b k = vX0_weight a k ∧ vX0_medals b k = vX0_medals a k ∧ vX0_stood b k = vX0_stood a k ∧ vX0_fled b k = vX0_fled a k) ∧ (∀ k, k < 64 → vX0_liked b k = vX0_liked a k) ∧ vX0_count b = vX0_count a ∧ vX0_living b = vX0_living a ∧ vX0_pride b = vX0_pride a ∧ vX0_quota b = vX0_quota a ∧ vX0_melted b = vX0_melted a ∧ vX0_lost b = vX0_lost a
def WE (w v : tX9) : Prop := (∀ k, k < 60 → vX9_deed v k = vX9_deed w k ∧ vX9_man v k = vX9_man w k ∧ vX9_other v k = vX9_other w k ∧ vX9_sign v k = vX9_sign w k ∧ vX9_number v k = vX9_number w k ∧ vX9_mate v k = vX9_mate w k) ∧ vX9_there v = vX9_there w ∧ vX9_rows v = vX9_rows w
theorem RA_ce {at_ : Nat → Int32} {c : Nat} {a b : tX0} (h8 : c ≤ 8) (h : RA at_ c (vX0_courage a) (vX0_weight a) (vX0_medals a) (vX0_stood a) (vX0_fled a) (vX0_liked a) (vX0_count a) (vX0_living a) (vX0_pride a) (vX0_quota a) (vX0_melted a) (vX0_lost a)) (e : AE a b) : RA at_ c (vX0_courage b) (vX0_weight b) (vX0_medals b) (vX0_stood b) (vX0_fled b) (vX0_liked b) (vX0_count b) (vX0_living b) (vX0_pride b) (vX0_quota b) (vX0_melted b) (vX0_lost b) := by
  obtain ⟨⟨a1, a2, a3, a4⟩, e1, e2, e3, e4, e5, e6, h3, h4, h0⟩ := h
  obtain ⟨b1, b2, b3, b4, b5, b6, b7, b8⟩ := e
  refine ⟨⟨fun m hm => ?_, fun m hm => ?_, fun m hm => ?_, fun m o hm ho => ?_⟩, b3.trans e1, b4.trans e2, b5.trans e3, b6.trans e4, b7.trans e5, b8.trans e6, fun m hm => ?_, fun m hm => ?_, fun m hm hm8 => ?_⟩
  · rw [(b1 m (by omega)).2.1]; exact a1 m hm
  · rw [(b1 m (by omega)).2.2.1]; exact a2 m hm
  · rw [(b1 m (by omega)).2.2.2.1]; exact a3 m hm
  · rw [b2 _ (by omega)]; exact a4 m o hm ho
  · rw [(b1 m (by omega)).2.2.2.2.1]; exact h3 m hm
  · rw [(b1 m (by omega)).2.2.2.2.2]; exact h4 m hm
  · rw [(b1 m (by omega)).2.2.2.1, (b1 m (by omega)).2.2.2.2.1, (b1 m (by omega)).2.2.2.2.2]; exact h0 m hm hm8
theorem RRow_ce {p : Nat → Int32} {w v : tX9} {n c k : Nat} (hk : k < 60) (h : RRow p w n c k) (e : WE w v) : RRow p v n c k := by
  obtain ⟨e1, e2, e3, e4, e5, e6⟩ := e.1 k hk
  unfold RRow at h ⊢
  rw [e1, e2, e3, e4, e5, e6]
  exact h
theorem RWr_ce {n0 : Int32} {p : Nat → Int32} {w v : tX9} {c : Nat} (h : RWr n0 p w c) (e : WE w v) : RWr n0 p v c := by
  rcases h with h | ⟨n, h1, h2, h3, h4, h5, h6⟩
  · exact Or.inl ⟨h.1, e.2.1.trans h.2⟩
  · exact Or.inr ⟨n, h1, e.2.1.trans h2, e.2.2.trans h3, h4, fun k hk => RRow_ce (by omega) (h5 k hk) e, h6⟩
theorem RHW_ce {at_ : Nat → Int32} {names : Nat → Int64} {a b : tX0} {w v : tX9} (h : RHW at_ names a w) (ea : AE a b) (ew : WE w v) : RHW at_ names b v := by
  obtain ⟨c, hW, hA, hN, hR⟩ := h
  exact ⟨c, hW, RA_ce hW.1 hA ea, fun m hm => by rw [(ea.1 m (by have := hW.1; omega)).1]; exact hN m hm, RWr_ce hR ew⟩
theorem WF_e {at_ at' : Nat → Int32} {c : Nat} (h : WF at_ c) (e : ∀ k, k < 120 → at' k = at_ k) : WF at' c := by
  obtain ⟨a1, a2, a3, a4, a5⟩ := h
  have em : ∀ m j, m < 8 → j < 14 → mn at' m j = mn at_ m j := fun m j hm hj => e _ (by omega)
  refine ⟨a1, by rw [e 0 (by omega)]; exact a2, by rw [e 1 (by omega)]; exact a3, by rw [e 2 (by omega)]; exact a4, fun m hm => ?_⟩
  obtain ⟨b1, b2, b3, b4⟩ := a5 m hm
  exact ⟨by rw [em m 0 (by omega) (by omega)]; exact b1, by rw [em m 1 (by omega) (by omega)]; exact b2, by rw [em m 2 (by omega) (by omega)]; exact b3, fun o ho => by rw [em m (6 + o) (by omega) (by omega)]; exact b4 o ho⟩
theorem RA_e {at_ at' cou wei med sto fle lik : Nat → Int32} {c : Nat} {cnt liv pri quo mel los : Int32} (h8 : c ≤ 8) (h : RA at_ c cou wei med sto fle lik cnt liv pri quo mel los) (e : ∀ k, k < 120 → at' k = at_ k) : RA at' c cou wei med sto fle lik cnt liv pri quo mel los := by
  obtain ⟨⟨a1, a2, a3, a4⟩, e1, e2, e3, e4, e5, e6, h3, h4, h0⟩ := h
  have em : ∀ m j, m < 8 → j < 14 → mn at' m j = mn at_ m j := fun m j hm hj => e _ (by omega)
  refine ⟨⟨fun m hm => ?_, fun m hm => ?_, fun m hm => ?_, fun m o hm ho => ?_⟩, e1, ?_, by rw [e 1 (by omega)]; exact e3, by rw [e 2 (by omega)]; exact e4, by rw [e 3 (by omega)]; exact e5, by rw [e 4 (by omega)]; exact e6, fun m hm => ?_, fun m hm => ?_, h0⟩
  · rw [em m _ (by omega) (by omega)]; exact a1 m hm
  · rw [em m _ (by omega) (by omega)]; exact a2 m hm
  · rw [em m _ (by omega) (by omega)]; exact a3 m hm
  · rw [em m _ (by omega) (by omega)]; exact a4 m o hm ho
  · rw [e2]; congr 1; exact mask_congr (fun k hk => by unfold alv; rw [em k 5 (by omega) (by omega)])
  · rw [em m _ (by omega) (by omega)]; exact h3 m hm
  · rw [em m _ (by omega) (by omega)]; exact h4 m hm
theorem RRow_e {p p' : Nat → Int32} {w : tX9} {n c k : Nat} (hn : n ≤ 60) (hk : k < n) (h : RRow p w n c k) (e : ∀ j, j < 360 → p' j = p j) : RRow p' w n c k := by
  have q0 := e (6 * k) (by omega)
  have q1 := e (6 * k + 1) (by omega)
  have q2 := e (6 * k + 2) (by omega)
  have q4 := e (6 * k + 4) (by omega)
  have q5 := e (6 * k + 5) (by omega)
  unfold RRow at h ⊢
  rw [q0, q1, q2, q4, q5]
  rcases h with h | h | h | h | h | h | h | h | h
  · exact Or.inl h
  · exact Or.inr (Or.inl h)
  · exact Or.inr (Or.inr (Or.inl h))
  · exact Or.inr (Or.inr (Or.inr (Or.inl h)))
  · exact Or.inr (Or.inr (Or.inr (Or.inr (Or.inl h))))
  · exact Or.inr (Or.inr (Or.inr (Or.inr (Or.inr (Or.inl h)))))
  · obtain ⟨g1, g2, q, g3, g4, g5, g6, g7⟩ := h
    exact Or.inr (Or.inr (Or.inr (Or.inr (Or.inr (Or.inr (Or.inl ⟨g1, g2, q, g3, g4, g5, by rw [e (6 * q + 4) (by omega)]; exact g6, by rw [e (6 * q) (by omega)]; exact g7⟩))))))
  · obtain ⟨g1, g2, g0, q, g3, g4, g5, g6, g7⟩ := h
    exact Or.inr (Or.inr (Or.inr (Or.inr (Or.inr (Or.inr (Or.inr (Or.inl ⟨g1, g2, g0, q, g3, g4, g5, g6, by rw [e (6 * q) (by omega)]; exact g7⟩)))))))
  · obtain ⟨t, t1, t2, t3, t4, t5, t6, t7, q, g3, g4, g5, g6, g7⟩ := h
    exact Or.inr (Or.inr (Or.inr (Or.inr (Or.inr (Or.inr (Or.inr (Or.inr ⟨t, t1, t2, t3, t4, t5, t6, t7, q, g3, g4, g5, g6, by rw [e (6 * q) (by omega)]; exact g7⟩)))))))
theorem RWr_e {n0 : Int32} {p p' : Nat → Int32} {w : tX9} {c : Nat} (h : RWr n0 p w c) (e : ∀ j, j < 360 → p' j = p j) : RWr n0 p' w c := by
  rcases h with h | ⟨n, h1, h2, h3, h4, h5, h6⟩
  · exact Or.inl h
  · refine Or.inr ⟨n, h1, h2, h3, h4, fun k hk => RRow_e h4 hk (h5 k hk) e, ?_⟩
    intro a q a' q' g1 g2 g3 g4 g5 g6
    unfold opn at g5 g6
    rw [e (6 * a) (by omega), e (6 * a + 4) (by omega)] at g5
    rw [e (6 * a') (by omega), e (6 * a' + 4) (by omega)] at g6
    exact h6 a q a' q' g1 g2 g3 g4 g5 g6
theorem RHW_e {at_ at' : Nat → Int32} {names names' : Nat → Int64} {a : tX0} {w : tX9} (h : RHW at_ names a w) (e : ∀ k, k < 488 → at' k = at_ k) (en : ∀ k, k < 8 → names' k = names k) : RHW at' names' a w := by
  obtain ⟨c, hW, hA, hN, hR⟩ := h
  have h8 := hW.1
  refine ⟨c, WF_e hW (fun k hk => e k (by omega)), RA_e h8 hA (fun k hk => e k (by omega)), fun m hm => by rw [en m (by omega)]; exact hN m hm, ?_⟩
  rw [e 5 (by omega)]
  exact RWr_e hR (fun j hj => e _ (by omega))
/-- one slot into another -/
def cpA (f : Nat → Int32) (x y : Nat) : Nat → Int32 := fun k => if 488 * y ≤ k ∧ k < 488 * y + 488 then f (488 * x + (k - 488 * y)) else f k
def cpN (f : Nat → Int64) (x y : Nat) : Nat → Int64 := fun k => if 8 * y ≤ k ∧ k < 8 * y + 8 then f (8 * x + (k - 8 * y)) else f k
theorem r_copies {fu x y : Nat} {at_ : Nat → Int32} {names : Nat → Int64} (hx : x < 6) (hy : y < 6) (hxy : x ≠ y) (hf : 1000 ≤ fu) : f_X12_copies fu at_ names (wd x) (wd y) = some (cpA at_ x y, cpN names x y) := by
  have l2 : f_X12_copies_l41 fu (wd x) (wd y) fu (cpA at_ x y) names (wd 0) = some (cpA at_ x y, cpN names x y) := by
    have e0 : names = fun k => if 8 * y ≤ k ∧ k < 8 * y + 0 then names (8 * x + (k - 8 * y)) else names k := by
      funext k; rw [if_neg (by omega)]
    have key := loop_seq (fun m i (s : Nat → Int64) => f_X12_copies_l41 fu (wd x) (wd y) m (cpA at_ x y) s (wd i)) (fun i => fun k => if 8 * y ≤ k ∧ k < 8 * y + i then names (8 * x + (k - 8 * y)) else names k) 8 (some (cpA at_ x y, cpN names x y)) ?_ ?_ 0 fu (by omega) (by omega)
    · rw [← e0] at key; exact key
    · intro m i hi
      have e1 : ¬ (8 * y ≤ 8 * x + i ∧ 8 * x + i < 8 * y + i) := by omega
      simp (disch := omega) only [f_X12_copies_l41, f_X12_copies_b41, wd_lit, wd_of, wd_add, wd_mul, wd_neg, Option.bind_some, bnd, rdI_wd, wrI_wd, rdJ_wd, wrJ_wd, wd_31, wd_le, wd_lt, wd_inj, wd_eqm, wd_eqm', wd_ltm, wd_lem, wd_ltm2, wd_lem2, wd_bit0', wd_bit1', wd_shl, wd_or, wd_dif]
      rw [if_neg (by omega), if_neg e1]
      congr 1
      funext k
      unfold vp_updL
      by_cases hk : k = 8 * y + i
      · rw [if_pos hk, if_pos (by omega)]; congr 1; omega
      · rw [if_neg hk]
        dsimp only
        by_cases h2 : 8 * y ≤ k ∧ k < 8 * y + i
        · rw [if_pos h2, if_pos (by omega)]
        · rw [if_neg h2, if_neg (by omega)]
    · intro m
      simp (disch := omega) only [f_X12_copies_l41, f_X12_copies_b41, wd_lit, wd_of, wd_add, wd_mul, wd_neg, Option.bind_some, bnd, rdI_wd, wrI_wd, rdJ_wd, wrJ_wd, wd_31, wd_le, wd_lt, wd_inj, wd_eqm, wd_eqm', wd_ltm, wd_lem, wd_ltm2, wd_lem2, wd_bit0', wd_bit1', wd_shl, wd_or, wd_dif]
      rw [if_pos (by omega)]
      rfl
  unfold f_X12_copies
  have e0 : at_ = fun k => if 488 * y ≤ k ∧ k < 488 * y + 0 then at_ (488 * x + (k - 488 * y)) else at_ k := by
    funext k; rw [if_neg (by omega)]
  have key := loop_seq (fun m i (s : Nat → Int32) => f_X12_copies_l2 fu (wd x) (wd y) m s names (wd i)) (fun i => fun k => if 488 * y ≤ k ∧ k < 488 * y + i then at_ (488 * x + (k - 488 * y)) else at_ k) 488 (some (cpA at_ x y, cpN names x y)) ?_ ?_ 0 fu (by omega) (by omega)
  · rw [← e0] at key; exact key
  · intro m i hi
    have e1 : ¬ (488 * y ≤ 488 * x + i ∧ 488 * x + i < 488 * y + i) := by omega
    simp (disch := omega) only [f_X12_copies_l2, f_X12_copies_b2, wd_lit, wd_of, wd_add, wd_mul, wd_neg, Option.bind_some, bnd, rdI_wd, wrI_wd, rdJ_wd, wrJ_wd, wd_31, wd_le, wd_lt, wd_inj, wd_eqm, wd_eqm', wd_ltm, wd_lem, wd_ltm2, wd_lem2, wd_bit0', wd_bit1', wd_shl, wd_or, wd_dif]
    rw [if_neg (by omega), if_neg e1]
    congr 1
    funext k
    unfold upd
    by_cases hk : k = 488 * y + i
    · rw [if_pos hk, if_pos (by omega)]; congr 1; omega
    · rw [if_neg hk]
      dsimp only
      by_cases h2 : 488 * y ≤ k ∧ k < 488 * y + i
      · rw [if_pos h2, if_pos (by omega)]
      · rw [if_neg h2, if_neg (by omega)]
  · intro m
    simp (disch := omega) only [f_X12_copies_l2, f_X12_copies_b2, wd_lit, wd_of, wd_add, wd_mul, wd_neg, Option.bind_some, bnd, rdI_wd, wrI_wd, rdJ_wd, wrJ_wd, wd_31, wd_le, wd_lt, wd_inj, wd_eqm, wd_eqm', wd_ltm, wd_lem, wd_ltm2, wd_lem2, wd_bit0', wd_bit1', wd_shl, wd_or, wd_dif]
    rw [if_pos (by omega)]
    exact l2
theorem cpA_n {f : Nat → Int32} {x y k : Nat} (h : k < 488 * y ∨ 488 * y + 488 ≤ k) : cpA f x y k = f k := if_neg (by omega)
theorem cpA_y {f : Nat → Int32} {x y k : Nat} (h : k < 488) : cpA f x y (488 * y + k) = f (488 * x + k) := by
  unfold cpA
  rw [if_pos (by omega)]
  congr 1
  omega
theorem cpN_n {f : Nat → Int64} {x y k : Nat} (h : k < 8 * y ∨ 8 * y + 8 ≤ k) : cpN f x y k = f k := if_neg (by omega)
theorem cpN_y {f : Nat → Int64} {x y k : Nat} (h : k < 8) : cpN f x y (8 * y + k) = f (8 * x + k) := by
  unfold cpN
  rw [if_pos (by omega)]
  congr 1
  omega
theorem RWr_bz {n0 : Int32} {p : Nat → Int32} {w : tX9} {c : Nat} (h : RWr n0 p w c) : bz (vX9_there w) = some (vX9_there w) := by
  rcases h with h | ⟨n, h1, h2, h3⟩
  · rw [h.2]; rfl
  · rw [h2]; rfl
theorem Q1_mark {fu : Nat} (hf : 1000 ≤ fu) : Q_mark fu RR := by
  intro S M h
  have hH := h.2.2.1
  obtain ⟨c, hW, hA, hN, hWr⟩ := h.2.2.1
  have hbz := RWr_bz hWr
  obtain ⟨k, hk, ek, ek', h0, h1, h2⟩ := h.2.2.2.1
  obtain rfl | rfl | rfl | rfl : k = 0 ∨ k = 1 ∨ k = 2 ∨ k = 3 := by omega
  · have q0 : wn 0 2 (wd 0) = true := by decide
    refine q_of (r := wd 1) (bind_e (z := (wd 1, wd 0, wd 1, va_cpy (vX0_name (S_a S)) (vX0_name (S_o0 S)) 0 0 8, va_cpy (vX0_courage (S_a S)) (vX0_courage (S_o0 S)) 0 0 8, va_cpy (vX0_weight (S_a S)) (vX0_weight (S_o0 S)) 0 0 8, va_cpy (vX0_medals (S_a S)) (vX0_medals (S_o0 S)) 0 0 8, va_cpy (vX0_stood (S_a S)) (vX0_stood (S_o0 S)) 0 0 8, va_cpy (vX0_fled (S_a S)) (vX0_fled (S_o0 S)) 0 0 8, va_cpy (vX0_liked (S_a S)) (vX0_liked (S_o0 S)) 0 0 64, vX0_count (S_a S), vX0_living (S_a S), vX0_pride (S_a S), vX0_quota (S_a S), vX0_melted (S_a S), vX0_lost (S_a S), vX0_name (S_o1 S), vX0_courage (S_o1 S), vX0_weight (S_o1 S), vX0_medals (S_o1 S), vX0_stood (S_o1 S), vX0_fled (S_o1 S), vX0_liked (S_o1 S), vX0_count (S_o1 S), vX0_living (S_o1 S), vX0_pride (S_o1 S), vX0_quota (S_o1 S), vX0_melted (S_o1 S), vX0_lost (S_o1 S), vX0_name (S_o2 S), vX0_courage (S_o2 S), vX0_weight (S_o2 S), vX0_medals (S_o2 S), vX0_stood (S_o2 S), vX0_fled (S_o2 S), vX0_liked (S_o2 S), vX0_count (S_o2 S), vX0_living (S_o2 S), vX0_pride (S_o2 S), vX0_quota (S_o2 S), vX0_melted (S_o2 S), vX0_lost (S_o2 S), va_cpy (vX9_deed (S_w S)) (vX9_deed (S_u0 S)) 0 0 60, va_cpy (vX9_man (S_w S)) (vX9_man (S_u0 S)) 0 0 60, va_cpy (vX9_other (S_w S)) (vX9_other (S_u0 S)) 0 0 60, va_cpy (vX9_sign (S_w S)) (vX9_sign (S_u0 S)) 0 0 60, va_cpy (vX9_number (S_w S)) (vX9_number (S_u0 S)) 0 0 60, va_cpy (vX9_mate (S_w S)) (vX9_mate (S_u0 S)) 0 0 60, vX9_there (S_w S), vX9_rows (S_w S), vX9_steps (S_w S), vX9_deed (S_u1 S), vX9_man (S_u1 S), vX9_other (S_u1 S), vX9_sign (S_u1 S), vX9_number (S_u1 S), vX9_mate (S_u1 S), vX9_there (S_u1 S), vX9_rows (S_u1 S), vX9_steps (S_u1 S), vX9_deed (S_u2 S), vX9_man (S_u2 S), vX9_other (S_u2 S), vX9_sign (S_u2 S), vX9_number (S_u2 S), vX9_mate (S_u2 S), vX9_there (S_u2 S), vX9_rows (S_u2 S), vX9_steps (S_u2 S))) ?_) (bind_e (z := (wd 1, cpA (vX12_at M) 0 1, cpN (vX12_names M) 0 1, wd 0, wd 1)) ?_) ⟨⟨rfl, h.1.2⟩, h.2.1, RHW_e hH (fun j hj => cpA_n (by omega)) (fun j hj => cpN_n (by omega)), ⟨1, by omega, rfl, rfl, fun _ => RHW_ce (RHW_e hH (fun j hj => by show cpA (vX12_at M) 0 1 (488 + j) = vX12_at M j; rw [show 488 + j = 488 * 1 + j from by omega, cpA_y hj]; congr 1; omega) (fun j hj => by show cpN (vX12_names M) 0 1 (8 + j) = vX12_names M j; rw [show 8 + j = 8 * 1 + j from by omega, cpN_y hj]; congr 1; omega)) ⟨fun k hk => ⟨cpy0 hk, cpy0 hk, cpy0 hk, cpy0 hk, cpy0 hk, cpy0 hk⟩, fun k hk => cpy0 hk, rfl, rfl, rfl, rfl, rfl, rfl⟩ ⟨fun k hk => ⟨cpy0 hk, cpy0 hk, cpy0 hk, cpy0 hk, cpy0 hk, cpy0 hk⟩, rfl, rfl⟩, fun h => absurd h (by omega), fun h => absurd h (by omega)⟩, h.2.2.2.2⟩
    · simp (disch := omega) only [f_X11_mark, ek, c_within, q0, cpJ_wd, cpI_wd, f_X0_become, f_X9_become, hbz, wd_lit, wd_of, wd_add, wd_mul, wd_neg, Option.bind_some, bnd, rdI_wd, wrI_wd, rdJ_wd, wrJ_wd, wd_31, wd_le, wd_lt, wd_inj, wd_eqm, wd_eqm', wd_ltm, wd_lem, wd_ltm2, wd_lem2, wd_bit0', wd_bit1', wd_shl, wd_or, wd_dif, i01_t, i01_f, jd_lit, i01_bz, bz_1, bz_0, f_X11_refuse, f_X11_answer, f_X11_allow, f_X11_deny, f_X12_refuse, f_X12_gives, f_X12_is, Option.some.injEq, exists_eq', if_true, if_false, ↓reduceIte, Nat.reduceEqDiff, Nat.reduceLT, Nat.reduceAdd]
    · simp (disch := omega) only [f_X12_mark, ek', r_copies (show 0 < 6 by omega) (show 1 < 6 by omega) (show 0 ≠ 1 by omega) hf, wd_lit, wd_of, wd_add, wd_mul, wd_neg, Option.bind_some, bnd, rdI_wd, wrI_wd, rdJ_wd, wrJ_wd, wd_31, wd_le, wd_lt, wd_inj, wd_eqm, wd_eqm', wd_ltm, wd_lem, wd_ltm2, wd_lem2, wd_bit0', wd_bit1', wd_shl, wd_or, wd_dif, i01_t, i01_f, jd_lit, i01_bz, bz_1, bz_0, f_X11_refuse, f_X11_answer, f_X11_allow, f_X11_deny, f_X12_refuse, f_X12_gives, f_X12_is, Option.some.injEq, exists_eq', if_true, if_false, ↓reduceIte, Nat.reduceEqDiff, Nat.reduceLT, Nat.reduceAdd]
  · have q0 : wn 0 2 (wd 1) = true := by decide
    refine q_of (r := wd 2) (bind_e (z := (wd 2, wd 0, wd 2, vX0_name (S_o0 S), vX0_courage (S_o0 S), vX0_weight (S_o0 S), vX0_medals (S_o0 S), vX0_stood (S_o0 S), vX0_fled (S_o0 S), vX0_liked (S_o0 S), vX0_count (S_o0 S), vX0_living (S_o0 S), vX0_pride (S_o0 S), vX0_quota (S_o0 S), vX0_melted (S_o0 S), vX0_lost (S_o0 S), va_cpy (vX0_name (S_a S)) (vX0_name (S_o1 S)) 0 0 8, va_cpy (vX0_courage (S_a S)) (vX0_courage (S_o1 S)) 0 0 8, va_cpy (vX0_weight (S_a S)) (vX0_weight (S_o1 S)) 0 0 8, va_cpy (vX0_medals (S_a S)) (vX0_medals (S_o1 S)) 0 0 8, va_cpy (vX0_stood (S_a S)) (vX0_stood (S_o1 S)) 0 0 8, va_cpy (vX0_fled (S_a S)) (vX0_fled (S_o1 S)) 0 0 8, va_cpy (vX0_liked (S_a S)) (vX0_liked (S_o1 S)) 0 0 64, vX0_count (S_a S), vX0_living (S_a S), vX0_pride (S_a S), vX0_quota (S_a S), vX0_melted (S_a S), vX0_lost (S_a S), vX0_name (S_o2 S), vX0_courage (S_o2 S), vX0_weight (S_o2 S), vX0_medals (S_o2 S), vX0_stood (S_o2 S), vX0_fled (S_o2 S), vX0_liked (S_o2 S), vX0_count (S_o2 S), vX0_living (S_o2 S), vX0_pride (S_o2 S), vX0_quota (S_o2 S), vX0_melted (S_o2 S), vX0_lost (S_o2 S), vX9_deed (S_u0 S), vX9_man (S_u0 S), vX9_other (S_u0 S), vX9_sign (S_u0 S), vX9_number (S_u0 S), vX9_mate (S_u0 S), vX9_there (S_u0 S), vX9_rows (S_u0 S), vX9_steps (S_u0 S), va_cpy (vX9_deed (S_w S)) (vX9_deed (S_u1 S)) 0 0 60, va_cpy (vX9_man (S_w S)) (vX9_man (S_u1 S)) 0 0 60, va_cpy (vX9_other (S_w S)) (vX9_other (S_u1 S)) 0 0 60, va_cpy (vX9_sign (S_w S)) (vX9_sign (S_u1 S)) 0 0 60, va_cpy (vX9_number (S_w S)) (vX9_number (S_u1 S)) 0 0 60, va_cpy (vX9_mate (S_w S)) (vX9_mate (S_u1 S)) 0 0 60, vX9_there (S_w S), vX9_rows (S_w S), vX9_steps (S_w S), vX9_deed (S_u2 S), vX9_man (S_u2 S), vX9_other (S_u2 S), vX9_sign (S_u2 S), vX9_number (S_u2 S), vX9_mate (S_u2 S), vX9_there (S_u2 S), vX9_rows (S_u2 S), vX9_steps (S_u2 S))) ?_) (bind_e (z := (wd 2, cpA (vX12_at M) 0 2, cpN (vX12_names M) 0 2, wd 0, wd 2)) ?_) ⟨⟨rfl, h.1.2⟩, h.2.1, RHW_e hH (fun j hj => cpA_n (by omega)) (fun j hj => cpN_n (by omega)), ⟨2, by omega, rfl, rfl, fun _ => RHW_e (h0 (by omega)) (fun j hj => cpA_n (by omega)) (fun j hj => cpN_n (by omega)), fun _ => RHW_ce (RHW_e hH (fun j hj => by show cpA (vX12_at M) 0 2 (976 + j) = vX12_at M j; rw [show 976 + j = 488 * 2 + j from by omega, cpA_y hj]; congr 1; omega) (fun j hj => by show cpN (vX12_names M) 0 2 (16 + j) = vX12_names M j; rw [show 16 + j = 8 * 2 + j from by omega, cpN_y hj]; congr 1; omega)) ⟨fun k hk => ⟨cpy0 hk, cpy0 hk, cpy0 hk, cpy0 hk, cpy0 hk, cpy0 hk⟩, fun k hk => cpy0 hk, rfl, rfl, rfl, rfl, rfl, rfl⟩ ⟨fun k hk => ⟨cpy0 hk, cpy0 hk, cpy0 hk, cpy0 hk, cpy0 hk, cpy0 hk⟩, rfl, rfl⟩, fun h => absurd h (by omega)⟩, h.2.2.2.2⟩
    · simp (disch := omega) only [f_X11_mark, ek, c_within, q0, cpJ_wd, cpI_wd, f_X0_become, f_X9_become, hbz, wd_lit, wd_of, wd_add, wd_mul, wd_neg, Option.bind_some, bnd, rdI_wd, wrI_wd, rdJ_wd, wrJ_wd, wd_31, wd_le, wd_lt, wd_inj, wd_eqm, wd_eqm', wd_ltm, wd_lem, wd_ltm2, wd_lem2, wd_bit0', wd_bit1', wd_shl, wd_or, wd_dif, i01_t, i01_f, jd_lit, i01_bz, bz_1, bz_0, f_X11_refuse, f_X11_answer, f_X11_allow, f_X11_deny, f_X12_refuse, f_X12_gives, f_X12_is, Option.some.injEq, exists_eq', if_true, if_false, ↓reduceIte, Nat.reduceEqDiff, Nat.reduceLT, Nat.reduceAdd]
    · simp (disch := omega) only [f_X12_mark, ek', r_copies (show 0 < 6 by omega) (show 2 < 6 by omega) (show 0 ≠ 2 by omega) hf, wd_lit, wd_of, wd_add, wd_mul, wd_neg, Option.bind_some, bnd, rdI_wd, wrI_wd, rdJ_wd, wrJ_wd, wd_31, wd_le, wd_lt, wd_inj, wd_eqm, wd_eqm', wd_ltm, wd_lem, wd_ltm2, wd_lem2, wd_bit0', wd_bit1', wd_shl, wd_or, wd_dif, i01_t, i01_f, jd_lit, i01_bz, bz_1, bz_0, f_X11_refuse, f_X11_answer, f_X11_allow, f_X11_deny, f_X12_refuse, f_X12_gives, f_X12_is, Option.some.injEq, exists_eq', if_true, if_false, ↓reduceIte, Nat.reduceEqDiff, Nat.reduceLT, Nat.reduceAdd]
  · have q0 : wn 0 2 (wd 2) = true := by decide
    refine q_of (r := wd 3) (bind_e (z := (wd 3, wd 0, wd 3, vX0_name (S_o0 S), vX0_courage (S_o0 S), vX0_weight (S_o0 S), vX0_medals (S_o0 S), vX0_stood (S_o0 S), vX0_fled (S_o0 S), vX0_liked (S_o0 S), vX0_count (S_o0 S), vX0_living (S_o0 S), vX0_pride (S_o0 S), vX0_quota (S_o0 S), vX0_melted (S_o0 S), vX0_lost (S_o0 S), vX0_name (S_o1 S), vX0_courage (S_o1 S), vX0_weight (S_o1 S), vX0_medals (S_o1 S), vX0_stood (S_o1 S), vX0_fled (S_o1 S), vX0_liked (S_o1 S), vX0_count (S_o1 S), vX0_living (S_o1 S), vX0_pride (S_o1 S), vX0_quota (S_o1 S), vX0_melted (S_o1 S), vX0_lost (S_o1 S), va_cpy (vX0_name (S_a S)) (vX0_name (S_o2 S)) 0 0 8, va_cpy (vX0_courage (S_a S)) (vX0_courage (S_o2 S)) 0 0 8, va_cpy (vX0_weight (S_a S)) (vX0_weight (S_o2 S)) 0 0 8, va_cpy (vX0_medals (S_a S)) (vX0_medals (S_o2 S)) 0 0 8, va_cpy (vX0_stood (S_a S)) (vX0_stood (S_o2 S)) 0 0 8, va_cpy (vX0_fled (S_a S)) (vX0_fled (S_o2 S)) 0 0 8, va_cpy (vX0_liked (S_a S)) (vX0_liked (S_o2 S)) 0 0 64, vX0_count (S_a S), vX0_living (S_a S), vX0_pride (S_a S), vX0_quota (S_a S), vX0_melted (S_a S), vX0_lost (S_a S), vX9_deed (S_u0 S), vX9_man (S_u0 S), vX9_other (S_u0 S), vX9_sign (S_u0 S), vX9_number (S_u0 S), vX9_mate (S_u0 S), vX9_there (S_u0 S), vX9_rows (S_u0 S), vX9_steps (S_u0 S), vX9_deed (S_u1 S), vX9_man (S_u1 S), vX9_other (S_u1 S), vX9_sign (S_u1 S), vX9_number (S_u1 S), vX9_mate (S_u1 S), vX9_there (S_u1 S), vX9_rows (S_u1 S), vX9_steps (S_u1 S), va_cpy (vX9_deed (S_w S)) (vX9_deed (S_u2 S)) 0 0 60, va_cpy (vX9_man (S_w S)) (vX9_man (S_u2 S)) 0 0 60, va_cpy (vX9_other (S_w S)) (vX9_other (S_u2 S)) 0 0 60, va_cpy (vX9_sign (S_w S)) (vX9_sign (S_u2 S)) 0 0 60, va_cpy (vX9_number (S_w S)) (vX9_number (S_u2 S)) 0 0 60, va_cpy (vX9_mate (S_w S)) (vX9_mate (S_u2 S)) 0 0 60, vX9_there (S_w S), vX9_rows (S_w S), vX9_steps (S_w S))) ?_) (bind_e (z := (wd 3, cpA (vX12_at M) 0 3, cpN (vX12_names M) 0 3, wd 0, wd 3)) ?_) ⟨⟨rfl, h.1.2⟩, h.2.1, RHW_e hH (fun j hj => cpA_n (by omega)) (fun j hj => cpN_n (by omega)), ⟨3, by omega, rfl, rfl, fun _ => RHW_e (h0 (by omega)) (fun j hj => cpA_n (by omega)) (fun j hj => cpN_n (by omega)), fun _ => RHW_e (h1 (by omega)) (fun j hj => cpA_n (by omega)) (fun j hj => cpN_n (by omega)), fun _ => RHW_ce (RHW_e hH (fun j hj => by show cpA (vX12_at M) 0 3 (1464 + j) = vX12_at M j; rw [show 1464 + j = 488 * 3 + j from by omega, cpA_y hj]; congr 1; omega) (fun j hj => by show cpN (vX12_names M) 0 3 (24 + j) = vX12_names M j; rw [show 24 + j = 8 * 3 + j from by omega, cpN_y hj]; congr 1; omega)) ⟨fun k hk => ⟨cpy0 hk, cpy0 hk, cpy0 hk, cpy0 hk, cpy0 hk, cpy0 hk⟩, fun k hk => cpy0 hk, rfl, rfl, rfl, rfl, rfl, rfl⟩ ⟨fun k hk => ⟨cpy0 hk, cpy0 hk, cpy0 hk, cpy0 hk, cpy0 hk, cpy0 hk⟩, rfl, rfl⟩⟩, h.2.2.2.2⟩
    · simp (disch := omega) only [f_X11_mark, ek, c_within, q0, cpJ_wd, cpI_wd, f_X0_become, f_X9_become, hbz, wd_lit, wd_of, wd_add, wd_mul, wd_neg, Option.bind_some, bnd, rdI_wd, wrI_wd, rdJ_wd, wrJ_wd, wd_31, wd_le, wd_lt, wd_inj, wd_eqm, wd_eqm', wd_ltm, wd_lem, wd_ltm2, wd_lem2, wd_bit0', wd_bit1', wd_shl, wd_or, wd_dif, i01_t, i01_f, jd_lit, i01_bz, bz_1, bz_0, f_X11_refuse, f_X11_answer, f_X11_allow, f_X11_deny, f_X12_refuse, f_X12_gives, f_X12_is, Option.some.injEq, exists_eq', if_true, if_false, ↓reduceIte, Nat.reduceEqDiff, Nat.reduceLT, Nat.reduceAdd]
    · simp (disch := omega) only [f_X12_mark, ek', r_copies (show 0 < 6 by omega) (show 3 < 6 by omega) (show 0 ≠ 3 by omega) hf, wd_lit, wd_of, wd_add, wd_mul, wd_neg, Option.bind_some, bnd, rdI_wd, wrI_wd, rdJ_wd, wrJ_wd, wd_31, wd_le, wd_lt, wd_inj, wd_eqm, wd_eqm', wd_ltm, wd_lem, wd_ltm2, wd_lem2, wd_bit0', wd_bit1', wd_shl, wd_or, wd_dif, i01_t, i01_f, jd_lit, i01_bz, bz_1, bz_0, f_X11_refuse, f_X11_answer, f_X11_allow, f_X11_deny, f_X12_refuse, f_X12_gives, f_X12_is, Option.some.injEq, exists_eq', if_true, if_false, ↓reduceIte, Nat.reduceEqDiff, Nat.reduceLT, Nat.reduceAdd]
  · have q0 : wn 0 2 (wd 3) = false := by decide
    refine q_of (r := nn) (bind_e (z := (nn, wd 4, wd 3, vX0_name (S_o0 S), vX0_courage (S_o0 S), vX0_weight (S_o0 S), vX0_medals (S_o0 S), vX0_stood (S_o0 S), vX0_fled (S_o0 S), vX0_liked (S_o0 S), vX0_count (S_o0 S), vX0_living (S_o0 S), vX0_pride (S_o0 S), vX0_quota (S_o0 S), vX0_melted (S_o0 S), vX0_lost (S_o0 S), vX0_name (S_o1 S), vX0_courage (S_o1 S), vX0_weight (S_o1 S), vX0_medals (S_o1 S), vX0_stood (S_o1 S), vX0_fled (S_o1 S), vX0_liked (S_o1 S), vX0_count (S_o1 S), vX0_living (S_o1 S), vX0_pride (S_o1 S), vX0_quota (S_o1 S), vX0_melted (S_o1 S), vX0_lost (S_o1 S), vX0_name (S_o2 S), vX0_courage (S_o2 S), vX0_weight (S_o2 S), vX0_medals (S_o2 S), vX0_stood (S_o2 S), vX0_fled (S_o2 S), vX0_liked (S_o2 S), vX0_count (S_o2 S), vX0_living (S_o2 S), vX0_pride (S_o2 S), vX0_quota (S_o2 S), vX0_melted (S_o2 S), vX0_lost (S_o2 S), vX9_deed (S_u0 S), vX9_man (S_u0 S), vX9_other (S_u0 S), vX9_sign (S_u0 S), vX9_number (S_u0 S), vX9_mate (S_u0 S), vX9_there (S_u0 S), vX9_rows (S_u0 S), vX9_steps (S_u0 S), vX9_deed (S_u1 S), vX9_man (S_u1 S), vX9_other (S_u1 S), vX9_sign (S_u1 S), vX9_number (S_u1 S), vX9_mate (S_u1 S), vX9_there (S_u1 S), vX9_rows (S_u1 S), vX9_steps (S_u1 S), vX9_deed (S_u2 S), vX9_man (S_u2 S), vX9_other (S_u2 S), vX9_sign (S_u2 S), vX9_number (S_u2 S), vX9_mate (S_u2 S), vX9_there (S_u2 S), vX9_rows (S_u2 S), vX9_steps (S_u2 S))) ?_) (bind_e (z := (nn, vX12_at M, vX12_names M, wd 4, wd 3)) ?_) ⟨⟨rfl, h.1.2⟩, h.2.1, h.2.2.1, ⟨3, by omega, rfl, rfl, h0, h1, h2⟩, h.2.2.2.2⟩
    · simp (disch := omega) only [f_X11_mark, ek, c_within, q0, wd_lit, wd_of, wd_add, wd_mul, wd_neg, Option.bind_some, bnd, rdI_wd, wrI_wd, rdJ_wd, wrJ_wd, wd_31, wd_le, wd_lt, wd_inj, wd_eqm, wd_eqm', wd_ltm, wd_lem, wd_ltm2, wd_lem2, wd_bit0', wd_bit1', wd_shl, wd_or, wd_dif, i01_t, i01_f, jd_lit, i01_bz, bz_1, bz_0, f_X11_refuse, f_X11_answer, f_X11_allow, f_X11_deny, f_X12_refuse, f_X12_gives, f_X12_is, Option.some.injEq, exists_eq', if_true, if_false, ↓reduceIte, Nat.reduceEqDiff, Nat.reduceLT, Nat.reduceAdd]
    · simp (disch := omega) only [f_X12_mark, ek', wd_lit, wd_of, wd_add, wd_mul, wd_neg, Option.bind_some, bnd, rdI_wd, wrI_wd, rdJ_wd, wrJ_wd, wd_31, wd_le, wd_lt, wd_inj, wd_eqm, wd_eqm', wd_ltm, wd_lem, wd_ltm2, wd_lem2, wd_bit0', wd_bit1', wd_shl, wd_or, wd_dif, i01_t, i01_f, jd_lit, i01_bz, bz_1, bz_0, f_X11_refuse, f_X11_answer, f_X11_allow, f_X11_deny, f_X12_refuse, f_X12_gives, f_X12_is, Option.some.injEq, exists_eq', if_true, if_false, ↓reduceIte, Nat.reduceEqDiff, Nat.reduceLT, Nat.reduceAdd]
theorem Q1_undo {fu : Nat} (hf : 1000 ≤ fu) : Q_undo fu RR := by
  intro S M h
  obtain ⟨k, hk, ek, ek', h0, h1, h2⟩ := h.2.2.2.1
  obtain rfl | rfl | rfl | rfl : k = 0 ∨ k = 1 ∨ k = 2 ∨ k = 3 := by omega
  · have q0 : wn 1 3 (wd 0) = false := by decide
    refine q_of (r := nn) (bind_e (z := (nn, wd 6, wd 0, vX0_name (S_a S), vX0_courage (S_a S), vX0_weight (S_a S), vX0_medals (S_a S), vX0_stood (S_a S), vX0_fled (S_a S), vX0_liked (S_a S), vX0_count (S_a S), vX0_living (S_a S), vX0_pride (S_a S), vX0_quota (S_a S), vX0_melted (S_a S), vX0_lost (S_a S), vX9_deed (S_w S), vX9_man (S_w S), vX9_other (S_w S), vX9_sign (S_w S), vX9_number (S_w S), vX9_mate (S_w S), vX9_there (S_w S), vX9_rows (S_w S), vX9_steps (S_w S))) ?_) (bind_e (z := (nn, vX12_at M, vX12_names M, wd 6, wd 0)) ?_) ⟨⟨rfl, h.1.2⟩, h.2.1, h.2.2.1, ⟨0, by omega, rfl, rfl, h0, h1, h2⟩, h.2.2.2.2⟩
    · simp (disch := omega) only [f_X11_undo, ek, c_within, q0, wd_lit, wd_of, wd_add, wd_mul, wd_neg, Option.bind_some, bnd, rdI_wd, wrI_wd, rdJ_wd, wrJ_wd, wd_31, wd_le, wd_lt, wd_inj, wd_eqm, wd_eqm', wd_ltm, wd_lem, wd_ltm2, wd_lem2, wd_bit0', wd_bit1', wd_shl, wd_or, wd_dif, i01_t, i01_f, jd_lit, i01_bz, bz_1, bz_0, f_X11_refuse, f_X11_answer, f_X11_allow, f_X11_deny, f_X12_refuse, f_X12_gives, f_X12_is, Option.some.injEq, exists_eq', if_true, if_false, ↓reduceIte, Nat.reduceEqDiff, Nat.reduceLT, Nat.reduceAdd]
    · simp (disch := omega) only [f_X12_undo, ek', wd_lit, wd_of, wd_add, wd_mul, wd_neg, Option.bind_some, bnd, rdI_wd, wrI_wd, rdJ_wd, wrJ_wd, wd_31, wd_le, wd_lt, wd_inj, wd_eqm, wd_eqm', wd_ltm, wd_lem, wd_ltm2, wd_lem2, wd_bit0', wd_bit1', wd_shl, wd_or, wd_dif, i01_t, i01_f, jd_lit, i01_bz, bz_1, bz_0, f_X11_refuse, f_X11_answer, f_X11_allow, f_X11_deny, f_X12_refuse, f_X12_gives, f_X12_is, Option.some.injEq, exists_eq', if_true, if_false, ↓reduceIte, Nat.reduceEqDiff, Nat.reduceLT, Nat.reduceAdd]
  · have q0 : wn 1 3 (wd 1) = true := by decide
    have e5 : wd 1 - wd 1 = wd 0 := by decide
    have hs := h0 (by omega)
    obtain ⟨c, hW, hA, hN, hWr⟩ := h0 (by omega)
    have hbz := RWr_bz hWr
    refine q_of (r := wd 0) (bind_e (z := (wd 0, wd 0, wd 0, va_cpy (vX0_name (S_o0 S)) (vX0_name (S_a S)) 0 0 8, va_cpy (vX0_courage (S_o0 S)) (vX0_courage (S_a S)) 0 0 8, va_cpy (vX0_weight (S_o0 S)) (vX0_weight (S_a S)) 0 0 8, va_cpy (vX0_medals (S_o0 S)) (vX0_medals (S_a S)) 0 0 8, va_cpy (vX0_stood (S_o0 S)) (vX0_stood (S_a S)) 0 0 8, va_cpy (vX0_fled (S_o0 S)) (vX0_fled (S_a S)) 0 0 8, va_cpy (vX0_liked (S_o0 S)) (vX0_liked (S_a S)) 0 0 64, vX0_count (S_o0 S), vX0_living (S_o0 S), vX0_pride (S_o0 S), vX0_quota (S_o0 S), vX0_melted (S_o0 S), vX0_lost (S_o0 S), va_cpy (vX9_deed (S_u0 S)) (vX9_deed (S_w S)) 0 0 60, va_cpy (vX9_man (S_u0 S)) (vX9_man (S_w S)) 0 0 60, va_cpy (vX9_other (S_u0 S)) (vX9_other (S_w S)) 0 0 60, va_cpy (vX9_sign (S_u0 S)) (vX9_sign (S_w S)) 0 0 60, va_cpy (vX9_number (S_u0 S)) (vX9_number (S_w S)) 0 0 60, va_cpy (vX9_mate (S_u0 S)) (vX9_mate (S_w S)) 0 0 60, vX9_there (S_u0 S), vX9_rows (S_u0 S), vX9_steps (S_u0 S))) ?_) (bind_e (z := (wd 0, cpA (vX12_at M) 1 0, cpN (vX12_names M) 1 0, wd 0, wd 0)) ?_) ⟨⟨rfl, h.1.2⟩, h.2.1, RHW_ce (RHW_e hs (fun j hj => by show cpA (vX12_at M) 1 0 j = vX12_at M (488 + j); rw [show j = 488 * 0 + j from by omega, cpA_y hj]; congr 1; omega) (fun j hj => by show cpN (vX12_names M) 1 0 j = vX12_names M (8 + j); rw [show j = 8 * 0 + j from by omega, cpN_y hj]; congr 1; omega)) ⟨fun k hk => ⟨cpy0 hk, cpy0 hk, cpy0 hk, cpy0 hk, cpy0 hk, cpy0 hk⟩, fun k hk => cpy0 hk, rfl, rfl, rfl, rfl, rfl, rfl⟩ ⟨fun k hk => ⟨cpy0 hk, cpy0 hk, cpy0 hk, cpy0 hk, cpy0 hk, cpy0 hk⟩, rfl, rfl⟩, ⟨0, by omega, rfl, rfl, fun h => absurd h (by omega), fun h => absurd h (by omega), fun h => absurd h (by omega)⟩, h.2.2.2.2⟩
    · simp (disch := omega) only [f_X11_undo, ek, c_within, q0, e5, cpJ_wd, cpI_wd, f_X0_become, f_X9_become, hbz, wd_lit, wd_of, wd_add, wd_mul, wd_neg, Option.bind_some, bnd, rdI_wd, wrI_wd, rdJ_wd, wrJ_wd, wd_31, wd_le, wd_lt, wd_inj, wd_eqm, wd_eqm', wd_ltm, wd_lem, wd_ltm2, wd_lem2, wd_bit0', wd_bit1', wd_shl, wd_or, wd_dif, i01_t, i01_f, jd_lit, i01_bz, bz_1, bz_0, f_X11_refuse, f_X11_answer, f_X11_allow, f_X11_deny, f_X12_refuse, f_X12_gives, f_X12_is, Option.some.injEq, exists_eq', if_true, if_false, ↓reduceIte, Nat.reduceEqDiff, Nat.reduceLT, Nat.reduceAdd]
    · simp (disch := omega) only [f_X12_undo, ek', e5, r_copies (show 1 < 6 by omega) (show 0 < 6 by omega) (show 1 ≠ 0 by omega) hf, wd_lit, wd_of, wd_add, wd_mul, wd_neg, Option.bind_some, bnd, rdI_wd, wrI_wd, rdJ_wd, wrJ_wd, wd_31, wd_le, wd_lt, wd_inj, wd_eqm, wd_eqm', wd_ltm, wd_lem, wd_ltm2, wd_lem2, wd_bit0', wd_bit1', wd_shl, wd_or, wd_dif, i01_t, i01_f, jd_lit, i01_bz, bz_1, bz_0, f_X11_refuse, f_X11_answer, f_X11_allow, f_X11_deny, f_X12_refuse, f_X12_gives, f_X12_is, Option.some.injEq, exists_eq', if_true, if_false, ↓reduceIte, Nat.reduceEqDiff, Nat.reduceLT, Nat.reduceAdd]
  · have q0 : wn 1 3 (wd 2) = true := by decide
    have e5 : wd 2 - wd 1 = wd 1 := by decide
    have hs := h1 (by omega)
    obtain ⟨c, hW, hA, hN, hWr⟩ := h1 (by omega)
    have hbz := RWr_bz hWr
    refine q_of (r := wd 1) (bind_e (z := (wd 1, wd 0, wd 1, va_cpy (vX0_name (S_o1 S)) (vX0_name (S_a S)) 0 0 8, va_cpy (vX0_courage (S_o1 S)) (vX0_courage (S_a S)) 0 0 8, va_cpy (vX0_weight (S_o1 S)) (vX0_weight (S_a S)) 0 0 8, va_cpy (vX0_medals (S_o1 S)) (vX0_medals (S_a S)) 0 0 8, va_cpy (vX0_stood (S_o1 S)) (vX0_stood (S_a S)) 0 0 8, va_cpy (vX0_fled (S_o1 S)) (vX0_fled (S_a S)) 0 0 8, va_cpy (vX0_liked (S_o1 S)) (vX0_liked (S_a S)) 0 0 64, vX0_count (S_o1 S), vX0_living (S_o1 S), vX0_pride (S_o1 S), vX0_quota (S_o1 S), vX0_melted (S_o1 S), vX0_lost (S_o1 S), va_cpy (vX9_deed (S_u1 S)) (vX9_deed (S_w S)) 0 0 60, va_cpy (vX9_man (S_u1 S)) (vX9_man (S_w S)) 0 0 60, va_cpy (vX9_other (S_u1 S)) (vX9_other (S_w S)) 0 0 60, va_cpy (vX9_sign (S_u1 S)) (vX9_sign (S_w S)) 0 0 60, va_cpy (vX9_number (S_u1 S)) (vX9_number (S_w S)) 0 0 60, va_cpy (vX9_mate (S_u1 S)) (vX9_mate (S_w S)) 0 0 60, vX9_there (S_u1 S), vX9_rows (S_u1 S), vX9_steps (S_u1 S))) ?_) (bind_e (z := (wd 1, cpA (vX12_at M) 2 0, cpN (vX12_names M) 2 0, wd 0, wd 1)) ?_) ⟨⟨rfl, h.1.2⟩, h.2.1, RHW_ce (RHW_e hs (fun j hj => by show cpA (vX12_at M) 2 0 j = vX12_at M (976 + j); rw [show j = 488 * 0 + j from by omega, cpA_y hj]; congr 1; omega) (fun j hj => by show cpN (vX12_names M) 2 0 j = vX12_names M (16 + j); rw [show j = 8 * 0 + j from by omega, cpN_y hj]; congr 1; omega)) ⟨fun k hk => ⟨cpy0 hk, cpy0 hk, cpy0 hk, cpy0 hk, cpy0 hk, cpy0 hk⟩, fun k hk => cpy0 hk, rfl, rfl, rfl, rfl, rfl, rfl⟩ ⟨fun k hk => ⟨cpy0 hk, cpy0 hk, cpy0 hk, cpy0 hk, cpy0 hk, cpy0 hk⟩, rfl, rfl⟩, ⟨1, by omega, rfl, rfl, fun _ => RHW_e (h0 (by omega)) (fun j hj => cpA_n (by omega)) (fun j hj => cpN_n (by omega)), fun h => absurd h (by omega), fun h => absurd h (by omega)⟩, h.2.2.2.2⟩
    · simp (disch := omega) only [f_X11_undo, ek, c_within, q0, e5, cpJ_wd, cpI_wd, f_X0_become, f_X9_become, hbz, wd_lit, wd_of, wd_add, wd_mul, wd_neg, Option.bind_some, bnd, rdI_wd, wrI_wd, rdJ_wd, wrJ_wd, wd_31, wd_le, wd_lt, wd_inj, wd_eqm, wd_eqm', wd_ltm, wd_lem, wd_ltm2, wd_lem2, wd_bit0', wd_bit1', wd_shl, wd_or, wd_dif, i01_t, i01_f, jd_lit, i01_bz, bz_1, bz_0, f_X11_refuse, f_X11_answer, f_X11_allow, f_X11_deny, f_X12_refuse, f_X12_gives, f_X12_is, Option.some.injEq, exists_eq', if_true, if_false, ↓reduceIte, Nat.reduceEqDiff, Nat.reduceLT, Nat.reduceAdd]
    · simp (disch := omega) only [f_X12_undo, ek', e5, r_copies (show 2 < 6 by omega) (show 0 < 6 by omega) (show 2 ≠ 0 by omega) hf, wd_lit, wd_of, wd_add, wd_mul, wd_neg, Option.bind_some, bnd, rdI_wd, wrI_wd, rdJ_wd, wrJ_wd, wd_31, wd_le, wd_lt, wd_inj, wd_eqm, wd_eqm', wd_ltm, wd_lem, wd_ltm2, wd_lem2, wd_bit0', wd_bit1', wd_shl, wd_or, wd_dif, i01_t, i01_f, jd_lit, i01_bz, bz_1, bz_0, f_X11_refuse, f_X11_answer, f_X11_allow, f_X11_deny, f_X12_refuse, f_X12_gives, f_X12_is, Option.some.injEq, exists_eq', if_true, if_false, ↓reduceIte, Nat.reduceEqDiff, Nat.reduceLT, Nat.reduceAdd]
  · have q0 : wn 1 3 (wd 3) = true := by decide
    have e5 : wd 3 - wd 1 = wd 2 := by decide
    have hs := h2 (by omega)
    obtain ⟨c, hW, hA, hN, hWr⟩ := h2 (by omega)
    have hbz := RWr_bz hWr
    refine q_of (r := wd 2) (bind_e (z := (wd 2, wd 0, wd 2, va_cpy (vX0_name (S_o2 S)) (vX0_name (S_a S)) 0 0 8, va_cpy (vX0_courage (S_o2 S)) (vX0_courage (S_a S)) 0 0 8, va_cpy (vX0_weight (S_o2 S)) (vX0_weight (S_a S)) 0 0 8, va_cpy (vX0_medals (S_o2 S)) (vX0_medals (S_a S)) 0 0 8, va_cpy (vX0_stood (S_o2 S)) (vX0_stood (S_a S)) 0 0 8, va_cpy (vX0_fled (S_o2 S)) (vX0_fled (S_a S)) 0 0 8, va_cpy (vX0_liked (S_o2 S)) (vX0_liked (S_a S)) 0 0 64, vX0_count (S_o2 S), vX0_living (S_o2 S), vX0_pride (S_o2 S), vX0_quota (S_o2 S), vX0_melted (S_o2 S), vX0_lost (S_o2 S), va_cpy (vX9_deed (S_u2 S)) (vX9_deed (S_w S)) 0 0 60, va_cpy (vX9_man (S_u2 S)) (vX9_man (S_w S)) 0 0 60, va_cpy (vX9_other (S_u2 S)) (vX9_other (S_w S)) 0 0 60, va_cpy (vX9_sign (S_u2 S)) (vX9_sign (S_w S)) 0 0 60, va_cpy (vX9_number (S_u2 S)) (vX9_number (S_w S)) 0 0 60, va_cpy (vX9_mate (S_u2 S)) (vX9_mate (S_w S)) 0 0 60, vX9_there (S_u2 S), vX9_rows (S_u2 S), vX9_steps (S_u2 S))) ?_) (bind_e (z := (wd 2, cpA (vX12_at M) 3 0, cpN (vX12_names M) 3 0, wd 0, wd 2)) ?_) ⟨⟨rfl, h.1.2⟩, h.2.1, RHW_ce (RHW_e hs (fun j hj => by show cpA (vX12_at M) 3 0 j = vX12_at M (1464 + j); rw [show j = 488 * 0 + j from by omega, cpA_y hj]; congr 1; omega) (fun j hj => by show cpN (vX12_names M) 3 0 j = vX12_names M (24 + j); rw [show j = 8 * 0 + j from by omega, cpN_y hj]; congr 1; omega)) ⟨fun k hk => ⟨cpy0 hk, cpy0 hk, cpy0 hk, cpy0 hk, cpy0 hk, cpy0 hk⟩, fun k hk => cpy0 hk, rfl, rfl, rfl, rfl, rfl, rfl⟩ ⟨fun k hk => ⟨cpy0 hk, cpy0 hk, cpy0 hk, cpy0 hk, cpy0 hk, cpy0 hk⟩, rfl, rfl⟩, ⟨2, by omega, rfl, rfl, fun _ => RHW_e (h0 (by omega)) (fun j hj => cpA_n (by omega)) (fun j hj => cpN_n (by omega)), fun _ => RHW_e (h1 (by omega)) (fun j hj => cpA_n (by omega)) (fun j hj => cpN_n (by omega)), fun h => absurd h (by omega)⟩, h.2.2.2.2⟩
    · simp (disch := omega) only [f_X11_undo, ek, c_within, q0, e5, cpJ_wd, cpI_wd, f_X0_become, f_X9_become, hbz, wd_lit, wd_of, wd_add, wd_mul, wd_neg, Option.bind_some, bnd, rdI_wd, wrI_wd, rdJ_wd, wrJ_wd, wd_31, wd_le, wd_lt, wd_inj, wd_eqm, wd_eqm', wd_ltm, wd_lem, wd_ltm2, wd_lem2, wd_bit0', wd_bit1', wd_shl, wd_or, wd_dif, i01_t, i01_f, jd_lit, i01_bz, bz_1, bz_0, f_X11_refuse, f_X11_answer, f_X11_allow, f_X11_deny, f_X12_refuse, f_X12_gives, f_X12_is, Option.some.injEq, exists_eq', if_true, if_false, ↓reduceIte, Nat.reduceEqDiff, Nat.reduceLT, Nat.reduceAdd]
    · simp (disch := omega) only [f_X12_undo, ek', e5, r_copies (show 3 < 6 by omega) (show 0 < 6 by omega) (show 3 ≠ 0 by omega) hf, wd_lit, wd_of, wd_add, wd_mul, wd_neg, Option.bind_some, bnd, rdI_wd, wrI_wd, rdJ_wd, wrJ_wd, wd_31, wd_le, wd_lt, wd_inj, wd_eqm, wd_eqm', wd_ltm, wd_lem, wd_ltm2, wd_lem2, wd_bit0', wd_bit1', wd_shl, wd_or, wd_dif, i01_t, i01_f, jd_lit, i01_bz, bz_1, bz_0, f_X11_refuse, f_X11_answer, f_X11_allow, f_X11_deny, f_X12_refuse, f_X12_gives, f_X12_is, Option.some.injEq, exists_eq', if_true, if_false, ↓reduceIte, Nat.reduceEqDiff, Nat.reduceLT, Nat.reduceAdd]
