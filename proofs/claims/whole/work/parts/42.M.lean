section
variable {fu c : Nat} {at_ cou wei med sto fle lik vot : Nat → Int32} {cnt liv pri quo mel los st st' : Int32}
/-- one man more -/
def likN (lik : Nat → Int32) (c m o : Nat) : Int32 := if m = c then (if o = c then wd 0 else wd 5) else if o = c then wd 5 else lik (m * 8 + o)
theorem c_add {nam : Nat → Int64} {l : Nat} {nm : Int64} {x y : Int32} (h8 : c < 8) (hl : l < 2147483648) (hf : 1000 ≤ fu) : ∃ lik', f_X0_add fu nam cou wei med sto fle lik (wd c) (wd l) nm x y = some (wd c, vp_updL nam c nm, upd cou c x, upd wei c y, upd med c (wd 0), upd sto c (wd 0), upd fle c (wd 0), lik', wd (c + 1), wd (l ||| 1 <<< c)) ∧ ∀ m o, m ≤ c → o ≤ c → lik' (m * 8 + o) = likN lik c m o := by
  have q1 : wn 0 7 (wd c) = true := by rw [wn_wd (by omega) (by omega) (by omega)]; simp; omega
  have key := loop_inv (fun n i (s : Nat → Int32) => f_X0_add_l73 fu nm x y n (vp_updL nam c nm) (upd cou c x) (upd wei c y) (upd med c (wd 0)) (upd sto c (wd 0)) (upd fle c (wd 0)) s (wd c) (wd l) (wd c) (wd i)) (fun i s => ∀ m o, m ≤ c → o ≤ c → ¬ (m = c ∧ o = c) → s (m * 8 + o) = if m = c ∧ o < i then wd 5 else if o = c ∧ m < i then wd 5 else lik (m * 8 + o)) (fun r => ∃ lik', r = (wd c, vp_updL nam c nm, upd cou c x, upd wei c y, upd med c (wd 0), upd sto c (wd 0), upd fle c (wd 0), lik', wd (c + 1), wd (l ||| 1 <<< c)) ∧ ∀ m o, m ≤ c → o ≤ c → lik' (m * 8 + o) = likN lik c m o) c ?_ ?_ 0 fu lik (by omega) (by omega) ?_
  · obtain ⟨r, e, lik', rfl, h⟩ := key
    refine ⟨lik', ?_, h⟩
    unfold f_X0_add
    simp (disch := omega) only [c_within, q1, i01_t, wd_lit, wd_of, wd_add, wd_mul, wd_neg, Option.bind_some, bnd, rdI_wd, wrI_wd, rdJ_wd, wrJ_wd, wd_31, wd_le, wd_lt, wd_inj, wd_eqm, wd_eqm', wd_ltm, wd_lem, wd_ltm2, wd_lem2, wd_bit0', wd_bit1', wd_shl, wd_or, wd_dif, Nat.reduceEqDiff, if_false]
    exact e
  · intro n i s hi hs
    refine ⟨upd (upd s (c * 8 + i) (wd 5)) (i * 8 + c) (wd 5), ?_, ?_⟩
    · simp (disch := omega) only [f_X0_add_l73, f_X0_add_b73, wd_lit, wd_of, wd_add, wd_mul, wd_neg, Option.bind_some, bnd, rdI_wd, wrI_wd, rdJ_wd, wrJ_wd, wd_31, wd_le, wd_lt, wd_inj, wd_eqm, wd_eqm', wd_ltm, wd_lem, wd_ltm2, wd_lem2, wd_bit0', wd_bit1', wd_shl, wd_or, wd_dif]
      rw [if_neg (by omega)]
    · intro m o hm ho hmo
      have := hs m o hm ho hmo
      unfold upd
      by_cases h1 : m * 8 + o = i * 8 + c
      · rw [if_pos h1]
        have : m = i ∧ o = c := by omega
        grind
      · rw [if_neg h1]
        by_cases h2 : m * 8 + o = c * 8 + i
        · rw [if_pos h2]
          have : m = c ∧ o = i := by omega
          grind
        · rw [if_neg h2, this]
          have h3 : ¬ (m = i ∧ o = c) := by omega
          have h4 : ¬ (m = c ∧ o = i) := by omega
          grind
  · intro n s hs
    refine ⟨_, by simp (disch := omega) only [f_X0_add_l73, f_X0_add_b73, wd_lit, wd_of, wd_add, wd_mul, wd_neg, Option.bind_some, bnd, rdI_wd, wrI_wd, rdJ_wd, wrJ_wd, wd_31, wd_le, wd_lt, wd_inj, wd_eqm, wd_eqm', wd_ltm, wd_lem, wd_ltm2, wd_lem2, wd_bit0', wd_bit1', wd_shl, wd_or, wd_dif]; rw [if_pos (by omega)], _, rfl, ?_⟩
    intro m o hm ho
    unfold likN upd
    by_cases h1 : m = c ∧ o = c
    · rw [if_pos (by omega), if_pos h1.1, if_pos h1.2]
    · rw [if_neg (by omega), hs m o hm ho h1]
      grind
  · intro m o hm ho hmo
    rw [if_neg (by omega), if_neg (by omega)]
/-- a man's numbers when he comes -/
def enV (at_ : Nat → Int32) (c : Nat) (x1 x2 : Int32) (m j : Nat) : Int32 := if m = c then (if j = 0 then x1 else if j = 1 then x2 else if j < 6 then wd 0 else if j = 6 + c then wd 0 else wd 5) else if j = 6 + c then wd 5 else mn at_ m j
def EN (at_ at' : Nat → Int32) (c : Nat) (x1 x2 : Int32) : Prop := at' 0 = wd (c + 1) ∧ (∀ k, 1 ≤ k → k < 8 → at' k = at_ k) ∧ (∀ k, 120 ≤ k → at' k = at_ k) ∧ ∀ m j, m < 8 → j < 14 → mn at' m j = enV at_ c x1 x2 m j
theorem r_enl {names : Nat → Int64} {x1 x2 : Int32} (hc : at_ 0 = wd c) (h8 : c < 8) (q1 : wn 0 20 x1 = true) (q2 : wn 0 9 x2 = true) (hf : 1000 ≤ fu) : ∃ at', f_X12_enlist fu at_ names st' x1 x2 = some (wd c, at', vp_updL names c (jd 0), wd 0) ∧ EN at_ at' c x1 x2 := by
  have k2 : ∀ at2, at2 0 = wd (c + 1) → (∀ k, 1 ≤ k → k < 8 → at2 k = at_ k) → (∀ k, 120 ≤ k → at2 k = at_ k) → (∀ m j, m < 8 → j < 14 → mn at2 m j = if m = c then (if j = 0 then x1 else if j = 1 then x2 else wd 0) else mn at_ m j) → ∃ r, f_X12_enlist_l113 fu x1 x2 fu at2 names st' (wd c) (wd 0) = some r ∧ ∃ at', r = (wd c, at', vp_updL names c (jd 0), wd 0) ∧ EN at_ at' c x1 x2 := by
    intro at2 b0 b1 b2 b3
    refine loop_inv (fun n i (s : Nat → Int32) => f_X12_enlist_l113 fu x1 x2 n s names st' (wd c) (wd i)) (fun i s => s 0 = wd (c + 1) ∧ (∀ k, 1 ≤ k → k < 8 → s k = at_ k) ∧ (∀ k, 120 ≤ k → s k = at_ k) ∧ ∀ m j, m < 8 → j < 14 → mn s m j = if m = c then (if j = 0 then x1 else if j = 1 then x2 else if j < 6 then wd 0 else if j = 6 + c then wd 0 else if j < 6 + i then wd 5 else wd 0) else if j = 6 + c ∧ m < i then wd 5 else mn at_ m j) _ 8 ?_ ?_ 0 fu at2 (by omega) (by omega) ⟨b0, b1, b2, ?_⟩
    · intro n i s hi hs
      by_cases hic : i = c
      · subst hic
        refine ⟨upd s (8 + 14 * i + (6 + i)) (wd 0), ?_, ?_, ?_, ?_, ?_⟩
        · simp (disch := omega) only [f_X12_enlist_l113, f_X12_enlist_b113, f_X12_enlist_j145, r_manRow, wd_lit, wd_of, wd_add, wd_mul, wd_neg, Option.bind_some, bnd, rdI_wd, wrI_wd, rdJ_wd, wrJ_wd, wd_31, wd_le, wd_lt, wd_inj, wd_eqm, wd_eqm', wd_ltm, wd_lem, wd_ltm2, wd_lem2, wd_bit0', wd_bit1', wd_shl, wd_or, wd_dif, Nat.add_assoc]
          rw [if_neg (by omega)]
          simp only [if_true]
        · rw [upd_ne (by omega)]; exact hs.1
        · intro k h1 h2; rw [upd_ne (by omega)]; exact hs.2.1 k h1 h2
        · intro k h1; rw [upd_ne (by omega)]; exact hs.2.2.1 k h1
        · intro m j hm hj
          rw [mn_upd (by omega) hj, hs.2.2.2 m j hm hj]
          grind
      · refine ⟨upd (upd s (8 + 14 * c + (6 + i)) (wd 5)) (8 + 14 * i + (6 + c)) (wd 5), ?_, ?_, ?_, ?_, ?_⟩
        · simp (disch := omega) only [f_X12_enlist_l113, f_X12_enlist_b113, f_X12_enlist_j145, r_manRow, wd_lit, wd_of, wd_add, wd_mul, wd_neg, Option.bind_some, bnd, rdI_wd, wrI_wd, rdJ_wd, wrJ_wd, wd_31, wd_le, wd_lt, wd_inj, wd_eqm, wd_eqm', wd_ltm, wd_lem, wd_ltm2, wd_lem2, wd_bit0', wd_bit1', wd_shl, wd_or, wd_dif, Nat.add_assoc]
          rw [if_neg (by omega), if_neg hic, if_neg hic]
        · rw [upd_ne (by omega), upd_ne (by omega)]; exact hs.1
        · intro k h1 h2; rw [upd_ne (by omega), upd_ne (by omega)]; exact hs.2.1 k h1 h2
        · intro k h1; rw [upd_ne (by omega), upd_ne (by omega)]; exact hs.2.2.1 k h1
        · intro m j hm hj
          rw [mn_upd (by omega) hj, mn_upd (by omega) hj, hs.2.2.2 m j hm hj]
          grind
    · intro n s hs
      refine ⟨_, by simp (disch := omega) only [f_X12_enlist_l113, f_X12_enlist_b113, wd_lit, wd_of, wd_add, wd_mul, wd_neg, Option.bind_some, bnd, rdI_wd, wrI_wd, rdJ_wd, wrJ_wd, wd_31, wd_le, wd_lt, wd_inj, wd_eqm, wd_eqm', wd_ltm, wd_lem, wd_ltm2, wd_lem2, wd_bit0', wd_bit1', wd_shl, wd_or, wd_dif, jd_lit, f_X12_gives]; rw [if_pos (by omega)], _, rfl, hs.1, hs.2.1, hs.2.2.1, ?_⟩
      intro m j hm hj
      rw [hs.2.2.2 m j hm hj]
      unfold enV
      grind
    · intro m j hm hj
      rw [b3 m j hm hj]
      grind
  have k1 := loop_inv (fun n i (s : Nat → Int32) => f_X12_enlist_l62 fu x1 x2 n s names st' (wd c) (wd i)) (fun i s => s 0 = wd (c + 1) ∧ (∀ k, 1 ≤ k → k < 8 → s k = at_ k) ∧ (∀ k, 120 ≤ k → s k = at_ k) ∧ ∀ m j, m < 8 → j < 14 → mn s m j = if m = c ∧ j < i then wd 0 else mn at_ m j) (fun r => ∃ at', r = (wd c, at', vp_updL names c (jd 0), wd 0) ∧ EN at_ at' c x1 x2) 14 ?_ ?_ 0 fu (upd at_ 0 (wd (c + 1))) (by omega) (by omega) ⟨upd_eq, fun k h1 h2 => upd_ne (by omega), fun k h1 => upd_ne (by omega), ?_⟩
  · obtain ⟨r, e, at', rfl, h⟩ := k1
    refine ⟨at', ?_, h⟩
    unfold f_X12_enlist
    have n8 : ¬ c = 8 := by omega
    simp (disch := omega) only [wd_lit, wd_of, wd_add, wd_mul, wd_neg, Option.bind_some, bnd, rdI_wd, wrI_wd, rdJ_wd, wrJ_wd, wd_31, wd_le, wd_lt, wd_inj, wd_eqm, wd_eqm', wd_ltm, wd_lem, wd_ltm2, wd_lem2, wd_bit0', wd_bit1', wd_shl, wd_or, wd_dif, jd_lit, r_from, q1, q2, i01_t, hc, n8, Nat.reduceEqDiff, if_false]
    exact e
  · intro n i s hi hs
    refine ⟨upd s (8 + 14 * c + i) (wd 0), ?_, ?_, ?_, ?_, ?_⟩
    · simp (disch := omega) only [f_X12_enlist_l62, f_X12_enlist_b62, r_manRow, wd_lit, wd_of, wd_add, wd_mul, wd_neg, Option.bind_some, bnd, rdI_wd, wrI_wd, rdJ_wd, wrJ_wd, wd_31, wd_le, wd_lt, wd_inj, wd_eqm, wd_eqm', wd_ltm, wd_lem, wd_ltm2, wd_lem2, wd_bit0', wd_bit1', wd_shl, wd_or, wd_dif, Nat.add_assoc]
      rw [if_neg (by omega)]
    · rw [upd_ne (by omega)]; exact hs.1
    · intro k h1 h2; rw [upd_ne (by omega)]; exact hs.2.1 k h1 h2
    · intro k h1; rw [upd_ne (by omega)]; exact hs.2.2.1 k h1
    · intro m j hm hj
      rw [mn_upd (by omega) hj, hs.2.2.2 m j hm hj]
      grind
  · intro n s hs
    obtain ⟨r, e, h⟩ := k2 (upd (upd s (8 + 14 * c + 0) x1) (8 + 14 * c + 1) x2) (by rw [upd_ne (by omega), upd_ne (by omega)]; exact hs.1) (fun k h1 h2 => by rw [upd_ne (by omega), upd_ne (by omega)]; exact hs.2.1 k h1 h2) (fun k h1 => by rw [upd_ne (by omega), upd_ne (by omega)]; exact hs.2.2.1 k h1) (fun m j hm hj => by
      rw [mn_upd (by omega) hj, mn_upd (by omega) hj, hs.2.2.2 m j hm hj]
      grind)
    refine ⟨r, ?_, h⟩
    rw [← e]
    simp (disch := omega) only [f_X12_enlist_l62, f_X12_enlist_b62, r_manRow, wd_lit, wd_of, wd_add, wd_mul, wd_neg, Option.bind_some, bnd, rdI_wd, wrI_wd, rdJ_wd, wrJ_wd, wd_31, wd_le, wd_lt, wd_inj, wd_eqm, wd_eqm', wd_ltm, wd_lem, wd_ltm2, wd_lem2, wd_bit0', wd_bit1', wd_shl, wd_or, wd_dif, Nat.add_zero]
    rw [if_pos (by omega)]
  · intro m j hm hj
    rw [mn_upd8 (by omega), if_neg (by omega)]
theorem WF_EN {at' : Nat → Int32} {s1 s2 : Nat} (hW : WF at_ c) (h8 : c < 8) (h1 : s1 ≤ 20) (h2 : s2 ≤ 9) (h : EN at_ at' c (wd s1) (wd s2)) : WF at' (c + 1) := by
  obtain ⟨a1, a2, a3, a4, a5⟩ := hW
  refine ⟨by omega, h.1, by rw [h.2.1 1 (by omega) (by omega)]; exact a3, by rw [h.2.1 2 (by omega) (by omega)]; exact a4, ?_⟩
  intro m hm
  by_cases hmc : m = c
  · subst hmc
    refine ⟨⟨s1, h1, ?_⟩, ⟨s2, h2, ?_⟩, ⟨0, by omega, ?_⟩, ?_⟩
    · rw [h.2.2.2 m 0 h8 (by omega)]; simp [enV]
    · rw [h.2.2.2 m 1 h8 (by omega)]; simp [enV]
    · rw [h.2.2.2 m 2 h8 (by omega)]; simp [enV]
    · intro o ho
      rw [h.2.2.2 m (6 + o) h8 (by omega)]
      by_cases hom : o = m
      · exact ⟨0, by omega, by subst hom; unfold enV; rw [if_pos rfl, if_neg (by omega), if_neg (by omega), if_neg (by omega), if_pos rfl]⟩
      · exact ⟨5, by omega, by unfold enV; rw [if_pos rfl, if_neg (by omega), if_neg (by omega), if_neg (by omega), if_neg (by omega)]⟩
  · have hm' : m < c := by omega
    obtain ⟨b1, b2, b3, b4⟩ := a5 m hm'
    refine ⟨?_, ?_, ?_, ?_⟩
    · rw [h.2.2.2 m 0 (by omega) (by omega), enV, if_neg hmc, if_neg (by omega)]; exact b1
    · rw [h.2.2.2 m 1 (by omega) (by omega), enV, if_neg hmc, if_neg (by omega)]; exact b2
    · rw [h.2.2.2 m 2 (by omega) (by omega), enV, if_neg hmc, if_neg (by omega)]; exact b3
    · intro o ho
      rw [h.2.2.2 m (6 + o) (by omega) (by omega), enV, if_neg hmc]
      by_cases hoc : o = c
      · exact ⟨5, by omega, if_pos (by omega)⟩
      · rw [if_neg (by omega)]; exact b4 o (by omega)
theorem RA_EN {at' lik' : Nat → Int32} {x1 x2 : Int32} (hR : RA at_ c cou wei med sto fle lik cnt liv pri quo mel los) (h8 : c < 8) (h : EN at_ at' c x1 x2) (hl : ∀ m o, m ≤ c → o ≤ c → lik' (m * 8 + o) = likN lik c m o) : RA at' (c + 1) (upd cou c x1) (upd wei c x2) (upd med c (wd 0)) (upd sto c (wd 0)) (upd fle c (wd 0)) lik' (wd (c + 1)) (wd (mask (alv at_) c ||| 1 <<< c)) pri quo mel los := by
  obtain ⟨⟨a1, a2, a3, a4⟩, e1, e2, e3, e4, e5, e6, h3, h4, h0⟩ := hR
  obtain ⟨g0, g1, g2, g3⟩ := h
  have hal : ∀ m, m < c → alv at' m = alv at_ m := by
    intro m hm
    unfold alv
    rw [g3 m 5 (by omega) (by omega), enV, if_neg (by omega), if_neg (by omega)]
  have hac : alv at' c = true := by
    unfold alv
    rw [g3 c 5 (by omega) (by omega), enV, if_pos rfl]; simp
  refine ⟨⟨?_, ?_, ?_, ?_⟩, rfl, ?_, by rw [g1 1 (by omega) (by omega)]; exact e3, by rw [g1 2 (by omega) (by omega)]; exact e4, by rw [g1 3 (by omega) (by omega)]; exact e5, by rw [g1 4 (by omega) (by omega)]; exact e6, ?_, ?_, ?_⟩
  · intro m hm; rw [g3 m 0 (by omega) (by omega)]; have := a1 m; unfold enV upd; grind
  · intro m hm; rw [g3 m 1 (by omega) (by omega)]; have := a2 m; unfold enV upd; grind
  · intro m hm; rw [g3 m 2 (by omega) (by omega)]; have := a3 m; unfold enV upd; grind
  · intro m o hm ho
    rw [hl m o (by omega) (by omega), g3 m (6 + o) (by omega) (by omega)]
    have := a4 m o
    unfold enV likN
    grind
  · rw [mask_s, hac, mask_congr hal]; rfl
  · intro m hm; rw [g3 m 3 (by omega) (by omega)]; have := h3 m; unfold enV upd; grind
  · intro m hm; rw [g3 m 4 (by omega) (by omega)]; have := h4 m; unfold enV upd; grind
  · intro m hm hm8; rw [upd_ne (by omega), upd_ne (by omega), upd_ne (by omega)]; exact h0 m (by omega) hm8
theorem RRow.mono {p : Nat → Int32} {w : tX9} {n c' k : Nat} (h : RRow p w n c k) (hc : c ≤ c') : RRow p w n c' k := by
  have up : ∀ {P : Nat → Prop}, (∃ m, m < c ∧ P m) → ∃ m, m < c' ∧ P m := fun ⟨m, h1, h2⟩ => ⟨m, by omega, h2⟩
  rcases h with h | h | h | h | h | h | h | h | h
  · exact Or.inl ⟨h.1, h.2.1, up h.2.2.1, h.2.2.2⟩
  · exact Or.inr (Or.inl ⟨h.1, h.2.1, up h.2.2.1, up h.2.2.2⟩)
  · exact Or.inr (Or.inr (Or.inl ⟨h.1, h.2.1, up h.2.2⟩))
  · exact Or.inr (Or.inr (Or.inr (Or.inl ⟨h.1, h.2.1, up h.2.2⟩)))
  · exact Or.inr (Or.inr (Or.inr (Or.inr (Or.inl h))))
  · exact Or.inr (Or.inr (Or.inr (Or.inr (Or.inr (Or.inl h)))))
  · exact Or.inr (Or.inr (Or.inr (Or.inr (Or.inr (Or.inr (Or.inl h))))))
  · exact Or.inr (Or.inr (Or.inr (Or.inr (Or.inr (Or.inr (Or.inr (Or.inl h)))))))
  · obtain ⟨t, h1, h2, h3, h4, h5, h6⟩ := h
    exact Or.inr (Or.inr (Or.inr (Or.inr (Or.inr (Or.inr (Or.inr (Or.inr ⟨t, h1, h2, h3, h4, up h5, h6⟩)))))))
theorem RWr.mono {n0 : Int32} {p : Nat → Int32} {w : tX9} {c' : Nat} (h : RWr n0 p w c) (hc : c ≤ c') : RWr n0 p w c' := by
  rcases h with h | ⟨n, h1, h2, h3, h4, h5, h6⟩
  · exact Or.inl h
  · exact Or.inr ⟨n, h1, h2, h3, h4, fun k hk => (h5 k hk).mono hc, h6⟩
theorem NC_0 : NC (jd 0) (jd 0) := ⟨[], by simp, by simp, rfl, rfl⟩
end
theorem Q1_enlist {fu : Nat} (hf : 1000 ≤ fu) : Q_enlist fu RR := by
  intro S M x1 x2 h
  obtain ⟨c, hW, hA, hN, hWr⟩ := h.2.2.1
  have h8 := hW.1
  have hc := hW.2.1
  have ec := hA.2.1
  cases q1 : wn 0 20 x1
  · refine q_of (r := nn) (bind_e (z := (nn, wd 1, vX0_name (S_a S), vX0_courage (S_a S), vX0_weight (S_a S), vX0_medals (S_a S), vX0_stood (S_a S), vX0_fled (S_a S), vX0_liked (S_a S), vX0_count (S_a S), vX0_living (S_a S))) ?_) (bind_e (z := (nn, vX12_at M, vX12_names M, wd 1)) ?_) ⟨⟨rfl, h.1.2⟩, h.2⟩ <;> simp (disch := omega) only [f_X11_enlist, f_X12_enlist, q1, c_within, r_from, wd_lit, wd_of, wd_add, wd_mul, wd_neg, Option.bind_some, bnd, rdI_wd, wrI_wd, rdJ_wd, wrJ_wd, wd_31, wd_le, wd_lt, wd_inj, wd_eqm, wd_eqm', wd_ltm, wd_lem, wd_ltm2, wd_lem2, wd_bit0', wd_bit1', wd_shl, wd_or, wd_dif, i01_t, i01_f, jd_lit, i01_bz, bz_1, bz_0, f_X11_refuse, f_X11_answer, f_X11_allow, f_X11_deny, f_X12_refuse, f_X12_gives, f_X12_is, Option.some.injEq, exists_eq', if_true, if_false, ↓reduceIte, Nat.reduceEqDiff, Nat.reduceLT, Nat.reduceAdd]
  · cases q2 : wn 0 9 x2
    · refine q_of (r := nn) (bind_e (z := (nn, wd 1, vX0_name (S_a S), vX0_courage (S_a S), vX0_weight (S_a S), vX0_medals (S_a S), vX0_stood (S_a S), vX0_fled (S_a S), vX0_liked (S_a S), vX0_count (S_a S), vX0_living (S_a S))) ?_) (bind_e (z := (nn, vX12_at M, vX12_names M, wd 1)) ?_) ⟨⟨rfl, h.1.2⟩, h.2⟩ <;> simp (disch := omega) only [f_X11_enlist, f_X12_enlist, q1, q2, c_within, r_from, wd_lit, wd_of, wd_add, wd_mul, wd_neg, Option.bind_some, bnd, rdI_wd, wrI_wd, rdJ_wd, wrJ_wd, wd_31, wd_le, wd_lt, wd_inj, wd_eqm, wd_eqm', wd_ltm, wd_lem, wd_ltm2, wd_lem2, wd_bit0', wd_bit1', wd_shl, wd_or, wd_dif, i01_t, i01_f, jd_lit, i01_bz, bz_1, bz_0, f_X11_refuse, f_X11_answer, f_X11_allow, f_X11_deny, f_X12_refuse, f_X12_gives, f_X12_is, Option.some.injEq, exists_eq', if_true, if_false, ↓reduceIte, Nat.reduceEqDiff, Nat.reduceLT, Nat.reduceAdd]
    · by_cases q3 : c = 8
      · subst q3
        refine q_of (r := nn) (bind_e (z := (nn, wd 4, vX0_name (S_a S), vX0_courage (S_a S), vX0_weight (S_a S), vX0_medals (S_a S), vX0_stood (S_a S), vX0_fled (S_a S), vX0_liked (S_a S), vX0_count (S_a S), vX0_living (S_a S))) ?_) (bind_e (z := (nn, vX12_at M, vX12_names M, wd 4)) ?_) ⟨⟨rfl, h.1.2⟩, h.2⟩ <;> simp (disch := omega) only [f_X11_enlist, f_X12_enlist, q1, q2, c_within, r_from, ec, hc, Nat.lt_irrefl, wd_lit, wd_of, wd_add, wd_mul, wd_neg, Option.bind_some, bnd, rdI_wd, wrI_wd, rdJ_wd, wrJ_wd, wd_31, wd_le, wd_lt, wd_inj, wd_eqm, wd_eqm', wd_ltm, wd_lem, wd_ltm2, wd_lem2, wd_bit0', wd_bit1', wd_shl, wd_or, wd_dif, i01_t, i01_f, jd_lit, i01_bz, bz_1, bz_0, f_X11_refuse, f_X11_answer, f_X11_allow, f_X11_deny, f_X12_refuse, f_X12_gives, f_X12_is, Option.some.injEq, exists_eq', if_true, if_false, ↓reduceIte, Nat.reduceEqDiff, Nat.reduceLT, Nat.reduceAdd]
      · have h8' : c < 8 := by omega
        obtain ⟨at', e2, hE⟩ := r_enl (st' := vX12_status M) (names := vX12_names M) hc h8' q1 q2 hf
        have h256 := mask_256 (alv (vX12_at M)) h8
        obtain ⟨lik', e1, hl⟩ := c_add (cou := vX0_courage (S_a S)) (wei := vX0_weight (S_a S)) (med := vX0_medals (S_a S)) (sto := vX0_stood (S_a S)) (fle := vX0_fled (S_a S)) (lik := vX0_liked (S_a S)) (nam := vX0_name (S_a S)) (l := mask (alv (vX12_at M)) c) (nm := jd 0) (x := x1) (y := x2) h8' (by omega) hf
        obtain ⟨s1, _, hs1, rfl⟩ := wn_ex (by omega) (by omega) q1
        obtain ⟨s2, _, hs2, rfl⟩ := wn_ex (by omega) (by omega) q2
        have e1' : f_X11_enlist fu (vX11_latestStatus (S_b S)) (vX0_name (S_a S)) (vX0_courage (S_a S)) (vX0_weight (S_a S)) (vX0_medals (S_a S)) (vX0_stood (S_a S)) (vX0_fled (S_a S)) (vX0_liked (S_a S)) (vX0_count (S_a S)) (vX0_living (S_a S)) (wd s1) (wd s2) = some (wd c, wd 0, vp_updL (vX0_name (S_a S)) c (jd 0), upd (vX0_courage (S_a S)) c (wd s1), upd (vX0_weight (S_a S)) c (wd s2), upd (vX0_medals (S_a S)) c (wd 0), upd (vX0_stood (S_a S)) c (wd 0), upd (vX0_fled (S_a S)) c (wd 0), lik', wd (c + 1), wd (mask (alv (vX12_at M)) c ||| 1 <<< c)) := by
          simp (disch := omega) only [f_X11_enlist, q1, q2, c_within, ec, hA.2.2.1, h8', e1, wd_lit, wd_of, wd_add, wd_mul, wd_neg, Option.bind_some, bnd, rdI_wd, wrI_wd, rdJ_wd, wrJ_wd, wd_31, wd_le, wd_lt, wd_inj, wd_eqm, wd_eqm', wd_ltm, wd_lem, wd_ltm2, wd_lem2, wd_bit0', wd_bit1', wd_shl, wd_or, wd_dif, i01_t, i01_f, jd_lit, i01_bz, bz_1, bz_0, f_X11_refuse, f_X11_answer, f_X11_allow, f_X11_deny, f_X12_refuse, f_X12_gives, f_X12_is, Option.some.injEq, exists_eq', if_true, if_false, ↓reduceIte, Nat.reduceEqDiff, Nat.reduceLT, Nat.reduceAdd]
        refine q_of (bind_e e1') (bind_e e2) ⟨⟨rfl, h.1.2⟩, h.2.1, ⟨c + 1, WF_EN hW h8' hs1 hs2 hE, RA_EN hA h8' hE hl, ?_, ?_⟩, ?_, h.2.2.2.2⟩
        · intro m hm
          show NC (vp_updL (vX0_name (S_a S)) c (jd 0) m) (vp_updL (vX12_names M) c (jd 0) m)
          unfold vp_updL
          by_cases hmc : m = c
          · rw [if_pos hmc, if_pos hmc]; exact NC_0
          · rw [if_neg hmc, if_neg hmc]; exact hN m (by omega)
        · show RWr (at' 5) (shI 120 at') (S_w S) (c + 1)
          rw [hE.2.1 5 (by omega) (by omega), show shI 120 at' = shI 120 (vX12_at M) from by funext k; exact hE.2.2.1 _ (by omega)]
          exact hWr.mono (by omega)
        · show RMk _ _ at' (vp_updL (vX12_names M) c (jd 0)) _ _ _ _ _ _
          have e3 : ∀ b, 120 ≤ b → shI b at' = shI b (vX12_at M) := by intro b hb; funext k; exact hE.2.2.1 _ (by omega)
          have e4 : ∀ b, 8 ≤ b → shJ b (vp_updL (vX12_names M) c (jd 0)) = shJ b (vX12_names M) := by
            intro b hb; funext k; unfold shJ vp_updL; rw [if_neg (by omega)]
          have := h.2.2.2.1
          unfold RMk at this ⊢
          rw [e3 488 (by omega), e3 976 (by omega), e3 1464 (by omega), e4 8 (by omega), e4 16 (by omega), e4 24 (by omega)]
          exact this
