section
variable {fu c : Nat} {at_ cou wei med sto fle lik vot : Nat → Int32} {cnt liv pri quo mel los : Int32}
theorem upd_hd {f : Nat → Int32} {k m j : Nat} {x : Int32} (h : k < 8) : f k = upd f (8 + 14 * m + j) x k := (upd_ne (by omega)).symm
/-- a medal more -/
theorem c_pin {w : Nat} (hw : w < c) (h8 : c ≤ 8) (h2 : med w = mn at_ w 2) (hk : ∃ k, k ≤ 99 ∧ mn at_ w 2 = wd k) : f_X0_pin fu med (wd c) (wd w) = some (i01 (!decide (mn at_ w 2 = wd 99)), upd med w (bmin (mn at_ w 2 + wd 1))) := by
  obtain ⟨k, hk, e⟩ := hk
  simp (disch := omega) only [f_X0_pin, c_isMan, wd_lit, wd_of, wd_add, wd_mul, wd_neg, Option.bind_some, bnd, rdI_wd, wrI_wd, rdJ_wd, wrJ_wd, wd_31, wd_le, wd_lt, wd_inj, wd_eqm, wd_eqm', wd_ltm, wd_lem, wd_ltm2, wd_lem2, wd_bit0', wd_bit1', wd_shl, wd_or, wd_dif, i01_0, h2, e]
  rw [if_neg (by simp [hw])]
  by_cases h : k < 99
  · rw [if_pos h, ← wd_add, bmin_s h]
    have : ¬ k = 99 := by omega
    simp [this, i01]
  · have : k = 99 := by omega
    subst this
    simp only [Nat.lt_irrefl, if_false, if_true]
    have : bmin (wd 99 + wd 1) = wd 99 := by decide
    rw [show wd (99 + 1) = wd 99 + wd 1 from rfl, this]
    have : upd med w (wd 99) = med := by
      funext j
      unfold upd
      split
      · rename_i h; rw [h, h2, e]
      · rfl
    rw [this]; simp [i01]
theorem WF_pinA {w : Nat} (h : WF at_ c) (hw : w < c) : WF (pinA at_ w) c := by
  have h8 := h.1
  obtain ⟨k, hk, e⟩ := (h.2.2.2.2 w hw).2.2.1
  refine WF_upd (WF_upd8 h (by omega) (by omega)) (by omega) (by omega) (by omega) (by omega) ?_ (by omega)
  intro _
  rw [e, wd_add]
  exact bmin_le (by omega)
theorem FR_pinA {w : Nat} (hw : w < 8) : FR at_ (pinA at_ w) := FR.tr (FR_u8 (by omega) (by omega)) (FR_u3 hw (by omega))
theorem alv_pinA {w : Nat} : alv (pinA at_ w) = alv at_ := by
  unfold pinA
  rw [alv_upd (by omega) (by omega), alv_upd8 (by omega)]
theorem mn_pinA {w m j : Nat} (hj : j < 14) : mn (pinA at_ w) m j = if m = w ∧ j = 2 then bmin (mn at_ w 2 + wd 1) else mn at_ m j := by
  unfold pinA
  rw [mn_upd (by omega) hj, mn_upd8 (by omega)]
theorem RV_pinA {w : Nat} (h : RV at_ c cou wei med lik) (hw : w < c) (h8 : c ≤ 8) : RV (pinA at_ w) c cou wei (upd med w (bmin (mn at_ w 2 + wd 1))) lik := by
  obtain ⟨h1, h2, h3, h4⟩ := h
  refine ⟨?_, ?_, ?_, ?_⟩
  · intro m hm; rw [mn_pinA (by omega), if_neg (by omega)]; exact h1 m hm
  · intro m hm; rw [mn_pinA (by omega), if_neg (by omega)]; exact h2 m hm
  · intro m hm
    rw [mn_pinA (by omega)]
    unfold upd
    have := h3 m hm
    grind
  · intro m o hm ho; rw [mn_pinA (by omega), if_neg (by omega)]; exact h4 m o hm ho
/-- a number of a man's other than his medals, likes, weight, courage, or life -/
theorem RV_u {m j : Nat} {x : Int32} (h : RV at_ c cou wei med lik) (h8 : c ≤ 8) (hj : j < 14) (hj2 : 3 ≤ j) (hj6 : j < 6) : RV (upd at_ (8 + 14 * m + j) x) c cou wei med lik := by
  obtain ⟨h1, h2, h3, h4⟩ := h
  refine ⟨?_, ?_, ?_, ?_⟩
  · intro m hm; rw [mn_upd hj (by omega), if_neg (by omega)]; exact h1 m hm
  · intro m hm; rw [mn_upd hj (by omega), if_neg (by omega)]; exact h2 m hm
  · intro m hm; rw [mn_upd hj (by omega), if_neg (by omega)]; exact h3 m hm
  · intro m o hm ho
    rw [mn_upd hj (by omega), if_neg (by omega)]; exact h4 m o hm ho
theorem RV_u8 {k : Nat} {x : Int32} (h : RV at_ c cou wei med lik) (hk : k < 8) : RV (upd at_ k x) c cou wei med lik := by
  obtain ⟨h1, h2, h3, h4⟩ := h
  exact ⟨fun m hm => by rw [mn_upd8 hk]; exact h1 m hm, fun m hm => by rw [mn_upd8 hk]; exact h2 m hm, fun m hm => by rw [mn_upd8 hk]; exact h3 m hm, fun m o hm ho => by rw [mn_upd8 hk]; exact h4 m o hm ho⟩
/-- a danger faced -/
theorem p_faces {m : Nat} {s : Int32} (hW : WF at_ c) (hR : RA at_ c cou wei med sto fle lik cnt liv pri quo mel los) (hm : m < c) (hf : 1000 ≤ fu) : ∃ med' sto' fle' vot' mel' los', f_X0_endure fu cou wei med sto fle lik vot cnt liv pri mel los (wd m) s = some ((facesA at_ c m s).1, med', sto', fle', vot', mel', los') ∧ WF (facesA at_ c m s).2 c ∧ RA (facesA at_ c m s).2 c cou wei med' sto' fle' lik cnt liv pri quo mel' los' ∧ FR at_ (facesA at_ c m s).2 := by
  obtain ⟨hV, rfl, rfl, rfl, rfl, rfl, rfl, h3, h4, h0⟩ := hR
  have h8 := hW.1
  have hc := hW.2.1
  unfold f_X0_endure facesA
  simp (disch := omega) only [c_isMan, wd_lit, wd_of, wd_add, wd_mul, wd_neg, Option.bind_some, bnd, rdI_wd, wrI_wd, rdJ_wd, wrJ_wd, wd_31, i01_0, c_bravery hm h8 (hV.1 m hm) (hV.2.2.1 m hm), c_runners h8 hf hV.1 hV.2.2.1, c_winnerOf (show mask (rns at_ s) c < 2147483648 by have := mask_256 (rns at_ s) h8; omega) h8 hf hV.2.1 hV.2.2.2 hW.nn]
  rw [if_neg (by simp [hm])]
  by_cases hb : brv at_ m < s
  · rw [if_pos hb, if_neg (Int32.not_le.2 hb)]
    dsimp only
    refine ⟨_, _, _, _, _, _, rfl, WF_upd (m := m) (j := 4) hW (by omega) (by omega) (by omega) (by omega) (by omega) (by omega), ⟨RV_u (m := m) (j := 4) hV h8 (by omega) (by omega) (by omega), rfl, by rw [alv_upd (by omega) (by omega)], upd_hd (k := 1) (by omega), upd_hd (k := 2) (by omega), upd_hd (k := 3) (by omega), upd_hd (k := 4) (by omega), ?_, ?_, ?_⟩, FR_u3 (by omega) (by omega)⟩
    · intro k hk; rw [mn_upd (by omega) (by omega), if_neg (by omega)]; exact h3 k hk
    · intro k hk
      rw [mn_upd (by omega) (by omega), h4 m hm]
      unfold upd
      have := h4 k hk
      grind
    · intro k hk hk8
      rw [upd_ne (by omega)]; exact h0 k hk hk8
  · rw [if_neg hb, if_pos (Int32.not_lt.1 hb)]
    unfold pinsA
    rw [cnd_runs hb]
    have hw1 := WF_upd (x := mn at_ m 3 + wd 1) hW (show m < 8 by omega) (show 3 < 14 by omega) (by omega) (by omega) (by omega) (by omega)
    have hv1 := RV_u (m := m) (j := 3) (x := mn at_ m 3 + wd 1) hV h8 (by omega) (by omega) (by omega)
    have hs1 : ∀ k, k < c → upd sto m (mn at_ m 3 + wd 1) k = mn (upd at_ (8 + 14 * m + 3) (mn at_ m 3 + wd 1)) k 3 := by
      intro k hk
      rw [mn_upd (by omega) (by omega)]
      unfold upd
      have := h3 k hk
      grind
    have hf1 : ∀ k, k < c → fle k = mn (upd at_ (8 + 14 * m + 3) (mn at_ m 3 + wd 1)) k 4 := by
      intro k hk; rw [mn_upd (by omega) (by omega), if_neg (by omega)]; exact h4 k hk
    cases hx : win at_ c (mask (rns at_ s) c) with
    | none =>
      rw [oe_n, if_pos rfl]
      dsimp only
      refine ⟨_, _, _, _, _, _, rfl, WF_upd8 hw1 (by omega) (by omega), ⟨RV_u8 hv1 (by omega), rfl, by rw [alv_upd8 (by omega), alv_upd (by omega) (by omega)], ?_, ?_, upd_eq.symm, ?_, ?_, ?_, ?_⟩, FR.tr (FR_u3 (by omega) (by omega)) (FR_u8 (by omega) (by omega))⟩
      · rw [upd_ne (by omega), upd_ne (by omega)]
      · rw [upd_ne (by omega), upd_ne (by omega)]
      · rw [upd_ne (by omega), upd_ne (by omega)]
      · intro k hk; rw [mn_upd8 (by omega), h3 m hm]; exact hs1 k hk
      · intro k hk; rw [mn_upd8 (by omega)]; exact hf1 k hk
      · intro k hk hk8; rw [upd_ne (by omega)]; exact h0 k hk hk8
    | some w =>
      have hw := win_lt hx
      have e3 : mn (upd at_ (8 + 14 * m + 3) (mn at_ m 3 + wd 1)) w 2 = mn at_ w 2 := by rw [mn_upd (by omega) (by omega), if_neg (by omega)]
      rw [oe_s, if_neg (by rw [wd_eqm (by omega)]; exact id)]
      dsimp only
      simp only [c_pin hw.1 h8 (hV.2.2.1 w hw.1) (hW.2.2.2.2 w hw.1).2.2.1, Option.bind_some, i01_0]
      have e4 : (upd at_ (8 + 14 * m + 3) (mn at_ m 3 + wd 1)) 4 = at_ 4 := upd_ne (by omega)
      refine ⟨upd med w (bmin (mn at_ w 2 + wd 1)), upd sto m (mn at_ m 3 + wd 1), fle, vrow at_ c (mask (rns at_ s) c) vot c, at_ 3, at_ 4 + (if mn at_ w 2 = wd 99 then wd 1 else wd 0), ?_, WF_pinA hw1 hw.1, ⟨?_, rfl, ?_, ?_, ?_, ?_, ?_, ?_, ?_, ?_⟩, FR.tr (FR_u3 (by omega) (by omega)) (FR_pinA (by omega))⟩
      · by_cases h9 : mn at_ w 2 = wd 99
        · rw [if_pos (by simp [h9]), if_pos h9, h3 m hm]
        · rw [if_neg (by simp [h9]), if_neg h9, h3 m hm, wd_a0]
      · have := RV_pinA hv1 hw.1 h8
        rwa [e3] at this
      · rw [alv_pinA, alv_upd (by omega) (by omega)]
      · unfold pinA; rw [upd_ne (by omega), upd_ne (by omega), upd_ne (by omega)]
      · unfold pinA; rw [upd_ne (by omega), upd_ne (by omega), upd_ne (by omega)]
      · unfold pinA; rw [upd_ne (by omega), upd_ne (by omega), upd_ne (by omega)]
      · unfold pinA; rw [upd_ne (by omega), upd_eq, e3, e4]
      · intro k hk; rw [mn_pinA (by omega), if_neg (by omega)]; exact hs1 k hk
      · intro k hk; rw [mn_pinA (by omega), if_neg (by omega)]; exact hf1 k hk
      · intro k hk hk8; rw [upd_ne (by omega), upd_ne (by omega)]; exact h0 k hk hk8
theorem facesA_r {m : Nat} {s : Int32} (h8 : c ≤ 8) : ∃ k, k ≤ 9 ∧ (facesA at_ c m s).1 = wd k := by
  unfold facesA pinsA
  split
  · exact ⟨9, by omega, rfl⟩
  · cases hx : win at_ c (cnd at_ c m s) with
    | none => exact ⟨8, by omega, rfl⟩
    | some w => exact ⟨w, by have := win_lt hx; omega, rfl⟩
/-- one gives to another -/
def handsA (at_ : Nat → Int32) (a b : Nat) : Nat → Int32 := upd (upd at_ (8 + 14 * a + 2) (mn at_ a 2 - wd 1)) (8 + 14 * b + 2) (mn at_ b 2 + wd 1)
def hands? (at_ : Nat → Int32) (a b : Nat) : Bool := decide (a ≠ b) && alv at_ a && alv at_ b && !decide (mn at_ a 2 = wd 0) && !decide (mn at_ b 2 = wd 99)
theorem r_hands {a b : Nat} (ha : a < 8) (hb : b < 8) : f_X12_hands fu at_ (wd a) (wd b) = some (if hands? at_ a b then (wd 1, handsA at_ a b) else (wd 0, at_)) := by
  unfold f_X12_hands
  simp (disch := omega) only [wd_lit, wd_of, wd_add, wd_mul, wd_neg, Option.bind_some, bnd, rdI_wd, wrI_wd, rdJ_wd, wrJ_wd, wd_31, wd_le, wd_lt, wd_inj, wd_eqm, wd_eqm', wd_ltm, wd_lem, wd_ltm2, wd_lem2, wd_bit0', wd_bit1', wd_shl, wd_or, wd_dif, r_isAlive, r_manOf, i01_0, r_manRow]
  by_cases h1 : a = b
  · rw [if_pos h1]; simp [hands?, h1]
  rw [if_neg h1]
  by_cases h2 : alv at_ a = false
  · rw [if_pos h2]; simp [hands?, h2]
  rw [if_neg h2]
  have h2 : alv at_ a = true := by simpa using h2
  by_cases h3 : alv at_ b = false
  · rw [if_pos h3]; simp [hands?, h3]
  rw [if_neg h3]
  have h3 : alv at_ b = true := by simpa using h3
  by_cases h4 : mn at_ a 2 = wd 0
  · rw [if_pos h4]; simp [hands?, h4]
  rw [if_neg h4]
  by_cases h5 : mn at_ b 2 = wd 99
  · rw [if_pos h5]; simp [hands?, h5]
  rw [if_neg h5]
  have : hands? at_ a b = true := by simp [hands?, h1, h2, h3, h4, h5]
  rw [if_pos this]
  unfold handsA
  rw [show upd at_ (8 + 14 * a + 2) (at_ (8 + 14 * a + 2) - wd 1) (8 + 14 * b + 2) = mn at_ b 2 from upd_ne (by omega)]
  rfl
theorem p_hands {a b : Nat} (hW : WF at_ c) (hR : RA at_ c cou wei med sto fle lik cnt liv pri quo mel los) (ha : a < c) (hb : b < c) (hh : hands? at_ a b = true) : f_X0_handOver fu med cnt liv (wd a) (wd b) = some (wd 1, upd (upd med b (mn at_ b 2 + wd 1)) a (mn at_ a 2 - wd 1)) ∧ WF (handsA at_ a b) c ∧ RA (handsA at_ a b) c cou wei (upd (upd med b (mn at_ b 2 + wd 1)) a (mn at_ a 2 - wd 1)) sto fle lik cnt liv pri quo mel los ∧ FR at_ (handsA at_ a b) := by
  obtain ⟨hV, rfl, rfl, rfl, rfl, rfl, rfl, h3, h4, h0⟩ := hR
  have h8 := hW.1
  have hc := hW.2.1
  simp only [hands?, Bool.and_eq_true, decide_eq_true_eq, Bool.not_eq_true', decide_eq_false_iff_not] at hh
  obtain ⟨⟨⟨⟨q1, q2⟩, q3⟩, q4⟩, q5⟩ := hh
  obtain ⟨ka, hka, ea⟩ := (hW.2.2.2.2 a ha).2.2.1
  obtain ⟨kb, hkb, eb⟩ := (hW.2.2.2.2 b hb).2.2.1
  have q4' := q4
  have q5' := q5
  rw [ea, wd_inj (by omega) (by omega)] at q4
  rw [eb, wd_inj (by omega) (by omega)] at q5
  have e1 : med a = wd ka := (hV.2.2.1 a ha).trans ea
  have e2 : upd med b (bmin (mn at_ b 2 + wd 1)) a = wd ka := (upd_ne q1).trans e1
  refine ⟨?_, ?_, ⟨⟨?_, ?_, ?_, ?_⟩, rfl, ?_, ?_, ?_, ?_, ?_, ?_, ?_, ?_⟩, ?_⟩
  · unfold f_X0_handOver
    simp (disch := omega) only [wd_lit, wd_of, wd_add, wd_mul, wd_neg, Option.bind_some, bnd, rdI_wd, wrI_wd, rdJ_wd, wrJ_wd, wd_31, wd_le, wd_lt, wd_inj, wd_eqm, wd_eqm', wd_ltm, wd_lem, wd_ltm2, wd_lem2, wd_bit0', wd_bit1', wd_shl, wd_or, wd_dif, c_lives ha h8, c_lives hb h8, c_pin hb h8 (hV.2.2.1 b hb) ⟨kb, hkb, eb⟩, i01_0, e1, e2]
    rw [if_neg q1, if_neg (by simp [q2]), if_neg (by simp [q3]), if_neg q4, if_neg (by simp [q5'])]
    rw [eb, bmin_s (by omega), ea, wd_add]
  · unfold handsA
    rw [ea, eb, wd_add, wd_sub (by omega)]
    exact WF_upd (WF_upd hW (by omega) (by omega) (by omega) (by omega) (fun _ => ⟨ka - 1, by omega, rfl⟩) (by omega)) (by omega) (by omega) (by omega) (by omega) (fun _ => ⟨kb + 1, by omega, rfl⟩) (by omega)
  · intro m hm; unfold handsA; rw [mn_upd (by omega) (by omega), if_neg (by omega), mn_upd (by omega) (by omega), if_neg (by omega)]; exact hV.1 m hm
  · intro m hm; unfold handsA; rw [mn_upd (by omega) (by omega), if_neg (by omega), mn_upd (by omega) (by omega), if_neg (by omega)]; exact hV.2.1 m hm
  · intro m hm; unfold handsA; rw [mn_upd (by omega) (by omega), mn_upd (by omega) (by omega)]
    unfold upd
    have := hV.2.2.1 m hm
    grind
  · intro m o hm ho; unfold handsA; rw [mn_upd (by omega) (by omega), if_neg (by omega), mn_upd (by omega) (by omega), if_neg (by omega)]; exact hV.2.2.2 m o hm ho
  · unfold handsA; rw [alv_upd (by omega) (by omega), alv_upd (by omega) (by omega)]
  · unfold handsA; rw [upd_ne (by omega), upd_ne (by omega)]
  · unfold handsA; rw [upd_ne (by omega), upd_ne (by omega)]
  · unfold handsA; rw [upd_ne (by omega), upd_ne (by omega)]
  · unfold handsA; rw [upd_ne (by omega), upd_ne (by omega)]
  · intro m hm; unfold handsA; rw [mn_upd (by omega) (by omega), if_neg (by omega), mn_upd (by omega) (by omega), if_neg (by omega)]; exact h3 m hm
  · intro m hm; unfold handsA; rw [mn_upd (by omega) (by omega), if_neg (by omega), mn_upd (by omega) (by omega), if_neg (by omega)]; exact h4 m hm
  · intro m hm hm8; rw [upd_ne (by omega), upd_ne (by omega)]; exact h0 m hm hm8
  · exact FR.tr (FR_u3 (by omega) (by omega)) (FR_u3 (by omega) (by omega))
theorem p_hands0 {a b : Nat} (hW : WF at_ c) (hR : RA at_ c cou wei med sto fle lik cnt liv pri quo mel los) (ha : a < c) (hb : b < c) (hh : ¬ hands? at_ a b = true) : ∃ med', f_X0_handOver fu med cnt liv (wd a) (wd b) = some (wd 0, med') ∧ med' = med := by
  obtain ⟨hV, rfl, rfl, rfl, rfl, rfl, rfl, h3, h4, h0⟩ := hR
  have h8 := hW.1
  obtain ⟨ka, hka, ea⟩ := (hW.2.2.2.2 a ha).2.2.1
  obtain ⟨kb, hkb, eb⟩ := (hW.2.2.2.2 b hb).2.2.1
  have e1 : med a = mn at_ a 2 := hV.2.2.1 a ha
  unfold f_X0_handOver
  simp (disch := omega) only [wd_lit, wd_of, wd_add, wd_mul, wd_neg, Option.bind_some, bnd, rdI_wd, wrI_wd, rdJ_wd, wrJ_wd, wd_31, wd_le, wd_lt, wd_inj, wd_eqm, wd_eqm', wd_ltm, wd_lem, wd_ltm2, wd_lem2, wd_bit0', wd_bit1', wd_shl, wd_or, wd_dif, c_lives ha h8, c_lives hb h8, c_pin hb h8 (hV.2.2.1 b hb) ⟨kb, hkb, eb⟩, i01_0, e1]
  by_cases q1 : a = b
  · rw [if_pos q1]; exact ⟨_, rfl, rfl⟩
  rw [if_neg q1]
  by_cases q2 : alv at_ a = false
  · rw [if_pos q2]; exact ⟨_, rfl, rfl⟩
  rw [if_neg q2]
  have q2 : alv at_ a = true := by simpa using q2
  by_cases q3 : alv at_ b = false
  · rw [if_pos q3]; exact ⟨_, rfl, rfl⟩
  rw [if_neg q3]
  have q3 : alv at_ b = true := by simpa using q3
  by_cases q4 : mn at_ a 2 = wd 0
  · rw [if_pos q4]; exact ⟨_, rfl, rfl⟩
  rw [if_neg q4]
  have q5 : mn at_ b 2 = wd 99 := by
    by_cases q5 : mn at_ b 2 = wd 99
    · exact q5
    · exact absurd (by simp [hands?, q1, q2, q3, q4, q5]) hh
  rw [if_pos (by simp [q5])]
  refine ⟨_, rfl, ?_⟩
  rw [q5, show bmin (wd 99 + wd 1) = wd 99 from by decide]
  funext j
  unfold upd
  split
  · rename_i h; rw [h, hV.2.2.1 b hb, q5]
  · rfl
/-- one loses -/
def losesA (at_ : Nat → Int32) (m : Nat) : Nat → Int32 := upd (upd at_ (8 + 14 * m + 2) (mn at_ m 2 - wd 1)) 4 (at_ 4 + wd 1)
theorem r_loses {m : Nat} (hm : m < 8) : f_X12_loses fu at_ (wd m) = some (if mn at_ m 2 = wd 0 then (wd 0, at_) else (wd 1, losesA at_ m)) := by
  unfold f_X12_loses
  simp (disch := omega) only [wd_lit, wd_of, wd_add, wd_mul, wd_neg, Option.bind_some, bnd, rdI_wd, wrI_wd, rdJ_wd, wrJ_wd, wd_31, wd_le, wd_lt, wd_inj, wd_eqm, wd_eqm', wd_ltm, wd_lem, wd_ltm2, wd_lem2, wd_bit0', wd_bit1', wd_shl, wd_or, wd_dif, r_manOf, r_manRow, upd_ne]
  by_cases h : mn at_ m 2 = wd 0
  · rw [if_pos h, if_pos h]
  · rw [if_neg h, if_neg h]; rfl
theorem p_loses {m : Nat} (hW : WF at_ c) (hR : RA at_ c cou wei med sto fle lik cnt liv pri quo mel los) (hm : m < c) (hh : ¬ mn at_ m 2 = wd 0) : f_X0_loseOne fu med cnt los (wd m) = some (wd 1, upd med m (mn at_ m 2 - wd 1), los + wd 1) ∧ WF (losesA at_ m) c ∧ RA (losesA at_ m) c cou wei (upd med m (mn at_ m 2 - wd 1)) sto fle lik cnt liv pri quo mel (los + wd 1) ∧ FR at_ (losesA at_ m) := by
  obtain ⟨hV, rfl, rfl, rfl, rfl, rfl, rfl, h3, h4, h0⟩ := hR
  have h8 := hW.1
  have hc := hW.2.1
  obtain ⟨ka, hka, ea⟩ := (hW.2.2.2.2 m hm).2.2.1
  have e1 : med m = mn at_ m 2 := hV.2.2.1 m hm
  have q4 := hh
  rw [ea, wd_inj (by omega) (by omega)] at q4
  refine ⟨?_, ?_, ⟨⟨?_, ?_, ?_, ?_⟩, rfl, ?_, ?_, ?_, ?_, ?_, ?_, ?_, ?_⟩, ?_⟩
  · unfold f_X0_loseOne
    simp (disch := omega) only [wd_lit, wd_of, wd_add, wd_mul, wd_neg, Option.bind_some, bnd, rdI_wd, wrI_wd, rdJ_wd, wrJ_wd, wd_31, wd_le, wd_lt, wd_inj, wd_eqm, wd_eqm', wd_ltm, wd_lem, wd_ltm2, wd_lem2, wd_bit0', wd_bit1', wd_shl, wd_or, wd_dif, c_isMan, i01_0, e1]
    rw [if_neg (by simp [hm]), if_neg hh]
  · unfold losesA
    rw [ea, wd_sub (by omega)]
    exact WF_upd8 (WF_upd hW (by omega) (by omega) (by omega) (by omega) (fun _ => ⟨ka - 1, by omega, rfl⟩) (by omega)) (by omega) (by omega)
  · intro k hk; unfold losesA; rw [mn_upd8 (by omega), mn_upd (by omega) (by omega), if_neg (by omega)]; exact hV.1 k hk
  · intro k hk; unfold losesA; rw [mn_upd8 (by omega), mn_upd (by omega) (by omega), if_neg (by omega)]; exact hV.2.1 k hk
  · intro k hk; unfold losesA; rw [mn_upd8 (by omega), mn_upd (by omega) (by omega)]
    unfold upd
    have := hV.2.2.1 k hk
    grind
  · intro k o hk ho; unfold losesA; rw [mn_upd8 (by omega), mn_upd (by omega) (by omega), if_neg (by omega)]; exact hV.2.2.2 k o hk ho
  · unfold losesA; rw [alv_upd8 (by omega), alv_upd (by omega) (by omega)]
  · unfold losesA; rw [upd_ne (by omega), upd_ne (by omega)]
  · unfold losesA; rw [upd_ne (by omega), upd_ne (by omega)]
  · unfold losesA; rw [upd_ne (by omega), upd_ne (by omega)]
  · unfold losesA; rw [upd_eq]
  · intro k hk; unfold losesA; rw [mn_upd8 (by omega), mn_upd (by omega) (by omega), if_neg (by omega)]; exact h3 k hk
  · intro k hk; unfold losesA; rw [mn_upd8 (by omega), mn_upd (by omega) (by omega), if_neg (by omega)]; exact h4 k hk
  · intro k hk hm8; rw [upd_ne (by omega)]; exact h0 k hk hm8
  · exact FR.tr (FR_u3 (by omega) (by omega)) (FR_u8 (by omega) (by omega))
theorem p_loses0 {m : Nat} (hW : WF at_ c) (hR : RA at_ c cou wei med sto fle lik cnt liv pri quo mel los) (hm : m < c) (hh : mn at_ m 2 = wd 0) : f_X0_loseOne fu med cnt los (wd m) = some (wd 0, med, los) := by
  obtain ⟨hV, rfl, rfl, rfl, rfl, rfl, rfl, h3, h4, h0⟩ := hR
  have h8 := hW.1
  have e1 : med m = wd 0 := (hV.2.2.1 m hm).trans hh
  unfold f_X0_loseOne
  simp (disch := omega) only [wd_lit, wd_of, wd_add, wd_mul, wd_neg, Option.bind_some, bnd, rdI_wd, wrI_wd, rdJ_wd, wrJ_wd, wd_31, wd_le, wd_lt, wd_inj, wd_eqm, wd_eqm', wd_ltm, wd_lem, wd_ltm2, wd_lem2, wd_bit0', wd_bit1', wd_shl, wd_or, wd_dif, c_isMan, i01_0, e1]
  rw [if_neg (by simp [hm])]
  rfl
/-- one falls -/
def fallsA (at_ : Nat → Int32) (m : Nat) : Nat → Int32 := upd at_ (8 + 14 * m + 5) (wd 1)
theorem r_falls {m : Nat} (hm : m < 8) : f_X12_falls fu at_ (wd m) = some (i01 (alv at_ m), fallsA at_ m) := by
  unfold f_X12_falls
  simp (disch := omega) only [wd_lit, wd_of, wd_add, wd_mul, wd_neg, Option.bind_some, bnd, rdI_wd, wrI_wd, rdJ_wd, wrJ_wd, wd_31, wd_le, wd_lt, wd_inj, wd_eqm, wd_eqm', wd_ltm, wd_lem, wd_ltm2, wd_lem2, wd_bit0', wd_bit1', wd_shl, wd_or, wd_dif, r_isAlive, r_manRow, i01_bz]
  rfl
theorem alv_falls {m : Nat} : alv (fallsA at_ m) = fun k => decide (k ≠ m) && alv at_ k := by
  funext k
  unfold alv fallsA
  rw [mn_upd (by omega) (by omega)]
  by_cases h : k = m
  · subst h; simp [show ¬ wd 1 = wd 0 by decide]
  · simp [h]
theorem p_falls {m : Nat} (hW : WF at_ c) (hR : RA at_ c cou wei med sto fle lik cnt liv pri quo mel los) (hm : m < c) : ∃ liv', f_X0_strike fu cnt liv (wd m) = some (i01 (alv at_ m), liv') ∧ WF (fallsA at_ m) c ∧ RA (fallsA at_ m) c cou wei med sto fle lik cnt liv' pri quo mel los ∧ FR at_ (fallsA at_ m) := by
  obtain ⟨hV, rfl, rfl, rfl, rfl, rfl, rfl, h3, h4, h0⟩ := hR
  have h8 := hW.1
  have hc := hW.2.1
  have h256 := mask_256 (alv at_) h8
  refine ⟨wd (mask (alv (fallsA at_ m)) c), ?_, WF_upd hW (by omega) (by omega) (by omega) (by omega) (by omega) (by omega), ⟨RV_u hV h8 (by omega) (by omega) (by omega), rfl, rfl, (upd_hd (by omega)), (upd_hd (by omega)), (upd_hd (by omega)), (upd_hd (by omega)), ?_, ?_, h0⟩, FR_u3 (by omega) (by omega)⟩
  · unfold f_X0_strike
    simp (disch := omega) only [wd_lit, wd_of, wd_add, wd_mul, wd_neg, Option.bind_some, bnd, rdI_wd, wrI_wd, rdJ_wd, wrJ_wd, wd_31, wd_le, wd_lt, wd_inj, wd_eqm, wd_eqm', wd_ltm, wd_lem, wd_ltm2, wd_lem2, wd_bit0', wd_bit1', wd_shl, wd_or, wd_dif, c_lives hm h8, i01_0]
    have e : sdf (mask (alv at_) c) (1 <<< m) = mask (alv (fallsA at_ m)) c := by
      apply Nat.eq_of_testBit_eq
      intro k
      rw [sdf_bit (by omega), mask_bit, mask_bit, alv_falls, Nat.one_shiftLeft, Nat.testBit_two_pow]
      by_cases hk : k = m
      · subst hk; simp
      · have : ¬ m = k := fun h => hk h.symm
        simp [hk, this]
    by_cases ha : alv at_ m = true
    · rw [if_neg (by simp [ha]), ha, e]; rfl
    · rw [if_pos (by simpa using ha)]
      have : mask (alv at_) c = mask (alv (fallsA at_ m)) c := by
        apply mask_congr
        intro k hk
        rw [alv_falls]
        by_cases hk : k = m
        · subst hk; simpa using ha
        · simp [hk]
      rw [← this, show i01 (alv at_ m) = wd 0 from by rw [Bool.eq_false_iff.2 ha]; rfl]
  · intro k hk; unfold fallsA; rw [mn_upd (by omega) (by omega), if_neg (by omega)]; exact h3 k hk
  · intro k hk; unfold fallsA; rw [mn_upd (by omega) (by omega), if_neg (by omega)]; exact h4 k hk
end
