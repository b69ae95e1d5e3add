section
variable {fu c n k D : Nat} {at_ cou wei med sto fle lik vot ran rl lp : Nat → Int32} {cnt liv pri quo mel los ms sd fl pi rows rs x1 : Int32} {w : tX9} {K : (Nat → Int32) → Int32 → Int32 → (Nat → Int32) → (Nat → Int32) → Int32 → Option ((Nat → Int32) × Int32 × Int32 × (Nat → Int32) × (Nat → Int32))}
def tst (sg v x : Int32) : Bool := if sg = wd 60 then !decide (x ≤ v) else if sg = wd 62 then !decide (v ≤ x) else decide (v = x)
theorem r_tst {v : Int32} (hk : k < 60) : f_X12_holds_j50 fu at_ (wd (120 + 6 * k)) v = some (i01 (tst (at_ (120 + 6 * k + 5)) v (at_ (120 + 6 * k + 2)))) := by
  unfold f_X12_holds_j50 tst
  rw [show (5 : Int32) = wd 5 from rfl, show (2 : Int32) = wd 2 from rfl, wd_add, wd_add, show (60 : Int32) = wd 60 from rfl, show (62 : Int32) = wd 62 from rfl, show (0 : Int32) = wd 0 from rfl, show (1 : Int32) = wd 1 from rfl]
  rw [bind_e (rdI_wd (show 120 + 6 * k + 5 < 3648 by omega) (by omega)), bind_e (rdI_wd (show 120 + 6 * k + 2 < 3648 by omega) (by omega)), bind_e (rdI_wd (show 120 + 6 * k + 5 < 3648 by omega) (by omega)), bind_e (rdI_wd (show 120 + 6 * k + 2 < 3648 by omega) (by omega)), bind_e (rdI_wd (show 120 + 6 * k + 2 < 3648 by omega) (by omega))]
  by_cases h1 : at_ (120 + 6 * k + 5) = wd 60
  · rw [if_pos h1, if_pos h1]
    by_cases h3 : at_ (120 + 6 * k + 2) ≤ v <;> simp [h3, i01]
  · rw [if_neg h1, if_neg h1]
    by_cases h2 : at_ (120 + 6 * k + 5) = wd 62
    · rw [if_pos h2, if_pos h2]
      by_cases h3 : v ≤ at_ (120 + 6 * k + 2) <;> simp [h3, i01]
    · rw [if_neg h2, if_neg h2]
      by_cases h3 : v = at_ (120 + 6 * k + 2) <;> simp [h3, i01]
theorem c_tst {cou' med' fle' mn' ot' sg nu : Nat → Int32} {cnt' pri' v : Int32} (hk : k < 60) : f_X2_testHolds_j83 fu cou' med' fle' cnt' pri' mn' ot' sg nu (wd k) v = some (i01 (tst (sg k) v (nu k))) := by
  unfold f_X2_testHolds_j83 tst
  rw [show (60 : Int32) = wd 60 from rfl, show (62 : Int32) = wd 62 from rfl, show (0 : Int32) = wd 0 from rfl, show (1 : Int32) = wd 1 from rfl]
  rw [bind_e (rdI_wd (by omega) (by omega)), bind_e (rdI_wd (f := nu) (by omega) (by omega)), bind_e (rdI_wd (f := nu) (by omega) (by omega)), bind_e (rdI_wd (f := nu) (by omega) (by omega))]
  by_cases h1 : sg k = wd 60
  · rw [if_pos h1, if_pos h1]
    by_cases h3 : nu k ≤ v <;> simp [h3, i01]
  · rw [if_neg h1, if_neg h1]
    by_cases h2 : sg k = wd 62
    · rw [if_pos h2, if_pos h2]
      by_cases h3 : v ≤ nu k <;> simp [h3, i01]
    · rw [if_neg h2, if_neg h2]
      by_cases h3 : v = nu k <;> simp [h3, i01]
def tvl (at_ : Nat → Int32) (m t : Nat) : Int32 := if t = 0 then brv at_ m else if t = 1 then mn at_ m 2 else mn at_ m 4
theorem s_when {t m q : Nat} (hn : n ≤ 60) (hk : k < n) (hD : D ≤ 65535) (hW : WF at_ c) (hR : RA at_ c cou wei med sto fle lik cnt liv pri quo mel los) (hC : CN ms sd fl pi ran) (hf : 1000 ≤ fu) (ht : t < 3) (hp0 : at_ (120 + 6 * k) = wd (1216 + t)) (hd : vX9_deed w k = wd 12) (ho : vX9_other w k = wd (13 + t)) (hm : m < c) (hp1 : at_ (120 + 6 * k + 1) = wd m) (hm' : vX9_man w k = wd m) (hnum : vX9_number w k = at_ (120 + 6 * k + 2)) (hsg : vX9_sign w k = at_ (120 + 6 * k + 5)) (hkq : k < q) (hqn : q < n) (hp4 : at_ (120 + 6 * k + 4) = wd q) (hma : vX9_mate w k = wd q) (hq14 : at_ (120 + 6 * q) = wd 14) : STP fu c n k D at_ cou wei med sto fle lik vot ran rl lp cnt liv pri quo mel los ms sd fl pi rows rs x1 w K := by
  have h8 := hW.1
  have ec := hR.2.1
  have ep := hR.2.2.2.1
  have hV := hR.1
  have hfl := hR.2.2.2.2.2.2.2.2.1
  have q0 := imn_wd (c := c) (by omega) hm
  have n13 : ¬ at_ (120 + 6 * k) = wd 13 := by rw [hp0, wd_inj (by omega) (by omega)]; omega
  have htv : f_X2_testHolds fu cou med fle cnt pri (vX9_man w) (vX9_other w) (vX9_sign w) (vX9_number w) (wd k) = some (i01 (tst (at_ (120 + 6 * k + 5)) (tvl at_ m t) (at_ (120 + 6 * k + 2)))) := by
    unfold f_X2_testHolds
    rw [bind_e (rdI_wd (by omega) (by omega)), hm', ec, bind_e c_isM, q0, if_neg (show ¬ i01 true = 0 by decide), bind_e (rdI_wd (show m < 8 by omega) (by omega)), bind_e (rdI_wd (f := vX9_other w) (by omega) (by omega)), ho, ep, bind_e (c_bravery hm h8 (hV.1 m hm) (hV.2.2.1 m hm)), bind_e (rdI_wd (f := vX9_other w) (by omega) (by omega)), ho, bind_e (rdI_wd (f := fle) (show m < 8 by omega) (by omega)), c_tst (by omega), c_tst (by omega), c_tst (by omega), hsg, hnum, hV.2.2.1 m hm, hfl m hm]
    unfold tvl
    obtain rfl | rfl | rfl : t = 0 ∨ t = 1 ∨ t = 2 := by omega
    · rfl
    · rfl
    · rfl
  have hrv : f_X12_holds fu at_ (wd (120 + 6 * k)) = some (i01 (tst (at_ (120 + 6 * k + 5)) (tvl at_ m t) (at_ (120 + 6 * k + 2)))) := by
    unfold f_X12_holds
    simp only [bnd]
    rw [bind_e (rdI_wd (show 120 + 6 * k < 3648 by omega) (by omega)), hp0, show (1200 : Int32) = wd 1200 from wd_lit 1200, wd_sub (by omega), show (1 : Int32) = wd 1 from rfl, wd_add, bind_e (rdI_wd (show 120 + 6 * k + 1 < 3648 by omega) (by omega)), hp1, bind_e (r_braveOf (by omega)), show (2 : Int32) = wd 2 from rfl, show (4 : Int32) = wd 4 from rfl, bind_e (r_manOf (by omega) (by omega)), bind_e (r_manOf (by omega) (by omega)), r_tst (by omega), r_tst (by omega), r_tst (by omega)]
    unfold tvl
    obtain rfl | rfl | rfl : t = 0 ∨ t = 1 ∨ t = 2 := by omega
    · rfl
    · rfl
    · rfl
  have hdo : f_X12_does fu at_ (wd D) ran (wd (120 + 6 * k)) = some (i01 true, at_, wd D, ran) := by
    unfold f_X12_does
    rw [show (1 : Int32) = wd 1 from rfl, wd_add, bind_e (rdI_wd (show 120 + 6 * k + 1 < 3648 by omega) (by omega)), bind_e (rdI_wd (show 120 + 6 * k < 3648 by omega) (by omega)), hp0]
    obtain rfl | rfl | rfl : t = 0 ∨ t = 1 ∨ t = 2 := by omega
    · rfl
    · rfl
    · rfl
  have hcs : f_X2_behindStep fu rl (wd D) ms sd fl pi cou wei med sto fle lik vot cnt liv pri mel los (vX9_deed w) (vX9_man w) (vX9_other w) (vX9_sign w) (vX9_number w) (vX9_mate w) rows (wd k) = if tst (at_ (120 + 6 * k + 5)) (tvl at_ m t) (at_ (120 + 6 * k + 2)) then some (wd (k + 1), rl, wd D, ms, sd, fl, pi, med, sto, fle, vot, liv, mel, los) else some (wd (q + 1), rl, wd D, ms, sd, fl, pi, med, sto, fle, vot, liv, mel, los) := by
    unfold f_X2_behindStep
    rw [bind_e (rdI_wd (by omega) (by omega)), bind_e (rdI_wd (by omega) (by omega)), hd, if_neg (show ¬ wd 12 = 7 by decide), if_neg (show ¬ wd 12 = 8 by decide), if_neg (show ¬ wd 12 = 9 by decide), if_neg (show ¬ wd 12 = 10 by decide), if_neg (show ¬ wd 12 = 11 by decide), if_pos (show wd 12 = 12 from rfl), bind_e htv, bind_e (rdI_wd (f := vX9_mate w) (by omega) (by omega)), hma, show (1 : Int32) = wd 1 from rfl, wd_add, wd_add]
    cases tst (at_ (120 + 6 * k + 5)) (tvl at_ m t) (at_ (120 + 6 * k + 2)) <;> rfl
  have hrs : rstep fu x1 at_ (wd D) rs lp ran k K = if tst (at_ (120 + 6 * k + 5)) (tvl at_ m t) (at_ (120 + 6 * k + 2)) then ((f_X12_behindEnds fu at_ lp (wd (k + 1))).bind fun z => K at_ (wd D) rs z.2 (upd ran 0 (ran 0 + wd 0)) z.1) else ((f_X12_behindEnds fu at_ lp (wd (q + 1))).bind fun z => K at_ (wd D) rs z.2 (upd ran 0 (ran 0 + wd 0)) z.1) := by
    rw [r_aft hdo, r_j110 (by omega) n13, if_pos rfl]
    unfold f_X12_lives_j139
    rw [bind_e (rdI_wd (show 120 + 6 * k < 3648 by omega) (by omega)), hp0, show (1200 : Int32) = wd 1200 from wd_lit 1200, if_neg (by rw [wd_lt (by omega) (by omega)]; omega), bind_e hrv, show (4 : Int32) = wd 4 from rfl, show (1 : Int32) = wd 1 from rfl, wd_add, wd_add, bind_e (rdI_wd (show 120 + 6 * k + 4 < 3648 by omega) (by omega)), hp4, wd_add]
    cases tst (at_ (120 + 6 * k + 5)) (tvl at_ m t) (at_ (120 + 6 * k + 2)) <;> rfl
  have hC' : CN ms sd fl pi (upd ran 0 (ran 0 + wd 0)) := by
    obtain ⟨a0, a1, a2, a3⟩ := hC
    exact ⟨by rw [upd_eq, a0, wd_a0], by rw [upd_ne (by omega)]; exact a1, by rw [upd_ne (by omega)]; exact a2, by rw [upd_ne (by omega)]; exact a3⟩
  cases hts : tst (at_ (120 + 6 * k + 5)) (tvl at_ m t) (at_ (120 + 6 * k + 2))
  · rw [hts] at hcs hrs
    exact ⟨q + 1, rl, D, ms, sd, fl, pi, med, sto, fle, vot, liv, mel, los, at_, upd ran 0 (ran 0 + wd 0), lp, hcs, hrs, hW, hR, FR.rf, hC', upd_ne (by omega), hD, Or.inr ⟨n13, rfl, rfl, Or.inr ⟨q, ⟨Or.inr ⟨t, ht, hp0⟩, hp4⟩, hkq, hqn, hq14, rfl⟩⟩⟩
  · rw [hts] at hcs hrs
    exact ⟨k + 1, rl, D, ms, sd, fl, pi, med, sto, fle, vot, liv, mel, los, at_, upd ran 0 (ran 0 + wd 0), lp, hcs, hrs, hW, hR, FR.rf, hC', upd_ne (by omega), hD, Or.inr ⟨n13, rfl, rfl, Or.inl rfl⟩⟩
/-- one step of a war, of whatever kind, but an end and a stop -/
theorem s_all (hn : n ≤ 60) (hk : k < n) (hD : D ≤ 65535) (hW : WF at_ c) (hR : RA at_ c cou wei med sto fle lik cnt liv pri quo mel los) (hC : CN ms sd fl pi ran) (hf : 1000 ≤ fu) (hrow : RRow (shI 120 at_) w n c k) (h14 : ¬ at_ (120 + 6 * k) = wd 14) (h15 : ¬ at_ (120 + 6 * k) = wd 15) : STP fu c n k D at_ cou wei med sto fle lik vot ran rl lp cnt liv pri quo mel los ms sd fl pi rows rs x1 w K := by
  rcases hrow with h | h | h | h | h | h | h | h | h
  · obtain ⟨a1, a2, ⟨m, b1, b2, b3⟩, a3⟩ := h
    exact s_face hn hk hD hW hR hC hf a1 a2 b1 b2 b3 a3
  · obtain ⟨a1, a2, ⟨m, b1, b2, b3⟩, ⟨m', d1, d2, d3⟩⟩ := h
    exact s_give hn hk hD hW hR hC hf a1 a2 b1 d1 b2 b3 d2 d3
  · obtain ⟨a1, a2, ⟨m, b1, b2, b3⟩⟩ := h
    exact s_lose hn hk hD hW hR hC hf a1 a2 b1 b2 b3
  · obtain ⟨a1, a2, ⟨m, b1, b2, b3⟩⟩ := h
    exact s_fall hn hk hD hW hR hC hf a1 a2 b1 b2 b3
  · exact s_any hn hk hD hW hR hC hf h.1 h.2
  · exact absurd h.1 h15
  · exact absurd h.1 h14
  · obtain ⟨a1, a2, ⟨x, x1, x2, x3, x4⟩, _⟩ := h
    exact s_loop hn hk hD hW hR hC hf a1 a2 x1 x2 x3 x4
  · obtain ⟨t, t1, t2, t3, t4, ⟨m, b1, b2, b3⟩, t6, t7, q, g3, g4, g5, g6, g7⟩ := h
    exact s_when hn hk hD hW hR hC hf t1 t2 t3 t4 b1 b2 b3 t6 t7 g3 g4 g5 g6 g7
end
