section
variable {fu c n k D : Nat} {at_ cou wei med sto fle lik vot ran rl lp : Nat → Int32} {cnt liv pri quo mel los ms sd fl pi rows rs x1 : Int32} {w : tX9}
theorem c_miss {ok : Bool} : f_X2_countMiss fu ms (i01 ok) = some (ms + (if ok then wd 0 else wd 1)) := by
  unfold f_X2_countMiss
  cases ok
  · rfl
  · rw [if_neg (show ¬ i01 true = 0 by decide), if_pos rfl, wd_a0]
/-- what the reference does with a step -/
def rstep (fu : Nat) (x1 : Int32) (at_ : Nat → Int32) (dr rs : Int32) (lp ran : Nat → Int32) (k : Nat) (K : (Nat → Int32) → Int32 → Int32 → (Nat → Int32) → (Nat → Int32) → Int32 → Option ((Nat → Int32) × Int32 × Int32 × (Nat → Int32) × (Nat → Int32))) : Option ((Nat → Int32) × Int32 × Int32 × (Nat → Int32) × (Nat → Int32)) := (rdI ran 5 0).bind fun y_48 => (f_X12_does fu at_ dr ran (wd (120 + 6 * k))).bind fun z_49 => (if z_49.1 = 0 then f_X12_lives_j110 fu x1 K z_49.2.1 z_49.2.2.1 rs lp z_49.2.2.2 (wd k) (wd (120 + 6 * k)) 0 y_48 1 else f_X12_lives_j110 fu x1 K z_49.2.1 z_49.2.2.1 rs lp z_49.2.2.2 (wd k) (wd (120 + 6 * k)) 0 y_48 0)
variable {K : (Nat → Int32) → Int32 → Int32 → (Nat → Int32) → (Nat → Int32) → Int32 → Option ((Nat → Int32) × Int32 × Int32 × (Nat → Int32) × (Nat → Int32))}
theorem r_aft {at' ran' : Nat → Int32} {ok : Bool} {dr dr' : Int32} (hd : f_X12_does fu at_ dr ran (wd (120 + 6 * k)) = some (i01 ok, at', dr', ran')) : rstep fu x1 at_ dr rs lp ran k K = f_X12_lives_j110 fu x1 K at' dr' rs lp ran' (wd k) (wd (120 + 6 * k)) (wd 0) (ran 0) (if ok then wd 0 else wd 1) := by
  unfold rstep
  rw [bind_e (show rdI ran 5 0 = some (ran 0) from rdI_wd (k := 0) (by omega) (by omega)), bind_e hd]
  cases ok <;> rfl
theorem r_j110 {at' ran' : Nat → Int32} {dr' y v : Int32} (hk : k < 60) (h13 : ¬ at' (120 + 6 * k) = wd 13) : f_X12_lives_j110 fu x1 K at' dr' rs lp ran' (wd k) (wd (120 + 6 * k)) (wd 0) y v = f_X12_lives_j139 fu x1 K at' dr' rs lp (upd ran' 0 (y + v)) (wd k) (wd (120 + 6 * k)) := by
  unfold f_X12_lives_j110
  rw [bind_e (wrI_wd (by omega) (by omega)), bind_e (rdI_wd (by omega) (by omega)), show (13 : Int32) = wd 13 from rfl, if_neg h13]
theorem r_j139 {at' ran' : Nat → Int32} {dr' : Int32} {v : Nat} (hk : k < 60) (hv : at' (120 + 6 * k) = wd v) (hv2 : v < 1200) : f_X12_lives_j139 fu x1 K at' dr' rs lp ran' (wd k) (wd (120 + 6 * k)) = (f_X12_behindEnds fu at' lp (wd (k + 1))).bind fun z => K at' dr' rs z.2 ran' z.1 := by
  unfold f_X12_lives_j139
  rw [bind_e (rdI_wd (by omega) (by omega)), hv, show (1200 : Int32) = wd 1200 from wd_lit 1200, if_pos (by rw [wd_lt (by omega) (by omega)]; exact hv2), show (1 : Int32) = wd 1 from rfl, wd_add]
theorem CN_0 {ok : Bool} {sd' fl' pi' : Int32} {ran' : Nat → Int32} (h : CN ms sd' fl' pi' ran') (h0 : ran 0 = ms) : CN (ms + (if ok then wd 0 else wd 1)) sd' fl' pi' (upd ran' 0 (ran 0 + (if ok then wd 0 else wd 1))) := by
  obtain ⟨a0, a1, a2, a3⟩ := h
  exact ⟨by rw [upd_eq, h0], by rw [upd_ne (by omega)]; exact a1, by rw [upd_ne (by omega)]; exact a2, by rw [upd_ne (by omega)]; exact a3⟩
def STP (fu c n k D : Nat) (at_ cou wei med sto fle lik vot ran rl lp : Nat → Int32) (cnt liv pri quo mel los ms sd fl pi rows rs x1 : Int32) (w : tX9) (K : (Nat → Int32) → Int32 → Int32 → (Nat → Int32) → (Nat → Int32) → Int32 → Option ((Nat → Int32) × Int32 × Int32 × (Nat → Int32) × (Nat → Int32))) : Prop := ∃ pos' rl' D' ms' sd' fl' pi' med' sto' fle' vot' liv' mel' los' at' ran' lp', f_X2_behindStep fu rl (wd D) ms sd fl pi cou wei med sto fle lik vot cnt liv pri mel los (vX9_deed w) (vX9_man w) (vX9_other w) (vX9_sign w) (vX9_number w) (vX9_mate w) rows (wd k) = some (wd pos', rl', wd D', ms', sd', fl', pi', med', sto', fle', vot', liv', mel', los') ∧ rstep fu x1 at_ (wd D) rs lp ran k K = ((f_X12_behindEnds fu at' lp' (wd pos')).bind fun z => K at' (wd D') rs z.2 ran' z.1) ∧ WF at' c ∧ RA at' c cou wei med' sto' fle' lik cnt liv' pri quo mel' los' ∧ FR at_ at' ∧ CN ms' sd' fl' pi' ran' ∧ ran' 4 = ran 4 ∧ D' ≤ 65535 ∧ ((at_ (120 + 6 * k) = wd 13 ∧ pos' = k + 1 ∧ ∃ x, 1 ≤ x ∧ x ≤ 99 ∧ rl' = upd rl k (wd x) ∧ lp' = upd lp k (wd (x - 1))) ∨ (¬ at_ (120 + 6 * k) = wd 13 ∧ rl' = rl ∧ lp' = lp ∧ (pos' = k + 1 ∨ ∃ q, opn (shI 120 at_) k q ∧ k < q ∧ q < n ∧ at_ (120 + 6 * q) = wd 14 ∧ pos' = q + 1)))
theorem s_face {m : Nat} (hn : n ≤ 60) (hk : k < n) (hD : D ≤ 65535) (hW : WF at_ c) (hR : RA at_ c cou wei med sto fle lik cnt liv pri quo mel los) (hC : CN ms sd fl pi ran) (hf : 1000 ≤ fu) (hp0 : at_ (120 + 6 * k) = wd 7) (hd : vX9_deed w k = wd 7) (hm : m < c) (hp1 : at_ (120 + 6 * k + 1) = wd m) (hm' : vX9_man w k = wd m) (hnum : vX9_number w k = at_ (120 + 6 * k + 2)) : STP fu c n k D at_ cou wei med sto fle lik vot ran rl lp cnt liv pri quo mel los ms sd fl pi rows rs x1 w K := by
  obtain ⟨ok, sd', fl', pi', med', sto', fle', vot', mel', los', at', ran', e1, e2, hW', hR', hfr, hC', h4⟩ := t_faceD (vot := vot) (s := at_ (120 + 6 * k + 2)) hW hR hm hC hf
  refine ⟨k + 1, rl, D, ms + (if ok then wd 0 else wd 1), sd', fl', pi', med', sto', fle', vot', liv, mel', los', at', upd ran' 0 (ran 0 + (if ok then wd 0 else wd 1)), lp, ?_, ?_, hW', hR', hfr, CN_0 hC' hC.1, by rw [upd_ne (by omega)]; exact h4, hD, Or.inr ⟨by rw [hp0]; decide, rfl, rfl, Or.inl rfl⟩⟩
  · unfold f_X2_behindStep
    rw [bind_e (rdI_wd (by omega) (by omega)), bind_e (rdI_wd (by omega) (by omega)), hd, if_pos (show wd 7 = 7 from rfl), hm', bind_e (rdI_wd (by omega) (by omega)), hnum, bind_e e1, show (1 : Int32) = wd 1 from rfl, wd_add]
  · have hdo : f_X12_does fu at_ (wd D) ran (wd (120 + 6 * k)) = some (i01 ok, at', wd D, ran') := by
      unfold f_X12_does
      rw [show (1 : Int32) = wd 1 from rfl, show (2 : Int32) = wd 2 from rfl, wd_add, wd_add, bind_e (rdI_wd (show 120 + 6 * k + 1 < 3648 by omega) (by omega)), bind_e (rdI_wd (show 120 + 6 * k < 3648 by omega) (by omega)), hp0, if_pos (show wd 7 = 7 from rfl), hp1, bind_e (rdI_wd (show 120 + 6 * k + 2 < 3648 by omega) (by omega)), bind_e e2, i01_bz]
      rfl
    rw [r_aft hdo, r_j110 (by omega) (by rw [hfr.2.2 _ (by omega), hp0]; decide), r_j139 (by omega) ((hfr.2.2 _ (by omega)).trans hp0) (by omega)]
theorem s_give {a b : Nat} (hn : n ≤ 60) (hk : k < n) (hD : D ≤ 65535) (hW : WF at_ c) (hR : RA at_ c cou wei med sto fle lik cnt liv pri quo mel los) (hC : CN ms sd fl pi ran) (hf : 1000 ≤ fu) (hp0 : at_ (120 + 6 * k) = wd 8) (hd : vX9_deed w k = wd 8) (ha : a < c) (hb : b < c) (hp1 : at_ (120 + 6 * k + 1) = wd a) (hm' : vX9_man w k = wd a) (hp2 : at_ (120 + 6 * k + 2) = wd b) (ho' : vX9_other w k = wd b) : STP fu c n k D at_ cou wei med sto fle lik vot ran rl lp cnt liv pri quo mel los ms sd fl pi rows rs x1 w K := by
  have h8 := hW.1
  have key : ∃ ok med' at', f_X0_handOver fu med cnt liv (wd a) (wd b) = some (i01 ok, med') ∧ f_X12_hands fu at_ (wd a) (wd b) = some (i01 ok, at') ∧ WF at' c ∧ RA at' c cou wei med' sto fle lik cnt liv pri quo mel los ∧ FR at_ at' := by
    by_cases hh : hands? at_ a b = true
    · obtain ⟨e1, hW', hR', hF⟩ := p_hands (fu := fu) hW hR ha hb hh
      exact ⟨true, _, _, e1, by rw [r_hands (by omega) (by omega), if_pos hh]; rfl, hW', hR', hF⟩
    · obtain ⟨med', e1, rfl⟩ := p_hands0 (fu := fu) hW hR ha hb hh
      exact ⟨false, _, _, e1, by rw [r_hands (by omega) (by omega), if_neg hh]; rfl, hW, hR, FR.rf⟩
  obtain ⟨ok, med', at', e1, e2, hW', hR', hfr⟩ := key
  refine ⟨k + 1, rl, D, ms + (if ok then wd 0 else wd 1), sd, fl, pi, med', sto, fle, vot, liv, mel, los, at', upd ran 0 (ran 0 + (if ok then wd 0 else wd 1)), lp, ?_, ?_, hW', hR', hfr, CN_0 hC hC.1, upd_ne (by omega), hD, Or.inr ⟨by rw [hp0]; decide, rfl, rfl, Or.inl rfl⟩⟩
  · unfold f_X2_behindStep
    rw [bind_e (rdI_wd (by omega) (by omega)), bind_e (rdI_wd (by omega) (by omega)), hd, if_neg (show ¬ wd 8 = 7 by decide), if_pos (show wd 8 = 8 from rfl), hm', bind_e (rdI_wd (by omega) (by omega)), ho', bind_e e1, bind_e c_miss, show (1 : Int32) = wd 1 from rfl, wd_add]
  · have hdo : f_X12_does fu at_ (wd D) ran (wd (120 + 6 * k)) = some (i01 ok, at', wd D, ran) := by
      unfold f_X12_does
      rw [show (1 : Int32) = wd 1 from rfl, show (2 : Int32) = wd 2 from rfl, wd_add, wd_add, bind_e (rdI_wd (show 120 + 6 * k + 1 < 3648 by omega) (by omega)), bind_e (rdI_wd (show 120 + 6 * k < 3648 by omega) (by omega)), hp0, if_neg (show ¬ wd 8 = 7 by decide), if_pos (show wd 8 = 8 from rfl), hp1, bind_e (rdI_wd (show 120 + 6 * k + 2 < 3648 by omega) (by omega)), hp2, bind_e e2, i01_bz]
      rfl
    rw [r_aft hdo, r_j110 (by omega) (by rw [hfr.2.2 _ (by omega), hp0]; decide), r_j139 (by omega) ((hfr.2.2 _ (by omega)).trans hp0) (by omega)]
theorem s_lose {a : Nat} (hn : n ≤ 60) (hk : k < n) (hD : D ≤ 65535) (hW : WF at_ c) (hR : RA at_ c cou wei med sto fle lik cnt liv pri quo mel los) (hC : CN ms sd fl pi ran) (hf : 1000 ≤ fu) (hp0 : at_ (120 + 6 * k) = wd 9) (hd : vX9_deed w k = wd 9) (ha : a < c) (hp1 : at_ (120 + 6 * k + 1) = wd a) (hm' : vX9_man w k = wd a) : STP fu c n k D at_ cou wei med sto fle lik vot ran rl lp cnt liv pri quo mel los ms sd fl pi rows rs x1 w K := by
  have h8 := hW.1
  have key : ∃ ok med' los' at', f_X0_loseOne fu med cnt los (wd a) = some (i01 ok, med', los') ∧ f_X12_loses fu at_ (wd a) = some (i01 ok, at') ∧ WF at' c ∧ RA at' c cou wei med' sto fle lik cnt liv pri quo mel los' ∧ FR at_ at' := by
    by_cases hh : mn at_ a 2 = wd 0
    · have e1 := p_loses0 (fu := fu) hW hR ha hh
      exact ⟨false, _, _, _, e1, by rw [r_loses (by omega), if_pos hh]; rfl, hW, hR, FR.rf⟩
    · obtain ⟨e1, hW', hR', hF⟩ := p_loses (fu := fu) hW hR ha hh
      exact ⟨true, _, _, _, e1, by rw [r_loses (by omega), if_neg hh]; rfl, hW', hR', hF⟩
  obtain ⟨ok, med', los', at', e1, e2, hW', hR', hfr⟩ := key
  refine ⟨k + 1, rl, D, ms + (if ok then wd 0 else wd 1), sd, fl, pi, med', sto, fle, vot, liv, mel, los', at', upd ran 0 (ran 0 + (if ok then wd 0 else wd 1)), lp, ?_, ?_, hW', hR', hfr, CN_0 hC hC.1, upd_ne (by omega), hD, Or.inr ⟨by rw [hp0]; decide, rfl, rfl, Or.inl rfl⟩⟩
  · unfold f_X2_behindStep
    rw [bind_e (rdI_wd (by omega) (by omega)), bind_e (rdI_wd (by omega) (by omega)), hd, if_neg (show ¬ wd 9 = 7 by decide), if_neg (show ¬ wd 9 = 8 by decide), if_pos (show wd 9 = 9 from rfl), hm', bind_e e1, bind_e c_miss, show (1 : Int32) = wd 1 from rfl, wd_add]
  · have hdo : f_X12_does fu at_ (wd D) ran (wd (120 + 6 * k)) = some (i01 ok, at', wd D, ran) := by
      unfold f_X12_does
      rw [show (1 : Int32) = wd 1 from rfl, show (2 : Int32) = wd 2 from rfl, wd_add, wd_add, bind_e (rdI_wd (show 120 + 6 * k + 1 < 3648 by omega) (by omega)), bind_e (rdI_wd (show 120 + 6 * k < 3648 by omega) (by omega)), hp0, if_neg (show ¬ wd 9 = 7 by decide), if_neg (show ¬ wd 9 = 8 by decide), if_pos (show wd 9 = 9 from rfl), hp1, bind_e e2, i01_bz]
      rfl
    rw [r_aft hdo, r_j110 (by omega) (by rw [hfr.2.2 _ (by omega), hp0]; decide), r_j139 (by omega) ((hfr.2.2 _ (by omega)).trans hp0) (by omega)]
theorem s_fall {a : Nat} (hn : n ≤ 60) (hk : k < n) (hD : D ≤ 65535) (hW : WF at_ c) (hR : RA at_ c cou wei med sto fle lik cnt liv pri quo mel los) (hC : CN ms sd fl pi ran) (hf : 1000 ≤ fu) (hp0 : at_ (120 + 6 * k) = wd 10) (hd : vX9_deed w k = wd 10) (ha : a < c) (hp1 : at_ (120 + 6 * k + 1) = wd a) (hm' : vX9_man w k = wd a) : STP fu c n k D at_ cou wei med sto fle lik vot ran rl lp cnt liv pri quo mel los ms sd fl pi rows rs x1 w K := by
  have h8 := hW.1
  obtain ⟨liv', e1, hW', hR', hfr⟩ := p_falls (fu := fu) hW hR ha
  refine ⟨k + 1, rl, D, ms + (if alv at_ a then wd 0 else wd 1), sd, fl, pi, med, sto, fle, vot, liv', mel, los, fallsA at_ a, upd ran 0 (ran 0 + (if alv at_ a then wd 0 else wd 1)), lp, ?_, ?_, hW', hR', hfr, CN_0 hC hC.1, upd_ne (by omega), hD, Or.inr ⟨by rw [hp0]; decide, rfl, rfl, Or.inl rfl⟩⟩
  · unfold f_X2_behindStep
    rw [bind_e (rdI_wd (by omega) (by omega)), bind_e (rdI_wd (by omega) (by omega)), hd, if_neg (show ¬ wd 10 = 7 by decide), if_neg (show ¬ wd 10 = 8 by decide), if_neg (show ¬ wd 10 = 9 by decide), if_pos (show wd 10 = 10 from rfl), hm', bind_e e1, bind_e c_miss, show (1 : Int32) = wd 1 from rfl, wd_add]
  · have hdo : f_X12_does fu at_ (wd D) ran (wd (120 + 6 * k)) = some (i01 (alv at_ a), fallsA at_ a, wd D, ran) := by
      unfold f_X12_does
      rw [show (1 : Int32) = wd 1 from rfl, show (2 : Int32) = wd 2 from rfl, wd_add, wd_add, bind_e (rdI_wd (show 120 + 6 * k + 1 < 3648 by omega) (by omega)), bind_e (rdI_wd (show 120 + 6 * k < 3648 by omega) (by omega)), hp0, if_neg (show ¬ wd 10 = 7 by decide), if_neg (show ¬ wd 10 = 8 by decide), if_neg (show ¬ wd 10 = 9 by decide), if_pos (show wd 10 = 10 from rfl), hp1, bind_e (r_falls (by omega)), i01_bz]
      rfl
    rw [r_aft hdo, r_j110 (by omega) (by rw [hfr.2.2 _ (by omega), hp0]; decide), r_j139 (by omega) ((hfr.2.2 _ (by omega)).trans hp0) (by omega)]
theorem s_any (hn : n ≤ 60) (hk : k < n) (hD : D ≤ 65535) (hW : WF at_ c) (hR : RA at_ c cou wei med sto fle lik cnt liv pri quo mel los) (hC : CN ms sd fl pi ran) (hf : 1000 ≤ fu) (hp0 : at_ (120 + 6 * k) = wd 11) (hd : vX9_deed w k = wd 11) : STP fu c n k D at_ cou wei med sto fle lik vot ran rl lp cnt liv pri quo mel los ms sd fl pi rows rs x1 w K := by
  have h8 := hW.1
  have hc := hW.2.1
  have ec := hR.2.1
  by_cases hc0 : c = 0
  · refine ⟨k + 1, rl, D, ms + (if false then wd 0 else wd 1), sd, fl, pi, med, sto, fle, vot, liv, mel, los, at_, upd ran 0 (ran 0 + (if false then wd 0 else wd 1)), lp, ?_, ?_, hW, hR, FR.rf, CN_0 (ok := false) hC hC.1, upd_ne (by omega), hD, Or.inr ⟨by rw [hp0]; decide, rfl, rfl, Or.inl rfl⟩⟩
    · unfold f_X2_behindStep
      rw [bind_e (rdI_wd (by omega) (by omega)), bind_e (rdI_wd (by omega) (by omega)), hd, if_neg (show ¬ wd 11 = 7 by decide), if_neg (show ¬ wd 11 = 8 by decide), if_neg (show ¬ wd 11 = 9 by decide), if_neg (show ¬ wd 11 = 10 by decide), if_pos (show wd 11 = 11 from rfl), ec, hc0, if_pos (show wd 0 ≤ 0 by decide)]
      simp only [bnd]
      rw [show (1 : Int32) = wd 1 from rfl, wd_add]
      rfl
    · have hdo : f_X12_does fu at_ (wd D) ran (wd (120 + 6 * k)) = some (i01 false, at_, wd D, ran) := by
        unfold f_X12_does
        rw [show (1 : Int32) = wd 1 from rfl, show (2 : Int32) = wd 2 from rfl, wd_add, wd_add, bind_e (rdI_wd (show 120 + 6 * k + 1 < 3648 by omega) (by omega)), bind_e (rdI_wd (show 120 + 6 * k < 3648 by omega) (by omega)), hp0, if_neg (show ¬ wd 11 = 7 by decide), if_neg (show ¬ wd 11 = 8 by decide), if_neg (show ¬ wd 11 = 9 by decide), if_neg (show ¬ wd 11 = 10 by decide), if_pos (show wd 11 = 11 from rfl)]
        unfold f_X12_facesAny
        rw [bind_e (show rdI at_ 3648 0 = some (at_ 0) from rdI_wd (k := 0) (by omega) (by omega)), hc, hc0]
        rfl
      rw [r_aft hdo, r_j110 (by omega) (by rw [hp0]; decide), r_j139 (by omega) hp0 (by omega)]
  · have hD1 := drw_le D
    have hD2 := drw_le (drw D)
    have hmc : drw D / 8 % c < c := Nat.mod_lt _ (by omega)
    obtain ⟨ok, sd', fl', pi', med', sto', fle', vot', mel', los', at', ran', e1, e2, hW', hR', hfr, hC', h4⟩ := t_faceD (vot := vot) (s := wd 1 + wd (drw (drw D) / 8 % 20)) hW hR hmc hC hf
    refine ⟨k + 1, rl, drw (drw D), ms + (if ok then wd 0 else wd 1), sd', fl', pi', med', sto', fle', vot', liv, mel', los', at', upd ran' 0 (ran 0 + (if ok then wd 0 else wd 1)), lp, ?_, ?_, hW', hR', hfr, CN_0 hC' hC.1, by rw [upd_ne (by omega)]; exact h4, hD2, Or.inr ⟨by rw [hp0]; decide, rfl, rfl, Or.inl rfl⟩⟩
    · unfold f_X2_behindStep
      rw [bind_e (rdI_wd (by omega) (by omega)), bind_e (rdI_wd (by omega) (by omega)), hd, if_neg (show ¬ wd 11 = 7 by decide), if_neg (show ¬ wd 11 = 8 by decide), if_neg (show ¬ wd 11 = 9 by decide), if_neg (show ¬ wd 11 = 10 by decide), if_pos (show wd 11 = 11 from rfl), ec, if_neg (show ¬ wd c ≤ 0 by rw [show (0 : Int32) = wd 0 from rfl, wd_le (by omega) (by omega)]; omega), bind_e (c_draw hD (by omega) (by omega)), show (20 : Int32) = wd 20 from rfl, bind_e (c_draw hD1 (by omega) (by omega)), show (1 : Int32) = wd 1 from rfl]
      rw [ec] at e1
      rw [bind_e e1, wd_add]
    · have hdo : f_X12_does fu at_ (wd D) ran (wd (120 + 6 * k)) = some (i01 ok, at', wd (drw (drw D)), ran') := by
        unfold f_X12_does
        rw [show (1 : Int32) = wd 1 from rfl, show (2 : Int32) = wd 2 from rfl, wd_add, wd_add, bind_e (rdI_wd (show 120 + 6 * k + 1 < 3648 by omega) (by omega)), bind_e (rdI_wd (show 120 + 6 * k < 3648 by omega) (by omega)), hp0, if_neg (show ¬ wd 11 = 7 by decide), if_neg (show ¬ wd 11 = 8 by decide), if_neg (show ¬ wd 11 = 9 by decide), if_neg (show ¬ wd 11 = 10 by decide), if_pos (show wd 11 = 11 from rfl)]
        have ef : f_X12_facesAny fu at_ (wd D) ran = some (i01 ok, at', wd (drw (drw D)), ran') := by
          unfold f_X12_facesAny
          rw [bind_e (show rdI at_ 3648 0 = some (at_ 0) from rdI_wd (k := 0) (by omega) (by omega)), hc, if_neg (show ¬ wd c = 0 by rw [show (0 : Int32) = wd 0 from rfl, wd_inj (by omega) (by omega)]; omega), bind_e (show rdI at_ 3648 0 = some (at_ 0) from rdI_wd (k := 0) (by omega) (by omega)), hc, bind_e (r_draw hD (by omega) (by omega)), show (20 : Int32) = wd 20 from rfl, bind_e (r_draw hD1 (by omega) (by omega)), show (1 : Int32) = wd 1 from rfl, bind_e e2, i01_bz]
          rfl
        rw [bind_e ef, i01_bz]
        rfl
      rw [r_aft hdo, r_j110 (by omega) (by rw [hfr.2.2 _ (by omega), hp0]; decide), r_j139 (by omega) ((hfr.2.2 _ (by omega)).trans hp0) (by omega)]
theorem s_loop {x : Nat} (hn : n ≤ 60) (hk : k < n) (hD : D ≤ 65535) (hW : WF at_ c) (hR : RA at_ c cou wei med sto fle lik cnt liv pri quo mel los) (hC : CN ms sd fl pi ran) (hf : 1000 ≤ fu) (hp0 : at_ (120 + 6 * k) = wd 13) (hd : vX9_deed w k = wd 16) (hx1 : 1 ≤ x) (hx : x ≤ 99) (hp1 : at_ (120 + 6 * k + 1) = wd x) (hnum : vX9_number w k = wd x) : STP fu c n k D at_ cou wei med sto fle lik vot ran rl lp cnt liv pri quo mel los ms sd fl pi rows rs x1 w K := by
  refine ⟨k + 1, upd rl k (wd x), D, ms, sd, fl, pi, med, sto, fle, vot, liv, mel, los, at_, upd ran 0 (ran 0 + wd 0), upd lp k (wd (x - 1)), ?_, ?_, hW, hR, FR.rf, ?_, upd_ne (by omega), hD, Or.inl ⟨hp0, rfl, x, hx1, hx, rfl, rfl⟩⟩
  · unfold f_X2_behindStep
    rw [bind_e (rdI_wd (by omega) (by omega)), bind_e (rdI_wd (by omega) (by omega)), hd, if_neg (show ¬ wd 16 = 7 by decide), if_neg (show ¬ wd 16 = 8 by decide), if_neg (show ¬ wd 16 = 9 by decide), if_neg (show ¬ wd 16 = 10 by decide), if_neg (show ¬ wd 16 = 11 by decide), if_neg (show ¬ wd 16 = 12 by decide), if_neg (show ¬ wd 16 = 13 by decide), if_neg (show ¬ wd 16 = 14 by decide), if_neg (show ¬ wd 16 = 15 by decide), if_pos (show wd 16 = 16 from rfl), bind_e (rdI_wd (by omega) (by omega)), hnum, bind_e (wrI_wd (by omega) (by omega)), show (1 : Int32) = wd 1 from rfl, wd_add]
  · have hdo : f_X12_does fu at_ (wd D) ran (wd (120 + 6 * k)) = some (i01 true, at_, wd D, ran) := by
      unfold f_X12_does
      rw [show (1 : Int32) = wd 1 from rfl, show (2 : Int32) = wd 2 from rfl, wd_add, wd_add, bind_e (rdI_wd (show 120 + 6 * k + 1 < 3648 by omega) (by omega)), bind_e (rdI_wd (show 120 + 6 * k < 3648 by omega) (by omega)), hp0, if_neg (show ¬ wd 13 = 7 by decide), if_neg (show ¬ wd 13 = 8 by decide), if_neg (show ¬ wd 13 = 9 by decide), if_neg (show ¬ wd 13 = 10 by decide), if_neg (show ¬ wd 13 = 11 by decide)]
      rfl
    rw [r_aft hdo, if_pos rfl]
    unfold f_X12_lives_j110
    rw [bind_e (wrI_wd (by omega) (by omega)), bind_e (rdI_wd (show 120 + 6 * k < 3648 by omega) (by omega)), hp0, if_pos (show wd 13 = 13 from rfl), show (1 : Int32) = wd 1 from rfl, wd_add, bind_e (rdI_wd (show 120 + 6 * k + 1 < 3648 by omega) (by omega)), hp1, wd_sub hx1, bind_e (wrI_wd (show k < 80 by omega) (by omega)), r_j139 (by omega) hp0 (by omega)]
  · obtain ⟨a0, a1, a2, a3⟩ := hC
    exact ⟨by rw [upd_eq, a0, wd_a0], by rw [upd_ne (by omega)]; exact a1, by rw [upd_ne (by omega)]; exact a2, by rw [upd_ne (by omega)]; exact a3⟩
end
