section
variable {fu c n x : Nat} {at_ cou wei med sto fle lik vot ran rl lp told : Nat → Int32} {cnt liv pri quo mel los dr rs x1 : Int32} {w : tX9}
theorem r_lives0 (hf : 1000 ≤ fu) : ∃ ran', f_X12_lives fu at_ dr rs lp ran x1 = f_X12_lives_l32 fu x1 fu at_ x1 (wd 0) lp ran' (wd 0) ∧ CN (wd 0) (wd 0) (wd 0) (wd 0) ran' ∧ ran' 4 = wd 0 := by
  refine ⟨fun k => if k < 5 then wd 0 else ran k, ?_, ⟨rfl, rfl, rfl, rfl⟩, rfl⟩
  unfold f_X12_lives
  refine loop_seq (fun n i (y : Nat → Int32) => f_X12_lives_l12 fu x1 n at_ x1 (wd 0) lp y (wd i)) (fun i => fun k => if k < i then wd 0 else ran k) 5 _ ?_ ?_ 0 fu (by omega) (by omega)
  · intro n i hi
    rw [f_X12_lives_l12, f_X12_lives_b12, show (5 : Int32) = wd 5 from rfl, if_neg (by rw [wd_le (by omega) (by omega)]; omega), bind_e (wrI_wd (by omega) (by omega))]
    simp only [bnd]
    rw [show wd i + 1 = wd (i + 1) from wd_add i 1]
    congr 1
    funext k
    show upd _ _ _ _ = _
    unfold upd
    by_cases h : k = i
    · rw [if_pos h, if_pos (by omega)]; rfl
    · rw [if_neg h]
      show (if k < i then wd 0 else ran k) = _
      by_cases h2 : k < i
      · rw [if_pos h2, if_pos (by omega)]
      · rw [if_neg h2, if_neg (by omega)]
  · intro n
    rw [f_X12_lives_l12, f_X12_lives_b12, show (5 : Int32) = wd 5 from rfl, if_pos (by rw [wd_le (by omega) (by omega)]; omega)]
    rfl
/-- a war, on both sides -/
theorem t_fight {dr0 fg0 st0 ms0 sd0 fl0 pi0 lf0 : Int32} (hx : x ≤ 65535) (hW : WF at_ c) (hR : RA at_ c cou wei med sto fle lik cnt liv pri quo mel los) (h5 : at_ 5 = wd n) (hw : RWs (shI 120 at_) w n c) (hf : 1000000 ≤ fu) : ∃ (rl' med' sto' fle' vot' at' lp' ran' : Nat → Int32) (dr' s' ms' sd' fl' pi' lf' liv' mel' los' : Int32), f_X2_fight fu rl dr0 fg0 st0 ms0 sd0 fl0 pi0 lf0 cou wei med sto fle lik vot cnt liv pri mel los (vX9_deed w) (vX9_man w) (vX9_other w) (vX9_sign w) (vX9_number w) (vX9_mate w) (wd n) (wd x) = some (rl', dr', wd 1, s', ms', sd', fl', pi', lf', med', sto', fle', vot', liv', mel', los') ∧ f_X12_lives fu at_ dr rs lp ran (wd x) = some (at', dr', s', lp', ran') ∧ WF at' c ∧ RA at' c cou wei med' sto' fle' lik cnt liv' pri quo mel' los' ∧ FR at_ at' ∧ CN ms' sd' fl' pi' ran' ∧ ran' 4 = lf' := by
  obtain ⟨ran0, e0, hC, h4⟩ := r_lives0 (fu := fu) (at_ := at_) (dr := dr) (rs := rs) (lp := lp) (ran := ran) (x1 := wd x) (by omega)
  rw [e0]
  exact t_fgt (x1 := wd x) (fg := wd 1) (by omega) hw 300 0 rfl 0 x 0 fu fu at_ med sto fle vot rl lp ran0 liv mel los (wd 0) (wd 0) (wd 0) (wd 0) rfl h5 (by omega) (fun h0 h14 => by
    obtain ⟨o, ho, _⟩ := end_of (hw.2.1 0 h0) h14
    omega) (fun o q _ _ _ _ h _ => absurd h (by omega)) (by omega) (by omega) (by omega) hx hW hR hC h4
theorem r_live42 {st it : Int32} (hf : 1000 ≤ fu) : ∃ told', f_X12_live_l42 fu x1 fu at_ st dr rs lp ran told it 0 = some (rs, at_, wd 0, dr, rs, lp, ran, told', wd 1) ∧ ∀ k, k < 5 → told' k = ran k := by
  refine ⟨fun k => if k < 5 then ran k else told k, ?_, fun k hk => if_pos hk⟩
  refine loop_seq (fun n i (y : Nat → Int32) => f_X12_live_l42 fu x1 n at_ st dr rs lp ran y it (wd i)) (fun i => fun k => if k < i then ran k else told k) 5 _ ?_ ?_ 0 fu (by omega) (by omega)
  · intro n i hi
    rw [f_X12_live_l42, f_X12_live_b42, show (5 : Int32) = wd 5 from rfl, if_neg (by rw [wd_le (by omega) (by omega)]; omega), bind_e (rdI_wd (by omega) (by omega)), bind_e (wrI_wd (by omega) (by omega))]
    simp only [bnd]
    rw [show wd i + 1 = wd (i + 1) from wd_add i 1]
    congr 1
    funext k
    show upd _ _ _ _ = _
    unfold upd
    by_cases h : k = i
    · rw [if_pos h, if_pos (by omega), h]
    · rw [if_neg h]
      show (if k < i then ran k else told k) = _
      by_cases h2 : k < i
      · rw [if_pos h2, if_pos (by omega)]
      · rw [if_neg h2, if_neg (by omega)]
  · intro n
    rw [f_X12_live_l42, f_X12_live_b42, show (5 : Int32) = wd 5 from rfl, if_pos (by rw [wd_le (by omega) (by omega)]; omega)]
    rfl
theorem t_live {st st' it : Int32} {l : tX2} (hW : WF at_ c) (hR : RA at_ c cou wei med sto fle lik cnt liv pri quo mel los) (hWr : RWr (at_ 5) (shI 120 at_) w c) (hT : RTd l told it) (hf : 1000000 ≤ fu) : ∃ (r st1 : Int32) (med' sto' fle' vot' at' lp' ran' told' : Nat → Int32) (liv' mel' los' dr' rs' it' : Int32) (l' : tX2), f_X11_live fu st cou wei med sto fle lik vot cnt liv pri mel los (vX9_deed w) (vX9_man w) (vX9_other w) (vX9_sign w) (vX9_number w) (vX9_mate w) (vX9_there w) (vX9_rows w) (vX2_roundsLeft l) (vX2_drawn l) (vX2_fought l) (vX2_steps l) (vX2_missed l) (vX2_stood l) (vX2_fled l) (vX2_pinned l) (vX2_left l) x1 = some (r, st1, med', sto', fle', vot', liv', mel', los', l') ∧ f_X12_live fu at_ st' dr rs lp ran told it x1 = some (r, at', st1, dr', rs', lp', ran', told', it') ∧ WF at' c ∧ RA at' c cou wei med' sto' fle' lik cnt liv' pri quo mel' los' ∧ FR at_ at' ∧ RTd l' told' it' := by
  cases q0 : wn 0 9999 x1
  · refine ⟨nn, wd 1, med, sto, fle, vot, at_, lp, ran, told, liv, mel, los, dr, rs, it, l, ?_, ?_, hW, hR, FR.rf, hT⟩
    · unfold f_X11_live
      rw [show (9999 : Int32) = wd 9999 from wd_lit 9999, show (0 : Int32) = wd 0 from rfl, bind_e c_within, q0, if_pos (show i01 false = wd 0 from rfl)]
      rfl
    · unfold f_X12_live
      rw [show (9999 : Int64) = jd 9999 from jd_lit 9999, show (0 : Int64) = jd 0 from rfl, bind_e (r_from (by omega) (by omega)), q0, if_pos (show i01 false = 0 from rfl)]
      rfl
  · obtain ⟨s, _, hs, rfl⟩ := wn_ex (by omega) (by omega) q0
    rcases hWr with ⟨h5, hth⟩ | ⟨n, h5, hth, hro, hw⟩
    · refine ⟨nn, wd 6, med, sto, fle, vot, at_, lp, ran, told, liv, mel, los, dr, rs, it, l, ?_, ?_, hW, hR, FR.rf, hT⟩
      · unfold f_X11_live
        rw [show (9999 : Int32) = wd 9999 from wd_lit 9999, show (0 : Int32) = wd 0 from rfl, bind_e c_within, q0, if_neg (show ¬ i01 true = wd 0 by decide), if_pos hth]
        rfl
      · unfold f_X12_live
        rw [show (9999 : Int64) = jd 9999 from jd_lit 9999, show (0 : Int64) = jd 0 from rfl, bind_e (r_from (by omega) (by omega)), q0, if_neg (show ¬ i01 true = 0 by decide), bind_e (show rdI at_ 3648 5 = some (at_ 5) from rdI_wd (k := 5) (by omega) (by omega)), h5, if_pos (show nn = -1 from rfl)]
        rfl
    · obtain ⟨rl', med', sto', fle', vot', at', lp', ran', dr', s', ms', sd', fl', pi', lf', liv', mel', los', e1, e2, hW', hR', hF, hC, h4⟩ := t_fight (dr := dr) (rs := rs) (lp := lp) (ran := ran) (vot := vot) (rl := vX2_roundsLeft l) (dr0 := vX2_drawn l) (fg0 := vX2_fought l) (st0 := vX2_steps l) (ms0 := vX2_missed l) (sd0 := vX2_stood l) (fl0 := vX2_fled l) (pi0 := vX2_pinned l) (lf0 := vX2_left l) (show s ≤ 65535 by omega) hW hR h5 hw hf
      obtain ⟨told', e3, ht⟩ := r_live42 (fu := fu) (at_ := at') (x1 := wd s) (dr := dr') (rs := s') (lp := lp') (ran := ran') (told := told) (st := st') (it := it) (by omega)
      refine ⟨s', wd 0, med', sto', fle', vot', at', lp', ran', told', liv', mel', los', dr', s', wd 1, (rl', dr', wd 1, s', ms', sd', fl', pi', lf'), ?_, ?_, hW', hR', hF, Or.inr ⟨rfl, rfl, ?_, ?_, ?_, ?_, ?_⟩⟩
      · unfold f_X11_live
        rw [show (9999 : Int32) = wd 9999 from wd_lit 9999, show (0 : Int32) = wd 0 from rfl, bind_e c_within, q0, if_neg (show ¬ i01 true = wd 0 by decide), hth, if_neg (show ¬ wd 1 = wd 0 by decide), hro, bind_e e1]
        rfl
      · unfold f_X12_live
        rw [show (9999 : Int64) = jd 9999 from jd_lit 9999, show (0 : Int64) = jd 0 from rfl, bind_e (r_from (by omega) (by omega)), q0, if_neg (show ¬ i01 true = 0 by decide), bind_e (show rdI at_ 3648 5 = some (at_ 5) from rdI_wd (k := 5) (by omega) (by omega)), h5, if_neg (show ¬ wd n = -1 from by
          have := hw.1
          show ¬ wd n = nn
          rw [wd_eqm (by omega)]; exact id), bind_e e2]
        exact e3
      · rw [ht 0 (by omega)]; exact hC.1.symm
      · rw [ht 1 (by omega)]; exact hC.2.1.symm
      · rw [ht 2 (by omega)]; exact hC.2.2.1.symm
      · rw [ht 3 (by omega)]; exact hC.2.2.2.symm
      · rw [ht 4 (by omega)]; exact h4.symm
end
theorem Q1_live {fu : Nat} (hf : 1000000000 ≤ fu) : Q_live fu RR := by
  intro S M x1 h
  obtain ⟨c, hW, hA, hN, hWr⟩ := h.2.2.1
  obtain ⟨r, st1, med', sto', fle', vot', at', lp', ran', told', liv', mel', los', dr', rs', it', l', e1, e2, hW', hA', hF, hT⟩ := t_live (st := vX11_latestStatus (S_b S)) (st' := vX12_status M) (vot := vX0_votes (S_a S)) (dr := vX12_drawn M) (rs := vX12_ranSteps M) (lp := vX12_loops M) (ran := vX12_ran M) (x1 := x1) hW hA hWr h.2.2.2.2.2.2.1 (show 1000000 ≤ fu by omega)
  exact q_of (bind_e e1) (bind_e e2) ⟨⟨rfl, h.1.2⟩, h.2.1, ⟨c, hW', hA', hN, hF.w hWr⟩, hF.mk h.2.2.2.1, h.2.2.2.2.1, h.2.2.2.2.2.1, hT, h.2.2.2.2.2.2.2⟩
