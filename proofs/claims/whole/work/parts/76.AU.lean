section
variable {fu c n k D s T N : Nat} {at_ cou wei med sto fle lik vot ran rl lp : Nat → Int32} {cnt liv pri quo mel los ms sd fl pi lf dr fg x1 : Int32} {w : tX9}
theorem l32_n (h5 : at_ 5 = wd n) (hn : n ≤ 60) : f_X12_lives_l32 fu x1 (N + 1) at_ dr (wd s) lp ran (wd n) = some (at_, dr, wd s, lp, ran) := by
  rw [f_X12_lives_l32, f_X12_lives_b32, bind_e (show rdI at_ 3648 5 = some (at_ 5) from rdI_wd (k := 5) (by omega) (by omega)), h5, if_pos (by rw [wd_le (by omega) (by omega)]; omega)]
theorem l32_300 (h5 : at_ 5 = wd n) (hn : n ≤ 60) (hk : k < n) : f_X12_lives_l32 fu x1 (N + 1) at_ dr (wd 300) lp ran (wd k) = some (at_, dr, wd 300, lp, upd ran 4 (wd 1)) := by
  rw [f_X12_lives_l32, f_X12_lives_b32, bind_e (show rdI at_ 3648 5 = some (at_ 5) from rdI_wd (k := 5) (by omega) (by omega)), h5, if_neg (by rw [wd_le (by omega) (by omega)]; omega), show (300 : Int32) = wd 300 from wd_lit 300, if_pos rfl]
  rw [bind_e (show wrI ran 5 4 1 = some (upd ran 4 (wd 1)) from wrI_wd (k := 4) (by omega) (by omega))]
theorem l32_stop (h5 : at_ 5 = wd n) (hn : n ≤ 60) (hk : k < n) (hs : s < 300) (h15 : at_ (120 + 6 * k) = wd 15) : f_X12_lives_l32 fu x1 (N + 1) at_ dr (wd s) lp ran (wd k) = some (at_, dr, wd (s + 1), lp, ran) := by
  rw [f_X12_lives_l32, f_X12_lives_b32, bind_e (show rdI at_ 3648 5 = some (at_ 5) from rdI_wd (k := 5) (by omega) (by omega)), h5, if_neg (by rw [wd_le (by omega) (by omega)]; omega), show (300 : Int32) = wd 300 from wd_lit 300, if_neg (by rw [wd_inj (by omega) (by omega)]; omega)]
  simp only [bnd]
  rw [show (120 : Int32) = wd 120 from rfl, show (6 : Int32) = wd 6 from rfl, show (1 : Int32) = wd 1 from rfl, wd_mul, wd_add, wd_add, bind_e (rdI_wd (show 120 + 6 * k < 3648 by omega) (by omega)), h15, if_pos (show wd 15 = 15 from rfl)]
theorem l32_step (h5 : at_ 5 = wd n) (hn : n ≤ 60) (hk : k < n) (hs : s < 300) (h15 : ¬ at_ (120 + 6 * k) = wd 15) : f_X12_lives_l32 fu x1 (N + 1) at_ dr (wd s) lp ran (wd k) = rstep fu x1 at_ dr (wd (s + 1)) lp ran k (f_X12_lives_l32 fu x1 N) := by
  rw [f_X12_lives_l32, f_X12_lives_b32, bind_e (show rdI at_ 3648 5 = some (at_ 5) from rdI_wd (k := 5) (by omega) (by omega)), h5, if_neg (by rw [wd_le (by omega) (by omega)]; omega), show (300 : Int32) = wd 300 from wd_lit 300, if_neg (by rw [wd_inj (by omega) (by omega)]; omega)]
  simp only [bnd]
  rw [show (120 : Int32) = wd 120 from rfl, show (6 : Int32) = wd 6 from rfl, wd_mul, wd_add, bind_e (rdI_wd (show 120 + 6 * k < 3648 by omega) (by omega)), show (15 : Int32) = wd 15 from rfl, if_neg h15, show wd s + 1 = wd (s + 1) from wd_add s 1]
  rfl
theorem ar_0 {m n p : Nat} (hm : m ≤ n - p + 98 + 1) (hn : n ≤ 60) : m ≤ 159 := by omega
theorem ar_7 (d : Nat) : (d + 1 + 1) * 200 = (d + 1) * 200 + 200 := Nat.succ_mul (d + 1) 200
theorem ar_1 {T m d n p : Nat} (h : T + (d + 1 + 1) * 200 ≤ 100000) (hm : m ≤ n - p + 98 + 1) (hn : n ≤ 60) : T + 1 + m + (d + 1) * 200 ≤ 100000 := by
  have h1 := ar_0 hm hn
  rw [ar_7] at h
  clear hm hn
  generalize (d + 1) * 200 = q at h ⊢
  omega
theorem ar_2 {M m d n p : Nat} (h : (d + 1 + 1) * 200 ≤ M + 1) (hm : m ≤ n - p + 98 + 1) (hn : n ≤ 60) : (d + 1) * 200 ≤ M - m := by
  have h1 := ar_0 hm hn
  rw [ar_7] at h
  clear hm hn
  generalize (d + 1) * 200 = q at h ⊢
  apply Nat.le_sub_of_add_le
  omega
theorem ar_3 {M d : Nat} (h : d + 1 + 1 ≤ M + 1) : d + 1 ≤ M := Nat.le_of_succ_le_succ h
theorem ar_4 {T m d n p : Nat} (h : T + (d + 1 + 1) * 200 ≤ 100000) (hm : m ≤ n - p + 98 + 1) (hn : n ≤ 60) : T + 1 + m < 1000000 := by
  have h1 := ar_0 hm hn
  clear hm hn
  generalize (d + 1 + 1) * 200 = q at h
  omega
theorem ar_5 {M m d n p : Nat} (h : (d + 1 + 1) * 200 ≤ M + 1) (hm : m ≤ n - p + 98 + 1) (hn : n ≤ 60) : M - m + m = M := by
  have h1 := ar_0 hm hn
  rw [ar_7] at h
  clear hm hn
  apply Nat.sub_add_cancel
  generalize (d + 1) * 200 = q at h
  omega
theorem ar_6 {s d : Nat} (h : s + (d + 1) = 300) : s + 1 + d = 300 := by omega
theorem in_n (hn : n ≤ 60) (hk : k < n) : f_X11_within fu (wd k) 0 (wd n - 1) = some (wd 1) := by
  rw [show wd n - 1 = wd (n - 1) from wd_sub (show 1 ≤ n by omega), show (0 : Int32) = wd 0 from rfl, c_within, wn_wd (by omega) (by omega) (by omega), decide_eq_true (show 0 ≤ k ∧ k ≤ n - 1 by omega)]
  rfl
theorem out_n (hn : n ≤ 60) : f_X11_within fu (wd n) 0 (wd n - 1) = some (wd 0) := by
  by_cases h0 : n = 0
  · subst h0; rfl
  · rw [show wd n - 1 = wd (n - 1) from wd_sub (show 1 ≤ n by omega), show (0 : Int32) = wd 0 from rfl, c_within, wn_wd (by omega) (by omega) (by omega), decide_eq_false (show ¬ (0 ≤ n ∧ n ≤ n - 1) by omega)]
    rfl
theorem l9_n (hn : n ≤ 60) (hT : T < 1000000) : f_X2_fight_l9 fu cou wei lik cnt pri (vX9_deed w) (vX9_man w) (vX9_other w) (vX9_sign w) (vX9_number w) (vX9_mate w) (wd n) x1 (N + 1) rl dr fg (wd s) ms sd fl pi lf med sto fle vot liv mel los (wd n) (wd T) = some (rl, dr, fg, wd s, ms, sd, fl, pi, lf, med, sto, fle, vot, liv, mel, los) := by
  rw [f_X2_fight_l9, f_X2_fight_b9, show (1000000 : Int32) = wd 1000000 from wd_lit 1000000, if_neg (by rw [wd_le (by omega) (by omega)]; omega), bind_e (out_n hn), if_pos (show wd 0 = 0 from rfl)]
theorem l9_300 (hn : n ≤ 60) (hT : T < 1000000) (hk : k < n) (hd : ¬ vX9_deed w k = wd 17) : f_X2_fight_l9 fu cou wei lik cnt pri (vX9_deed w) (vX9_man w) (vX9_other w) (vX9_sign w) (vX9_number w) (vX9_mate w) (wd n) x1 (N + 1) rl dr fg (wd 300) ms sd fl pi lf med sto fle vot liv mel los (wd k) (wd T) = some (rl, dr, fg, wd 300, ms, sd, fl, pi, wd 1, med, sto, fle, vot, liv, mel, los) := by
  rw [f_X2_fight_l9, f_X2_fight_b9, show (1000000 : Int32) = wd 1000000 from wd_lit 1000000, if_neg (by rw [wd_le (by omega) (by omega)]; omega), bind_e (in_n hn hk), if_neg (show ¬ wd 1 = 0 by decide), bind_e (rdI_wd (show k < 60 by omega) (by omega)), show (17 : Int32) = wd 17 from rfl, if_neg hd, show (300 : Int32) = wd 300 from wd_lit 300, if_pos (by rw [wd_le (by omega) (by omega)]; omega)]
  rfl
theorem l9_step {pos' D' : Nat} {rl' med' sto' fle' vot' : Nat → Int32} {ms' sd' fl' pi' liv' mel' los' : Int32} (hn : n ≤ 60) (hT : T < 1000000) (hk : k < n) (hs : s < 300) (hd : ¬ vX9_deed w k = wd 17) (e : f_X2_behindStep fu rl (wd D) ms sd fl pi cou wei med sto fle lik vot cnt liv pri mel los (vX9_deed w) (vX9_man w) (vX9_other w) (vX9_sign w) (vX9_number w) (vX9_mate w) (wd n) (wd k) = some (wd pos', rl', wd D', ms', sd', fl', pi', med', sto', fle', vot', liv', mel', los')) : f_X2_fight_l9 fu cou wei lik cnt pri (vX9_deed w) (vX9_man w) (vX9_other w) (vX9_sign w) (vX9_number w) (vX9_mate w) (wd n) x1 (N + 1) rl (wd D) fg (wd s) ms sd fl pi lf med sto fle vot liv mel los (wd k) (wd T) = f_X2_fight_l9 fu cou wei lik cnt pri (vX9_deed w) (vX9_man w) (vX9_other w) (vX9_sign w) (vX9_number w) (vX9_mate w) (wd n) x1 N rl' (wd D') fg (wd (s + 1)) ms' sd' fl' pi' lf med' sto' fle' vot' liv' mel' los' (wd pos') (wd (T + 1)) := by
  rw [f_X2_fight_l9, f_X2_fight_b9, show (1000000 : Int32) = wd 1000000 from wd_lit 1000000, if_neg (by rw [wd_le (by omega) (by omega)]; omega), bind_e (in_n hn hk), if_neg (show ¬ wd 1 = 0 by decide), bind_e (rdI_wd (show k < 60 by omega) (by omega)), show (17 : Int32) = wd 17 from rfl, if_neg hd, show (300 : Int32) = wd 300 from wd_lit 300, if_neg (by rw [wd_le (by omega) (by omega)]; omega)]
  simp only [bnd]
  rw [bind_e e, show wd s + 1 = wd (s + 1) from wd_add s 1, show wd T + 1 = wd (T + 1) from wd_add T 1]
theorem c_stop (hn : n ≤ 60) (hk : k < n) (hd : vX9_deed w k = wd 18) : f_X2_behindStep fu rl (wd D) ms sd fl pi cou wei med sto fle lik vot cnt liv pri mel los (vX9_deed w) (vX9_man w) (vX9_other w) (vX9_sign w) (vX9_number w) (vX9_mate w) (wd n) (wd k) = some (wd n, rl, wd D, ms, sd, fl, pi, med, sto, fle, vot, liv, mel, los) := by
  unfold f_X2_behindStep
  rw [bind_e (rdI_wd (by omega) (by omega)), bind_e (rdI_wd (by omega) (by omega)), hd]
  rfl
/-- a war, from one step on -/
theorem t_fgt {p : Nat → Int32} (hf : 1000 ≤ fu) (hw : RWs p w n c) : ∀ (d s : Nat), s + d = 300 → ∀ (k D T N1 N2 : Nat) (at_ med sto fle vot rl lp ran : Nat → Int32) (liv mel los ms sd fl pi : Int32), shI 120 at_ = p → at_ 5 = wd n → k ≤ n → (k < n → ¬ at_ (120 + 6 * k) = wd 14) → LI p n rl lp k → T + (d + 1) * 200 ≤ 100000 → (d + 1) * 200 ≤ N1 → d + 1 ≤ N2 → D ≤ 65535 → WF at_ c → RA at_ c cou wei med sto fle lik cnt liv pri quo mel los → CN ms sd fl pi ran → ran 4 = wd 0 → ∃ (rl' med' sto' fle' vot' at' lp' ran' : Nat → Int32) (dr' s' ms' sd' fl' pi' lf' liv' mel' los' : Int32), f_X2_fight_l9 fu cou wei lik cnt pri (vX9_deed w) (vX9_man w) (vX9_other w) (vX9_sign w) (vX9_number w) (vX9_mate w) (wd n) x1 N1 rl (wd D) fg (wd s) ms sd fl pi (wd 0) med sto fle vot liv mel los (wd k) (wd T) = some (rl', dr', fg, s', ms', sd', fl', pi', lf', med', sto', fle', vot', liv', mel', los') ∧ f_X12_lives_l32 fu x1 N2 at_ (wd D) (wd s) lp ran (wd k) = some (at', dr', s', lp', ran') ∧ WF at' c ∧ RA at' c cou wei med' sto' fle' lik cnt liv' pri quo mel' los' ∧ FR at_ at' ∧ CN ms' sd' fl' pi' ran' ∧ ran' 4 = lf' := by
  obtain ⟨hn, hRr, hNs⟩ := hw
  intro d
  induction d with
  | zero =>
    intro s hs k D T N1 N2 at_ med sto fle vot rl lp ran liv mel los ms sd fl pi hp h5 hk h14 hLI hT hN1 hN2 hD hW hR hC h4
    obtain ⟨M1, rfl⟩ : ∃ m, N1 = m + 1 := ⟨N1 - 1, by omega⟩
    obtain ⟨M2, rfl⟩ : ∃ m, N2 = m + 1 := ⟨N2 - 1, by omega⟩
    by_cases hkn : k = n
    · subst hkn
      exact ⟨rl, med, sto, fle, vot, at_, lp, ran, wd D, wd s, ms, sd, fl, pi, wd 0, liv, mel, los, l9_n hn (by omega), l32_n h5 hn, hW, hR, FR.rf, hC, h4⟩
    · obtain rfl : s = 300 := by omega
      have hk' : k < n := by omega
      have hd := (deed_of (hRr k hk')).2.2.2 (by rw [← hp]; exact h14 hk')
      exact ⟨rl, med, sto, fle, vot, at_, lp, upd ran 4 (wd 1), wd D, wd 300, ms, sd, fl, pi, wd 1, liv, mel, los, l9_300 hn (by omega) hk' hd, l32_300 h5 hn hk', hW, hR, FR.rf, ⟨by rw [upd_ne (by omega)]; exact hC.1, by rw [upd_ne (by omega)]; exact hC.2.1, by rw [upd_ne (by omega)]; exact hC.2.2.1, by rw [upd_ne (by omega)]; exact hC.2.2.2⟩, upd_eq⟩
  | succ d ih =>
    intro s hs k D T N1 N2 at_ med sto fle vot rl lp ran liv mel los ms sd fl pi hp h5 hk h14 hLI hT hN1 hN2 hD hW hR hC h4
    obtain ⟨M1, rfl⟩ : ∃ m, N1 = m + 1 := ⟨N1 - 1, by omega⟩
    obtain ⟨M2, rfl⟩ : ∃ m, N2 = m + 1 := ⟨N2 - 1, by omega⟩
    by_cases hkn : k = n
    · subst hkn
      exact ⟨rl, med, sto, fle, vot, at_, lp, ran, wd D, wd s, ms, sd, fl, pi, wd 0, liv, mel, los, l9_n hn (by omega), l32_n h5 hn, hW, hR, FR.rf, hC, h4⟩
    · have hk' : k < n := by omega
      have hs' : s < 300 := by omega
      have hrow := hRr k hk'
      have hd := (deed_of hrow).2.2.2 (by rw [← hp]; exact h14 hk')
      by_cases h15 : at_ (120 + 6 * k) = wd 15
      · have hd18 : vX9_deed w k = wd 18 := by
          have g15 : p (6 * k) = wd 15 := by rw [← hp]; exact h15
          rcases hrow with h | h | h | h | h | h | h | h | h
          · rw [h.1] at g15; exact absurd g15 (by decide)
          · rw [h.1] at g15; exact absurd g15 (by decide)
          · rw [h.1] at g15; exact absurd g15 (by decide)
          · rw [h.1] at g15; exact absurd g15 (by decide)
          · rw [h.1] at g15; exact absurd g15 (by decide)
          · exact h.2
          · rw [h.1] at g15; exact absurd g15 (by decide)
          · rw [h.1] at g15; exact absurd g15 (by decide)
          · obtain ⟨t, t1, t2, t3⟩ := h
            rw [t2, wd_inj (by omega) (by omega)] at g15; omega
        obtain ⟨M1, rfl⟩ : ∃ m, M1 = m + 1 := ⟨M1 - 1, by omega⟩
        refine ⟨rl, med, sto, fle, vot, at_, lp, ran, wd D, wd (s + 1), ms, sd, fl, pi, wd 0, liv, mel, los, ?_, l32_stop h5 hn hk' hs' h15, hW, hR, FR.rf, hC, h4⟩
        rw [l9_step hn (by omega) hk' hs' hd (c_stop hn hk' hd18), l9_n hn (by omega)]
      · have hst := s_all (rl := rl) (lp := lp) (vot := vot) (rows := wd n) (rs := wd (s + 1)) (x1 := x1) (K := f_X12_lives_l32 fu x1 M2) hn hk' hD hW hR hC hf (by rw [hp]; exact hrow) (h14 hk') h15
        obtain ⟨pos', rl', D', ms', sd', fl', pi', med', sto', fle', vot', liv', mel', los', at', ran', lp', e1, e2, hW', hR', hF, hC', h4', hD', hcase⟩ := hst
        have hp' : shI 120 at' = p := by rw [hF.sh (by omega)]; exact hp
        have h5' : at' 5 = wd n := (hF.2.1 5 (by omega) (by omega)).trans h5
        have hLp : LI p n rl' lp' pos' ∧ pos' ≤ n := by
          rcases hcase with ⟨a13, rfl, x, hx1, hx2, rfl, rfl⟩ | ⟨a13, rfl, rfl, rfl | ⟨q, hop, hkq, hqn, q14, rfl⟩⟩
          · refine ⟨?_, by omega⟩
            intro o q ho hq g1 g2 g3 g4
            by_cases hok : o = k
            · subst hok
              exact ⟨x - 1, by omega, upd_eq, by rw [upd_eq, Nat.sub_add_cancel hx1]⟩
            · obtain ⟨v, v1, v2, v3⟩ := hLI o q ho hq g1 g2 (by omega) (by omega)
              exact ⟨v, v1, by rw [upd_ne hok]; exact v2, by rw [upd_ne hok]; exact v3⟩
          · exact ⟨LI_up hLI (by rw [← hp]; exact a13), by omega⟩
          · refine ⟨?_, by omega⟩
            intro o q' ho hq' g1 g2 g3 g4
            have hok : o ≠ k := fun e => a13 (by subst e; rw [← hp] at g1; exact g1)
            have hoq : o ≠ q := fun e => by
              subst e
              rw [← hp] at g1
              have g1 : at_ (120 + 6 * o) = wd 13 := g1
              rw [q14] at g1; exact absurd g1 (by decide)
            by_cases hlt : o < k
            · exact hLI o q' ho hq' g1 g2 hlt (by omega)
            · have := hNs k q o q' hk' ho hqn hq' (by rw [← hp]; exact hop) ⟨Or.inl g1, g2⟩ (by omega) (by omega)
              omega
        have her := e_run (fu := fu) (c := c) (x1 := x1) (x2 := wd pos') (cou := cou) (wei := wei) (lik := lik) (cnt := cnt) (pri := pri) (dr := wd D') (fg := fg) (st := wd (s + 1)) (ms := ms') (sd := sd') (fl := fl') (pi := pi') (lf := wd 0) (med := med') (sto := sto') (fle := fle') (vot := vot') (liv := liv') (mel := mel') (los := los') hn h5' (by rw [hp']; exact hRr) (by rw [hp']; exact hNs) (n - pos') 98 pos' rl' lp' (by omega) (by rw [hp']; exact hLp.1) (fun v _ _ _ _ _ h => h)
        obtain ⟨m, pos, rl2, lp2, m1, m2, m3, m4, m5, m6⟩ := her
        have hbe : f_X12_behindEnds fu at' lp' (wd pos') = some (wd pos, lp2) := by
          have := m6 (fu - m - 1)
          rw [show fu - m - 1 + m + 1 = fu from by omega] at this
          exact this
        obtain ⟨rl3, med3, sto3, fle3, vot3, at3, lp3, ran3, dr3, s3, ms3, sd3, fl3, pi3, lf3, liv3, mel3, los3, i1, i2, i3, i4, i5, i6, i7⟩ := ih (s + 1) (ar_6 hs) pos D' (T + 1 + m) (M1 - m) M2 at' med' sto' fle' vot' rl2 lp2 ran' liv' mel' los' ms' sd' fl' pi' hp' h5' m2 m3 (by rw [← hp']; exact m4) (ar_1 hT m1 hn) (ar_2 hN1 m1 hn) (ar_3 hN2) hD' hW' hR' hC' (h4'.trans h4)
        refine ⟨rl3, med3, sto3, fle3, vot3, at3, lp3, ran3, dr3, s3, ms3, sd3, fl3, pi3, lf3, liv3, mel3, los3, ?_, ?_, i3, i4, hF.tr i5, i6, i7⟩
        · have hm5 := m5 (T + 1) (M1 - m) (ar_4 hT m1 hn)
          rw [ar_5 hN1 m1 hn] at hm5
          rw [l9_step hn (by omega) hk' hs' hd e1, hm5, i1]
        · rw [l32_step h5 hn hk' hs' h15, e2, bind_e hbe]
          exact i2
end
