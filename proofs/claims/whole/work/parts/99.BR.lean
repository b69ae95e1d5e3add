theorem Q1_war {fu : Nat} (hf : 1000000000 ≤ fu) : Q_war fu RR := by
  intro S M x1 h
  obtain ⟨hS, hY, hH, hM, hTp, hFt, hTd, hWc⟩ := h
  obtain ⟨N, hN, eN1, eN2, hby⟩ := hTp
  generalize hMx : (if 300 < N then 300 else N) = Mx
  have hMb : Mx ≤ 300 ∧ Mx ≤ N := by
    rw [← hMx]
    by_cases h3 : 300 < N
    · rw [if_pos h3]; omega
    · rw [if_neg h3]; omega
  have hmx : (if 300 < vX7_length (S_t S) then 300 else vX7_length (S_t S)) = wd Mx := by
    rw [eN1, show (300 : Int32) = wd 300 from wd_lit 300, ← hMx]
    by_cases h3 : 300 < N
    · rw [if_pos h3, if_pos (by rw [wd_lt (by omega) (by omega)]; exact h3)]
    · rw [if_neg h3, if_neg (by rw [wd_lt (by omega) (by omega)]; exact h3)]
  cases q0 : wn 0 Mx x1
  · refine q_of (r := nn) (bind_e (z := (nn, wd 1, (vX9_deed (S_w S)), (vX9_man (S_w S)), (vX9_other (S_w S)), (vX9_sign (S_w S)), (vX9_number (S_w S)), (vX9_mate (S_w S)), (vX9_there (S_w S)), (vX9_rows (S_w S)), (vX9_steps (S_w S)), (vX9_deed (S_e S)), (vX9_man (S_e S)), (vX9_other (S_e S)), (vX9_sign (S_e S)), (vX9_number (S_e S)), (vX9_mate (S_e S)), (vX9_there (S_e S)), (vX9_rows (S_e S)), (vX9_steps (S_e S)), (vX6_fault (S_r S)), (vX6_place (S_r S)), (vX7_length (S_t S)), (vX7_kind (S_t S)), (vX7_start (S_t S)), (vX7_value (S_t S)), (vX7_word (S_t S)), (vX7_name (S_t S)), (vX7_end (S_t S)), (vX7_at (S_t S)), (vX10_open (S_g S)), (vX10_depth (S_g S)))) ?_) (bind_e (z := (nn, (vX12_at M), wd 1, (vX12_text M), (vX12_taped M), (vX12_size M), (vX12_token M), (vX12_from M), (vX12_end M), (vX12_value M), (vX12_faultKind M), (vX12_faultPlace M), (vX12_faults M), (vX12_seen M), (vX12_opened M), (vX12_depth M), (vX12_counted M))) ?_) ⟨⟨rfl, hS.2⟩, hY, hH, hM, ⟨N, hN, eN1, eN2, hby⟩, hFt, hTd, hWc⟩
    · unfold f_X11_war
      rw [bind_e (show f_X11_within fu x1 0 (if 300 < vX7_length (S_t S) then 300 else vX7_length (S_t S)) = some (i01 (wn 0 Mx x1)) from by rw [hmx]; exact c_within (a := 0) (b := Mx)), q0]
      rfl
    · have hbg : f_X12_begins fu (vX12_tape M) (vX12_text M) (vX12_taped M) (vX12_size M) (vX12_token M) (vX12_from M) (vX12_end M) (vX12_value M) (vX12_faultPlace M) (vX12_faults M) (vX12_seen M) x1 300 = some (wd 0, vX12_text M, vX12_taped M, vX12_size M, vX12_token M, vX12_from M, vX12_end M, vX12_value M, vX12_faultPlace M, vX12_faults M, vX12_seen M) := by
        unfold f_X12_begins
        simp only [wn, decide_eq_false_iff_not] at q0
        by_cases a1 : x1 < 0
        · rw [if_pos a1]; rfl
        · have a2 : wd Mx < x1 := Int32.not_le.1 (fun h2 => q0 ⟨Int32.not_lt.1 a1, h2⟩)
          rw [if_neg a1]
          by_cases a3 : vX12_taped M < x1
          · rw [if_pos a3]; rfl
          · have a4 : ¬ x1 ≤ 300 := by
              intro a5
              obtain ⟨v, hv, rfl⟩ := wd_ex (x := x1) a1
              rw [show (300 : Int32) = wd 300 from wd_lit 300, wd_le (by omega) (by omega)] at a5
              rw [eN2, wd_lt (by omega) (by omega)] at a3
              rw [wd_lt (by omega) (by omega), ← hMx] at a2
              by_cases h3 : 300 < N
              · rw [if_pos h3] at a2; omega
              · rw [if_neg h3] at a2; omega
            rw [if_neg a3, if_neg a4]
            rfl
      unfold f_X12_war
      rw [bind_e hbg]
      rfl
  · obtain ⟨n, _, hn, rfl⟩ := wn_ex (by omega) (by omega) q0
    obtain ⟨b, text', f, e, ki, va, wo, na, vl, hT, hk, hbc, hbr⟩ := t_begin (fu := fu) (ft := vX6_fault (S_r S)) (pl := vX6_place (S_r S)) (ki := vX7_kind (S_t S)) (st := vX7_start (S_t S)) (va := vX7_value (S_t S)) (wo := vX7_word (S_t S)) (na := vX7_name (S_t S)) (at0 := vX7_at (S_t S)) (en := vX7_end (S_t S)) (en2 := vX12_end M) (tk := vX12_token M) (fr := vX12_from M) (vl := vX12_value M) (fp := vX12_faultPlace M) (fs := vX12_faults M) (sn := vX12_seen M) (sz := vX12_size M) (text := vX12_text M) (N := N) (n := n) (most := 300) hby hN (by omega) (by omega) (by omega) hWc (by omega)
    rw [← eN2, show wd 300 = 300 from (wd_lit 300).symm] at hbr
    obtain ⟨c, hW, hA, hNm, hWr⟩ := hH
    have h8 := hW.1
    have hc0 : upd (vX12_at M) 1957 (wd 0) 0 = wd c := (upd_ne (by omega)).trans hW.2.1
    have ec := hA.2.1
    have hS0 : WSR c 0 0 0 (fun _ => 0) (upd (vX12_at M) 1957 (wd 0)) (vX10_open (S_g S)) (vX12_opened M) (vX9_deed (S_e S)) (vX9_man (S_e S)) (vX9_other (S_e S)) (vX9_sign (S_e S)) (vX9_number (S_e S)) (vX9_mate (S_e S)) := by
      refine ⟨upd_eq, fun j hj => absurd hj (by omega), by omega, by omega, by omega, fun k hk => absurd hk (by omega), fun j hj => absurd hj (by omega), fun i j _ hj => absurd hj (by omega), fun a q a' q' _ _ hq => absurd hq (by omega), fun j a q hj => absurd hj (by omega)⟩
    obtain ⟨g, f', e', ki', va', wo', na', vl', ft', pl', fp', fs', dc', dr', ro', st', cn', at', opc', opr', deed', man', oth', sgn', num', mate', r1, r2, r3, r5, r6⟩ := w_all (fu := fu) (tape := vX12_tape M) (xx := wd n) (th := wd 1) hT hWc hNm h8 (by omega) (by omega) n f (by omega) 0 fu fu e 0 0 0 (fun _ => 0) ki va wo na vl (wd 0) nn nn (vX12_status M) (wd 0) (vX12_faultKind M) (wd 0) (upd (vX12_at M) 1957 (wd 0)) (vX10_open (S_g S)) (vX12_opened M) (vX9_deed (S_e S)) (vX9_man (S_e S)) (vX9_other (S_e S)) (vX9_sign (S_e S)) (vX9_number (S_e S)) (vX9_mate (S_e S)) (by omega) (by have := hk.le; have := hk.fe; omega) (by omega) (by omega) hk hc0 hS0
    have hrd : f_X10_readDraft fu (vX10_open (S_g S)) (vX10_depth (S_g S)) (wd 0) nn (vX7_bytes (S_t S)) (vX7_wordCodes (S_t S)) ki (wd f) va wo na (wd n) (wd e) (vX9_deed (S_e S)) (vX9_man (S_e S)) (vX9_other (S_e S)) (vX9_sign (S_e S)) (vX9_number (S_e S)) (vX9_mate (S_e S)) (vX9_there (S_e S)) (vX9_rows (S_e S)) (vX9_steps (S_e S)) (vX0_name (S_a S)) (vX0_count (S_a S)) = f_X10_readDraft_j105 fu (vX7_bytes (S_t S)) (vX7_wordCodes (S_t S)) (wd n) (vX0_name (S_a S)) (wd c) opc' dc' ft' pl' ki' (wd f') va' wo' na' (wd e') deed' man' oth' sgn' num' mate' (wd 1) ro' st' (i01 g) := by
      rw [ec]
      exact r1
    have hra : f_X12_war fu (vX12_at M) (vX12_names M) (vX12_status M) (vX12_tape M) (vX12_text M) (vX12_taped M) (vX12_size M) (vX12_token M) (vX12_from M) (vX12_end M) (vX12_value M) (vX12_faultKind M) (vX12_faultPlace M) (vX12_faults M) (vX12_seen M) (vX12_opened M) (vX12_depth M) (vX12_counted M) (wd n) = f_X12_war_j57 fu (vX12_names M) (vX12_tape M) (wd n) at' (vX12_status M) text' (wd 0) (wd n) ki' (wd f') (wd e') vl' (vX12_faultKind M) fp' fs' (wd 0) opr' dr' cn' := by
      unfold f_X12_war
      rw [bind_e hbr, if_neg (show ¬ wd 1 = 0 by decide), show (1957 : Int32) = wd 1957 from wd_lit 1957, bind_e (wrI_wd (show 1957 < 3648 by omega) (by omega))]
      exact r2
    have hag : ∀ i, i < 1952 → at' i = vX12_at M i := fun i hi => (r3 i hi).trans (upd_ne (by omega))
    have hH' : RHW (vX12_at M) (vX12_names M) (S_a S) (S_w S) := ⟨c, hW, hA, hNm, hWr⟩
    have hfail : ∀ (x : Nat) (pl2 : Int32), 0 < x → x ≤ 9 → f_X10_readDraft fu (vX10_open (S_g S)) (vX10_depth (S_g S)) (wd 0) nn (vX7_bytes (S_t S)) (vX7_wordCodes (S_t S)) ki (wd f) va wo na (wd n) (wd e) (vX9_deed (S_e S)) (vX9_man (S_e S)) (vX9_other (S_e S)) (vX9_sign (S_e S)) (vX9_number (S_e S)) (vX9_mate (S_e S)) (vX9_there (S_e S)) (vX9_rows (S_e S)) (vX9_steps (S_e S)) (vX0_name (S_a S)) (vX0_count (S_a S)) = some (wd 0, opc', dc', wd x, pl2, ki', wd f', va', wo', na', wd e', deed', man', oth', sgn', num', mate', wd 1, ro', st') → f_X12_war fu (vX12_at M) (vX12_names M) (vX12_status M) (vX12_tape M) (vX12_text M) (vX12_taped M) (vX12_size M) (vX12_token M) (vX12_from M) (vX12_end M) (vX12_value M) (vX12_faultKind M) (vX12_faultPlace M) (vX12_faults M) (vX12_seen M) (vX12_opened M) (vX12_depth M) (vX12_counted M) (wd n) = some (nn, at', wd 9, text', wd 0, wd n, ki', wd f', wd e', vl', wd x, pl2, wd x, wd 0, opr', dr', cn') → ∃ r S1 M1, F_war fu S (wd n) = some (r, S1) ∧ G_war fu M (wd n) = some (r, M1) ∧ RR S1 M1 := by
      intro x pl2 x1 x2 hc hr
      refine q_of (r := nn) (bind_e (z := (nn, wd 9, (vX9_deed (S_w S)), (vX9_man (S_w S)), (vX9_other (S_w S)), (vX9_sign (S_w S)), (vX9_number (S_w S)), (vX9_mate (S_w S)), (vX9_there (S_w S)), (vX9_rows (S_w S)), (vX9_steps (S_w S)), deed', man', oth', sgn', num', mate', wd 1, ro', st', wd x, pl2, 0, ki', wd f', va', wo', na', wd n, wd e', opc', dc')) ?_) (bind_e (z := (nn, at', wd 9, text', wd 0, wd n, ki', wd f', wd e', vl', wd x, pl2, wd x, wd 0, opr', dr', cn')) hr) ⟨⟨rfl, hS.2⟩, hY, RHW_e hH' (fun k hk => hag k (by omega)) (fun k hk => rfl), RMk_e hM (fun i _ hi => hag i hi) (fun i _ hi => rfl), ⟨0, by omega, rfl, rfl, fun k hk => absurd hk (by omega)⟩, ⟨rfl, rfl⟩, hTd, hWc⟩
      unfold f_X11_war
      rw [bind_e (show f_X11_within fu (wd n) 0 (if 300 < vX7_length (S_t S) then 300 else vX7_length (S_t S)) = some (i01 (wn 0 Mx (wd n))) from by rw [hmx]; exact c_within (a := 0) (b := Mx)), q0, if_neg (show ¬ i01 true = 0 by decide), bind_e hbc, bind_e hc, if_pos (show wd 0 = 0 from rfl)]
      rfl
    have hj77 : ∀ (x : Nat) (pl2 : Int32), 0 < x → x ≤ 9 → f_X12_war_j77 fu (vX12_names M) (vX12_tape M) (wd n) at' (vX12_status M) text' (wd 0) (wd n) ki' (wd f') (wd e') vl' (vX12_faultKind M) pl2 (wd x) (wd 0) opr' dr' cn' = some (nn, at', wd 9, text', wd 0, wd n, ki', wd f', wd e', vl', wd x, pl2, wd x, wd 0, opr', dr', cn') := by
      intro x pl2 x1 x2
      unfold f_X12_war_j77
      rw [if_neg (show ¬ wd x = 0 from by
        show ¬ wd x = wd 0
        rw [wd_inj (by omega) (by omega)]; omega)]
      unfold f_X12_taken
      rw [if_neg (show ¬ wd x ≤ 0 from by
        show ¬ wd x ≤ wd 0
        rw [wd_le (by omega) (by omega)]; omega)]
      rfl
    cases g
    · obtain ⟨x, x1, x2, x3, x4, x5⟩ := r6 rfl
      subst x3; subst x4; subst x5
      refine hfail x pl' x1 x2 ?_ ?_
      · rw [hrd]
        rfl
      · rw [hra]
        unfold f_X12_war_j57
        rw [if_neg (show ¬ wd x = 0 from by
          show ¬ wd x = wd 0
          rw [wd_inj (by omega) (by omega)]; omega)]
        exact hj77 x pl' x1 x2
    · obtain ⟨s1', s2', s3', s4', n1, s1, d1, op1, u1, u2, u3, u4, u5, hS1⟩ := r5 rfl
      subst s1'; subst s2'; subst s3'; subst s4'; subst u1; subst u2; subst u3; subst u4; subst u5
      have hd3 : d1 ≤ 3 := hS1.2.2.1
      by_cases hd : d1 = 0
      · subst hd
        obtain ⟨h57, hop, hI⟩ := hS1
        have hs30 : s1 ≤ 30 := hI.2.1
        have hn60 : n1 ≤ 60 := by have := hI.2.2.1; omega
        generalize hA5 : (fun k => if 120 ≤ k ∧ k < 480 then at' (1952 + k) else upd at' 5 (wd n1) k) = A5
        have hA5a : ∀ k, 120 ≤ k → k < 480 → A5 k = at' (1952 + k) := fun k g1 g2 => by rw [← hA5]; exact if_pos ⟨g1, g2⟩
        have hA5b : ∀ k, k < 120 ∨ 480 ≤ k → A5 k = upd at' 5 (wd n1) k := fun k g1 => by rw [← hA5]; exact if_neg (by omega)
        have hl101 : f_X12_war_l101 fu (vX12_names M) (vX12_tape M) (wd n) fu (upd at' 5 (wd n1)) (vX12_status M) text' (wd 0) (wd n) ki' (wd f') (wd e') vl' (vX12_faultKind M) nn (wd 0) (wd 0) opr' (wd 0) (wd s1) (wd 120) = some (wd s1, A5, wd 0, text', wd 0, wd n, ki', wd f', wd e', vl', wd 0, nn, wd 0, wd 0, opr', wd 0, wd s1) := by
          have key := loop_run (fun L k (x : Nat → Int32) => f_X12_war_l101 fu (vX12_names M) (vX12_tape M) (wd n) L x (vX12_status M) text' (wd 0) (wd n) ki' (wd f') (wd e') vl' (vX12_faultKind M) nn (wd 0) (wd 0) opr' (wd 0) (wd s1) (wd k)) (fun i => fun k => if 120 ≤ k ∧ k < i then at' (1952 + k) else upd at' 5 (wd n1) k) 120 480 (some (wd s1, A5, wd 0, text', wd 0, wd n, ki', wd f', wd e', vl', wd 0, nn, wd 0, wd 0, opr', wd 0, wd s1)) ?_ ?_ (by omega) fu (by omega)
          · have e0 : (fun k => if 120 ≤ k ∧ k < 120 then at' (1952 + k) else upd at' 5 (wd n1) k) = upd at' 5 (wd n1) := by
              funext k
              rw [if_neg (by omega)]
            have key : f_X12_war_l101 fu (vX12_names M) (vX12_tape M) (wd n) fu (fun k => if 120 ≤ k ∧ k < 120 then at' (1952 + k) else upd at' 5 (wd n1) k) (vX12_status M) text' (wd 0) (wd n) ki' (wd f') (wd e') vl' (vX12_faultKind M) nn (wd 0) (wd 0) opr' (wd 0) (wd s1) (wd 120) = _ := key
            rw [e0] at key
            exact key
          · intro L i g1 g2
            show f_X12_war_l101 fu (vX12_names M) (vX12_tape M) (wd n) (L + 1) (fun k => if 120 ≤ k ∧ k < i then at' (1952 + k) else upd at' 5 (wd n1) k) (vX12_status M) text' (wd 0) (wd n) ki' (wd f') (wd e') vl' (vX12_faultKind M) nn (wd 0) (wd 0) opr' (wd 0) (wd s1) (wd i) = f_X12_war_l101 fu (vX12_names M) (vX12_tape M) (wd n) L (fun k => if 120 ≤ k ∧ k < i + 1 then at' (1952 + k) else upd at' 5 (wd n1) k) (vX12_status M) text' (wd 0) (wd n) ki' (wd f') (wd e') vl' (vX12_faultKind M) nn (wd 0) (wd 0) opr' (wd 0) (wd s1) (wd (i + 1))
            have hrdc : rdI (fun k => if 120 ≤ k ∧ k < i then at' (1952 + k) else upd at' 5 (wd n1) k) 3648 (wd (1952 + i)) = some (at' (1952 + i)) := by
              rw [rdI_wd (by omega) (by omega), if_neg (by omega), upd_ne (by omega)]
            rw [f_X12_war_l101, f_X12_war_b101, show (480 : Int32) = wd 480 from wd_lit 480, if_neg (by rw [wd_le (by omega) (by omega)]; omega), show (1952 : Int32) + wd i = wd (1952 + i) from by rw [show (1952 : Int32) = wd 1952 from wd_lit 1952, wd_add], bind_e hrdc, bind_e (wrI_wd (by omega) (by omega))]
            simp only [bnd]
            rw [show wd i + 1 = wd (i + 1) from wd_add i 1]
            congr 1
            funext k
            show upd _ _ _ k = _
            by_cases hk : k = i
            · rw [hk, upd_eq, if_pos (by omega)]
            · rw [upd_ne hk]
              show (if 120 ≤ k ∧ k < i then at' (1952 + k) else upd at' 5 (wd n1) k) = _
              by_cases hk2 : 120 ≤ k ∧ k < i
              · rw [if_pos hk2, if_pos (by omega)]
              · rw [if_neg hk2, if_neg (by omega)]
          · intro L
            show f_X12_war_l101 fu (vX12_names M) (vX12_tape M) (wd n) (L + 1) (fun k => if 120 ≤ k ∧ k < 480 then at' (1952 + k) else upd at' 5 (wd n1) k) (vX12_status M) text' (wd 0) (wd n) ki' (wd f') (wd e') vl' (vX12_faultKind M) nn (wd 0) (wd 0) opr' (wd 0) (wd s1) (wd 480) = _
            rw [hA5, f_X12_war_l101, f_X12_war_b101, show (480 : Int32) = wd 480 from wd_lit 480, if_pos (by rw [wd_le (by omega) (by omega)]; omega)]
            rfl
        have hrok : f_X12_war fu (vX12_at M) (vX12_names M) (vX12_status M) (vX12_tape M) (vX12_text M) (vX12_taped M) (vX12_size M) (vX12_token M) (vX12_from M) (vX12_end M) (vX12_value M) (vX12_faultKind M) (vX12_faultPlace M) (vX12_faults M) (vX12_seen M) (vX12_opened M) (vX12_depth M) (vX12_counted M) (wd n) = some (wd s1, A5, wd 0, text', wd 0, wd n, ki', wd f', wd e', vl', wd 0, nn, wd 0, wd 0, opr', wd 0, wd s1) := by
          rw [hra]
          unfold f_X12_war_j57
          rw [if_pos (show wd 0 = 0 from rfl), if_pos (show wd 0 ≤ 0 by decide)]
          unfold f_X12_war_j77
          rw [if_pos (show wd 0 = 0 from rfl), bind_e (show rdI at' 3648 1957 = some (wd n1) from by rw [show (1957 : Int32) = wd 1957 from wd_lit 1957, rdI_wd (by omega) (by omega), h57]), bind_e (show wrI at' 3648 5 (wd n1) = some (upd at' 5 (wd n1)) from wrI_wd (k := 5) (by omega) (by omega)), show (120 : Int32) = wd 120 from rfl]
          exact hl101
        have hlow : ∀ k, k < 120 → A5 k = upd (vX12_at M) 5 (wd n1) k := by
          intro k hk
          rw [hA5b k (Or.inl hk)]
          unfold upd
          by_cases h5 : k = 5
          · rw [if_pos h5, if_pos h5]
          · rw [if_neg h5, if_neg h5]; exact hag k (by omega)
        refine q_of (r := wd s1) (bind_e (z := (wd s1, wd 0, va_cpy deed' (vX9_deed (S_w S)) 0 0 60, va_cpy man' (vX9_man (S_w S)) 0 0 60, va_cpy oth' (vX9_other (S_w S)) 0 0 60, va_cpy sgn' (vX9_sign (S_w S)) 0 0 60, va_cpy num' (vX9_number (S_w S)) 0 0 60, va_cpy mate' (vX9_mate (S_w S)) 0 0 60, wd 1, wd n1, wd s1, deed', man', oth', sgn', num', mate', wd 1, wd n1, wd s1, wd 0, nn, 0, ki', wd f', va', wo', na', wd n, wd e', opc', wd 0)) ?_) (bind_e (z := (wd s1, A5, wd 0, text', wd 0, wd n, ki', wd f', wd e', vl', wd 0, nn, wd 0, wd 0, opr', wd 0, wd s1)) hrok) ⟨⟨rfl, hS.2⟩, hY, ⟨c, WF_e (WF_upd8 hW (by omega) (by omega)) hlow, RA_e h8 (RA_5 hA) hlow, hNm, Or.inr ⟨n1, (hlow 5 (by omega)).trans upd_eq, rfl, rfl, ?_⟩⟩, RMk_e hM (fun i g1 hi => ((hA5b i (Or.inr (by omega))).trans (upd_ne (by omega))).trans (hag i hi)) (fun i _ hi => rfl), ⟨0, by omega, rfl, rfl, fun k hk => absurd hk (by omega)⟩, ⟨rfl, rfl⟩, hTd, hWc⟩
        · have hrdk : f_X10_readDraft fu (vX10_open (S_g S)) (vX10_depth (S_g S)) (wd 0) nn (vX7_bytes (S_t S)) (vX7_wordCodes (S_t S)) ki (wd f) va wo na (wd n) (wd e) (vX9_deed (S_e S)) (vX9_man (S_e S)) (vX9_other (S_e S)) (vX9_sign (S_e S)) (vX9_number (S_e S)) (vX9_mate (S_e S)) (vX9_there (S_e S)) (vX9_rows (S_e S)) (vX9_steps (S_e S)) (vX0_name (S_a S)) (vX0_count (S_a S)) = some (wd 1, opc', wd 0, wd 0, nn, ki', wd f', va', wo', na', wd e', deed', man', oth', sgn', num', mate', wd 1, wd n1, wd s1) := by
            rw [hrd]
            rfl
          have hbec : f_X9_become fu (vX9_deed (S_w S)) (vX9_man (S_w S)) (vX9_other (S_w S)) (vX9_sign (S_w S)) (vX9_number (S_w S)) (vX9_mate (S_w S)) (vX9_there (S_w S)) (vX9_rows (S_w S)) (vX9_steps (S_w S)) deed' man' oth' sgn' num' mate' (wd 1) (wd n1) (wd s1) = some (va_cpy deed' (vX9_deed (S_w S)) 0 0 60, va_cpy man' (vX9_man (S_w S)) 0 0 60, va_cpy oth' (vX9_other (S_w S)) 0 0 60, va_cpy sgn' (vX9_sign (S_w S)) 0 0 60, va_cpy num' (vX9_number (S_w S)) 0 0 60, va_cpy mate' (vX9_mate (S_w S)) 0 0 60, wd 1, wd n1, wd s1) := by
            unfold f_X9_become
            simp (disch := omega) only [wd_lit, wd_of, wd_add, wd_mul, wd_neg, Option.bind_some, bnd, rdI_wd, wrI_wd, rdJ_wd, wrJ_wd, wd_31, cpI_wd, bz_1]
          unfold f_X11_war
          rw [bind_e (show f_X11_within fu (wd n) 0 (if 300 < vX7_length (S_t S) then 300 else vX7_length (S_t S)) = some (i01 (wn 0 Mx (wd n))) from by rw [hmx]; exact c_within (a := 0) (b := Mx)), q0, if_neg (show ¬ i01 true = 0 by decide), bind_e hbc, bind_e hrdk, if_neg (show ¬ wd 1 = 0 by decide), bind_e hbec]
          rfl
        · refine WIV_ws hI ?_ ?_ ?_
          · intro j hj
            show A5 (120 + j) = at' (2072 + j)
            rw [hA5a _ (by omega) (by omega), show 1952 + (120 + j) = 2072 + j from by omega]
          · intro j hj
            exact ⟨cpy0 (by omega), cpy0 (by omega), cpy0 (by omega), cpy0 (by omega), cpy0 (by omega)⟩
          · intro j hj
            exact cpy0 (by omega)
      · refine hfail (fk ki' 2) (wd f') (fk_0 (by omega)) (fk_9 (by omega)) ?_ ?_
        · rw [hrd]
          unfold f_X10_readDraft_j105
          rw [if_neg (show ¬ i01 true = 0 by decide), if_neg (show ¬ wd d1 ≤ 0 from by
            show ¬ wd d1 ≤ wd 0
            rw [wd_le (by omega) (by omega)]; omega), bind_e (show f_X6_fail fu (wd 0) nn ki' (wd f') 2 = _ from c_fail (x := 2))]
          rfl
        · rw [hra]
          unfold f_X12_war_j57
          rw [if_pos (show wd 0 = 0 from rfl), if_neg (show ¬ wd d1 ≤ 0 from by
            show ¬ wd d1 ≤ wd 0
            rw [wd_le (by omega) (by omega)]; omega), bind_e (show f_X12_fails fu ki' (wd f') nn (wd 0) 2 = _ from r_fails (x := 2))]
          exact hj77 (fk ki' 2) (wd f') (fk_0 (by omega)) (fk_9 (by omega))
