theorem Q1_army {fu : Nat} (hf : 1000000000 ≤ fu) : Q_army fu RR := by
  intro S M x1 h
  obtain ⟨hS, hY, hH, hM, hTp, hFt, hTd, hWc⟩ := h
  obtain ⟨N, hN, eN1, eN2, hby⟩ := hTp
  cases q0 : wn 0 N x1
  · refine q_of (r := nn) (bind_e (z := (nn, wd 1, (vX0_name (S_a S)), (vX0_courage (S_a S)), (vX0_weight (S_a S)), (vX0_medals (S_a S)), (vX0_stood (S_a S)), (vX0_fled (S_a S)), (vX0_liked (S_a S)), (vX0_count (S_a S)), (vX0_living (S_a S)), (vX0_pride (S_a S)), (vX0_quota (S_a S)), (vX0_melted (S_a S)), (vX0_lost (S_a S)), (vX9_there (S_w S)), (vX9_rows (S_w S)), (vX9_steps (S_w S)), (vX0_name (S_d S)), (vX0_courage (S_d S)), (vX0_weight (S_d S)), (vX0_medals (S_d S)), (vX0_stood (S_d S)), (vX0_fled (S_d S)), (vX0_liked (S_d S)), (vX0_count (S_d S)), (vX0_living (S_d S)), (vX0_pride (S_d S)), (vX0_quota (S_d S)), (vX0_melted (S_d S)), (vX0_lost (S_d S)), (vX6_fault (S_r S)), (vX6_place (S_r S)), (vX7_length (S_t S)), (vX7_kind (S_t S)), (vX7_start (S_t S)), (vX7_value (S_t S)), (vX7_word (S_t S)), (vX7_name (S_t S)), (vX7_end (S_t S)), (vX7_at (S_t S)), (vX1_prideTold (S_k S)), (vX1_quotaTold (S_k S)))) ?_) (bind_e (z := (nn, (vX12_at M), (vX12_names M), wd 1, (vX12_text M), (vX12_taped M), (vX12_size M), (vX12_token M), (vX12_from M), (vX12_end M), (vX12_value M), (vX12_faultKind M), (vX12_faultPlace M), (vX12_faults M), (vX12_seen M), (vX12_toldParts M))) ?_) ⟨⟨rfl, hS.2⟩, hY, hH, hM, ⟨N, hN, eN1, eN2, hby⟩, hFt, hTd, hWc⟩
    · unfold f_X11_army
      rw [bind_e (show f_X11_within fu x1 0 (vX7_length (S_t S)) = some (i01 (wn 0 N x1)) from by rw [eN1]; exact c_within (a := 0) (b := N)), q0]
      rfl
    · have hbg : f_X12_begins fu (vX12_tape M) (vX12_text M) (vX12_taped M) (vX12_size M) (vX12_token M) (vX12_from M) (vX12_end M) (vX12_value M) (vX12_faultPlace M) (vX12_faults M) (vX12_seen M) x1 900 = some (wd 0, vX12_text M, vX12_taped M, vX12_size M, vX12_token M, vX12_from M, vX12_end M, vX12_value M, vX12_faultPlace M, vX12_faults M, vX12_seen M) := by
        unfold f_X12_begins
        simp only [wn, decide_eq_false_iff_not] at q0
        by_cases a1 : x1 < 0
        · rw [if_pos a1]; rfl
        · have a2 : wd N < x1 := Int32.not_le.1 (fun h2 => q0 ⟨Int32.not_lt.1 a1, h2⟩)
          rw [if_neg a1, if_pos (show vX12_taped M < x1 by rw [eN2]; exact a2)]
          rfl
      unfold f_X12_army
      rw [bind_e hbg]
      rfl
  · obtain ⟨n, _, hn, rfl⟩ := wn_ex (by omega) (by omega) q0
    obtain ⟨b, text', f, e, ki, va, wo, na, vl, hT, hk, hbc, hbr⟩ := t_begin (fu := fu) (ft := vX6_fault (S_r S)) (pl := vX6_place (S_r S)) (ki := vX7_kind (S_t S)) (st := vX7_start (S_t S)) (va := vX7_value (S_t S)) (wo := vX7_word (S_t S)) (na := vX7_name (S_t S)) (at0 := vX7_at (S_t S)) (en := vX7_end (S_t S)) (en2 := vX12_end M) (tk := vX12_token M) (fr := vX12_from M) (vl := vX12_value M) (fp := vX12_faultPlace M) (fs := vX12_faults M) (sn := vX12_seen M) (sz := vX12_size M) (text := vX12_text M) (N := N) (n := n) (most := 900) hby hN hn (by omega) (by omega) hWc (by omega)
    rw [← eN2, show wd 900 = 900 from (wd_lit 900).symm] at hbr
    obtain ⟨at1, pl1, pl2, p0, p1, p2, p3, p4, p5, p6, p7⟩ := r_plain (fu := fu) (at_ := (vX12_at M)) (base := 1952) (by omega) (by omega)
    obtain ⟨nam1, cou1, wei1, med1, sto1, fle1, hcl, hz⟩ := c_clear (fu := fu) (nam := (vX0_name (S_d S))) (cou := (vX0_courage (S_d S))) (wei := (vX0_weight (S_d S))) (med := (vX0_medals (S_d S))) (sto := (vX0_stood (S_d S))) (fle := (vX0_fled (S_d S))) (cnt := (vX0_count (S_d S))) (liv := (vX0_living (S_d S))) (pri := (vX0_pride (S_d S))) (quo := (vX0_quota (S_d S))) (mel := (vX0_melted (S_d S))) (los := (vX0_lost (S_d S))) (by omega)
    have hA0 : AIV 0 at1 (vX12_names M) (wd 0) (wd 0) (wd 0) nam1 cou1 wei1 med1 sto1 fle1 (vX0_liked (S_d S)) (wd 0) (wd 0) (wd 1) (wd 50) (wd 0) (wd 0) := by
      refine ⟨⟨by omega, p0, ⟨1, by omega, p1⟩, ⟨50, by omega, p2⟩, fun m hm => absurd hm (by omega)⟩, ⟨⟨fun m hm => absurd hm (by omega), fun m hm => absurd hm (by omega), fun m hm => absurd hm (by omega), fun m o hm => absurd hm (by omega)⟩, rfl, rfl, p1.symm, p2.symm, p3.symm, p4.symm, fun m hm => absurd hm (by omega), fun m hm => absurd hm (by omega), fun m _ hm => hz m hm⟩, fun m hm => absurd hm (by omega), p5, fun m j _ h2 _ h4 => p6 m j h2 h4, fun m o h1 h2 _ => p7 m o h1 h2, 0, by omega, rfl, rfl, rfl⟩
    obtain ⟨g, f', e', ki', va', wo', na', vl', ft', pl', fp', fs', told', pt', qt', at', names', nam', cou', wei', med', sto', fle', lik', cnt', liv', pri', quo', mel', los', r1, r2, r3, r4, r5, r6⟩ := a_loop (fu := fu) (tape := vX12_tape M) (xx := wd n) hT hWc (by omega) n f (by omega) 0 fu fu 0 e ki va wo na vl (wd 0) nn nn (wd 0) (wd 0) (wd 0) (vX12_status M) (wd 0) (wd 0) (vX12_faultKind M) (wd 0) at1 (vX12_names M) nam1 cou1 wei1 med1 sto1 fle1 (vX0_liked (S_d S)) (wd 0) (wd 0) (wd 1) (wd 50) (wd 0) (wd 0) (by omega) (by have := hk.le; have := hk.fe; omega) (by have := hT.1; omega) (by have := hT.1; omega) hk hA0
    have hrd : f_X1_readDraft fu (vX1_prideTold (S_k S)) (vX1_quotaTold (S_k S)) (wd 0) nn (vX7_bytes (S_t S)) (vX7_wordCodes (S_t S)) ki (wd f) va wo na (wd n) (wd e) (vX0_name (S_d S)) (vX0_courage (S_d S)) (vX0_weight (S_d S)) (vX0_medals (S_d S)) (vX0_stood (S_d S)) (vX0_fled (S_d S)) (vX0_liked (S_d S)) (vX0_count (S_d S)) (vX0_living (S_d S)) (vX0_pride (S_d S)) (vX0_quota (S_d S)) (vX0_melted (S_d S)) (vX0_lost (S_d S)) = some (i01 g, pt', qt', ft', pl', ki', wd f', va', wo', na', wd e', nam', cou', wei', med', sto', fle', lik', cnt', liv', pri', quo', mel', los') := by
      unfold f_X1_readDraft
      rw [bind_e hcl]
      exact r1
    have hra : f_X12_army fu (vX12_at M) (vX12_names M) (vX12_status M) (vX12_tape M) (vX12_text M) (vX12_taped M) (vX12_size M) (vX12_token M) (vX12_from M) (vX12_end M) (vX12_value M) (vX12_faultKind M) (vX12_faultPlace M) (vX12_faults M) (vX12_seen M) (vX12_toldParts M) (wd n) = f_X12_army_j50 fu (vX12_tape M) (wd n) at' names' (vX12_status M) text' (wd 0) (wd n) ki' (wd f') (wd e') vl' (vX12_faultKind M) fp' fs' (wd 0) told' := by
      unfold f_X12_army
      rw [bind_e hbr, if_neg (show ¬ wd 1 = 0 by decide), show (1952 : Int32) = wd 1952 from wd_lit 1952, bind_e pl1]
      exact r2
    have hag : ∀ i, i < 1952 → at' i = (vX12_at M) i := fun i hi => (r3 i hi).trans (pl2 i (by omega))
    cases g
    · obtain ⟨x, x1, x2, x3, x4, x5⟩ := r6 rfl
      refine q_of (r := nn) (bind_e (z := (nn, wd 9, (vX0_name (S_a S)), (vX0_courage (S_a S)), (vX0_weight (S_a S)), (vX0_medals (S_a S)), (vX0_stood (S_a S)), (vX0_fled (S_a S)), (vX0_liked (S_a S)), (vX0_count (S_a S)), (vX0_living (S_a S)), (vX0_pride (S_a S)), (vX0_quota (S_a S)), (vX0_melted (S_a S)), (vX0_lost (S_a S)), (vX9_there (S_w S)), (vX9_rows (S_w S)), (vX9_steps (S_w S)), nam', cou', wei', med', sto', fle', lik', cnt', liv', pri', quo', mel', los', ft', pl', 0, ki', wd f', va', wo', na', wd n, wd e', pt', qt')) ?_) (bind_e (z := (nn, at', names', wd 9, text', wd 0, wd n, ki', wd f', wd e', vl', fs', fp', fs', wd 0, told')) ?_) ⟨⟨rfl, hS.2⟩, hY, RHW_e hH (fun k hk => hag k (by omega)) (fun k hk => r4 k (by omega)), RMk_e hM (fun i _ hi => hag i hi) (fun i _ hi => r4 i hi), ⟨0, by omega, rfl, rfl, fun k hk => absurd hk (by omega)⟩, ⟨x3.trans x4.symm, x5⟩, hTd, hWc⟩
      · unfold f_X11_army
        rw [bind_e (show f_X11_within fu (wd n) 0 (vX7_length (S_t S)) = some (i01 (wn 0 N (wd n))) from by rw [eN1]; exact c_within (a := 0) (b := N)), q0, if_neg (show ¬ i01 true = 0 by decide), bind_e hbc, bind_e hrd, if_pos (show i01 false = 0 from rfl)]
        rfl
      · rw [hra]
        unfold f_X12_army_j50
        rw [x4, if_neg (show ¬ wd x = 0 from by
          show ¬ wd x = wd 0
          rw [wd_inj (by omega) (by omega)]; omega)]
        unfold f_X12_army_j117
        rw [bind_e (show rdI at' 3648 0 = some (at' 0) from rdI_wd (k := 0) (by omega) (by omega))]
        unfold f_X12_taken
        rw [if_neg (show ¬ wd x ≤ 0 from by
          show ¬ wd x ≤ wd 0
          rw [wd_le (by omega) (by omega)]; omega)]
        rfl
    · obtain ⟨s1, s2, s3, s4, c, hA⟩ := r5 rfl
      obtain ⟨aW, aR, aN, a5, aZ, aL, aT⟩ := hA
      have h8 := aW.1
      have ec := aR.2.1
      generalize hA5 : (fun k => if k < 488 then at' (1952 + k) else at' k) = A5
      generalize hN5 : (fun k => if k < 8 then names' (32 + k) else names' k) = N5
      have hA5l : ∀ k, k < 488 → A5 k = shI 1952 at' k := fun k hk => by rw [← hA5]; exact if_pos hk
      have hA5g : ∀ k, 488 ≤ k → A5 k = at' k := fun k hk => by rw [← hA5]; exact if_neg (by omega)
      have hN5l : ∀ k, k < 8 → N5 k = names' (32 + k) := fun k hk => by rw [← hN5]; exact if_pos hk
      have hN5g : ∀ k, 8 ≤ k → N5 k = names' k := fun k hk => by rw [← hN5]; exact if_neg (by omega)
      have hl90 : f_X12_army_l90 fu (vX12_tape M) (wd n) fu A5 names' (vX12_status M) text' (wd 0) (wd n) ki' (wd f') (wd e') vl' (vX12_faultKind M) fp' (wd 0) (wd 0) told' (wd 0) = some (wd c, A5, N5, wd 0, text', wd 0, wd n, ki', wd f', wd e', vl', wd 0, fp', wd 0, wd 0, told') := by
        refine loop_seq (fun L i (s : Nat → Int64) => f_X12_army_l90 fu (vX12_tape M) (wd n) L A5 s (vX12_status M) text' (wd 0) (wd n) ki' (wd f') (wd e') vl' (vX12_faultKind M) fp' (wd 0) (wd 0) told' (wd i)) (fun i => fun k => if k < i then names' (32 + k) else names' k) 8 _ ?_ ?_ 0 fu (by omega) (by omega)
        · intro L i hi
          show f_X12_army_l90 fu (vX12_tape M) (wd n) (L + 1) A5 (fun k => if k < i then names' (32 + k) else names' k) (vX12_status M) text' (wd 0) (wd n) ki' (wd f') (wd e') vl' (vX12_faultKind M) fp' (wd 0) (wd 0) told' (wd i) = f_X12_army_l90 fu (vX12_tape M) (wd n) L A5 (fun k => if k < i + 1 then names' (32 + k) else names' k) (vX12_status M) text' (wd 0) (wd n) ki' (wd f') (wd e') vl' (vX12_faultKind M) fp' (wd 0) (wd 0) told' (wd (i + 1))
          rw [f_X12_army_l90, f_X12_army_b90, show (8 : Int32) = wd 8 from rfl, if_neg (by rw [wd_le (by omega) (by omega)]; omega), show (32 : Int32) + wd i = wd (32 + i) from wd_add 32 i, bind_e (rdJ_wd (by omega) (by omega)), if_neg (show ¬ 32 + i < i by omega), bind_e (wrJ_wd (by omega) (by omega))]
          simp only [bnd]
          rw [show wd i + 1 = wd (i + 1) from wd_add i 1]
          congr 1
          funext k
          unfold vp_updL
          by_cases hk : k = i
          · rw [if_pos hk, if_pos (by omega), hk]
          · rw [if_neg hk]
            show (if k < i then names' (32 + k) else names' k) = _
            by_cases hk2 : k < i
            · rw [if_pos hk2, if_pos (by omega)]
            · rw [if_neg hk2, if_neg (by omega)]
        · intro L
          show f_X12_army_l90 fu (vX12_tape M) (wd n) (L + 1) A5 (fun k => if k < 8 then names' (32 + k) else names' k) (vX12_status M) text' (wd 0) (wd n) ki' (wd f') (wd e') vl' (vX12_faultKind M) fp' (wd 0) (wd 0) told' (wd 8) = _
          rw [hN5, f_X12_army_l90, f_X12_army_b90, show (8 : Int32) = wd 8 from rfl, if_pos (by rw [wd_le (by omega) (by omega)]; omega)]
          unfold f_X12_army_j117
          rw [bind_e (show rdI A5 3648 0 = some (wd c) from by rw [show rdI A5 3648 0 = some (A5 0) from rdI_wd (k := 0) (by omega) (by omega), hA5l 0 (by omega)]; exact congrArg some aW.2.1)]
          rfl
      have hl59 : f_X12_army_l59 fu (vX12_tape M) (wd n) fu at' names' (vX12_status M) text' (wd 0) (wd n) ki' (wd f') (wd e') vl' (vX12_faultKind M) fp' (wd 0) (wd 0) told' (wd 0) = some (wd c, A5, N5, wd 0, text', wd 0, wd n, ki', wd f', wd e', vl', wd 0, fp', wd 0, wd 0, told') := by
        refine loop_seq (fun L i (s : Nat → Int32) => f_X12_army_l59 fu (vX12_tape M) (wd n) L s names' (vX12_status M) text' (wd 0) (wd n) ki' (wd f') (wd e') vl' (vX12_faultKind M) fp' (wd 0) (wd 0) told' (wd i)) (fun i => fun k => if k < i then at' (1952 + k) else at' k) 488 _ ?_ ?_ 0 fu (by omega) (by omega)
        · intro L i hi
          show f_X12_army_l59 fu (vX12_tape M) (wd n) (L + 1) (fun k => if k < i then at' (1952 + k) else at' k) names' (vX12_status M) text' (wd 0) (wd n) ki' (wd f') (wd e') vl' (vX12_faultKind M) fp' (wd 0) (wd 0) told' (wd i) = f_X12_army_l59 fu (vX12_tape M) (wd n) L (fun k => if k < i + 1 then at' (1952 + k) else at' k) names' (vX12_status M) text' (wd 0) (wd n) ki' (wd f') (wd e') vl' (vX12_faultKind M) fp' (wd 0) (wd 0) told' (wd (i + 1))
          rw [f_X12_army_l59, f_X12_army_b59, show (488 : Int32) = wd 488 from wd_lit 488, if_neg (by rw [wd_le (by omega) (by omega)]; omega), show (1952 : Int32) + wd i = wd (1952 + i) from by rw [show (1952 : Int32) = wd 1952 from wd_lit 1952, wd_add], bind_e (rdI_wd (by omega) (by omega)), if_neg (show ¬ 1952 + i < i by omega), bind_e (wrI_wd (by omega) (by omega))]
          simp only [bnd]
          rw [show wd i + 1 = wd (i + 1) from wd_add i 1]
          congr 1
          funext k
          unfold upd
          by_cases hk : k = i
          · rw [if_pos hk, if_pos (by omega), hk]
          · rw [if_neg hk]
            show (if k < i then at' (1952 + k) else at' k) = _
            by_cases hk2 : k < i
            · rw [if_pos hk2, if_pos (by omega)]
            · rw [if_neg hk2, if_neg (by omega)]
        · intro L
          show f_X12_army_l59 fu (vX12_tape M) (wd n) (L + 1) (fun k => if k < 488 then at' (1952 + k) else at' k) names' (vX12_status M) text' (wd 0) (wd n) ki' (wd f') (wd e') vl' (vX12_faultKind M) fp' (wd 0) (wd 0) told' (wd 488) = _
          rw [hA5, f_X12_army_l59, f_X12_army_b59, show (488 : Int32) = wd 488 from wd_lit 488, if_pos (by rw [wd_le (by omega) (by omega)]; omega)]
          exact hl90
      refine q_of (r := wd c) (bind_e (z := (wd c, wd 0, va_cpy nam' (vX0_name (S_a S)) 0 0 8, va_cpy cou' (vX0_courage (S_a S)) 0 0 8, va_cpy wei' (vX0_weight (S_a S)) 0 0 8, va_cpy med' (vX0_medals (S_a S)) 0 0 8, va_cpy sto' (vX0_stood (S_a S)) 0 0 8, va_cpy fle' (vX0_fled (S_a S)) 0 0 8, va_cpy lik' (vX0_liked (S_a S)) 0 0 64, cnt', liv', pri', quo', mel', los', 0, 0, 0, nam', cou', wei', med', sto', fle', lik', cnt', liv', pri', quo', mel', los', ft', pl', 0, ki', wd f', va', wo', na', wd n, wd e', pt', qt')) ?_) (bind_e (z := (wd c, A5, N5, wd 0, text', wd 0, wd n, ki', wd f', wd e', vl', wd 0, fp', wd 0, wd 0, told')) ?_) ⟨⟨rfl, hS.2⟩, hY, ⟨c, WF_e aW (fun k hk => hA5l k (by omega)), RA_cpy h8 (RA_e h8 aR (fun k hk => hA5l k (by omega))), ?_, Or.inl ⟨(hA5l 5 (by omega)).trans a5, rfl⟩⟩, RMk_e hM (fun i h1 hi => (hA5g i h1).trans (hag i hi)) (fun i h1 hi => (hN5g i h1).trans (r4 i hi)), ⟨0, by omega, rfl, rfl, fun k hk => absurd hk (by omega)⟩, ⟨s1, s2.trans s3.symm⟩, hTd, hWc⟩
      · unfold f_X11_army
        rw [bind_e (show f_X11_within fu (wd n) 0 (vX7_length (S_t S)) = some (i01 (wn 0 N (wd n))) from by rw [eN1]; exact c_within (a := 0) (b := N)), q0, if_neg (show ¬ i01 true = 0 by decide), bind_e hbc, bind_e hrd, if_neg (show ¬ i01 true = 0 by decide), bind_e c_become, ← ec]
        rfl
      · rw [hra, s4]
        unfold f_X12_army_j50
        rw [if_pos (show wd 0 = 0 from rfl)]
        exact hl59
      · intro m hm
        show NC (va_cpy nam' (vX0_name (S_a S)) 0 0 8 m) (N5 m)
        rw [cpy0 (by omega), hN5l m (by omega)]
        exact aN m hm
