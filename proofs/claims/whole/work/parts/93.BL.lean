section
variable {fu n f e c nr : Nat} {b : Nat → Nat} {by_ text at_ : Nat → Int32} {wc nam names : Nat → Int64} {man oth sgn num : Nat → Int32} {ki va wo vl ft pl fp : Int32} {na : Int64}

theorem km_t : ∀ j, j < 19 → ((13 ≤ j ∧ j ≤ 15 → km j = 16 + (j - 13)) ∧ (¬ (13 ≤ j ∧ j ≤ 15) → km j < 16)) := by decide +kernel
theorem w_when (hT : TXT b n by_ text) (hWc : RWc wc) (h : TOK b n f e ki va wo na vl) (hN : ∀ m, m < c → NC (nam m) (names m)) (h8 : c ≤ 8) (hc0 : at_ 0 = wd c) (hnr : nr < 60) (hf : 1000 ≤ fu) (hrow : at_ (2072 + 6 * nr) = wd 12) (hr4 : at_ (2072 + 6 * nr + 4) = wd 0) : RST fu n b by_ text wc nam names c nr f e ki va wo na vl ft pl fp at_ man oth sgn num 12 := by
  have hcj : ∀ z, f_X10_takeTest fu ft pl by_ wc ki (wd f) va wo na (wd n) (wd e) man oth sgn num nam (wd c) (wd nr) = some z → bz z.1 = some z.1 → f_X10_takeRest fu ft pl by_ wc ki (wd f) va wo na (wd n) (wd e) man oth sgn num (wd nr) nam (wd c) (wd 12) = some z := by
    intro z hz hb
    unfold f_X10_takeRest
    rw [bind_e (in60 hnr), if_neg (show ¬ wd 1 = 0 by decide)]
    show (f_X10_takeTest fu ft pl by_ wc ki (wd f) va wo na (wd n) (wd e) man oth sgn num nam (wd c) (wd nr)).bind _ = _
    rw [bind_e hz, bind_e hb]
  have hrj : ∀ z, f_X12_test fu at_ names text (wd n) ki (wd f) (wd e) vl fp (wd 0) (wd (2072 + 6 * nr)) = some z → bz z.1 = some z.1 → f_X12_warOrder fu at_ names text (wd n) ki (wd f) (wd e) vl fp (wd 0) (wd (km 12)) (wd (2072 + 6 * nr)) = some z := by
    intro z hz hb
    show (f_X12_test fu at_ names text (wd n) ki (wd f) (wd e) vl fp (wd 0) (wd (2072 + 6 * nr))).bind _ = _
    rw [bind_e hz, bind_e hb]
  have hbad : wn 13 15 wo = false → (∃ v, f_X12_inWords fu 1 text (wd n) ki (wd f) (wd e) = some v ∧ ¬ 16 ≤ v) → RST fu n b by_ text wc nam names c nr f e ki va wo na vl ft pl fp at_ man oth sgn num 12 := by
    intro h1 h2
    obtain ⟨v, v1, v2⟩ := h2
    refine ⟨false, f, e, ki, va, wo, na, vl, wd (fk ki 2), wd f, wd f, wd (fk ki 2), man, oth, sgn, num, at_, hcj _ ?_ rfl, hrj _ ?_ rfl, fun _ _ => rfl, fun _ _ => ⟨rfl, rfl, rfl, rfl⟩, fun h => (by cases h), fun _ => ⟨fk ki 2, fk_0 (by omega), fk_9 (by omega), rfl, rfl, rfl⟩⟩
    · unfold f_X10_takeTest
      rw [bind_e (show f_X11_within fu wo 13 15 = some (i01 (wn 13 15 wo)) from c_within (a := 13) (b := 15)), h1, if_pos (show i01 false = 0 from rfl), bind_e (show f_X6_fail fu ft pl ki (wd f) 2 = _ from c_fail (x := 2))]
      rfl
    · unfold f_X12_test
      rw [bind_e v1, if_neg v2, bind_e (show f_X12_fails fu ki (wd f) fp (wd 0) 2 = _ from r_fails (x := 2))]
      rfl
  rcases tok_word hT h hf with ⟨h1, h2⟩ | ⟨j, hj, h1, _, h2⟩
  · exact hbad (by rw [h1]; decide) ⟨nn, h2, by decide⟩
  have hkj := (kw_c j hj).2
  obtain ⟨kt1, kt2⟩ := km_t j hj
  by_cases hj3 : 13 ≤ j ∧ j ≤ 15
  case neg =>
    refine hbad (by rw [h1, wn_wd (by omega) (by omega) (by omega)]; exact decide_eq_false hj3) ⟨_, h2, ?_⟩
    have := kt2 hj3
    rw [show (16 : Int32) = wd 16 from rfl, wd_le (by omega) (by omega)]; omega
  have hkm := kt1 hj3
  generalize ht : j - 13 = t at hkm
  have ht3 : t < 3 := by omega
  have hjt : j = 13 + t := by omega
  obtain ⟨f1, e1, ki1, va1, wo1, na1, vl1, k1, k2, k3, k4⟩ := t_next (fu := fu) (ki0 := ki) (st0 := wd f) (va0 := va) (wo0 := wo) (na0 := na) (tk0 := ki) (fr0 := wd f) (vl0 := vl) hT hWc h.le hf
  generalize hR : 2072 + 6 * nr = R at hrow hr4 hrj
  have hRb : R + 6 ≤ 2432 := by omega
  have hRa : 2072 ≤ R := by omega
  have hcA : f_X10_takeTest fu ft pl by_ wc ki (wd f) va wo na (wd n) (wd e) man oth sgn num nam (wd c) (wd nr) = (f_X6_takeMan fu ft pl by_ wc ki1 (wd f1) va1 wo1 na1 (wd n) (wd e1) nam (wd c) (-1)).bind fun z_35 => (wrI man 60 (wd nr) z_35.1).bind fun w_man_36 => (rdI w_man_36 60 (wd nr)).bind fun y_37 => (if y_37 = (-1) then some (0, z_35.2.1, z_35.2.2.1, z_35.2.2.2.1, z_35.2.2.2.2.1, z_35.2.2.2.2.2.1, z_35.2.2.2.2.2.2.1, z_35.2.2.2.2.2.2.2.1, z_35.2.2.2.2.2.2.2.2, w_man_36, upd oth nr wo, sgn, num) else (f_X6_isSign fu z_35.2.2.2.1 z_35.2.2.2.2.2.1 (wd 60)).bind fun z_39 => (if z_39 = 0 then (f_X6_isSign fu z_35.2.2.2.1 z_35.2.2.2.2.2.1 (wd 62)).bind fun z_41 => (if z_41 = 0 then (f_X6_isSign fu z_35.2.2.2.1 z_35.2.2.2.2.2.1 (wd 61)).bind fun z_43 => (if z_43 = 0 then (f_X6_fail fu z_35.2.1 z_35.2.2.1 z_35.2.2.2.1 z_35.2.2.2.2.1 2).bind fun z_45 => (bz z_45.1).bind fun _ => some (z_45.1, z_45.2.1, z_45.2.2, z_35.2.2.2.1, z_35.2.2.2.2.1, z_35.2.2.2.2.2.1, z_35.2.2.2.2.2.2.1, z_35.2.2.2.2.2.2.2.1, z_35.2.2.2.2.2.2.2.2, w_man_36, upd oth nr wo, sgn, num) else f_X10_takeTest_j132 fu by_ wc (wd n) nam (wd c) (wd nr) z_35.2.1 z_35.2.2.1 z_35.2.2.2.1 z_35.2.2.2.2.1 z_35.2.2.2.2.2.1 z_35.2.2.2.2.2.2.1 z_35.2.2.2.2.2.2.2.1 z_35.2.2.2.2.2.2.2.2 w_man_36 (upd oth nr wo) sgn num) else f_X10_takeTest_j132 fu by_ wc (wd n) nam (wd c) (wd nr) z_35.2.1 z_35.2.2.1 z_35.2.2.2.1 z_35.2.2.2.2.1 z_35.2.2.2.2.2.1 z_35.2.2.2.2.2.2.1 z_35.2.2.2.2.2.2.2.1 z_35.2.2.2.2.2.2.2.2 w_man_36 (upd oth nr wo) sgn num) else f_X10_takeTest_j132 fu by_ wc (wd n) nam (wd c) (wd nr) z_35.2.1 z_35.2.2.1 z_35.2.2.2.1 z_35.2.2.2.2.1 z_35.2.2.2.2.2.1 z_35.2.2.2.2.2.2.1 z_35.2.2.2.2.2.2.2.1 z_35.2.2.2.2.2.2.2.2 w_man_36 (upd oth nr wo) sgn num)) := by
    unfold f_X10_takeTest
    rw [bind_e (show f_X11_within fu wo 13 15 = some (i01 (wn 13 15 wo)) from c_within (a := 13) (b := 15)), show wn 13 15 wo = true from by rw [h1, wn_wd (by omega) (by omega) (by omega)]; exact decide_eq_true hj3, if_neg (show ¬ i01 true = 0 by decide), bind_e (wrI_wd hnr (by omega)), bind_e k2]
    rfl
  have hrA : f_X12_test fu at_ names text (wd n) ki (wd f) (wd e) vl fp (wd 0) (wd R) = (f_X12_manTo fu (upd at_ R (wd (1216 + t))) names text (wd n) ki1 (wd f1) (wd e1) vl1 fp (wd 0) (wd (R + 1))).bind fun z_29 => (if z_29.1 = 0 then some (0, z_29.2.1, z_29.2.2.1, z_29.2.2.2.1, z_29.2.2.2.2.1, z_29.2.2.2.2.2.1, z_29.2.2.2.2.2.2.1, z_29.2.2.2.2.2.2.2) else (f_X12_isSign fu z_29.2.2.1 z_29.2.2.2.2.2.1 (wd 60)).bind fun z_31 => (if z_31 = 0 then (f_X12_isSign fu z_29.2.2.1 z_29.2.2.2.2.2.1 (wd 62)).bind fun z_33 => (if z_33 = 0 then (f_X12_isSign fu z_29.2.2.1 z_29.2.2.2.2.2.1 (wd 61)).bind fun z_35 => (if z_35 = 0 then (f_X12_fails fu z_29.2.2.1 z_29.2.2.2.1 z_29.2.2.2.2.2.2.1 z_29.2.2.2.2.2.2.2 2).bind fun z_37 => (bz z_37.1).bind fun _ => some (z_37.1, z_29.2.1, z_29.2.2.1, z_29.2.2.2.1, z_29.2.2.2.2.1, z_29.2.2.2.2.2.1, z_37.2.1, z_37.2.2) else f_X12_test_j79 fu names text (wd n) (wd R) z_29.2.1 z_29.2.2.1 z_29.2.2.2.1 z_29.2.2.2.2.1 z_29.2.2.2.2.2.1 z_29.2.2.2.2.2.2.1 z_29.2.2.2.2.2.2.2) else f_X12_test_j79 fu names text (wd n) (wd R) z_29.2.1 z_29.2.2.1 z_29.2.2.2.1 z_29.2.2.2.2.1 z_29.2.2.2.2.2.1 z_29.2.2.2.2.2.2.1 z_29.2.2.2.2.2.2.2) else f_X12_test_j79 fu names text (wd n) (wd R) z_29.2.1 z_29.2.2.1 z_29.2.2.2.1 z_29.2.2.2.2.1 z_29.2.2.2.2.2.1 z_29.2.2.2.2.2.2.1 z_29.2.2.2.2.2.2.2)) := by
    unfold f_X12_test
    rw [bind_e h2, if_pos (show (16 : Int32) ≤ wd (km j) from by rw [show (16 : Int32) = wd 16 from rfl, wd_le (by omega) (by omega)]; omega), show (1200 : Int32) + wd (km j) = wd (1216 + t) from by rw [show (1200 : Int32) = wd 1200 from wd_lit 1200, wd_add, hkm]; congr 1; omega, bind_e (wrI_wd (by omega) (by omega)), bind_e k3, show wd R + 1 = wd (R + 1) from wd_add R 1]
    rfl
  have hA1 : upd at_ R (wd (1216 + t)) 0 = wd c := (upd_ne (by omega)).trans hc0
  rcases y_man (to := R + 1) (at_ := upd at_ R (wd (1216 + t))) (ft := ft) (pl := pl) (fp := fp) hT hWc k4 hN h8 hA1 (by omega) hf with ⟨m, f2, e2, ki2, va2, wo2, na2, vl2, hm, p1, p2, p3, p4⟩ | ⟨x, at', x1, x2, xa, p3, p4⟩
  case inr =>
    refine ⟨false, f1, e1, ki1, va1, wo1, na1, vl1, wd x, wd f1, wd f1, wd x, upd man nr nn, upd oth nr wo, sgn, num, at', hcj _ ?_ rfl, ?_, fun j hj => (xa j (by omega)).trans (upd_ne (by omega)), fun j hj => ⟨upd_ne hj, upd_ne hj, rfl, rfl⟩, fun h => (by cases h), fun _ => ⟨x, x1, x2, rfl, rfl, rfl⟩⟩
    · rw [hcA, bind_e p3, bind_e (wrI_wd hnr (by omega)), bind_e (rdI_wd hnr (by omega)), upd_eq, if_pos (show nn = -1 from rfl)]
      rfl
    · rw [hR]
      refine hrj _ ?_ rfl
      rw [hrA, bind_e p4]
      rfl
  rw [bind_e p3, bind_e (wrI_wd hnr (by omega)), bind_e (rdI_wd hnr (by omega)), upd_eq, if_neg (ne_nn (by omega))] at hcA
  replace hrA := hrA.trans ((bind_e p4).trans (if_neg (show ¬ wd 1 = 0 by decide)))
  generalize hA2 : upd (upd at_ R (wd (1216 + t))) (R + 1) (wd m) = A2 at hrA
  have a2R : A2 R = wd (1216 + t) := by rw [← hA2, upd_ne (by omega), upd_eq]
  have a2R1 : A2 (R + 1) = wd m := by rw [← hA2, upd_eq]
  have a2o : ∀ j, j ≠ R → j ≠ R + 1 → A2 j = at_ j := fun j g1 g2 => by rw [← hA2, upd_ne g2, upd_ne g1]
  obtain ⟨g0, c60, r60, s60⟩ := t_isSign (fu := fu) (s := 60) p2 (by omega)
  obtain ⟨g1, c62, r62, s62⟩ := t_isSign (fu := fu) (s := 62) p2 (by omega)
  obtain ⟨g2, c61, r61, s61⟩ := t_isSign (fu := fu) (s := 61) p2 (by omega)
  have hgood : va2 = vl2 → f_X10_takeTest fu ft pl by_ wc ki (wd f) va wo na (wd n) (wd e) man oth sgn num nam (wd c) (wd nr) = f_X10_takeTest_j132 fu by_ wc (wd n) nam (wd c) (wd nr) ft pl ki2 (wd f2) va2 wo2 na2 (wd e2) (upd man nr (wd m)) (upd oth nr wo) sgn num → f_X12_test fu at_ names text (wd n) ki (wd f) (wd e) vl fp (wd 0) (wd R) = f_X12_test_j79 fu names text (wd n) (wd R) A2 ki2 (wd f2) (wd e2) vl2 fp (wd 0) → RST fu n b by_ text wc nam names c nr f e ki va wo na vl ft pl fp at_ man oth sgn num 12 := by
    intro hvv hcB hrB
    obtain ⟨f3, e3, ki3, va3, wo3, na3, vl3, q1, q2, q3, q4⟩ := t_next (fu := fu) (ki0 := ki2) (st0 := wd f2) (va0 := va2) (wo0 := wo2) (na0 := na2) (tk0 := ki2) (fr0 := wd f2) (vl0 := vl2) hT hWc p2.le hf
    have hfe := h.fe
    have hfe1 := k4.fe
    have hfe2 := p2.fe
    have hfe3 := q4.fe
    have hcC : f_X10_takeTest fu ft pl by_ wc ki (wd f) va wo na (wd n) (wd e) man oth sgn num nam (wd c) (wd nr) = (f_X6_takeNumber fu ft pl by_ wc ki3 (wd f3) va3 wo3 na3 (wd n) (wd e3) (wd 0) (wd 999)).bind fun z_27 => (wrI num 60 (wd nr) z_27.1).bind fun w_number_28 => (rdI w_number_28 60 (wd nr)).bind fun y_29 => (if y_29 = (-1) then some (0, z_27.2.1, z_27.2.2.1, z_27.2.2.2.1, z_27.2.2.2.2.1, z_27.2.2.2.2.2.1, z_27.2.2.2.2.2.2.1, z_27.2.2.2.2.2.2.2.1, z_27.2.2.2.2.2.2.2.2, upd man nr (wd m), upd oth nr wo, upd sgn nr va2, w_number_28) else some (1, z_27.2.1, z_27.2.2.1, z_27.2.2.2.1, z_27.2.2.2.2.1, z_27.2.2.2.2.2.1, z_27.2.2.2.2.2.2.1, z_27.2.2.2.2.2.2.2.1, z_27.2.2.2.2.2.2.2.2, upd man nr (wd m), upd oth nr wo, upd sgn nr va2, w_number_28)) := by
      rw [hcB]
      unfold f_X10_takeTest_j132
      rw [bind_e (wrI_wd hnr (by omega)), bind_e q2, show (999 : Int32) = wd 999 from wd_lit 999]
      rfl
    have hrC : f_X12_test fu at_ names text (wd n) ki (wd f) (wd e) vl fp (wd 0) (wd R) = (f_X12_number fu (upd A2 (R + 5) vl2) text (wd n) ki3 (wd f3) (wd e3) vl3 fp (wd 0) (wd (R + 2)) (wd 0) (wd 999)).bind fun z_23 => (bz z_23.1).bind fun _ => some (z_23.1, z_23.2.1, z_23.2.2.1, z_23.2.2.2.1, z_23.2.2.2.2.1, z_23.2.2.2.2.2.1, z_23.2.2.2.2.2.2.1, z_23.2.2.2.2.2.2.2) := by
      rw [hrB]
      unfold f_X12_test_j79
      rw [show wd R + 5 = wd (R + 5) from wd_add R 5, show wd R + 2 = wd (R + 2) from wd_add R 2, bind_e (wrI_wd (by omega) (by omega)), bind_e q3, show (999 : Int32) = wd 999 from wd_lit 999]
      rfl
    rcases t_number (ft := ft) (pl := pl) (fp := fp) (at_ := upd A2 (R + 5) vl2) (lo := 0) (hi_ := 999) (to := R + 2) (by omega) (by omega) (by omega) hT hWc q4 hf with ⟨v, f4, e4, ki4, va4, wo4, na4, vl4, v1, v2, m1, m2, m3, m4⟩ | ⟨x, x1, x2, m3, m4⟩
    · refine ⟨true, f4, e4, ki4, va4, wo4, na4, vl4, ft, pl, fp, wd 0, upd man nr (wd m), upd oth nr wo, upd sgn nr va2, upd num nr (wd v), upd (upd A2 (R + 5) vl2) (R + 2) (wd v), hcj _ ?_ rfl, ?_, fun j hj => ((upd_ne (by omega)).trans (upd_ne (by omega))).trans (a2o j (by omega) (by omega)), fun j hj => ⟨upd_ne hj, upd_ne hj, upd_ne hj, upd_ne hj⟩, fun _ => ⟨m2, by omega, rfl, rfl, rfl, rfl, ?_⟩, fun h => (by cases h)⟩
      · rw [hcC, bind_e m3, bind_e (wrI_wd hnr (by omega)), bind_e (rdI_wd hnr (by omega)), upd_eq, if_neg (ne_nn (by omega))]
        rfl
      · rw [hR]
        refine hrj _ ?_ rfl
        rw [hrC, bind_e m4]
        rfl
      · intro w hd w1 w2 w3 w4
        refine ⟨fun h => absurd rfl h, fun _ => ?_⟩
        rw [upd_eq] at w1 w2 w3 w4
        have hcell : ∀ k, shI 2072 (upd (upd A2 (R + 5) vl2) (R + 2) (wd v)) (6 * nr + k) = upd (upd A2 (R + 5) vl2) (R + 2) (wd v) (R + k) := by
          intro k
          show upd (upd A2 (R + 5) vl2) (R + 2) (wd v) (2072 + (6 * nr + k)) = _
          rw [show 2072 + (6 * nr + k) = R + k from by omega]
        refine ⟨?_, Or.inr ⟨t, ht3, ?_, hd, ?_, ⟨m, hm, ?_, w1⟩, ?_, ?_⟩⟩
        · rw [hcell 4, upd_ne (by omega), upd_ne (by omega), a2o _ (by omega) (by omega)]; exact hr4
        · rw [show 6 * nr = 6 * nr + 0 from rfl, hcell 0, upd_ne (by omega), upd_ne (by omega)]; exact a2R
        · rw [w2, h1, hjt]
        · rw [hcell 1, upd_ne (by omega), upd_ne (by omega)]; exact a2R1
        · rw [hcell 2, upd_eq, w4]
        · rw [hcell 5, upd_ne (by omega), upd_eq, w3, hvv]
    · refine ⟨false, f3, e3, ki3, va3, wo3, na3, vl3, wd x, wd f3, wd f3, wd x, upd man nr (wd m), upd oth nr wo, upd sgn nr va2, upd num nr nn, upd A2 (R + 5) vl2, hcj _ ?_ rfl, ?_, fun j hj => (upd_ne (by omega)).trans (a2o j (by omega) (by omega)), fun j hj => ⟨upd_ne hj, upd_ne hj, upd_ne hj, upd_ne hj⟩, fun h => (by cases h), fun _ => ⟨x, x1, x2, rfl, rfl, rfl⟩⟩
      · rw [hcC, bind_e m3, bind_e (wrI_wd hnr (by omega)), bind_e (rdI_wd hnr (by omega)), upd_eq, if_pos (show nn = -1 from rfl)]
        rfl
      · rw [hR]
        refine hrj _ ?_ rfl
        rw [hrC, bind_e m4]
        rfl
  replace hcA := hcA.trans (bind_e c60)
  replace hrA := hrA.trans (bind_e r60)
  cases g0
  case true =>
    obtain ⟨_, z1, z2⟩ := s60 rfl
    exact hgood (z1.trans z2.symm) (hcA.trans (if_neg (show ¬ i01 true = 0 by decide))) (hrA.trans (if_neg (show ¬ i01 true = 0 by decide)))
  replace hcA := hcA.trans ((if_pos (show i01 false = 0 from rfl)).trans (bind_e c62))
  replace hrA := hrA.trans ((if_pos (show i01 false = 0 from rfl)).trans (bind_e r62))
  cases g1
  case true =>
    obtain ⟨_, z1, z2⟩ := s62 rfl
    exact hgood (z1.trans z2.symm) (hcA.trans (if_neg (show ¬ i01 true = 0 by decide))) (hrA.trans (if_neg (show ¬ i01 true = 0 by decide)))
  replace hcA := hcA.trans ((if_pos (show i01 false = 0 from rfl)).trans (bind_e c61))
  replace hrA := hrA.trans ((if_pos (show i01 false = 0 from rfl)).trans (bind_e r61))
  cases g2
  case true =>
    obtain ⟨_, z1, z2⟩ := s61 rfl
    exact hgood (z1.trans z2.symm) (hcA.trans (if_neg (show ¬ i01 true = 0 by decide))) (hrA.trans (if_neg (show ¬ i01 true = 0 by decide)))
  refine ⟨false, f2, e2, ki2, va2, wo2, na2, vl2, wd (fk ki2 2), wd f2, wd f2, wd (fk ki2 2), upd man nr (wd m), upd oth nr wo, sgn, num, A2, hcj _ (hcA.trans ?_) rfl, ?_, fun j hj => a2o j (by omega) (by omega), fun j hj => ⟨upd_ne hj, upd_ne hj, rfl, rfl⟩, fun h => (by cases h), fun _ => ⟨fk ki2 2, fk_0 (by omega), fk_9 (by omega), rfl, rfl, rfl⟩⟩
  · rw [if_pos (show i01 false = 0 from rfl), bind_e (show f_X6_fail fu ft pl ki2 (wd f2) 2 = _ from c_fail (x := 2))]
    rfl
  · rw [hR]
    refine hrj _ (hrA.trans ?_) rfl
    rw [if_pos (show i01 false = 0 from rfl), bind_e (show f_X12_fails fu ki2 (wd f2) fp (wd 0) 2 = _ from r_fails (x := 2))]
    rfl
end
