section
variable {fu n f e c s nr dp i : Nat} {op : Nat → Nat} {b : Nat → Nat} {by_ text at_ : Nat → Int32} {wc nam names : Nat → Int64} {opc opr deed man oth sgn num mate : Nat → Int32} {ki va wo vl ft pl fp th : Int32} {na : Int64}

/-- a step -/
theorem w_step (hT : TXT b n by_ text) (hWc : RWc wc) (h : TOK b n f e ki va wo na vl) (hN : ∀ m, m < c → NC (nam m) (names m)) (h8 : c ≤ 8) (hc0 : at_ 0 = wd c) (hS : WSR c s nr dp op at_ opc opr deed man oth sgn num mate) (hf : 1000 ≤ fu) (hi : i = 7 ∨ i = 8 ∨ i = 9 ∨ i = 10 ∨ i = 11 ∨ i = 12 ∨ i = 16 ∨ i = 18) (hwo : wo = wd i) : WPT fu n b by_ text wc nam names c s nr dp f e ki va wo na vl ft pl fp th at_ opc opr deed man oth sgn num mate := by
  have hi19 : i < 19 := by omega
  have hk2 := h.ki2 hwo hi19
  have h0 : ¬ ki = wd 0 := by rw [hk2]; decide
  have n17 : ¬ wo = 17 := by
    show ¬ wo = wd 17
    rw [hwo, wd_inj (by omega) (by omega)]; omega
  obtain ⟨h57, hop, hI⟩ := hS
  have hI' := hI
  obtain ⟨i1, i2, i3, i4, i5, i6, i7, i8⟩ := hI'
  have hkm9 := (kw_c i hi19).2
  have hiw : f_X12_inWords fu 1 text (wd n) ki (wd f) (wd e) = some (wd (km i)) := by
    rcases tok_word hT h hf with ⟨g, _⟩ | ⟨j, hj, g, _, h2⟩
    · rw [hwo, wd_eqm (by omega)] at g; exact g.elim
    · rw [hwo, wd_inj (by omega) (by omega)] at g
      subst g; exact h2
  have hnr60 : nr ≤ 60 := by omega
  have hho : f_X10_holdsOthers fu wo = some (i01 (decide (i = 12 ∨ i = 16))) := by
    rw [hwo]
    rcases hi with rfl | rfl | rfl | rfl | rfl | rfl | rfl | rfl <;> rfl
  have hcb : f_X10_takeBegin fu (wd dp) ft pl by_ wc ki (wd f) va wo na (wd n) (wd e) (wd nr) (wd s) wo = f_X10_takeBegin_j43 fu (wd dp) by_ wc (wd n) (wd nr) (wd s) wo ft pl ki (wd f) va wo na (wd e) := by
    rw [hwo]
    rcases hi with rfl | rfl | rfl | rfl | rfl | rfl | rfl | rfl <;> rfl
  have hrw : f_X12_warStep fu at_ names text (wd n) ki (wd f) (wd e) vl fp (wd 0) opr (wd dp) (wd s) = if wd s = 30 then (f_X12_fails fu ki (wd f) fp (wd 0) 6).bind fun z => (bz z.1).bind fun _ => some (z.1, at_, ki, wd f, wd e, vl, z.2.1, z.2.2, opr, wd dp, wd s) else (if i01 (decide (i = 12 ∨ i = 16)) = 0 then f_X12_warStep_j133 fu names text (wd n) at_ ki (wd f) (wd e) vl fp (wd 0) opr (wd dp) (wd s) (wd (km i)) (wd nr) (wd (2072 + 6 * nr)) (i01 (decide (i = 12 ∨ i = 16))) (wd s) (wd 1) else (if wd dp = 3 then (f_X12_fails fu ki (wd f) fp (wd 0) 7).bind fun z => (bz z.1).bind fun _ => some (z.1, at_, ki, wd f, wd e, vl, z.2.1, z.2.2, opr, wd dp, wd s) else f_X12_warStep_j133 fu names text (wd n) at_ ki (wd f) (wd e) vl fp (wd 0) opr (wd dp) (wd s) (wd (km i)) (wd nr) (wd (2072 + 6 * nr)) (i01 (decide (i = 12 ∨ i = 16))) (wd s) (wd 1))) := by
    unfold f_X12_warStep
    rw [bind_e hiw, bind_e (show rdI at_ 3648 1957 = some (wd nr) from by rw [show (1957 : Int32) = wd 1957 from wd_lit 1957, rdI_wd (by omega) (by omega), h57])]
    simp only [bnd]
    rw [show (2072 : Int32) + 6 * wd nr = wd (2072 + 6 * nr) from by rw [show (2072 : Int32) = wd 2072 from wd_lit 2072, show (6 : Int32) = wd 6 from rfl, wd_mul, wd_add]]
    clear hcb hho hiw
    rcases hi with rfl | rfl | rfl | rfl | rfl | rfl | rfl | rfl <;> rfl
  have hbf : ∀ x, 0 < x → x ≤ 9 → f_X10_takeBegin fu (wd dp) ft pl by_ wc ki (wd f) va wo na (wd n) (wd e) (wd nr) (wd s) wo = some (wd 0, wd (fk ki x), wd f, ki, wd f, va, wo, na, wd e) → f_X12_warStep fu at_ names text (wd n) ki (wd f) (wd e) vl fp (wd 0) opr (wd dp) (wd s) = some (wd 0, at_, ki, wd f, wd e, vl, wd f, wd (fk ki x), opr, wd dp, wd s) → WPT fu n b by_ text wc nam names c s nr dp f e ki va wo na vl ft pl fp th at_ opc opr deed man oth sgn num mate := by
    intro x x1 x2 hc hr
    refine ⟨false, f, e, ki, va, wo, na, vl, wd (fk ki x), wd f, wd f, wd (fk ki x), wd dp, wd dp, wd nr, wd s, wd s, at_, opc, opr, deed, man, oth, sgn, num, mate, ?_, hr, fun _ _ => rfl, fun h => (by cases h), fun _ => ⟨fk ki x, fk_0 x1, fk_9 x2, rfl, rfl, rfl⟩⟩
    intro N p hp
    rw [f_X10_readDraft_l24, f_X10_readDraft_b24, show (300 : Int32) = wd 300 from wd_lit 300, if_neg (by rw [wd_lt (by omega) (by omega)]; omega), if_neg (show ¬ wd 1 = 0 by decide), bind_e (c_atEnd h0), if_pos (show wd 0 = 0 from rfl), if_neg n17, bind_e hc, if_pos (show wd 0 = 0 from rfl)]
    simp only [bnd]
    rw [show wd p + 1 = wd (p + 1) from wd_add p 1]
    rfl
  by_cases hs : s = 30
  · refine hbf 6 (by omega) (by omega) ?_ ?_
    · rw [hcb]
      unfold f_X10_takeBegin_j43
      rw [if_pos (show (30 : Int32) ≤ wd s from by rw [hs]; decide), bind_e (show f_X6_fail fu ft pl ki (wd f) 6 = _ from c_fail (x := 6))]
      rfl
    · rw [hrw, if_pos (show wd s = 30 from by rw [hs]; rfl), bind_e (show f_X12_fails fu ki (wd f) fp (wd 0) 6 = _ from r_fails (x := 6))]
      rfl
  have hs30 : s < 30 := by omega
  have hnr : nr < 60 := by omega
  have hj43 : f_X10_takeBegin fu (wd dp) ft pl by_ wc ki (wd f) va wo na (wd n) (wd e) (wd nr) (wd s) wo = (if i01 (decide (i = 12 ∨ i = 16)) = 0 then (f_X7_next fu by_ wc ki (wd f) va wo na (wd n) (wd e)).bind fun z_31 => some (1, ft, pl, z_31.1, z_31.2.1, z_31.2.2.1, z_31.2.2.2.1, z_31.2.2.2.2.1, z_31.2.2.2.2.2) else (f_X11_within fu (wd dp) 0 2).bind fun z_32 => (if z_32 = 0 then (f_X6_fail fu ft pl ki (wd f) 7).bind fun z_35 => (bz z_35.1).bind fun _ => some (z_35.1, z_35.2.1, z_35.2.2, ki, wd f, va, wo, na, wd e) else (f_X7_next fu by_ wc ki (wd f) va wo na (wd n) (wd e)).bind fun z_34 => some (1, ft, pl, z_34.1, z_34.2.1, z_34.2.2.1, z_34.2.2.2.1, z_34.2.2.2.2.1, z_34.2.2.2.2.2))) := by
    rw [hcb]
    unfold f_X10_takeBegin_j43
    rw [if_neg (show ¬ (30 : Int32) ≤ wd s from by
      show ¬ wd 30 ≤ wd s
      rw [wd_le (by omega) (by omega)]; omega), bind_e (in60 hnr), if_neg (show ¬ wd 1 = 0 by decide), bind_e hho]
  rw [if_neg (show ¬ wd s = 30 from by
    show ¬ wd s = wd 30
    rw [wd_inj (by omega) (by omega)]; omega)] at hrw
  have hin2 : dp < 3 → f_X11_within fu (wd dp) 0 2 = some (wd 1) := by
    intro hd
    rw [show f_X11_within fu (wd dp) 0 2 = some (i01 (wn 0 2 (wd dp))) from c_within (a := 0) (b := 2), wn_wd (by omega) (by omega) (by omega), decide_eq_true (show 0 ≤ dp ∧ dp ≤ 2 by omega)]
    rfl
  by_cases hdeep : (i = 12 ∨ i = 16) ∧ dp = 3
  · obtain ⟨hii, hd3⟩ := hdeep
    rw [decide_eq_true hii, if_neg (show ¬ i01 true = 0 by decide)] at hrw hj43
    refine hbf 7 (by omega) (by omega) ?_ ?_
    · rw [hj43, bind_e (show f_X11_within fu (wd dp) 0 2 = some (wd 0) from by rw [hd3]; rfl), if_pos (show wd 0 = 0 from rfl), bind_e (show f_X6_fail fu ft pl ki (wd f) 7 = _ from c_fail (x := 7))]
      rfl
    · rw [hrw, if_pos (show wd dp = 3 from by rw [hd3]; rfl), bind_e (show f_X12_fails fu ki (wd f) fp (wd 0) 7 = _ from r_fails (x := 7))]
      rfl
  have hdp : (i = 12 ∨ i = 16) → dp < 3 := fun hii => by
    have : dp ≠ 3 := fun e => hdeep ⟨hii, e⟩
    omega
  obtain ⟨f1, e1, ki1, va1, wo1, na1, vl1, k1, k2, k3, k4⟩ := t_next (fu := fu) (ki0 := ki) (st0 := wd f) (va0 := va) (wo0 := wo) (na0 := na) (tk0 := ki) (fr0 := wd f) (vl0 := vl) hT hWc h.le hf
  have hcB : f_X10_takeBegin fu (wd dp) ft pl by_ wc ki (wd f) va wo na (wd n) (wd e) (wd nr) (wd s) wo = some (wd 1, ft, pl, ki1, wd f1, va1, wo1, na1, wd e1) := by
    rw [hj43]
    by_cases hii : i = 12 ∨ i = 16
    · rw [decide_eq_true hii, if_neg (show ¬ i01 true = 0 by decide), bind_e (hin2 (hdp hii)), if_neg (show ¬ wd 1 = 0 by decide), bind_e k2]
      rfl
    · rw [decide_eq_false hii, if_pos (show i01 false = 0 from rfl), bind_e k2]
      rfl
  have hrB : f_X12_warStep fu at_ names text (wd n) ki (wd f) (wd e) vl fp (wd 0) opr (wd dp) (wd s) = f_X12_warStep_j133 fu names text (wd n) at_ ki (wd f) (wd e) vl fp (wd 0) opr (wd dp) (wd s) (wd (km i)) (wd nr) (wd (2072 + 6 * nr)) (i01 (decide (i = 12 ∨ i = 16))) (wd s) (wd 1) := by
    rw [hrw]
    by_cases hii : i = 12 ∨ i = 16
    · rw [decide_eq_true hii, if_neg (show ¬ i01 true = 0 by decide), if_neg (show ¬ wd dp = 3 from by
        have := hdp hii
        show ¬ wd dp = wd 3
        rw [wd_inj (by omega) (by omega)]; omega)]
    · rw [decide_eq_false hii, if_pos (show i01 false = 0 from rfl)]
  rw [r_init hnr h57 (by omega) hf, bind_e k3] at hrB
  have hA0 : rowI at_ nr (wd (km i)) 0 = wd c := (rowI_o (by omega) (by omega)).trans hc0
  have hrst : RST fu n b by_ text wc nam names c nr f1 e1 ki1 va1 wo1 na1 vl1 ft pl fp (rowI at_ nr (wd (km i))) man oth sgn num i := by
    rcases hi with rfl | rfl | rfl | rfl | rfl | rfl | rfl | rfl
    · exact w_face hT hWc k4 hN h8 hA0 hnr hf rowI_0
    · exact w_give hT hWc k4 hN h8 hA0 hnr hf rowI_0
    · exact w_one hT hWc k4 hN h8 hA0 hnr hf (Or.inl rfl) rowI_0
    · exact w_one hT hWc k4 hN h8 hA0 hnr hf (Or.inr rfl) rowI_0
    · exact w_bare hT hWc k4 hN h8 hA0 hnr hf (Or.inl rfl) rowI_0
    · exact w_when hT hWc k4 hN h8 hA0 hnr hf rowI_0 rowI_4
    · exact w_loop hT hWc k4 hN h8 hA0 hnr hf rowI_0 rowI_4
    · exact w_bare hT hWc k4 hN h8 hA0 hnr hf (Or.inr rfl) rowI_0
  obtain ⟨g, f2, e2, ki2, va2, wo2, na2, vl2, ft2, pl2, fp2, fs2, man2, oth2, sgn2, num2, at2, y1, y2, y3, y4, y5, y6⟩ := hrst
  have y1' : f_X10_takeRest fu ft pl by_ wc ki1 (wd f1) va1 wo1 na1 (wd n) (wd e1) man oth sgn num (wd nr) nam (wd c) wo = some (i01 g, ft2, pl2, ki2, wd f2, va2, wo2, na2, wd e2, man2, oth2, sgn2, num2) := by rw [hwo]; exact y1
  have hag2 : ∀ j, j < 1952 → at2 j = at_ j := fun j hj => (y3 j (by omega)).trans (rowI_o (by omega) (by omega))
  rw [bind_e y2] at hrB
  cases g
  · obtain ⟨x, x1, x2, x3, x4, x5⟩ := y6 rfl
    refine ⟨false, f2, e2, ki2, va2, wo2, na2, vl2, ft2, pl2, fp2, fs2, wd dp, wd dp, wd nr, wd s, wd (s + 1), at2, opc, opr, deed, man2, oth2, sgn2, num2, mate, ?_, ?_, hag2, fun h => (by cases h), fun _ => ⟨x, x1, x2, x3, x4, x5⟩⟩
    · intro N p hp
      rw [f_X10_readDraft_l24, f_X10_readDraft_b24, show (300 : Int32) = wd 300 from wd_lit 300, if_neg (by rw [wd_lt (by omega) (by omega)]; omega), if_neg (show ¬ wd 1 = 0 by decide), bind_e (c_atEnd h0), if_pos (show wd 0 = 0 from rfl), if_neg n17, bind_e hcB, if_neg (show ¬ wd 1 = 0 by decide), bind_e y1', if_pos (show i01 false = 0 from rfl)]
      simp only [bnd]
      rw [show wd p + 1 = wd (p + 1) from wd_add p 1]
      rfl
    · rw [hrB]
      rfl
  obtain ⟨z1, z2, z3, z4, z5, z6, z7⟩ := y5 rfl
  subst z3; subst z4; subst z5; subst z6
  replace hrB := hrB.trans (if_neg (show ¬ i01 true = 0 by decide))
  have hfe1 := k4.fe
  have hfe2 := z1.fe
  -- what comes of the row
  have h57b : at2 1957 = wd (nr + 1) := (y3 1957 (by omega)).trans upd_eq
  have hpp : ∀ j, j < 6 * nr → shI 2072 at2 j = shI 2072 at_ j := fun j hj => (y3 (2072 + j) (by omega)).trans (rowI_o (by omega) (by omega))
  have hstep : f_X9_step fu deed (wd nr) (wd s) wo = some (upd deed nr wo, wd (nr + 1), wd (s + 1)) := by
    unfold f_X9_step
    rw [bind_e (in60 hnr), if_neg (show ¬ wd 1 = 0 by decide), bind_e (wrI_wd hnr (by omega))]
    simp only [bnd]
    rw [show wd nr + 1 = wd (nr + 1) from wd_add nr 1, show wd s + 1 = wd (s + 1) from wd_add s 1]
  have hnew := z7 (upd deed nr wo, man2, oth2, sgn2, num2, mate, wd 1, wd (nr + 1), wd (s + 1)) (upd_eq.trans hwo) rfl rfl rfl rfl
  have hW := WIV_step (p' := shI 2072 at2) (w' := (upd deed nr wo, man2, oth2, sgn2, num2, mate, wd 1, wd (nr + 1), wd (s + 1))) hI hs30 hpp (fun j hj => ⟨upd_ne (by omega), (y4 j (by omega)).1, (y4 j (by omega)).2.1, (y4 j (by omega)).2.2.1, (y4 j (by omega)).2.2.2⟩) (fun j hj => rfl) (decide (i = 12 ∨ i = 16)) (fun hg => hdp (of_decide_eq_true hg)) (fun hg => hnew.1 (fun e => of_decide_eq_false hg (Or.inl e)) (fun e => of_decide_eq_false hg (Or.inr e)) (nr + 1)) (fun hg => hnew.2 (of_decide_eq_true hg))
  have hlast : f_X10_takeLast fu opc (wd dp) ft2 pl2 by_ wc ki2 (wd f2) va2 wo2 na2 (wd n) (wd e2) deed (wd nr) (wd s) wo = (f_X6_takeSign fu ft2 pl2 by_ wc ki2 (wd f2) va2 wo2 na2 (wd n) (wd e2) (wd 59)).bind fun z_12 => (if z_12.1 = 0 then some (0, opc, wd dp, z_12.2.1, z_12.2.2.1, z_12.2.2.2.1, z_12.2.2.2.2.1, z_12.2.2.2.2.2.1, z_12.2.2.2.2.2.2.1, z_12.2.2.2.2.2.2.2.1, z_12.2.2.2.2.2.2.2.2, deed, wd nr, wd s) else (if i01 (decide (i = 12 ∨ i = 16)) = 0 then some (1, opc, wd dp, z_12.2.1, z_12.2.2.1, z_12.2.2.2.1, z_12.2.2.2.2.1, z_12.2.2.2.2.2.1, z_12.2.2.2.2.2.2.1, z_12.2.2.2.2.2.2.2.1, z_12.2.2.2.2.2.2.2.2, upd deed nr wo, wd (nr + 1), wd (s + 1)) else (f_X11_within fu (wd dp) 0 2).bind fun z_17 => (if z_17 = 0 then some (1, opc, wd dp, z_12.2.1, z_12.2.2.1, z_12.2.2.2.1, z_12.2.2.2.2.1, z_12.2.2.2.2.2.1, z_12.2.2.2.2.2.2.1, z_12.2.2.2.2.2.2.2.1, z_12.2.2.2.2.2.2.2.2, upd deed nr wo, wd (nr + 1), wd (s + 1)) else (wrI opc 3 (wd dp) (wd nr)).bind fun k_open_20 => some (1, k_open_20, wd dp + 1, z_12.2.1, z_12.2.2.1, z_12.2.2.2.1, z_12.2.2.2.2.1, z_12.2.2.2.2.2.1, z_12.2.2.2.2.2.2.1, z_12.2.2.2.2.2.2.2.1, z_12.2.2.2.2.2.2.2.2, upd deed nr wo, wd (nr + 1), wd (s + 1))))) := by
    unfold f_X10_takeLast
    simp only [bnd, hho, hstep, Option.bind_some]
    rfl
  have hcode : ¬ wd (km i) = 14 := by
    show ¬ wd (km i) = wd 14
    have : km i ≠ 14 := by
      clear hnew hW hlast hstep hcb hcB hrB hho hrw hj43 hiw y1 y1' y2 z7
      rcases hi with rfl | rfl | rfl | rfl | rfl | rfl | rfl | rfl <;> decide +kernel
    rw [wd_inj (by omega) (by omega)]; exact this
  have hj222 : ∀ (op3 : Nat → Int32) (d3 : Int32), f_X12_warStep_j222 fu names text (wd n) at2 ki2 (wd f2) (wd e2) vl2 fp2 (wd 0) op3 d3 (wd (s + 1)) (wd (km i)) (wd nr) (wd (2072 + 6 * nr)) = (f_X12_wantSign fu text (wd n) ki2 (wd f2) (wd e2) vl2 fp2 (wd 0) (wd 59)).bind fun z_49 => (bz z_49.1).bind fun _ => some (z_49.1, at2, z_49.2.1, z_49.2.2.1, z_49.2.2.2.1, z_49.2.2.2.2.1, z_49.2.2.2.2.2.1, z_49.2.2.2.2.2.2, op3, d3, wd (s + 1)) := by
    intro op3 d3
    unfold f_X12_warStep_j222
    rw [if_neg hcode]
    rfl
  rcases t_sign (ft := ft2) (pl := pl2) (fp := fp2) (s := 59) hT hWc z1 (by omega) hf with ⟨f3, e3, ki3, va3, wo3, na3, vl3, s1, s2, s3, s4⟩ | ⟨x, x1, x2, s3, s4⟩
  case inr =>
    rw [bind_e s3] at hlast
    have hcL : f_X10_takeLast fu opc (wd dp) ft2 pl2 by_ wc ki2 (wd f2) va2 wo2 na2 (wd n) (wd e2) deed (wd nr) (wd s) wo = some (wd 0, opc, wd dp, wd x, wd f2, ki2, wd f2, va2, wo2, na2, wd e2, deed, wd nr, wd s) := by
      rw [hlast]; rfl
    have hrL : ∃ op3 d3, f_X12_warStep fu at_ names text (wd n) ki (wd f) (wd e) vl fp2 (wd 0) opr (wd dp) (wd s) = some (wd 0, at2, ki2, wd f2, wd e2, vl2, wd f2, wd x, op3, d3, wd (s + 1)) := by
      by_cases hii : i = 12 ∨ i = 16
      · refine ⟨upd opr dp (wd nr), wd (dp + 1), ?_⟩
        have := hdp hii
        rw [decide_eq_true hii] at hrB
        replace hrB := hrB.trans (if_neg (show ¬ i01 true = 0 by decide))
        rw [hrB, bind_e (wrI_wd (show dp < 3 by omega) (by omega))]
        simp only [bnd]
        rw [show wd dp + 1 = wd (dp + 1) from wd_add dp 1]
        show f_X12_warStep_j222 fu names text (wd n) at2 ki2 (wd f2) (wd e2) vl2 fp2 (wd 0) (upd opr dp (wd nr)) (wd (dp + 1)) (wd (s + 1)) (wd (km i)) (wd nr) (wd (2072 + 6 * nr)) = _
        rw [hj222, bind_e s4]
        rfl
      · refine ⟨opr, wd dp, ?_⟩
        rw [decide_eq_false hii] at hrB
        replace hrB := hrB.trans (if_pos (show i01 false = 0 from rfl))
        rw [hrB]
        show f_X12_warStep_j222 fu names text (wd n) at2 ki2 (wd f2) (wd e2) vl2 fp2 (wd 0) opr (wd dp) (wd (s + 1)) (wd (km i)) (wd nr) (wd (2072 + 6 * nr)) = _
        rw [hj222, bind_e s4]
        rfl
    obtain ⟨op3, d3, hrL⟩ := hrL
    refine ⟨false, f2, e2, ki2, va2, wo2, na2, vl2, wd x, wd f2, wd f2, wd x, wd dp, d3, wd nr, wd s, wd (s + 1), at2, opc, op3, deed, man2, oth2, sgn2, num2, mate, ?_, hrL, hag2, fun h => (by cases h), fun _ => ⟨x, x1, x2, rfl, rfl, rfl⟩⟩
    intro N p hp
    rw [f_X10_readDraft_l24, f_X10_readDraft_b24, show (300 : Int32) = wd 300 from wd_lit 300, if_neg (by rw [wd_lt (by omega) (by omega)]; omega), if_neg (show ¬ wd 1 = 0 by decide), bind_e (c_atEnd h0), if_pos (show wd 0 = 0 from rfl), if_neg n17, bind_e hcB, if_neg (show ¬ wd 1 = 0 by decide), bind_e y1', if_neg (show ¬ i01 true = 0 by decide), bind_e hcL, if_pos (show wd 0 = 0 from rfl)]
    simp only [bnd]
    rw [show wd p + 1 = wd (p + 1) from wd_add p 1]
    rfl
  rw [bind_e s3] at hlast
  replace hlast := hlast.trans (if_neg (show ¬ wd 1 = 0 by decide))
  by_cases hii : i = 12 ∨ i = 16
  · have hd3 := hdp hii
    rw [decide_eq_true hii] at hrB hlast hW
    replace hrB := hrB.trans (if_neg (show ¬ i01 true = 0 by decide))
    replace hlast := hlast.trans (if_neg (show ¬ i01 true = 0 by decide))
    have hcL : f_X10_takeLast fu opc (wd dp) ft2 pl2 by_ wc ki2 (wd f2) va2 wo2 na2 (wd n) (wd e2) deed (wd nr) (wd s) wo = some (wd 1, upd opc dp (wd nr), wd (dp + 1), ft2, pl2, ki3, wd f3, va3, wo3, na3, wd e3, upd deed nr wo, wd (nr + 1), wd (s + 1)) := by
      rw [hlast, bind_e (hin2 hd3), if_neg (show ¬ wd 1 = 0 by decide), bind_e (wrI_wd hd3 (by omega)), show wd dp + 1 = wd (dp + 1) from wd_add dp 1]
      rfl
    refine ⟨true, f3, e3, ki3, va3, wo3, na3, vl3, ft2, pl2, fp2, wd 0, wd (dp + 1), wd (dp + 1), wd (nr + 1), wd (s + 1), wd (s + 1), at2, upd opc dp (wd nr), upd opr dp (wd nr), upd deed nr wo, man2, oth2, sgn2, num2, mate, ?_, ?_, hag2, fun _ => ⟨s2, by omega, rfl, rfl, rfl, rfl, nr + 1, s + 1, dp + 1, _, rfl, rfl, rfl, rfl, rfl, h57b, ?_, hW⟩, fun h => (by cases h)⟩
    · intro N p hp
      rw [f_X10_readDraft_l24, f_X10_readDraft_b24, show (300 : Int32) = wd 300 from wd_lit 300, if_neg (by rw [wd_lt (by omega) (by omega)]; omega), if_neg (show ¬ wd 1 = 0 by decide), bind_e (c_atEnd h0), if_pos (show wd 0 = 0 from rfl), if_neg n17, bind_e hcB, if_neg (show ¬ wd 1 = 0 by decide), bind_e y1', if_neg (show ¬ i01 true = 0 by decide), bind_e hcL, if_neg (show ¬ wd 1 = 0 by decide)]
      simp only [bnd]
      rw [show wd p + 1 = wd (p + 1) from wd_add p 1]
      rfl
    · rw [hrB, bind_e (wrI_wd hd3 (by omega))]
      simp only [bnd]
      rw [show wd dp + 1 = wd (dp + 1) from wd_add dp 1]
      show f_X12_warStep_j222 fu names text (wd n) at2 ki2 (wd f2) (wd e2) vl2 fp2 (wd 0) (upd opr dp (wd nr)) (wd (dp + 1)) (wd (s + 1)) (wd (km i)) (wd nr) (wd (2072 + 6 * nr)) = _
      rw [hj222, bind_e s4]
      rfl
    · intro j hj
      show upd opc dp (wd nr) j = wd (if j = dp then (if true then nr else op j) else op j) ∧ upd opr dp (wd nr) j = wd (if j = dp then (if true then nr else op j) else op j)
      by_cases hjd : j = dp
      · rw [hjd, upd_eq, upd_eq, if_pos rfl, if_pos rfl]; exact ⟨rfl, rfl⟩
      · rw [upd_ne hjd, upd_ne hjd, if_neg hjd]; exact hop j (by omega)
  · rw [decide_eq_false hii] at hrB hlast hW
    replace hrB := hrB.trans (if_pos (show i01 false = 0 from rfl))
    replace hlast := hlast.trans (if_pos (show i01 false = 0 from rfl))
    refine ⟨true, f3, e3, ki3, va3, wo3, na3, vl3, ft2, pl2, fp2, wd 0, wd dp, wd dp, wd (nr + 1), wd (s + 1), wd (s + 1), at2, opc, opr, upd deed nr wo, man2, oth2, sgn2, num2, mate, ?_, ?_, hag2, fun _ => ⟨s2, by omega, rfl, rfl, rfl, rfl, nr + 1, s + 1, dp, _, rfl, rfl, rfl, rfl, rfl, h57b, ?_, hW⟩, fun h => (by cases h)⟩
    · intro N p hp
      rw [f_X10_readDraft_l24, f_X10_readDraft_b24, show (300 : Int32) = wd 300 from wd_lit 300, if_neg (by rw [wd_lt (by omega) (by omega)]; omega), if_neg (show ¬ wd 1 = 0 by decide), bind_e (c_atEnd h0), if_pos (show wd 0 = 0 from rfl), if_neg n17, bind_e hcB, if_neg (show ¬ wd 1 = 0 by decide), bind_e y1', if_neg (show ¬ i01 true = 0 by decide), bind_e hlast, if_neg (show ¬ (1 : Int32) = 0 by decide)]
      simp only [bnd]
      rw [show wd p + 1 = wd (p + 1) from wd_add p 1]
      rfl
    · rw [hrB]
      show f_X12_warStep_j222 fu names text (wd n) at2 ki2 (wd f2) (wd e2) vl2 fp2 (wd 0) opr (wd dp) (wd (s + 1)) (wd (km i)) (wd nr) (wd (2072 + 6 * nr)) = _
      rw [hj222, bind_e s4]
      rfl
    · intro j hj
      show opc j = wd (if j = dp then (if false then nr else op j) else op j) ∧ opr j = wd (if j = dp then (if false then nr else op j) else op j)
      rw [if_neg (show ¬ j = dp by omega)]
      exact hop j hj
end
