section
variable {fu n f e c s nr dp i : Nat} {op : Nat → Nat} {b : Nat → Nat} {by_ text at_ : Nat → Int32} {wc nam names : Nat → Int64} {opc opr deed man oth sgn num mate : Nat → Int32} {ki va wo vl ft pl fp th : Int32} {na : Int64}

/-- an end of what is open -/
theorem w_end (hT : TXT b n by_ text) (hWc : RWc wc) (h : TOK b n f e ki va wo na vl) (hN : ∀ m, m < c → NC (nam m) (names m)) (h8 : c ≤ 8) (hc0 : at_ 0 = wd c) (hS : WSR c s nr dp op at_ opc opr deed man oth sgn num mate) (hf : 1000 ≤ fu) (hwo : wo = wd 17) (hd : 0 < dp) : WPT fu n b by_ text wc nam names c s nr dp f e ki va wo na vl ft pl fp th at_ opc opr deed man oth sgn num mate := by
  obtain ⟨d, rfl⟩ : ∃ d, dp = d + 1 := ⟨dp - 1, by omega⟩
  have hk2 := h.ki2 hwo (by omega)
  have h0 : ¬ ki = wd 0 := by rw [hk2]; decide
  obtain ⟨h57, hop, hI⟩ := hS
  have hI' := hI
  obtain ⟨i1, i2, i3, i4, i5, i6, i7, i8⟩ := hI'
  have hnr : nr < 60 := by omega
  obtain ⟨hon, _⟩ := i5 d (by omega)
  obtain ⟨ho1, ho2⟩ := hop d (by omega)
  generalize hO : op d = o at hon ho1 ho2
  have hiw : f_X12_inWords fu 1 text (wd n) ki (wd f) (wd e) = some (wd 14) := by
    rcases tok_word hT h hf with ⟨g, _⟩ | ⟨j, hj, g, _, h2⟩
    · rw [hwo, wd_eqm (by omega)] at g; exact g.elim
    · rw [hwo, wd_inj (by omega) (by omega)] at g
      subst g
      rw [show km 17 = 14 from by decide +kernel] at h2
      exact h2
  have hcl : ∀ N p, p ≤ 300 → f_X10_readDraft_l24 fu by_ wc (wd n) nam (wd c) (N + 1) opc (wd (d + 1)) ft pl ki (wd f) va wo na (wd e) deed man oth sgn num mate th (wd nr) (wd s) (wd 1) (wd p) = (f_X10_takeEnd fu opc (wd (d + 1)) ft pl by_ wc ki (wd f) va wo na (wd n) (wd e) deed mate (wd nr)).bind fun z => f_X10_readDraft_l24 fu by_ wc (wd n) nam (wd c) N opc z.2.1 z.2.2.1 z.2.2.2.1 z.2.2.2.2.1 z.2.2.2.2.2.1 z.2.2.2.2.2.2.1 z.2.2.2.2.2.2.2.1 z.2.2.2.2.2.2.2.2.1 z.2.2.2.2.2.2.2.2.2.1 z.2.2.2.2.2.2.2.2.2.2.1 man oth sgn num z.2.2.2.2.2.2.2.2.2.2.2.1 th z.2.2.2.2.2.2.2.2.2.2.2.2 (wd s) z.1 (wd (p + 1)) := by
    intro N p hp
    rw [f_X10_readDraft_l24, f_X10_readDraft_b24, show (300 : Int32) = wd 300 from wd_lit 300, if_neg (by rw [wd_lt (by omega) (by omega)]; omega), if_neg (show ¬ wd 1 = 0 by decide), bind_e (c_atEnd h0), if_pos (show wd 0 = 0 from rfl), if_pos (show wo = 17 from hwo)]
    simp only [bnd]
    rw [show wd p + 1 = wd (p + 1) from wd_add p 1]
  obtain ⟨f1, e1, ki1, va1, wo1, na1, vl1, k1, k2, k3, k4⟩ := t_next (fu := fu) (ki0 := ki) (st0 := wd f) (va0 := va) (wo0 := wo) (na0 := na) (tk0 := ki) (fr0 := wd f) (vl0 := vl) hT hWc h.le hf
  have hfe1 := k4.fe
  generalize hA1 : rowI at_ nr (wd 14) = A1
  have hA1o : ∀ j, j ≠ 1957 → j < 2072 + 6 * nr ∨ 2072 + 6 * nr + 6 ≤ j → A1 j = at_ j := fun j g1 g2 => by rw [← hA1]; exact rowI_o g1 g2
  have hA10 : A1 (2072 + 6 * nr) = wd 14 := by rw [← hA1]; exact rowI_0
  have hA157 : A1 1957 = wd (nr + 1) := by rw [← hA1]; exact upd_eq
  have hrw : f_X12_warStep fu at_ names text (wd n) ki (wd f) (wd e) vl fp (wd 0) opr (wd (d + 1)) (wd s) = (f_X12_wantSign fu text (wd n) ki1 (wd f1) (wd e1) vl1 fp (wd 0) (wd 59)).bind fun z_56 => (bz z_56.1).bind fun _ => some (z_56.1, upd (upd A1 (2072 + 6 * nr + 4) (wd o)) (2072 + 6 * o + 4) (wd nr), z_56.2.1, z_56.2.2.1, z_56.2.2.2.1, z_56.2.2.2.2.1, z_56.2.2.2.2.2.1, z_56.2.2.2.2.2.2, opr, wd d, wd (s + 0)) := by
    unfold f_X12_warStep
    rw [bind_e hiw, bind_e (show rdI at_ 3648 1957 = some (wd nr) from by rw [show (1957 : Int32) = wd 1957 from wd_lit 1957, rdI_wd (by omega) (by omega), h57])]
    simp only [bnd]
    rw [show (2072 : Int32) + 6 * wd nr = wd (2072 + 6 * nr) from by rw [show (2072 : Int32) = wd 2072 from wd_lit 2072, show (6 : Int32) = wd 6 from rfl, wd_mul, wd_add], if_neg (show ¬ wd 14 = 12 by decide), if_neg (show ¬ wd 14 = 13 by decide)]
    unfold f_X12_warStep_j42
    rw [if_neg (show ¬ wd 14 < 7 by decide), if_neg (show ¬ 15 < wd 14 by decide), if_pos (show wd 14 = 14 from rfl), if_neg (show ¬ wd (d + 1) = 0 from by
      show ¬ wd (d + 1) = wd 0
      rw [wd_inj (by omega) (by omega)]; omega)]
    unfold f_X12_warStep_j75
    rw [if_pos (show wd 14 = 14 from rfl)]
    unfold f_X12_warStep_j97
    rw [if_pos (show (0 : Int32) = 0 from rfl)]
    unfold f_X12_warStep_j117
    rw [if_pos (show wd 14 = 14 from rfl)]
    rw [show f_X12_warStep_j133 fu names text (wd n) at_ ki (wd f) (wd e) vl fp (wd 0) opr (wd (d + 1)) (wd s) (wd 14) (wd nr) (wd (2072 + 6 * nr)) 0 (wd s) 0 = _ from r_init (cs := 0) hnr h57 (by omega) hf, bind_e k3, hA1]
    show f_X12_warStep_j222 fu names text (wd n) A1 ki1 (wd f1) (wd e1) vl1 fp (wd 0) opr (wd (d + 1)) (wd (s + 0)) (wd 14) (wd nr) (wd (2072 + 6 * nr)) = _
    unfold f_X12_warStep_j222
    rw [if_pos (show wd 14 = 14 from rfl)]
    simp only [bnd]
    have hro : rdI opr 3 (wd d) = some (wd o) := by rw [rdI_wd (by omega) (by omega), ho2]
    rw [show wd (d + 1) - 1 = wd d from wd_sub (a := d + 1) (b := 1) (show 1 ≤ d + 1 by omega), bind_e hro, show wd (2072 + 6 * nr) + 4 = wd (2072 + 6 * nr + 4) from wd_add _ 4, bind_e (wrI_wd (by omega) (by omega)), bind_e hro, show ((2072 : Int32) + 6 * wd o) + 4 = wd (2072 + 6 * o + 4) from by rw [show (2072 : Int32) = wd 2072 from wd_lit 2072, show (6 : Int32) = wd 6 from rfl, wd_mul, wd_add, show (4 : Int32) = wd 4 from rfl, wd_add], bind_e (wrI_wd (by omega) (by omega))]
    rfl
  generalize hA3 : upd (upd A1 (2072 + 6 * nr + 4) (wd o)) (2072 + 6 * o + 4) (wd nr) = A3 at hrw
  have hag : ∀ j, j < 1952 → A3 j = at_ j := fun j hj => by rw [← hA3, upd_ne (by omega), upd_ne (by omega)]; exact hA1o j (by omega) (by omega)
  have hin3 : f_X11_within fu (wd (d + 1)) 1 3 = some (wd 1) := by
    rw [show f_X11_within fu (wd (d + 1)) 1 3 = some (i01 (wn 1 3 (wd (d + 1)))) from c_within (a := 1) (b := 3), wn_wd (by omega) (by omega) (by omega), decide_eq_true (show 1 ≤ d + 1 ∧ d + 1 ≤ 3 by omega)]
    rfl
  have hce : f_X10_takeEnd fu opc (wd (d + 1)) ft pl by_ wc ki (wd f) va wo na (wd n) (wd e) deed mate (wd nr) = (f_X6_takeSign fu ft pl by_ wc ki1 (wd f1) va1 wo1 na1 (wd n) (wd e1) (wd 59)).bind fun z_14 => (if z_14.1 = 0 then some (0, wd (d + 1), z_14.2.1, z_14.2.2.1, z_14.2.2.2.1, z_14.2.2.2.2.1, z_14.2.2.2.2.2.1, z_14.2.2.2.2.2.2.1, z_14.2.2.2.2.2.2.2.1, z_14.2.2.2.2.2.2.2.2, deed, mate, wd nr) else some (1, wd d, z_14.2.1, z_14.2.2.1, z_14.2.2.2.1, z_14.2.2.2.2.1, z_14.2.2.2.2.2.1, z_14.2.2.2.2.2.2.1, z_14.2.2.2.2.2.2.2.1, z_14.2.2.2.2.2.2.2.2, upd deed nr (wd 17), upd (upd mate nr (wd o)) o (wd nr), wd (nr + 1))) := by
    unfold f_X10_takeEnd
    rw [bind_e hin3, if_neg (show ¬ wd 1 = 0 by decide), bind_e k2]
    simp only [bnd]
    have hro : rdI opc 3 (wd d) = some (wd o) := by rw [rdI_wd (by omega) (by omega), ho1]
    have hcz : f_X9_close fu deed mate (wd nr) (wd o) = some (upd deed nr (wd 17), upd (upd mate nr (wd o)) o (wd nr), wd (nr + 1)) := by
      unfold f_X9_close
      rw [bind_e (in60 hnr), if_neg (show ¬ wd 1 = 0 by decide), bind_e (in60 (show o < 60 by omega)), if_neg (show ¬ wd 1 = 0 by decide), bind_e (wrI_wd hnr (by omega)), bind_e (wrI_wd hnr (by omega)), bind_e (wrI_wd (show o < 60 by omega) (by omega))]
      simp only [bnd]
      rw [show wd nr + 1 = wd (nr + 1) from wd_add nr 1]
      rfl
    rw [show wd (d + 1) - 1 = wd d from wd_sub (a := d + 1) (b := 1) (show 1 ≤ d + 1 by omega)]
    simp only [hro, hcz, Option.bind_some]
    rfl
  rcases t_sign (ft := ft) (pl := pl) (fp := fp) (s := 59) hT hWc k4 (by omega) hf with ⟨f3, e3, ki3, va3, wo3, na3, vl3, s1, s2, s3, s4⟩ | ⟨x, x1, x2, s3, s4⟩
  case inr =>
    refine ⟨false, f1, e1, ki1, va1, wo1, na1, vl1, wd x, wd f1, wd f1, wd x, wd (d + 1), wd d, wd nr, wd s, wd (s + 0), A3, opc, opr, deed, man, oth, sgn, num, mate, ?_, ?_, hag, fun h => (by cases h), fun _ => ⟨x, x1, x2, rfl, rfl, rfl⟩⟩
    · intro N p hp
      rw [hcl N p hp, hce, bind_e s3]
      rfl
    · rw [hrw, bind_e s4]
      rfl
  refine ⟨true, f3, e3, ki3, va3, wo3, na3, vl3, ft, pl, fp, wd 0, wd d, wd d, wd (nr + 1), wd s, wd (s + 0), A3, opc, opr, upd deed nr (wd 17), man, oth, sgn, num, upd (upd mate nr (wd o)) o (wd nr), ?_, ?_, hag, fun _ => ⟨s2, by omega, rfl, rfl, rfl, rfl, nr + 1, s, d, op, rfl, rfl, rfl, rfl, rfl, ?_, ?_, ?_⟩, fun h => (by cases h)⟩
  · intro N p hp
    rw [hcl N p hp, hce, bind_e s3]
    rfl
  · rw [hrw, bind_e s4]
    rfl
  · rw [← hA3, upd_ne (by omega), upd_ne (by omega)]; exact hA157
  · intro j hj
    exact hop j (by omega)
  · have hcell : ∀ j, shI 2072 A3 j = A3 (2072 + j) := fun j => rfl
    refine WIV_end (dp := d) (w' := (upd deed nr (wd 17), man, oth, sgn, num, upd (upd mate nr (wd o)) o (wd nr), wd 1, wd (nr + 1), wd s)) hI ?_ ?_ ?_ ?_ ?_ ?_ ?_ ?_ ?_
    · intro j hj hjo
      rw [hO] at hjo
      rw [hcell, ← hA3, upd_ne (by omega), upd_ne (by omega)]
      exact hA1o _ (by omega) (by omega)
    · intro j hj
      exact ⟨upd_ne (by omega), rfl, rfl, rfl, rfl⟩
    · intro j hj hjo
      rw [hO] at hjo
      exact (upd_ne hjo).trans (upd_ne (by omega))
    · rw [hcell, ← hA3, upd_ne (by omega), upd_ne (by omega)]; exact hA10
    · exact upd_eq
    · rw [hO, hcell, ← hA3, show 2072 + (6 * nr + 4) = 2072 + 6 * nr + 4 from by omega, upd_ne (by omega), upd_eq]
    · rw [hO]; exact (upd_ne (by omega)).trans upd_eq
    · rw [hO, hcell, ← hA3, show 2072 + (6 * o + 4) = 2072 + 6 * o + 4 from by omega, upd_eq]
    · rw [hO]; exact upd_eq
theorem w_part (hT : TXT b n by_ text) (hWc : RWc wc) (h : TOK b n f e ki va wo na vl) (hN : ∀ m, m < c → NC (nam m) (names m)) (h8 : c ≤ 8) (hc0 : at_ 0 = wd c) (hS : WSR c s nr dp op at_ opc opr deed man oth sgn num mate) (hf : 1000 ≤ fu) (h0 : ¬ ki = wd 0) : WPT fu n b by_ text wc nam names c s nr dp f e ki va wo na vl ft pl fp th at_ opc opr deed man oth sgn num mate := by
  rcases tok_word hT h hf with ⟨h1, _⟩ | ⟨i, hi, h1, _, _⟩
  · exact w_none hT hWc h hN h8 hc0 hS hf h0 (fun i hi g => by rw [h1, wd_eqm' (by omega)] at g; exact g.elim)
  · by_cases i17 : i = 17
    · subst i17
      by_cases hd : dp = 0
      · exact w_end0 hT hWc h hN h8 hc0 hS hf h0 h1 hd
      · exact w_end hT hWc h hN h8 hc0 hS hf h1 (by omega)
    · by_cases hw : i = 7 ∨ i = 8 ∨ i = 9 ∨ i = 10 ∨ i = 11 ∨ i = 12 ∨ i = 16 ∨ i = 18
      · exact w_step hT hWc h hN h8 hc0 hS hf hw h1
      · refine w_none hT hWc h hN h8 hc0 hS hf h0 (fun j hj g => ?_)
        rw [h1, wd_inj (by omega) (by omega)] at g
        subst g
        simp only [List.mem_cons, List.not_mem_nil, or_false]
        omega
end
