section
variable {fu n f e c base to m : Nat} {b : Nat → Nat} {by_ text at_ : Nat → Int32} {wc nam names : Nat → Int64} {ki va wo vl ft pl fp but : Int32} {na : Int64}
theorem c_man0 (h : na = 0) : f_X6_takeMan fu ft pl by_ wc ki (wd f) va wo na (wd n) (wd e) nam (wd c) but = some (nn, wd (fk ki 2), wd f, ki, wd f, va, wo, na, wd e) := by
  unfold f_X6_takeMan
  rw [if_pos (show lg_cmp na 0 = 0 by rw [lgc_eq]; exact h), bind_e (show f_X6_fail fu ft pl ki (wd f) 2 = _ from c_fail (x := 2))]
  rfl
theorem c_man1 (h : ¬ na = 0) (hm : f_X0_named fu nam (wd c) na = some nn) : f_X6_takeMan fu ft pl by_ wc ki (wd f) va wo na (wd n) (wd e) nam (wd c) but = some (nn, wd (fk ki 3), wd f, ki, wd f, va, wo, na, wd e) := by
  unfold f_X6_takeMan
  rw [if_neg (show ¬ lg_cmp na 0 = 0 by rw [lgc_eq]; exact h), bind_e hm, if_pos (show nn = -1 from rfl), bind_e (show f_X6_fail fu ft pl ki (wd f) 3 = _ from c_fail (x := 3))]
  rfl
theorem ne_nn {m : Nat} (h : m < 2147483648) : ¬ wd m = -1 := by
  show ¬ wd m = nn
  rw [wd_eqm h]; exact id
theorem c_man2 (h : ¬ na = 0) (hm : f_X0_named fu nam (wd c) na = some (wd m)) (h8 : m < 8) : f_X6_takeMan fu ft pl by_ wc ki (wd f) va wo na (wd n) (wd e) nam (wd c) (wd m) = some (nn, wd (fk ki 5), wd f, ki, wd f, va, wo, na, wd e) := by
  unfold f_X6_takeMan
  rw [if_neg (show ¬ lg_cmp na 0 = 0 by rw [lgc_eq]; exact h), bind_e hm, if_neg (ne_nn (by omega)), if_pos rfl, bind_e (show f_X6_fail fu ft pl ki (wd f) 5 = _ from c_fail (x := 5))]
  rfl
theorem c_man3 {z : Int32 × Int32 × Int32 × Int32 × Int64 × Int32} (h : ¬ na = 0) (hm : f_X0_named fu nam (wd c) na = some (wd m)) (h8 : m < 8) (hb : ¬ wd m = but) (hn : f_X7_next fu by_ wc ki (wd f) va wo na (wd n) (wd e) = some z) : f_X6_takeMan fu ft pl by_ wc ki (wd f) va wo na (wd n) (wd e) nam (wd c) but = some (wd m, ft, pl, z.1, z.2.1, z.2.2.1, z.2.2.2.1, z.2.2.2.2.1, z.2.2.2.2.2) := by
  unfold f_X6_takeMan
  rw [if_neg (show ¬ lg_cmp na 0 = 0 by rw [lgc_eq]; exact h), bind_e hm, if_neg (ne_nn (by omega)), if_neg hb, bind_e hn]
theorem r_old0 (h : f_X12_isName fu 1 text (wd n) ki (wd f) (wd e) = some (wd 0)) : f_X12_oldOne fu at_ names text (wd n) ki (wd f) (wd e) vl fp (wd 0) (wd base) (wd c) (wd to) = some (wd 0, at_, ki, wd f, wd e, vl, wd f, wd (fk ki 2)) := by
  unfold f_X12_oldOne
  rw [bind_e h, if_pos (show wd 0 = 0 from rfl), bind_e (show f_X12_fails fu ki (wd f) fp (wd 0) 2 = _ from r_fails (x := 2))]
  rfl
theorem r_old1 (hto : to < 3648) (h : f_X12_isName fu 1 text (wd n) ki (wd f) (wd e) = some (wd 1)) (hm : f_X12_findHere fu names text (wd n) (wd f) (wd e) (wd base) (wd c) = some nn) : f_X12_oldOne fu at_ names text (wd n) ki (wd f) (wd e) vl fp (wd 0) (wd base) (wd c) (wd to) = some (wd 0, upd at_ to nn, ki, wd f, wd e, vl, wd f, wd (fk ki 3)) := by
  unfold f_X12_oldOne
  rw [bind_e h, if_neg (show ¬ wd 1 = 0 by decide), bind_e hm, bind_e (wrI_wd hto (by omega)), bind_e (rdI_wd hto (by omega)), upd_eq, if_pos (show nn = -1 from rfl), bind_e (show f_X12_fails fu ki (wd f) fp (wd 0) 3 = _ from r_fails (x := 3))]
  rfl
theorem r_old3 {z : Int32 × Int32 × Int32 × Int32} (hto : to < 3648) (h8 : m < 8) (h : f_X12_isName fu 1 text (wd n) ki (wd f) (wd e) = some (wd 1)) (hm : f_X12_findHere fu names text (wd n) (wd f) (wd e) (wd base) (wd c) = some (wd m)) (hn : f_X12_ahead fu text (wd n) ki (wd f) (wd e) vl = some z) : f_X12_oldOne fu at_ names text (wd n) ki (wd f) (wd e) vl fp (wd 0) (wd base) (wd c) (wd to) = some (wd 1, upd at_ to (wd m), z.1, z.2.1, z.2.2.1, z.2.2.2, fp, wd 0) := by
  unfold f_X12_oldOne
  rw [bind_e h, if_neg (show ¬ wd 1 = 0 by decide), bind_e hm, bind_e (wrI_wd hto (by omega)), bind_e (rdI_wd hto (by omega)), upd_eq, if_neg (ne_nn (by omega)), bind_e hn]
  rfl
/-- a man by his name -/
theorem x_man (h8 : c ≤ 8) (hb : base + 8 ≤ 48) (hN : ∀ m, m < c → NC (nam m) (names (base + m))) (hto : to < 3648) (hT : TXT b n by_ text) (hWc : RWc wc) (h : TOK b n f e ki va wo na vl) (hf : 1000 ≤ fu) : (∃ m f' e' ki' va' wo' na' vl', m < c ∧ e ≤ f' ∧ TOK b n f' e' ki' va' wo' na' vl' ∧ f_X6_takeMan fu ft pl by_ wc ki (wd f) va wo na (wd n) (wd e) nam (wd c) nn = some (wd m, ft, pl, ki', wd f', va', wo', na', wd e') ∧ f_X12_oldOne fu at_ names text (wd n) ki (wd f) (wd e) vl fp (wd 0) (wd base) (wd c) (wd to) = some (wd 1, upd at_ to (wd m), ki', wd f', wd e', vl', fp, wd 0)) ∨ (∃ x at', 0 < x ∧ x ≤ 9 ∧ (∀ j, j ≠ to → at' j = at_ j) ∧ f_X6_takeMan fu ft pl by_ wc ki (wd f) va wo na (wd n) (wd e) nam (wd c) nn = some (nn, wd x, wd f, ki, wd f, va, wo, na, wd e) ∧ f_X12_oldOne fu at_ names text (wd n) ki (wd f) (wd e) vl fp (wd 0) (wd base) (wd c) (wd to) = some (wd 0, at', ki, wd f, wd e, vl, wd f, wd x)) := by
  rcases tok_name hT h hf with ⟨h1, h2⟩ | ⟨h1, h2, _, l, l1, l2, l3, l4⟩
  · exact Or.inr ⟨fk ki 2, at_, fk_0 (by omega), fk_9 (by omega), fun _ _ => rfl, c_man0 h1, r_old0 h2⟩
  · obtain ⟨r, r1, r2, r3, r4⟩ := t_named h8 hb hN l1 l2 l3 l4 hf
    cases r with
    | none => exact Or.inr ⟨fk ki 3, upd at_ to nn, fk_0 (by omega), fk_9 (by omega), fun j hj => upd_ne hj, c_man1 h1 r3, r_old1 hto h2 r4⟩
    | some m =>
      have hm := (r1 m rfl).1
      obtain ⟨f', e', ki', va', wo', na', vl', k1, k2, k3, k4⟩ := t_next (fu := fu) (ki0 := ki) (st0 := wd f) (va0 := va) (wo0 := wo) (na0 := na) (tk0 := ki) (fr0 := wd f) (vl0 := vl) hT hWc h.le hf
      exact Or.inl ⟨m, f', e', ki', va', wo', na', vl', hm, k1, k4, c_man3 h1 r3 (by omega) (ne_nn (by omega)) k2, r_old3 hto (by omega) h2 r4 k3⟩
end
