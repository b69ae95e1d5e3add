/-! a war's text: what a step holds -/
def ROp (p : Nat → Int32) (w : tX9) (c k : Nat) : Prop := p (6 * k + 4) = wd 0 ∧ ((p (6 * k) = wd 13 ∧ vX9_deed w k = wd 16 ∧ (∃ x, 1 ≤ x ∧ x ≤ 99 ∧ p (6 * k + 1) = wd x ∧ vX9_number w k = wd x)) ∨ (∃ t, t < 3 ∧ p (6 * k) = wd (1216 + t) ∧ vX9_deed w k = wd 12 ∧ vX9_other w k = wd (13 + t) ∧ (∃ m, m < c ∧ p (6 * k + 1) = wd m ∧ vX9_man w k = wd m) ∧ vX9_number w k = p (6 * k + 2) ∧ vX9_sign w k = p (6 * k + 5)))
def ROW (i : Nat) (at2 : Nat → Int32) (man' oth' sgn' num' : Nat → Int32) (c nr : Nat) : Prop := ∀ w : tX9, vX9_deed w nr = wd i → vX9_man w nr = man' nr → vX9_other w nr = oth' nr → vX9_sign w nr = sgn' nr → vX9_number w nr = num' nr → (i ≠ 12 → i ≠ 16 → ∀ N, RRow (shI 2072 at2) w N c nr) ∧ (i = 12 ∨ i = 16 → ROp (shI 2072 at2) w c nr)
def RST (fu n : Nat) (b : Nat → Nat) (by_ text : Nat → Int32) (wc nam names : Nat → Int64) (c nr f e : Nat) (ki va wo : Int32) (na : Int64) (vl ft pl fp : Int32) (at_ man oth sgn num : Nat → Int32) (i : Nat) : Prop := ∃ (g : Bool) (f' e' : Nat) (ki' va' wo' : Int32) (na' : Int64) (vl' ft' pl' fp' fs' : Int32) (man' oth' sgn' num' at2 : Nat → Int32),
  f_X10_takeRest fu ft pl by_ wc ki (wd f) va wo na (wd n) (wd e) man oth sgn num (wd nr) nam (wd c) (wd i) = some (i01 g, ft', pl', ki', wd f', va', wo', na', wd e', man', oth', sgn', num') ∧
  f_X12_warOrder fu at_ names text (wd n) ki (wd f) (wd e) vl fp (wd 0) (wd (km i)) (wd (2072 + 6 * nr)) = some (i01 g, at2, ki', wd f', wd e', vl', fp', fs') ∧
  (∀ j, j < 2072 + 6 * nr ∨ 2072 + 6 * nr + 6 ≤ j → at2 j = at_ j) ∧
  (∀ j, j ≠ nr → man' j = man j ∧ oth' j = oth j ∧ sgn' j = sgn j ∧ num' j = num j) ∧
  (g = true → TOK b n f' e' ki' va' wo' na' vl' ∧ f ≤ f' ∧ ft' = ft ∧ pl' = pl ∧ fp' = fp ∧ fs' = wd 0 ∧ ROW i at2 man' oth' sgn' num' c nr) ∧
  (g = false → ∃ x, 0 < x ∧ x ≤ 9 ∧ ft' = wd x ∧ fs' = wd x ∧ pl' = fp')
section
variable {fu n f e c nr : Nat} {b : Nat → Nat} {by_ text at_ : Nat → Int32} {wc nam names : Nat → Int64} {man oth sgn num : Nat → Int32} {ki va wo vl ft pl fp : Int32} {na : Int64}

/-- a man of the army by his name, in a war's text -/
theorem y_man {to : Nat} (hT : TXT b n by_ text) (hWc : RWc wc) (h : TOK b n f e ki va wo na vl) (hN : ∀ m, m < c → NC (nam m) (names m)) (h8 : c ≤ 8) (hc0 : at_ 0 = wd c) (hto : to < 3648) (hf : 1000 ≤ fu) : (∃ m f' e' ki' va' wo' na' vl', m < c ∧ e ≤ f' ∧ TOK b n f' e' ki' va' wo' na' vl' ∧ f_X6_takeMan fu ft pl by_ wc ki (wd f) va wo na (wd n) (wd e) nam (wd c) (-1) = some (wd m, ft, pl, ki', wd f', va', wo', na', wd e') ∧ f_X12_manTo fu at_ names text (wd n) ki (wd f) (wd e) vl fp (wd 0) (wd to) = some (wd 1, upd at_ to (wd m), ki', wd f', wd e', vl', fp, wd 0)) ∨ (∃ x at', 0 < x ∧ x ≤ 9 ∧ (∀ j, j ≠ to → at' j = at_ j) ∧ f_X6_takeMan fu ft pl by_ wc ki (wd f) va wo na (wd n) (wd e) nam (wd c) (-1) = some (nn, wd x, wd f, ki, wd f, va, wo, na, wd e) ∧ f_X12_manTo fu at_ names text (wd n) ki (wd f) (wd e) vl fp (wd 0) (wd to) = some (wd 0, at', ki, wd f, wd e, vl, wd f, wd x)) := by
  have hmt : ∀ z, f_X12_oldOne fu at_ names text (wd n) ki (wd f) (wd e) vl fp (wd 0) (wd 0) (wd c) (wd to) = some z → bz z.1 = some z.1 → f_X12_manTo fu at_ names text (wd n) ki (wd f) (wd e) vl fp (wd 0) (wd to) = some z := by
    intro z hz hb
    unfold f_X12_manTo
    rw [bind_e (show rdI at_ 3648 0 = some (wd c) from by rw [← hc0]; exact rdI_wd (k := 0) (by omega) (by omega)), bind_e (show f_X12_oldOne fu at_ names text (wd n) ki (wd f) (wd e) vl fp (wd 0) 0 (wd c) (wd to) = some z from hz), bind_e hb]
  rcases x_man (base := 0) (to := to) (at_ := at_) (ft := ft) (pl := pl) (fp := fp) h8 (by omega) (fun m hm => by rw [Nat.zero_add]; exact hN m hm) hto hT hWc h hf with ⟨m, f2, e2, ki2, va2, wo2, na2, vl2, hm, p1, p2, p3, p4⟩ | ⟨x, at', x1, x2, xa, p3, p4⟩
  · exact Or.inl ⟨m, f2, e2, ki2, va2, wo2, na2, vl2, hm, p1, p2, p3, hmt _ p4 rfl⟩
  · exact Or.inr ⟨x, at', x1, x2, xa, p3, hmt _ p4 rfl⟩
theorem in60 (h : nr < 60) : f_X11_within fu (wd nr) 0 59 = some (wd 1) := by
  rw [show f_X11_within fu (wd nr) 0 59 = some (i01 (wn 0 59 (wd nr))) from c_within (a := 0) (b := 59), wn_wd (by omega) (by omega) (by omega), decide_eq_true (show 0 ≤ nr ∧ nr ≤ 59 by omega)]
  rfl
theorem w_bare (hT : TXT b n by_ text) (hWc : RWc wc) (h : TOK b n f e ki va wo na vl) (hN : ∀ m, m < c → NC (nam m) (names m)) (h8 : c ≤ 8) (hc0 : at_ 0 = wd c) (hnr : nr < 60) (hf : 1000 ≤ fu) {i : Nat} (hi : i = 11 ∨ i = 18) (hrow : at_ (2072 + 6 * nr) = wd (km i)) : RST fu n b by_ text wc nam names c nr f e ki va wo na vl ft pl fp at_ man oth sgn num i := by
  refine ⟨true, f, e, ki, va, wo, na, vl, ft, pl, fp, wd 0, man, oth, sgn, num, at_, ?_, ?_, fun _ _ => rfl, fun _ _ => ⟨rfl, rfl, rfl, rfl⟩, fun _ => ⟨h, Nat.le_refl f, rfl, rfl, rfl, rfl, ?_⟩, fun h => (by cases h)⟩
  · unfold f_X10_takeRest
    rw [bind_e (in60 hnr), if_neg (show ¬ wd 1 = 0 by decide)]
    rcases hi with rfl | rfl <;> rfl
  · rcases hi with rfl | rfl <;> rfl
  · intro w hd h1 h2 h3 h4
    refine ⟨fun _ _ N => ?_, fun h => (by omega)⟩
    rcases hi with rfl | rfl
    · exact Or.inr (Or.inr (Or.inr (Or.inr (Or.inl ⟨hrow, hd⟩))))
    · exact Or.inr (Or.inr (Or.inr (Or.inr (Or.inr (Or.inl ⟨hrow, hd⟩)))))
theorem upd3 {g : Nat → Int32} {k : Nat} {v : Int32} : ∀ j, j ≠ k → upd g k v j = g j := fun j hj => upd_ne hj
theorem w_one (hT : TXT b n by_ text) (hWc : RWc wc) (h : TOK b n f e ki va wo na vl) (hN : ∀ m, m < c → NC (nam m) (names m)) (h8 : c ≤ 8) (hc0 : at_ 0 = wd c) (hnr : nr < 60) (hf : 1000 ≤ fu) {i : Nat} (hi : i = 9 ∨ i = 10) (hrow : at_ (2072 + 6 * nr) = wd (km i)) : RST fu n b by_ text wc nam names c nr f e ki va wo na vl ft pl fp at_ man oth sgn num i := by
  have hcj : f_X10_takeRest fu ft pl by_ wc ki (wd f) va wo na (wd n) (wd e) man oth sgn num (wd nr) nam (wd c) (wd i) = (f_X6_takeMan fu ft pl by_ wc ki (wd f) va wo na (wd n) (wd e) nam (wd c) (-1)).bind fun z_47 => (wrI man 60 (wd nr) z_47.1).bind fun w_man_48 => (rdI w_man_48 60 (wd nr)).bind fun y_49 => (if y_49 = (-1) then some (0, z_47.2.1, z_47.2.2.1, z_47.2.2.2.1, z_47.2.2.2.2.1, z_47.2.2.2.2.2.1, z_47.2.2.2.2.2.2.1, z_47.2.2.2.2.2.2.2.1, z_47.2.2.2.2.2.2.2.2, w_man_48, oth, sgn, num) else some (1, z_47.2.1, z_47.2.2.1, z_47.2.2.2.1, z_47.2.2.2.2.1, z_47.2.2.2.2.2.1, z_47.2.2.2.2.2.2.1, z_47.2.2.2.2.2.2.2.1, z_47.2.2.2.2.2.2.2.2, w_man_48, oth, sgn, num)) := by
    unfold f_X10_takeRest
    rw [bind_e (in60 hnr), if_neg (show ¬ wd 1 = 0 by decide)]
    rcases hi with rfl | rfl <;> rfl
  have hrj : f_X12_warOrder fu at_ names text (wd n) ki (wd f) (wd e) vl fp (wd 0) (wd (km i)) (wd (2072 + 6 * nr)) = (f_X12_manTo fu at_ names text (wd n) ki (wd f) (wd e) vl fp (wd 0) (wd (2072 + 6 * nr + 1))).bind fun z_35 => (bz z_35.1).bind fun _ => some (z_35.1, z_35.2.1, z_35.2.2.1, z_35.2.2.2.1, z_35.2.2.2.2.1, z_35.2.2.2.2.2.1, z_35.2.2.2.2.2.2.1, z_35.2.2.2.2.2.2.2) := by
    unfold f_X12_warOrder
    rw [show wd (2072 + 6 * nr) + 1 = wd (2072 + 6 * nr + 1) from wd_add _ 1]
    rcases hi with rfl | rfl <;> rfl
  rcases y_man (to := 2072 + 6 * nr + 1) (at_ := at_) (ft := ft) (pl := pl) (fp := fp) hT hWc h hN h8 hc0 (by omega) hf with ⟨m, f2, e2, ki2, va2, wo2, na2, vl2, hm, p1, p2, p3, p4⟩ | ⟨x, at', x1, x2, xa, p3, p4⟩
  · refine ⟨true, f2, e2, ki2, va2, wo2, na2, vl2, ft, pl, fp, wd 0, upd man nr (wd m), oth, sgn, num, upd at_ (2072 + 6 * nr + 1) (wd m), ?_, ?_, fun j hj => upd_ne (by omega), fun j hj => ⟨upd_ne hj, rfl, rfl, rfl⟩, fun _ => ⟨p2, by have := h.fe; omega, rfl, rfl, rfl, rfl, ?_⟩, fun h => (by cases h)⟩
    · rw [hcj, bind_e p3, bind_e (wrI_wd hnr (by omega)), bind_e (rdI_wd hnr (by omega)), upd_eq, if_neg (ne_nn (by omega))]
      rfl
    · rw [hrj, bind_e p4]
      rfl
    · intro w hd h1 h2 h3 h4
      refine ⟨fun _ _ N => ?_, fun h => (by omega)⟩
      have q0 : shI 2072 (upd at_ (2072 + 6 * nr + 1) (wd m)) (6 * nr) = wd (km i) := (upd_ne (by omega)).trans hrow
      have q1 : shI 2072 (upd at_ (2072 + 6 * nr + 1) (wd m)) (6 * nr + 1) = wd m := upd_eq
      rw [upd_eq] at h1
      rcases hi with rfl | rfl
      · exact Or.inr (Or.inr (Or.inl ⟨q0, hd, m, hm, q1, h1⟩))
      · exact Or.inr (Or.inr (Or.inr (Or.inl ⟨q0, hd, m, hm, q1, h1⟩)))
  · refine ⟨false, f, e, ki, va, wo, na, vl, wd x, wd f, wd f, wd x, upd man nr nn, oth, sgn, num, at', ?_, ?_, fun j hj => xa j (by omega), fun j hj => ⟨upd_ne hj, rfl, rfl, rfl⟩, fun h => (by cases h), fun _ => ⟨x, x1, x2, rfl, rfl, rfl⟩⟩
    · rw [hcj, bind_e p3, bind_e (wrI_wd hnr (by omega)), bind_e (rdI_wd hnr (by omega)), upd_eq, if_pos (show nn = -1 from rfl)]
      rfl
    · rw [hrj, bind_e p4]
      rfl
theorem w_loop (hT : TXT b n by_ text) (hWc : RWc wc) (h : TOK b n f e ki va wo na vl) (hN : ∀ m, m < c → NC (nam m) (names m)) (h8 : c ≤ 8) (hc0 : at_ 0 = wd c) (hnr : nr < 60) (hf : 1000 ≤ fu) (hrow : at_ (2072 + 6 * nr) = wd 13) (hr4 : at_ (2072 + 6 * nr + 4) = wd 0) : RST fu n b by_ text wc nam names c nr f e ki va wo na vl ft pl fp at_ man oth sgn num 16 := by
  have hcj : f_X10_takeRest fu ft pl by_ wc ki (wd f) va wo na (wd n) (wd e) man oth sgn num (wd nr) nam (wd c) (wd 16) = (f_X6_takeNumber fu ft pl by_ wc ki (wd f) va wo na (wd n) (wd e) (wd 1) (wd 99)).bind fun z_75 => (wrI num 60 (wd nr) z_75.1).bind fun w_number_76 => (rdI w_number_76 60 (wd nr)).bind fun y_77 => (if y_77 = (-1) then some (0, z_75.2.1, z_75.2.2.1, z_75.2.2.2.1, z_75.2.2.2.2.1, z_75.2.2.2.2.2.1, z_75.2.2.2.2.2.2.1, z_75.2.2.2.2.2.2.2.1, z_75.2.2.2.2.2.2.2.2, man, oth, sgn, w_number_76) else some (1, z_75.2.1, z_75.2.2.1, z_75.2.2.2.1, z_75.2.2.2.2.1, z_75.2.2.2.2.2.1, z_75.2.2.2.2.2.2.1, z_75.2.2.2.2.2.2.2.1, z_75.2.2.2.2.2.2.2.2, man, oth, sgn, w_number_76)) := by
    unfold f_X10_takeRest
    rw [bind_e (in60 hnr), if_neg (show ¬ wd 1 = 0 by decide)]
    rfl
  have hrj : f_X12_warOrder fu at_ names text (wd n) ki (wd f) (wd e) vl fp (wd 0) (wd (km 16)) (wd (2072 + 6 * nr)) = (f_X12_number fu at_ text (wd n) ki (wd f) (wd e) vl fp (wd 0) (wd (2072 + 6 * nr + 1)) (wd 1) (wd 99)).bind fun z_45 => (bz z_45.1).bind fun _ => some (z_45.1, z_45.2.1, z_45.2.2.1, z_45.2.2.2.1, z_45.2.2.2.2.1, z_45.2.2.2.2.2.1, z_45.2.2.2.2.2.2.1, z_45.2.2.2.2.2.2.2) := by
    unfold f_X12_warOrder
    rw [show wd (2072 + 6 * nr) + 1 = wd (2072 + 6 * nr + 1) from wd_add _ 1]
    rfl
  rcases t_number (ft := ft) (pl := pl) (fp := fp) (at_ := at_) (lo := 1) (hi_ := 99) (to := 2072 + 6 * nr + 1) (by omega) (by omega) (by omega) hT hWc h hf with ⟨v, f2, e2, ki2, va2, wo2, na2, vl2, v1, v2, m1, m2, m3, m4⟩ | ⟨x, x1, x2, m3, m4⟩
  · refine ⟨true, f2, e2, ki2, va2, wo2, na2, vl2, ft, pl, fp, wd 0, man, oth, sgn, upd num nr (wd v), upd at_ (2072 + 6 * nr + 1) (wd v), ?_, ?_, fun j hj => upd_ne (by omega), fun j hj => ⟨rfl, rfl, rfl, upd_ne hj⟩, fun _ => ⟨m2, by have := h.fe; omega, rfl, rfl, rfl, rfl, ?_⟩, fun h => (by cases h)⟩
    · rw [hcj, bind_e m3, bind_e (wrI_wd hnr (by omega)), bind_e (rdI_wd hnr (by omega)), upd_eq, if_neg (ne_nn (by omega))]
      rfl
    · rw [hrj, bind_e m4]
      rfl
    · intro w hd h1 h2 h3 h4
      refine ⟨fun _ h => absurd rfl h, fun _ => ?_⟩
      rw [upd_eq] at h4
      exact ⟨(upd_ne (by omega)).trans hr4, Or.inl ⟨(upd_ne (by omega)).trans hrow, hd, v, v1, v2, upd_eq, h4⟩⟩
  · refine ⟨false, f, e, ki, va, wo, na, vl, wd x, wd f, wd f, wd x, man, oth, sgn, upd num nr nn, at_, ?_, ?_, fun _ _ => rfl, fun j hj => ⟨rfl, rfl, rfl, upd_ne hj⟩, fun h => (by cases h), fun _ => ⟨x, x1, x2, rfl, rfl, rfl⟩⟩
    · rw [hcj, bind_e m3, bind_e (wrI_wd hnr (by omega)), bind_e (rdI_wd hnr (by omega)), upd_eq, if_pos (show nn = -1 from rfl)]
      rfl
    · rw [hrj, bind_e m4]
      rfl
theorem w_face (hT : TXT b n by_ text) (hWc : RWc wc) (h : TOK b n f e ki va wo na vl) (hN : ∀ m, m < c → NC (nam m) (names m)) (h8 : c ≤ 8) (hc0 : at_ 0 = wd c) (hnr : nr < 60) (hf : 1000 ≤ fu) (hrow : at_ (2072 + 6 * nr) = wd 7) : RST fu n b by_ text wc nam names c nr f e ki va wo na vl ft pl fp at_ man oth sgn num 7 := by
  have hcj : f_X10_takeRest fu ft pl by_ wc ki (wd f) va wo na (wd n) (wd e) man oth sgn num (wd nr) nam (wd c) (wd 7) = (f_X6_takeMan fu ft pl by_ wc ki (wd f) va wo na (wd n) (wd e) nam (wd c) (-1)).bind fun z_54 => (wrI man 60 (wd nr) z_54.1).bind fun w_man_55 => (rdI w_man_55 60 (wd nr)).bind fun y_56 => (if y_56 = (-1) then f_X10_takeRest_j140 fu by_ wc (wd n) (wd nr) nam (wd c) (wd 7) z_54.2.1 z_54.2.2.1 z_54.2.2.2.1 z_54.2.2.2.2.1 z_54.2.2.2.2.2.1 z_54.2.2.2.2.2.2.1 z_54.2.2.2.2.2.2.2.1 z_54.2.2.2.2.2.2.2.2 w_man_55 oth sgn num (wd nr) (wd nr) (-1) else (f_X6_takeNumber fu z_54.2.1 z_54.2.2.1 by_ wc z_54.2.2.2.1 z_54.2.2.2.2.1 z_54.2.2.2.2.2.1 z_54.2.2.2.2.2.2.1 z_54.2.2.2.2.2.2.2.1 (wd n) z_54.2.2.2.2.2.2.2.2 (wd 1) (wd 99)).bind fun z_58 => f_X10_takeRest_j140 fu by_ wc (wd n) (wd nr) nam (wd c) (wd 7) z_58.2.1 z_58.2.2.1 z_58.2.2.2.1 z_58.2.2.2.2.1 z_58.2.2.2.2.2.1 z_58.2.2.2.2.2.2.1 z_58.2.2.2.2.2.2.2.1 z_58.2.2.2.2.2.2.2.2 w_man_55 oth sgn num (wd nr) (wd nr) z_58.1) := by
    unfold f_X10_takeRest
    rw [bind_e (in60 hnr), if_neg (show ¬ wd 1 = 0 by decide)]
    rfl
  have hj140 : ∀ (ft pl ki st va wo : Int32) (na : Int64) (at2 : Int32) (mn : Nat → Int32) (v : Int32), f_X10_takeRest_j140 fu by_ wc (wd n) (wd nr) nam (wd c) (wd 7) ft pl ki st va wo na at2 mn oth sgn num (wd nr) (wd nr) v = if v = (-1) then some (0, ft, pl, ki, st, va, wo, na, at2, mn, oth, sgn, upd num nr v) else some (1, ft, pl, ki, st, va, wo, na, at2, mn, oth, sgn, upd num nr v) := by
    intro ft pl ki st va wo na at2 mn v
    unfold f_X10_takeRest_j140
    rw [bind_e (wrI_wd hnr (by omega)), bind_e (rdI_wd hnr (by omega)), upd_eq]
  have hrj : f_X12_warOrder fu at_ names text (wd n) ki (wd f) (wd e) vl fp (wd 0) (wd (km 7)) (wd (2072 + 6 * nr)) = (f_X12_manTo fu at_ names text (wd n) ki (wd f) (wd e) vl fp (wd 0) (wd (2072 + 6 * nr + 1))).bind fun z_25 => (if z_25.1 = 0 then some (0, z_25.2.1, z_25.2.2.1, z_25.2.2.2.1, z_25.2.2.2.2.1, z_25.2.2.2.2.2.1, z_25.2.2.2.2.2.2.1, z_25.2.2.2.2.2.2.2) else (f_X12_number fu z_25.2.1 text (wd n) z_25.2.2.1 z_25.2.2.2.1 z_25.2.2.2.2.1 z_25.2.2.2.2.2.1 z_25.2.2.2.2.2.2.1 z_25.2.2.2.2.2.2.2 (wd (2072 + 6 * nr + 2)) (wd 1) (wd 99)).bind fun z_27 => (if z_27.1 = 0 then some (0, z_27.2.1, z_27.2.2.1, z_27.2.2.2.1, z_27.2.2.2.2.1, z_27.2.2.2.2.2.1, z_27.2.2.2.2.2.2.1, z_27.2.2.2.2.2.2.2) else some (1, z_27.2.1, z_27.2.2.1, z_27.2.2.2.1, z_27.2.2.2.2.1, z_27.2.2.2.2.2.1, z_27.2.2.2.2.2.2.1, z_27.2.2.2.2.2.2.2))) := by
    unfold f_X12_warOrder
    rw [show wd (2072 + 6 * nr) + 1 = wd (2072 + 6 * nr + 1) from wd_add _ 1, show wd (2072 + 6 * nr) + 2 = wd (2072 + 6 * nr + 2) from wd_add _ 2]
    rfl
  rcases y_man (to := 2072 + 6 * nr + 1) (at_ := at_) (ft := ft) (pl := pl) (fp := fp) hT hWc h hN h8 hc0 (by omega) hf with ⟨m, f2, e2, ki2, va2, wo2, na2, vl2, hm, p1, p2, p3, p4⟩ | ⟨x, at', x1, x2, xa, p3, p4⟩
  case inr =>
    refine ⟨false, f, e, ki, va, wo, na, vl, wd x, wd f, wd f, wd x, upd man nr nn, oth, sgn, upd num nr nn, at', ?_, ?_, fun j hj => xa j (by omega), fun j hj => ⟨upd_ne hj, rfl, rfl, upd_ne hj⟩, fun h => (by cases h), fun _ => ⟨x, x1, x2, rfl, rfl, rfl⟩⟩
    · rw [hcj, bind_e p3, bind_e (wrI_wd hnr (by omega)), bind_e (rdI_wd hnr (by omega)), upd_eq, if_pos (show nn = -1 from rfl), hj140]
      rfl
    · rw [hrj, bind_e p4]
      rfl
  replace hrj := hrj.trans ((bind_e p4).trans (if_neg (show ¬ wd 1 = 0 by decide)))
  rw [bind_e p3, bind_e (wrI_wd hnr (by omega)), bind_e (rdI_wd hnr (by omega)), upd_eq, if_neg (ne_nn (by omega))] at hcj
  rcases t_number (ft := ft) (pl := pl) (fp := fp) (at_ := upd at_ (2072 + 6 * nr + 1) (wd m)) (lo := 1) (hi_ := 99) (to := 2072 + 6 * nr + 2) (by omega) (by omega) (by omega) hT hWc p2 hf with ⟨v, f3, e3, ki3, va3, wo3, na3, vl3, v1, v2, m1, m2, m3, m4⟩ | ⟨x, x1, x2, m3, m4⟩
  · refine ⟨true, f3, e3, ki3, va3, wo3, na3, vl3, ft, pl, fp, wd 0, upd man nr (wd m), oth, sgn, upd num nr (wd v), upd (upd at_ (2072 + 6 * nr + 1) (wd m)) (2072 + 6 * nr + 2) (wd v), ?_, ?_, fun j hj => (upd_ne (by omega)).trans (upd_ne (by omega)), fun j hj => ⟨upd_ne hj, rfl, rfl, upd_ne hj⟩, fun _ => ⟨m2, by have := h.fe; have := p2.fe; omega, rfl, rfl, rfl, rfl, ?_⟩, fun h => (by cases h)⟩
    · rw [hcj, bind_e m3, hj140, if_neg (ne_nn (by omega))]
      rfl
    · rw [hrj, bind_e m4]
      rfl
    · intro w hd h1 h2 h3 h4
      refine ⟨fun _ _ N => ?_, fun h => (by omega)⟩
      rw [upd_eq] at h1 h4
      exact Or.inl ⟨((upd_ne (by omega)).trans (upd_ne (by omega))).trans hrow, hd, ⟨m, hm, (upd_ne (by omega)).trans upd_eq, h1⟩, h4.trans upd_eq.symm⟩
  · refine ⟨false, f2, e2, ki2, va2, wo2, na2, vl2, wd x, wd f2, wd f2, wd x, upd man nr (wd m), oth, sgn, upd num nr nn, upd at_ (2072 + 6 * nr + 1) (wd m), ?_, ?_, fun j hj => upd_ne (by omega), fun j hj => ⟨upd_ne hj, rfl, rfl, upd_ne hj⟩, fun h => (by cases h), fun _ => ⟨x, x1, x2, rfl, rfl, rfl⟩⟩
    · rw [hcj, bind_e m3, hj140]
      rfl
    · rw [hrj, bind_e m4]
      rfl
theorem w_give (hT : TXT b n by_ text) (hWc : RWc wc) (h : TOK b n f e ki va wo na vl) (hN : ∀ m, m < c → NC (nam m) (names m)) (h8 : c ≤ 8) (hc0 : at_ 0 = wd c) (hnr : nr < 60) (hf : 1000 ≤ fu) (hrow : at_ (2072 + 6 * nr) = wd 8) : RST fu n b by_ text wc nam names c nr f e ki va wo na vl ft pl fp at_ man oth sgn num 8 := by
  have hcj : f_X10_takeRest fu ft pl by_ wc ki (wd f) va wo na (wd n) (wd e) man oth sgn num (wd nr) nam (wd c) (wd 8) = (f_X6_takeMan fu ft pl by_ wc ki (wd f) va wo na (wd n) (wd e) nam (wd c) (-1)).bind fun z_54 => (wrI man 60 (wd nr) z_54.1).bind fun w_man_55 => (rdI w_man_55 60 (wd nr)).bind fun y_56 => (if y_56 = (-1) then f_X10_takeRest_j218 fu by_ wc (wd n) (wd nr) nam (wd c) (wd 8) z_54.2.1 z_54.2.2.1 z_54.2.2.2.1 z_54.2.2.2.2.1 z_54.2.2.2.2.2.1 z_54.2.2.2.2.2.2.1 z_54.2.2.2.2.2.2.2.1 z_54.2.2.2.2.2.2.2.2 w_man_55 oth sgn num (wd nr) (wd nr) (-1) else (f_X6_takeMan fu z_54.2.1 z_54.2.2.1 by_ wc z_54.2.2.2.1 z_54.2.2.2.2.1 z_54.2.2.2.2.2.1 z_54.2.2.2.2.2.2.1 z_54.2.2.2.2.2.2.2.1 (wd n) z_54.2.2.2.2.2.2.2.2 nam (wd c) (-1)).bind fun z_58 => f_X10_takeRest_j218 fu by_ wc (wd n) (wd nr) nam (wd c) (wd 8) z_58.2.1 z_58.2.2.1 z_58.2.2.2.1 z_58.2.2.2.2.1 z_58.2.2.2.2.2.1 z_58.2.2.2.2.2.2.1 z_58.2.2.2.2.2.2.2.1 z_58.2.2.2.2.2.2.2.2 w_man_55 oth sgn num (wd nr) (wd nr) z_58.1) := by
    unfold f_X10_takeRest
    rw [bind_e (in60 hnr), if_neg (show ¬ wd 1 = 0 by decide)]
    rfl
  have hj218 : ∀ (ft pl ki st va wo : Int32) (na : Int64) (at2 : Int32) (mn : Nat → Int32) (v : Int32), f_X10_takeRest_j218 fu by_ wc (wd n) (wd nr) nam (wd c) (wd 8) ft pl ki st va wo na at2 mn oth sgn num (wd nr) (wd nr) v = if v = (-1) then some (0, ft, pl, ki, st, va, wo, na, at2, mn, upd oth nr v, sgn, num) else some (1, ft, pl, ki, st, va, wo, na, at2, mn, upd oth nr v, sgn, num) := by
    intro ft pl ki st va wo na at2 mn v
    unfold f_X10_takeRest_j218
    rw [bind_e (wrI_wd hnr (by omega)), bind_e (rdI_wd hnr (by omega)), upd_eq]
  have hrj : f_X12_warOrder fu at_ names text (wd n) ki (wd f) (wd e) vl fp (wd 0) (wd (km 8)) (wd (2072 + 6 * nr)) = (f_X12_manTo fu at_ names text (wd n) ki (wd f) (wd e) vl fp (wd 0) (wd (2072 + 6 * nr + 1))).bind fun z_25 => (if z_25.1 = 0 then some (0, z_25.2.1, z_25.2.2.1, z_25.2.2.2.1, z_25.2.2.2.2.1, z_25.2.2.2.2.2.1, z_25.2.2.2.2.2.2.1, z_25.2.2.2.2.2.2.2) else (f_X12_manTo fu z_25.2.1 names text (wd n) z_25.2.2.1 z_25.2.2.2.1 z_25.2.2.2.2.1 z_25.2.2.2.2.2.1 z_25.2.2.2.2.2.2.1 z_25.2.2.2.2.2.2.2 (wd (2072 + 6 * nr + 2))).bind fun z_27 => (if z_27.1 = 0 then some (0, z_27.2.1, z_27.2.2.1, z_27.2.2.2.1, z_27.2.2.2.2.1, z_27.2.2.2.2.2.1, z_27.2.2.2.2.2.2.1, z_27.2.2.2.2.2.2.2) else some (1, z_27.2.1, z_27.2.2.1, z_27.2.2.2.1, z_27.2.2.2.2.1, z_27.2.2.2.2.2.1, z_27.2.2.2.2.2.2.1, z_27.2.2.2.2.2.2.2))) := by
    unfold f_X12_warOrder
    rw [show wd (2072 + 6 * nr) + 1 = wd (2072 + 6 * nr + 1) from wd_add _ 1, show wd (2072 + 6 * nr) + 2 = wd (2072 + 6 * nr + 2) from wd_add _ 2]
    rfl
  rcases y_man (to := 2072 + 6 * nr + 1) (at_ := at_) (ft := ft) (pl := pl) (fp := fp) hT hWc h hN h8 hc0 (by omega) hf with ⟨m, f2, e2, ki2, va2, wo2, na2, vl2, hm, p1, p2, p3, p4⟩ | ⟨x, at', x1, x2, xa, p3, p4⟩
  case inr =>
    refine ⟨false, f, e, ki, va, wo, na, vl, wd x, wd f, wd f, wd x, upd man nr nn, upd oth nr nn, sgn, num, at', ?_, ?_, fun j hj => xa j (by omega), fun j hj => ⟨upd_ne hj, upd_ne hj, rfl, rfl⟩, fun h => (by cases h), fun _ => ⟨x, x1, x2, rfl, rfl, rfl⟩⟩
    · rw [hcj, bind_e p3, bind_e (wrI_wd hnr (by omega)), bind_e (rdI_wd hnr (by omega)), upd_eq, if_pos (show nn = -1 from rfl), hj218]
      rfl
    · rw [hrj, bind_e p4]
      rfl
  replace hrj := hrj.trans ((bind_e p4).trans (if_neg (show ¬ wd 1 = 0 by decide)))
  rw [bind_e p3, bind_e (wrI_wd hnr (by omega)), bind_e (rdI_wd hnr (by omega)), upd_eq, if_neg (ne_nn (by omega))] at hcj
  rcases y_man (to := 2072 + 6 * nr + 2) (at_ := upd at_ (2072 + 6 * nr + 1) (wd m)) (ft := ft) (pl := pl) (fp := fp) hT hWc p2 hN h8 ((upd_ne (by omega)).trans hc0) (by omega) hf with ⟨m', f3, e3, ki3, va3, wo3, na3, vl3, hm', m1, m2, m3, m4⟩ | ⟨x, at', x1, x2, xa, m3, m4⟩
  · refine ⟨true, f3, e3, ki3, va3, wo3, na3, vl3, ft, pl, fp, wd 0, upd man nr (wd m), upd oth nr (wd m'), sgn, num, upd (upd at_ (2072 + 6 * nr + 1) (wd m)) (2072 + 6 * nr + 2) (wd m'), ?_, ?_, fun j hj => (upd_ne (by omega)).trans (upd_ne (by omega)), fun j hj => ⟨upd_ne hj, upd_ne hj, rfl, rfl⟩, fun _ => ⟨m2, by have := h.fe; have := p2.fe; omega, rfl, rfl, rfl, rfl, ?_⟩, fun h => (by cases h)⟩
    · rw [hcj, bind_e m3, hj218, if_neg (ne_nn (by omega))]
      rfl
    · rw [hrj, bind_e m4]
      rfl
    · intro w hd h1 h2 h3 h4
      refine ⟨fun _ _ N => ?_, fun h => (by omega)⟩
      rw [upd_eq] at h1 h2
      exact Or.inr (Or.inl ⟨((upd_ne (by omega)).trans (upd_ne (by omega))).trans hrow, hd, ⟨m, hm, (upd_ne (by omega)).trans upd_eq, h1⟩, ⟨m', hm', upd_eq, h2⟩⟩)
  · refine ⟨false, f2, e2, ki2, va2, wo2, na2, vl2, wd x, wd f2, wd f2, wd x, upd man nr (wd m), upd oth nr nn, sgn, num, at', ?_, ?_, fun j hj => (xa j (by omega)).trans (upd_ne (by omega)), fun j hj => ⟨upd_ne hj, upd_ne hj, rfl, rfl⟩, fun h => (by cases h), fun _ => ⟨x, x1, x2, rfl, rfl, rfl⟩⟩
    · rw [hcj, bind_e m3, hj218]
      rfl
    · rw [hrj, bind_e m4]
      rfl
end
