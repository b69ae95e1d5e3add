section
variable {fu n f e c : Nat} {b : Nat → Nat} {by_ text at_ : Nat → Int32} {wc nam names : Nat → Int64} {cou wei med sto fle lik : Nat → Int32} {cnt liv pri quo mel los : Int32} {ki va wo vl ft pl fp told pt qt : Int32} {na : Int64}

/-- a like's part -/
theorem a_like (hT : TXT b n by_ text) (hWc : RWc wc) (h : TOK b n f e ki va wo na vl) (hA : AIV c at_ names told pt qt nam cou wei med sto fle lik cnt liv pri quo mel los) (hf : 1000 ≤ fu) (hwo : wo = wd 6) : APT fu n b by_ text wc f e ki va wo na vl ft pl fp told at_ names pt qt nam cou wei med sto fle lik cnt liv pri quo mel los := by
  have hk2 := h.ki2 hwo (by omega)
  have h0 : ¬ ki = wd 0 := by rw [hk2]; decide
  obtain ⟨aW, aR, aN, a5, aZ, aL, t, ht, etold, ept, eqt⟩ := hA
  have h8 := aW.1
  have hc0 : at_ 1952 = wd c := aW.2.1
  have ec := aR.2.1
  have el := aR.2.2.1
  have hkm : km 6 = 3 := by decide +kernel
  have hiw : f_X12_inWords fu 1 text (wd n) ki (wd f) (wd e) = some (wd 3) := by
    rcases tok_word hT h hf with ⟨g, _⟩ | ⟨i, hi, g, _, h2⟩
    · rw [hwo, wd_eqm (by omega)] at g; exact g.elim
    · rw [hwo, wd_inj (by omega) (by omega)] at g
      subst g; rw [hkm] at h2; exact h2
  have hcl : ∀ N p, p ≤ 900 → f_X1_readDraft_l21 fu by_ wc (wd n) (N + 1) pt qt ft pl ki (wd f) va wo na (wd e) nam cou wei med sto fle lik cnt liv pri quo mel los (wd 1) (wd p) = (f_X1_takeLikes fu ft pl by_ wc ki (wd f) va wo na (wd n) (wd e) nam lik cnt).bind fun z => f_X1_readDraft_l21 fu by_ wc (wd n) N pt qt z.2.1 z.2.2.1 z.2.2.2.1 z.2.2.2.2.1 z.2.2.2.2.2.1 z.2.2.2.2.2.2.1 z.2.2.2.2.2.2.2.1 z.2.2.2.2.2.2.2.2.1 nam cou wei med sto fle z.2.2.2.2.2.2.2.2.2 cnt liv pri quo mel los z.1 (wd (p + 1)) := by
    intro N p hp
    rw [f_X1_readDraft_l21, f_X1_readDraft_b21, show (900 : Int32) = wd 900 from wd_lit 900, if_neg (by rw [wd_lt (by omega) (by omega)]; omega), if_neg (show ¬ wd 1 = 0 by decide), bind_e (c_atEnd h0), if_pos (show wd 0 = 0 from rfl), hwo, if_neg (show ¬ wd 6 = 0 by decide), if_neg (show ¬ wd 6 = 1 by decide), if_neg (show ¬ wd 6 = 2 by decide), if_neg (show ¬ wd 6 = 3 by decide), if_neg (show ¬ wd 6 = 4 by decide), if_neg (show ¬ wd 6 = 5 by decide), if_pos (show wd 6 = 6 from rfl)]
    simp only [bnd]
    rw [show wd p + 1 = wd (p + 1) from wd_add p 1]
  have hrp : f_X12_armyPart fu at_ names text (wd n) ki (wd f) (wd e) vl fp (wd 0) told = (f_X12_aLike fu at_ names text (wd n) ki (wd f) (wd e) vl fp (wd 0)).bind fun y => f_X12_armyPart_j133 fu text (wd n) y.2.1 names y.2.2.1 y.2.2.2.1 y.2.2.2.2.1 y.2.2.2.2.2.1 y.2.2.2.2.2.2.1 y.2.2.2.2.2.2.2 (wd (t ||| 1 <<< 3)) y.1 := by
    unfold f_X12_armyPart
    rw [bind_e hiw, if_neg (show ¬ wd 3 < 0 by decide), if_pos (show wd 3 ≤ 3 by decide), if_pos (show 1 < wd 3 by decide), etold]
    unfold f_X12_armyPart_j45
    simp only [bnd]
    rw [if_pos (show 1 < wd 3 by decide), show (1 : Int32) <<< (wd 3 &&& 31) = wd (1 <<< 3) from by decide, wd_or]
    rfl
  have hrd : ∀ x : Nat → Int32, x 1952 = wd c → rdI x 3648 1952 = some (wd c) := by
    intro x hx
    rw [show (1952 : Int32) = wd 1952 from wd_lit 1952, rdI_wd (by omega) (by omega), hx]
  have hfail : ∀ (x f' e' : Nat) (ki' va' wo' : Int32) (na' : Int64) (vl' : Int32) (at' : Nat → Int32), 0 < x → x ≤ 9 → (∀ i, i < 1952 → at' i = at_ i) → f_X1_takeLikes fu ft pl by_ wc ki (wd f) va wo na (wd n) (wd e) nam lik cnt = some (wd 0, wd x, wd f', ki', wd f', va', wo', na', wd e', lik) → f_X12_aLike fu at_ names text (wd n) ki (wd f) (wd e) vl fp (wd 0) = some (wd 0, at', ki', wd f', wd e', vl', wd f', wd x) → APT fu n b by_ text wc f e ki va wo na vl ft pl fp told at_ names pt qt nam cou wei med sto fle lik cnt liv pri quo mel los := by
    intro x f' e' ki' va' wo' na' vl' at' x1 x2 ha hc hr
    refine ⟨false, f', e', ki', va', wo', na', vl', wd x, wd f', wd f', wd x, wd (t ||| 1 <<< 3), pt, qt, at', names, nam, cou, wei, med, sto, fle, lik, cnt, liv, pri, quo, mel, los, ?_, ?_, ha, fun _ _ => rfl, fun h => (by cases h), fun _ => ⟨x, x1, x2, rfl, rfl, rfl⟩⟩
    · intro N p hp
      rw [hcl N p hp, bind_e hc]
      rfl
    · rw [hrp, bind_e hr]
      rfl
  have hNn : ∀ m, m < c → NC (nam m) (names (32 + m)) := aN
  obtain ⟨f1, e1, ki1, va1, wo1, na1, vl1, k1, k2, k3, k4⟩ := t_next (fu := fu) (ki0 := ki) (st0 := wd f) (va0 := va) (wo0 := wo) (na0 := na) (tk0 := ki) (fr0 := wd f) (vl0 := vl) hT hWc h.le hf
  have hcA : f_X1_takeLikes fu ft pl by_ wc ki (wd f) va wo na (wd n) (wd e) nam lik cnt = (f_X6_takeMan fu ft pl by_ wc ki1 (wd f1) va1 wo1 na1 (wd n) (wd e1) nam (wd c) nn).bind fun z_18 => (if z_18.1 = (-1) then f_X1_takeLikes_j44 fu by_ wc (wd n) nam cnt z_18.2.1 z_18.2.2.1 z_18.2.2.2.1 z_18.2.2.2.2.1 z_18.2.2.2.2.2.1 z_18.2.2.2.2.2.2.1 z_18.2.2.2.2.2.2.2.1 z_18.2.2.2.2.2.2.2.2 lik z_18.1 (-1) else (f_X6_takeMan fu z_18.2.1 z_18.2.2.1 by_ wc z_18.2.2.2.1 z_18.2.2.2.2.1 z_18.2.2.2.2.2.1 z_18.2.2.2.2.2.2.1 z_18.2.2.2.2.2.2.2.1 (wd n) z_18.2.2.2.2.2.2.2.2 nam (wd c) z_18.1).bind fun z_20 => f_X1_takeLikes_j44 fu by_ wc (wd n) nam cnt z_20.2.1 z_20.2.2.1 z_20.2.2.2.1 z_20.2.2.2.2.1 z_20.2.2.2.2.2.1 z_20.2.2.2.2.2.2.1 z_20.2.2.2.2.2.2.2.1 z_20.2.2.2.2.2.2.2.2 lik z_18.1 z_20.1) := by
    rw [← ec]
    unfold f_X1_takeLikes
    rw [bind_e k2]
    rfl
  have hrA : f_X12_aLike fu at_ names text (wd n) ki (wd f) (wd e) vl fp (wd 0) = (f_X12_oldOne fu at_ names text (wd n) ki1 (wd f1) (wd e1) vl1 fp (wd 0) (wd 32) (wd c) (wd 2432)).bind fun z_31 => (if z_31.1 = 0 then some (0, z_31.2.1, z_31.2.2.1, z_31.2.2.2.1, z_31.2.2.2.2.1, z_31.2.2.2.2.2.1, z_31.2.2.2.2.2.2.1, z_31.2.2.2.2.2.2.2) else (f_X12_isName fu 1 text (wd n) z_31.2.2.1 z_31.2.2.2.1 z_31.2.2.2.2.1).bind fun z_33 => (if z_33 = 0 then f_X12_aLike_j66 fu names text (wd n) z_31.2.1 z_31.2.2.1 z_31.2.2.2.1 z_31.2.2.2.2.1 z_31.2.2.2.2.2.1 z_31.2.2.2.2.2.2.1 z_31.2.2.2.2.2.2.2 (wd 2432) else (rdI z_31.2.1 3648 1952).bind fun y_35 => (f_X12_findHere fu names text (wd n) z_31.2.2.2.1 z_31.2.2.2.2.1 32 y_35).bind fun z_36 => (rdI z_31.2.1 3648 (wd 2432)).bind fun y_37 => (if z_36 = y_37 then (f_X12_fails fu z_31.2.2.1 z_31.2.2.2.1 z_31.2.2.2.2.2.2.1 z_31.2.2.2.2.2.2.2 5).bind fun z_39 => (bz z_39.1).bind fun _ => some (z_39.1, z_31.2.1, z_31.2.2.1, z_31.2.2.2.1, z_31.2.2.2.2.1, z_31.2.2.2.2.2.1, z_39.2.1, z_39.2.2) else f_X12_aLike_j66 fu names text (wd n) z_31.2.1 z_31.2.2.1 z_31.2.2.2.1 z_31.2.2.2.2.1 z_31.2.2.2.2.2.1 z_31.2.2.2.2.2.2.1 z_31.2.2.2.2.2.2.2 (wd 2432)))) := by
    unfold f_X12_aLike
    rw [bind_e k3, bind_e (hrd _ hc0), show (2432 : Int32) = wd 2432 from wd_lit 2432]
    rfl
  have hag1 : ∀ (a : Nat → Int32) (k : Nat) (v : Int32), 1952 ≤ k → (∀ i, i < 1952 → a i = at_ i) → ∀ i, i < 1952 → upd a k v i = at_ i := by
    intro a k v hk ha i hi
    rw [upd_ne (by omega)]; exact ha i hi
  rcases x_man (base := 32) (to := 2432) (at_ := at_) (ft := ft) (pl := pl) (fp := fp) h8 (by omega) hNn (by omega) hT hWc k4 hf with ⟨m, f2, e2, ki2, va2, wo2, na2, vl2, hm, p1, p2, p3, p4⟩ | ⟨x, at', x1, x2, xa, p3, p4⟩
  case inr =>
    refine hfail x f1 e1 ki1 va1 wo1 na1 vl1 at' x1 x2 (fun i hi => xa i (by omega)) ?_ ?_
    · rw [hcA, bind_e p3]; rfl
    · rw [hrA, bind_e p4]; rfl
  replace hcA := hcA.trans ((bind_e p3).trans (if_neg (ne_nn (m := m) (by omega))))
  replace hrA := hrA.trans ((bind_e p4).trans (if_neg (show ¬ wd 1 = 0 by decide)))
  have g1 := hag1 at_ 2432 (wd m) (by omega) (fun _ _ => rfl)
  have h12 : upd at_ 2432 (wd m) 1952 = wd c := by rw [upd_ne (by omega)]; exact hc0
  have hj66 : ∀ (ki fr en vl fp fs : Int32), f_X12_aLike_j66 fu names text (wd n) (upd at_ 2432 (wd m)) ki fr en vl fp fs (wd 2432) = (f_X12_oldOne fu (upd at_ 2432 (wd m)) names text (wd n) ki fr en vl fp fs (wd 32) (wd c) (wd 2433)).bind fun z_22 => (if z_22.1 = 0 then some (0, z_22.2.1, z_22.2.2.1, z_22.2.2.2.1, z_22.2.2.2.2.1, z_22.2.2.2.2.2.1, z_22.2.2.2.2.2.2.1, z_22.2.2.2.2.2.2.2) else (rdI z_22.2.1 3648 (wd 2432)).bind fun y_24 => (f_X12_manRow fu y_24).bind fun z_25 => (rdI z_22.2.1 3648 (wd 2433)).bind fun y_26 => (f_X12_number fu z_22.2.1 text (wd n) z_22.2.2.1 z_22.2.2.2.1 z_22.2.2.2.2.1 z_22.2.2.2.2.2.1 z_22.2.2.2.2.2.2.1 z_22.2.2.2.2.2.2.2 (((1952 + z_25) + 6) + y_26) 0 9).bind fun z_27 => (if z_27.1 = 0 then some (0, z_27.2.1, z_27.2.2.1, z_27.2.2.2.1, z_27.2.2.2.2.1, z_27.2.2.2.2.2.1, z_27.2.2.2.2.2.2.1, z_27.2.2.2.2.2.2.2) else some (1, z_27.2.1, z_27.2.2.1, z_27.2.2.2.1, z_27.2.2.2.2.1, z_27.2.2.2.2.2.1, z_27.2.2.2.2.2.2.1, z_27.2.2.2.2.2.2.2))) := by
    intro ki fr en vl fp fs
    unfold f_X12_aLike_j66
    rw [bind_e (hrd _ h12), show wd 2432 + 1 = wd 2433 from wd_add 2432 1]
    rfl
  rcases tok_name hT p2 hf with ⟨n1, n2⟩ | ⟨n1, n2, n3, l, l1, l2, l3, l4⟩
  · refine hfail (fk ki2 2) f2 e2 ki2 va2 wo2 na2 vl2 (upd at_ 2432 (wd m)) (fk_0 (by omega)) (fk_9 (by omega)) g1 ?_ ?_
    · rw [hcA, bind_e (c_man0 n1)]; rfl
    · rw [hrA, bind_e n2]
      show f_X12_aLike_j66 fu names text (wd n) (upd at_ 2432 (wd m)) ki2 (wd f2) (wd e2) vl2 fp (wd 0) (wd 2432) = _
      rw [hj66, bind_e (r_old0 n2)]
      rfl
  obtain ⟨r, r1, r2, r3, r4⟩ := t_named (base := 32) h8 (by omega) hNn l1 l2 l3 l4 hf
  have hrB : f_X12_aLike fu at_ names text (wd n) ki (wd f) (wd e) vl fp (wd 0) = (if oe r = wd m then (f_X12_fails fu ki2 (wd f2) fp (wd 0) 5).bind fun z_39 => (bz z_39.1).bind fun _ => some (z_39.1, upd at_ 2432 (wd m), ki2, wd f2, wd e2, vl2, z_39.2.1, z_39.2.2) else f_X12_aLike_j66 fu names text (wd n) (upd at_ 2432 (wd m)) ki2 (wd f2) (wd e2) vl2 fp (wd 0) (wd 2432)) := by
    rw [hrA, bind_e n2]
    show (if wd 1 = 0 then _ else _) = _
    rw [if_neg (show ¬ wd 1 = 0 by decide), bind_e (show rdI (upd at_ 2432 (wd m)) 3648 1952 = some (wd c) from hrd _ h12), bind_e (show f_X12_findHere fu names text (wd n) (wd f2) (wd e2) 32 (wd c) = _ from r4), bind_e (show rdI (upd at_ 2432 (wd m)) 3648 (wd 2432) = some (wd m) from by rw [rdI_wd (by omega) (by omega), upd_eq])]
  cases r with
  | none =>
    rw [if_neg (show ¬ oe none = wd m from by
      show ¬ nn = wd m
      rw [wd_eqm' (by omega)]; exact id), hj66] at hrB
    refine hfail (fk ki2 3) f2 e2 ki2 va2 wo2 na2 vl2 (upd (upd at_ 2432 (wd m)) 2433 nn) (fk_0 (by omega)) (fk_9 (by omega)) (hag1 _ 2433 nn (by omega) g1) ?_ ?_
    · rw [hcA, bind_e (c_man1 n1 r3)]; rfl
    · rw [hrB, bind_e (r_old1 (by omega) n2 r4)]; rfl
  | some m2 =>
    have hm2 := (r1 m2 rfl).1
    by_cases hmm : m2 = m
    · subst hmm
      rw [if_pos (show oe (some m2) = wd m2 from rfl), bind_e (show f_X12_fails fu ki2 (wd f2) fp (wd 0) 5 = _ from r_fails (x := 5))] at hrB
      refine hfail (fk ki2 5) f2 e2 ki2 va2 wo2 na2 vl2 (upd at_ 2432 (wd m2)) (fk_0 (by omega)) (fk_9 (by omega)) g1 ?_ ?_
      · rw [hcA, bind_e (show f_X6_takeMan fu ft pl by_ wc ki2 (wd f2) va2 wo2 na2 (wd n) (wd e2) nam (wd c) (wd m2) = _ from c_man2 n1 r3 (by omega))]; rfl
      · rw [hrB]; rfl
    · have hne : ¬ wd m2 = wd m := by rw [wd_inj (by omega) (by omega)]; exact hmm
      rw [if_neg (show ¬ oe (some m2) = wd m from hne), hj66] at hrB
      obtain ⟨f3, e3, ki3, va3, wo3, na3, vl3, q0, q2, q4, q1'⟩ := t_next (fu := fu) (ki0 := ki2) (st0 := wd f2) (va0 := va2) (wo0 := wo2) (na0 := na2) (tk0 := ki2) (fr0 := wd f2) (vl0 := vl2) hT hWc p2.le hf
      have c3 : f_X6_takeMan fu ft pl by_ wc ki2 (wd f2) va2 wo2 na2 (wd n) (wd e2) nam (wd c) (wd m) = some (wd m2, ft, pl, ki3, wd f3, va3, wo3, na3, wd e3) := c_man3 n1 r3 (by omega) hne q2
      have hcB : f_X1_takeLikes fu ft pl by_ wc ki (wd f) va wo na (wd n) (wd e) nam lik cnt = (f_X6_takeNumber fu ft pl by_ wc ki3 (wd f3) va3 wo3 na3 (wd n) (wd e3) (wd 0) (wd 9)).bind fun z_16 => f_X1_takeLikes_j64 fu by_ wc (wd n) nam cnt z_16.2.1 z_16.2.2.1 z_16.2.2.2.1 z_16.2.2.2.2.1 z_16.2.2.2.2.2.1 z_16.2.2.2.2.2.2.1 z_16.2.2.2.2.2.2.2.1 z_16.2.2.2.2.2.2.2.2 lik (wd m) (wd m2) z_16.1 := by
        rw [hcA, bind_e c3]
        show f_X1_takeLikes_j44 fu by_ wc (wd n) nam cnt ft pl ki3 (wd f3) va3 wo3 na3 (wd e3) lik (wd m) (wd m2) = _
        unfold f_X1_takeLikes_j44
        rw [if_neg (ne_nn (by omega))]
        rfl
      generalize hA2 : upd (upd at_ 2432 (wd m)) 2433 (wd m2) = A2
      have hA2a : A2 2432 = wd m := by rw [← hA2, upd_ne (by omega), upd_eq]
      have hA2b : A2 2433 = wd m2 := by rw [← hA2, upd_eq]
      have g2 : ∀ i, i < 1952 → A2 i = at_ i := by rw [← hA2]; exact hag1 _ 2433 (wd m2) (by omega) g1
      have hA2l : ∀ k, k < 120 → A2 (1952 + k) = at_ (1952 + k) := by
        intro k hk
        rw [← hA2, upd_ne (by omega), upd_ne (by omega)]
      generalize hX : 1952 + (8 + 14 * m + (6 + m2)) = X
      have hX9 : X < 3648 := by omega
      have hrC : f_X12_aLike fu at_ names text (wd n) ki (wd f) (wd e) vl fp (wd 0) = (f_X12_number fu A2 text (wd n) ki3 (wd f3) (wd e3) vl3 fp (wd 0) (wd X) (wd 0) (wd 9)).bind fun z_27 => (if z_27.1 = 0 then some (0, z_27.2.1, z_27.2.2.1, z_27.2.2.2.1, z_27.2.2.2.2.1, z_27.2.2.2.2.2.1, z_27.2.2.2.2.2.2.1, z_27.2.2.2.2.2.2.2) else some (1, z_27.2.1, z_27.2.2.1, z_27.2.2.2.1, z_27.2.2.2.2.1, z_27.2.2.2.2.2.1, z_27.2.2.2.2.2.2.1, z_27.2.2.2.2.2.2.2)) := by
        rw [hrB, bind_e (r_old3 (m := m2) (by omega) (by omega) n2 r4 q4), hA2]
        show (if wd 1 = 0 then _ else _) = _
        rw [if_neg (show ¬ wd 1 = 0 by decide), bind_e (show rdI A2 3648 (wd 2432) = some (wd m) from by rw [rdI_wd (by omega) (by omega), hA2a]), bind_e r_manRow, bind_e (show rdI A2 3648 (wd 2433) = some (wd m2) from by rw [rdI_wd (by omega) (by omega), hA2b]), show (((1952 : Int32) + wd (8 + 14 * m)) + 6) + wd m2 = wd X from by
          rw [show (1952 : Int32) = wd 1952 from wd_lit 1952, wd_add, show (6 : Int32) = wd 6 from rfl, wd_add, wd_add, ← hX]
          congr 1
          omega]
        rfl
      rcases t_number (ft := ft) (pl := pl) (fp := fp) (at_ := A2) (lo := 0) (hi_ := 9) (to := X) (by omega) (by omega) hX9 hT hWc q1' hf with ⟨v, f4, e4, ki4, va4, wo4, na4, vl4, b1, b2, u1, u2, u3, u4⟩ | ⟨x, x1, x2, u3, u4⟩
      case inr =>
        refine hfail x f3 e3 ki3 va3 wo3 na3 vl3 A2 x1 x2 g2 ?_ ?_
        · rw [hcB, bind_e u3]; rfl
        · rw [hrC, bind_e u4]; rfl
      replace hrC := hrC.trans ((bind_e u4).trans (if_neg (show ¬ wd 1 = 0 by decide)))
      have hcC : f_X1_takeLikes fu ft pl by_ wc ki (wd f) va wo na (wd n) (wd e) nam lik cnt = (f_X6_takeSign fu ft pl by_ wc ki4 (wd f4) va4 wo4 na4 (wd n) (wd e4) (wd 59)).bind fun z_12 => (if z_12.1 = 0 then some (0, z_12.2.1, z_12.2.2.1, z_12.2.2.2.1, z_12.2.2.2.2.1, z_12.2.2.2.2.2.1, z_12.2.2.2.2.2.2.1, z_12.2.2.2.2.2.2.2.1, z_12.2.2.2.2.2.2.2.2, lik) else (f_X0_setLiking fu lik cnt (wd m) (wd m2) (wd v)).bind fun z_14 => some (1, z_12.2.1, z_12.2.2.1, z_12.2.2.2.1, z_12.2.2.2.2.1, z_12.2.2.2.2.2.1, z_12.2.2.2.2.2.2.1, z_12.2.2.2.2.2.2.2.1, z_12.2.2.2.2.2.2.2.2, z_14)) := by
        rw [hcB, bind_e u3]
        show f_X1_takeLikes_j64 fu by_ wc (wd n) nam cnt ft pl ki4 (wd f4) va4 wo4 na4 (wd e4) lik (wd m) (wd m2) (wd v) = _
        unfold f_X1_takeLikes_j64
        rw [if_neg (ne_nn (by omega))]
        rfl
      rw [bind_e hrC] at hrp
      have g3 := hag1 _ X (wd v) (by omega) g2
      rcases t_sign (ft := ft) (pl := pl) (fp := fp) (s := 59) hT hWc u2 (by omega) hf with ⟨f5, e5, ki5, va5, wo5, na5, vl5, s1, s2, s3, s4⟩ | ⟨x, x1, x2, s3, s4⟩
      case inr =>
        refine ⟨false, f4, e4, ki4, va4, wo4, na4, vl4, wd x, wd f4, wd f4, wd x, wd (t ||| 1 <<< 3), pt, qt, upd A2 X (wd v), names, nam, cou, wei, med, sto, fle, lik, cnt, liv, pri, quo, mel, los, ?_, ?_, g3, fun _ _ => rfl, fun h => (by cases h), fun _ => ⟨x, x1, x2, rfl, rfl, rfl⟩⟩
        · intro N p hp
          rw [hcl N p hp, hcC, bind_e s3]
          rfl
        · rw [hrp]
          show f_X12_armyPart_j133 fu text (wd n) (upd A2 X (wd v)) names ki4 (wd f4) (wd e4) vl4 fp (wd 0) (wd (t ||| 1 <<< 3)) 1 = _
          unfold f_X12_armyPart_j133
          rw [if_neg (show ¬ (1 : Int32) = 0 by decide), bind_e (show f_X12_wantSign fu text (wd n) ki4 (wd f4) (wd e4) vl4 fp (wd 0) 59 = _ from s4)]
          rfl
      have hse : ∀ k, k < 120 → shI 1952 (upd A2 X (wd v)) k = upd (shI 1952 at_) (8 + 14 * m + (6 + m2)) (wd v) k := by
        intro k hk
        unfold shI upd
        by_cases hkx : k = 8 + 14 * m + (6 + m2)
        · rw [if_pos (by omega), if_pos hkx]
        · rw [if_neg (by omega), if_neg hkx]; exact hA2l k hk
      refine ⟨true, f5, e5, ki5, va5, wo5, na5, vl5, ft, pl, fp, wd 0, wd (t ||| 1 <<< 3), pt, qt, upd A2 X (wd v), names, nam, cou, wei, med, sto, fle, upd lik (m * 8 + m2) (wd v), cnt, liv, pri, quo, mel, los, ?_, ?_, g3, fun _ _ => rfl, fun _ => ⟨s2, ?_, rfl, rfl, rfl, rfl, c, ?_⟩, fun h => (by cases h)⟩
      · intro N p hp
        rw [hcl N p hp, hcC, bind_e s3, if_neg (show ¬ wd 1 = 0 by decide), bind_e (show f_X0_setLiking fu lik cnt (wd m) (wd m2) (wd v) = some (upd lik (m * 8 + m2) (wd v)) from by rw [ec]; exact c_setLiking hm hm2 h8)]
        rfl
      · rw [hrp]
        show f_X12_armyPart_j133 fu text (wd n) (upd A2 X (wd v)) names ki4 (wd f4) (wd e4) vl4 fp (wd 0) (wd (t ||| 1 <<< 3)) 1 = _
        unfold f_X12_armyPart_j133
        rw [if_neg (show ¬ (1 : Int32) = 0 by decide), bind_e (show f_X12_wantSign fu text (wd n) ki4 (wd f4) (wd e4) vl4 fp (wd 0) 59 = _ from s4)]
        rfl
      · have d1 := k4.fe
        have d2 := p2.fe
        have d3 := q1'.fe
        have d4 := u2.fe
        omega
      · refine ⟨?_, ?_, aN, ?_, ?_, ?_, t ||| 1 <<< 3, ?_, rfl, ?_, ?_⟩
        · exact WF_e (WF_upd (m := m) (j := 6 + m2) (x := wd v) aW (by omega) (by omega) (fun h => absurd h (by omega)) (fun h => absurd h (by omega)) (fun h => absurd h (by omega)) (fun _ => ⟨v, b2, rfl⟩)) hse
        · exact RA_e h8 (RA_lik aR h8 hm hm2) hse
        · rw [upd_ne (by omega)]
          exact (hA2l 5 (by omega)).trans a5
        · intro m' j w1 w2 w3 w4
          have := hse (8 + 14 * m' + j) (by omega)
          show shI 1952 (upd A2 X (wd v)) (8 + 14 * m' + j) = wd 0
          rw [this, upd_ne (by omega)]
          exact aZ m' j w1 w2 w3 w4
        · intro m' o w1 w2 w3
          have := hse (8 + 14 * m' + (6 + o)) (by omega)
          show shI 1952 (upd A2 X (wd v)) (8 + 14 * m' + (6 + o)) = _
          rw [this, upd_ne (by omega)]
          exact aL m' o w1 w2 w3
        · have : t ||| 1 <<< 3 < 2 ^ 4 := Nat.or_lt_two_pow (by omega) (by decide)
          exact this
        · rw [Nat.testBit_or, show Nat.testBit (1 <<< 3) 0 = false from by decide, Bool.or_false]; exact ept
        · rw [Nat.testBit_or, show Nat.testBit (1 <<< 3) 1 = false from by decide, Bool.or_false]; exact eqt
end
