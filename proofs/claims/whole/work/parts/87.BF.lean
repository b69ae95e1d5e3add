section
variable {fu n f e c : Nat} {b : Nat → Nat} {by_ text at_ : Nat → Int32} {wc nam names : Nat → Int64} {cou wei med sto fle lik : Nat → Int32} {cnt liv pri quo mel los : Int32} {ki va wo vl ft pl fp told pt qt : Int32} {na : Int64}

/-- a man's part -/
theorem a_man (hT : TXT b n by_ text) (hWc : RWc wc) (h : TOK b n f e ki va wo na vl) (hA : AIV c at_ names told pt qt nam cou wei med sto fle lik cnt liv pri quo mel los) (hf : 1000 ≤ fu) (hwo : wo = wd 2) : APT fu n b by_ text wc f e ki va wo na vl ft pl fp told at_ names pt qt nam cou wei med sto fle lik cnt liv pri quo mel los := by
  have hk2 := h.ki2 hwo (by omega)
  have h0 : ¬ ki = wd 0 := by rw [hk2]; decide
  obtain ⟨aW, aR, aN, a5, aZ, aL, t, ht, etold, ept, eqt⟩ := hA
  have h8 := aW.1
  have hc0 : at_ 1952 = wd c := aW.2.1
  have ec := aR.2.1
  have el := aR.2.2.1
  have hkm : km 2 = 2 := by decide +kernel
  have hiw : f_X12_inWords fu 1 text (wd n) ki (wd f) (wd e) = some (wd 2) := by
    rcases tok_word hT h hf with ⟨g, _⟩ | ⟨i, hi, g, _, h2⟩
    · rw [hwo, wd_eqm (by omega)] at g; exact g.elim
    · rw [hwo, wd_inj (by omega) (by omega)] at g
      subst g; rw [hkm] at h2; exact h2
  have hcl : ∀ N p, p ≤ 900 → f_X1_readDraft_l21 fu by_ wc (wd n) (N + 1) pt qt ft pl ki (wd f) va wo na (wd e) nam cou wei med sto fle lik cnt liv pri quo mel los (wd 1) (wd p) = (f_X1_takeNewMan fu ft pl by_ wc ki (wd f) va wo na (wd n) (wd e) nam cou wei med sto fle lik cnt liv).bind fun z => f_X1_readDraft_l21 fu by_ wc (wd n) N pt qt z.2.1 z.2.2.1 z.2.2.2.1 z.2.2.2.2.1 z.2.2.2.2.2.1 z.2.2.2.2.2.2.1 z.2.2.2.2.2.2.2.1 z.2.2.2.2.2.2.2.2.1 z.2.2.2.2.2.2.2.2.2.1 z.2.2.2.2.2.2.2.2.2.2.1 z.2.2.2.2.2.2.2.2.2.2.2.1 z.2.2.2.2.2.2.2.2.2.2.2.2.1 z.2.2.2.2.2.2.2.2.2.2.2.2.2.1 z.2.2.2.2.2.2.2.2.2.2.2.2.2.2.1 z.2.2.2.2.2.2.2.2.2.2.2.2.2.2.2.1 z.2.2.2.2.2.2.2.2.2.2.2.2.2.2.2.2.1 z.2.2.2.2.2.2.2.2.2.2.2.2.2.2.2.2.2 pri quo mel los z.1 (wd (p + 1)) := by
    intro N p hp
    rw [f_X1_readDraft_l21, f_X1_readDraft_b21, show (900 : Int32) = wd 900 from wd_lit 900, if_neg (by rw [wd_lt (by omega) (by omega)]; omega), if_neg (show ¬ wd 1 = 0 by decide), bind_e (c_atEnd h0), if_pos (show wd 0 = 0 from rfl), hwo, if_neg (show ¬ wd 2 = 0 by decide), if_neg (show ¬ wd 2 = 1 by decide), if_pos (show wd 2 = 2 from rfl)]
    simp only [bnd]
    rw [show wd p + 1 = wd (p + 1) from wd_add p 1]
  have hrp : f_X12_armyPart fu at_ names text (wd n) ki (wd f) (wd e) vl fp (wd 0) told = (f_X12_aMan fu at_ names text (wd n) ki (wd f) (wd e) vl fp (wd 0)).bind fun y => f_X12_armyPart_j133 fu text (wd n) y.2.1 y.2.2.1 y.2.2.2.1 y.2.2.2.2.1 y.2.2.2.2.2.1 y.2.2.2.2.2.2.1 y.2.2.2.2.2.2.2.1 y.2.2.2.2.2.2.2.2 (wd (t ||| 1 <<< 2)) y.1 := by
    unfold f_X12_armyPart
    rw [bind_e hiw, if_neg (show ¬ wd 2 < 0 by decide), if_pos (show wd 2 ≤ 3 by decide), if_pos (show 1 < wd 2 by decide), etold]
    unfold f_X12_armyPart_j45
    simp only [bnd]
    rw [if_pos (show 1 < wd 2 by decide), show (1 : Int32) <<< (wd 2 &&& 31) = wd (1 <<< 2) from by decide, wd_or]
    rfl
  have hrd : ∀ x : Nat → Int32, x 1952 = wd c → rdI x 3648 1952 = some (wd c) := by
    intro x hx
    rw [show (1952 : Int32) = wd 1952 from wd_lit 1952, rdI_wd (by omega) (by omega), hx]
  have hfail : ∀ (x f' e' : Nat) (ki' va' wo' : Int32) (na' : Int64) (vl' : Int32) (at' : Nat → Int32) (names' : Nat → Int64), 0 < x → x ≤ 9 → (∀ i, i < 1952 → at' i = at_ i) → (∀ i, i < 32 → names' i = names i) → f_X1_takeNewMan fu ft pl by_ wc ki (wd f) va wo na (wd n) (wd e) nam cou wei med sto fle lik cnt liv = some (wd 0, wd x, wd f', ki', wd f', va', wo', na', wd e', nam, cou, wei, med, sto, fle, lik, cnt, liv) → f_X12_aMan fu at_ names text (wd n) ki (wd f) (wd e) vl fp (wd 0) = some (wd 0, at', names', ki', wd f', wd e', vl', wd f', wd x) → APT fu n b by_ text wc f e ki va wo na vl ft pl fp told at_ names pt qt nam cou wei med sto fle lik cnt liv pri quo mel los := by
    intro x f' e' ki' va' wo' na' vl' at' names' x1 x2 ha hn' hc hr
    refine ⟨false, f', e', ki', va', wo', na', vl', wd x, wd f', wd f', wd x, wd (t ||| 1 <<< 2), pt, qt, at', names', nam, cou, wei, med, sto, fle, lik, cnt, liv, pri, quo, mel, los, ?_, ?_, ha, hn', fun h => (by cases h), fun _ => ⟨x, x1, x2, rfl, rfl, rfl⟩⟩
    · intro N p hp
      rw [hcl N p hp, bind_e hc]
      rfl
    · rw [hrp, bind_e hr]
      rfl
  by_cases hc8 : c = 8
  · refine hfail (fk ki 6) f e ki va wo na vl at_ names (fk_0 (by omega)) (fk_9 (by omega)) (fun _ _ => rfl) (fun _ _ => rfl) ?_ ?_
    · unfold f_X1_takeNewMan
      rw [show (8 : Int32) = wd 8 from rfl, if_neg (show ¬ cnt < wd 8 by rw [ec, hc8]; decide), bind_e (show f_X6_fail fu ft pl ki (wd f) 6 = _ from c_fail (x := 6))]
      rfl
    · unfold f_X12_aMan
      rw [bind_e (hrd _ hc0), hc8, if_pos (show wd 8 = 8 from rfl), bind_e (show f_X12_fails fu ki (wd f) fp (wd 0) 6 = _ from r_fails (x := 6))]
      rfl
  · have hc7 : c < 8 := by omega
    have hlt : cnt < 8 := by
      rw [ec]
      show wd c < wd 8
      rw [wd_lt (by omega) (by omega)]; exact hc7
    have hn8 : ¬ wd c = 8 := by
      show ¬ wd c = wd 8
      rw [wd_inj (by omega) (by omega)]; exact hc8
    obtain ⟨f1, e1, ki1, va1, wo1, na1, vl1, k1, k2, k3, k4⟩ := t_next (fu := fu) (ki0 := ki) (st0 := wd f) (va0 := va) (wo0 := wo) (na0 := na) (tk0 := ki) (fr0 := wd f) (vl0 := vl) hT hWc h.le hf
    rcases tok_name hT k4 hf with ⟨n1, n2⟩ | ⟨n1, n2, n3, l, l1, l2, l3, l4⟩
    · refine hfail (fk ki1 2) f1 e1 ki1 va1 wo1 na1 vl1 at_ names (fk_0 (by omega)) (fk_9 (by omega)) (fun _ _ => rfl) (fun _ _ => rfl) ?_ ?_
      · unfold f_X1_takeNewMan
        rw [if_pos hlt, bind_e k2, if_pos (show lg_cmp na1 0 = 0 by rw [lgc_eq]; exact n1), bind_e (show f_X6_fail fu ft pl ki1 (wd f1) 2 = _ from c_fail (x := 2))]
        rfl
      · unfold f_X12_aMan
        rw [bind_e (hrd _ hc0), if_neg hn8, bind_e k3, bind_e n2, if_pos (show wd 0 = 0 from rfl), bind_e (show f_X12_fails fu ki1 (wd f1) fp (wd 0) 2 = _ from r_fails (x := 2))]
        rfl
    · have hNn : ∀ m, m < c → NC (nam m) (names (32 + m)) := aN
      obtain ⟨r, r1, r2, r3, r4⟩ := t_named (base := 32) h8 (by omega) hNn l1 l2 l3 l4 hf
      rw [← ec] at r3
      cases r with
      | some m =>
        have hm := (r1 m rfl).1
        refine hfail (fk ki1 3) f1 e1 ki1 va1 wo1 na1 vl1 at_ names (fk_0 (by omega)) (fk_9 (by omega)) (fun _ _ => rfl) (fun _ _ => rfl) ?_ ?_
        · unfold f_X1_takeNewMan
          rw [if_pos hlt, bind_e k2, if_neg (show ¬ lg_cmp na1 0 = 0 by rw [lgc_eq]; exact n1), bind_e r3, if_neg (show ¬ oe (some m) = -1 from ne_nn (m := m) (by omega)), bind_e (show f_X6_fail fu ft pl ki1 (wd f1) 3 = _ from c_fail (x := 3))]
          rfl
        · unfold f_X12_aMan
          rw [bind_e (hrd _ hc0), if_neg hn8, bind_e k3, bind_e n2, if_neg (show ¬ wd 1 = 0 by decide), bind_e (hrd _ hc0), bind_e (show f_X12_findHere fu names text (wd n) (wd f1) (wd e1) 32 (wd c) = _ from r4), if_neg (show ¬ oe (some m) = -1 from ne_nn (m := m) (by omega)), bind_e (show f_X12_fails fu ki1 (wd f1) fp (wd 0) 3 = _ from r_fails (x := 3))]
          rfl
      | none =>
        obtain ⟨f2, e2, ki2, va2, wo2, na2, vl2, p1, p2, p3, p4⟩ := t_next (fu := fu) (ki0 := ki1) (st0 := wd f1) (va0 := va1) (wo0 := wo1) (na0 := na1) (tk0 := ki1) (fr0 := wd f1) (vl0 := vl1) hT hWc k4.le hf
        have hcA : f_X1_takeNewMan fu ft pl by_ wc ki (wd f) va wo na (wd n) (wd e) nam cou wei med sto fle lik cnt liv = (f_X6_takeWord fu ft pl by_ wc ki2 (wd f2) va2 wo2 na2 (wd n) (wd e2) (wd 3)).bind fun z_40 => (if z_40.1 = 0 then some (0, z_40.2.1, z_40.2.2.1, z_40.2.2.2.1, z_40.2.2.2.2.1, z_40.2.2.2.2.2.1, z_40.2.2.2.2.2.2.1, z_40.2.2.2.2.2.2.2.1, z_40.2.2.2.2.2.2.2.2, nam, cou, wei, med, sto, fle, lik, cnt, liv) else (f_X6_takeNumber fu z_40.2.1 z_40.2.2.1 by_ wc z_40.2.2.2.1 z_40.2.2.2.2.1 z_40.2.2.2.2.2.1 z_40.2.2.2.2.2.2.1 z_40.2.2.2.2.2.2.2.1 (wd n) z_40.2.2.2.2.2.2.2.2 0 20).bind fun z_42 => (if z_42.1 = (-1) then f_X1_takeNewMan_j130 fu by_ wc (wd n) z_42.2.1 z_42.2.2.1 z_42.2.2.2.1 z_42.2.2.2.2.1 z_42.2.2.2.2.2.1 z_42.2.2.2.2.2.2.1 z_42.2.2.2.2.2.2.2.1 z_42.2.2.2.2.2.2.2.2 nam cou wei med sto fle lik cnt liv na1 z_42.1 (-1) else (f_X1_takeIfTold fu z_42.2.1 z_42.2.2.1 by_ wc z_42.2.2.2.1 z_42.2.2.2.2.1 z_42.2.2.2.2.2.1 z_42.2.2.2.2.2.2.1 z_42.2.2.2.2.2.2.2.1 (wd n) z_42.2.2.2.2.2.2.2.2 4 9 1).bind fun z_44 => f_X1_takeNewMan_j130 fu by_ wc (wd n) z_44.2.1 z_44.2.2.1 z_44.2.2.2.1 z_44.2.2.2.2.1 z_44.2.2.2.2.2.1 z_44.2.2.2.2.2.2.1 z_44.2.2.2.2.2.2.2.1 z_44.2.2.2.2.2.2.2.2 nam cou wei med sto fle lik cnt liv na1 z_42.1 z_44.1)) := by
          unfold f_X1_takeNewMan
          rw [if_pos hlt, bind_e k2, if_neg (show ¬ lg_cmp na1 0 = 0 by rw [lgc_eq]; exact n1), bind_e r3, if_pos (show oe none = -1 from rfl), bind_e p2]
          rfl
        generalize hX : 1952 + (8 + 14 * c) = X
        have hX9 : X + 20 < 3648 := by omega
        have hrA : f_X12_aMan fu at_ names text (wd n) ki (wd f) (wd e) vl fp (wd 0) = (f_X12_wantWord fu 1 text (wd n) ki2 (wd f2) (wd e2) vl2 fp (wd 0) (wd (km 3))).bind fun z_59 => (if z_59.1 = 0 then some (0, upd at_ (X + 1) (wd 1), vp_updL names (32 + c) (Int64.ofNat (c256 l 0)), z_59.2.1, z_59.2.2.1, z_59.2.2.2.1, z_59.2.2.2.2.1, z_59.2.2.2.2.2.1, z_59.2.2.2.2.2.2) else (f_X12_number fu (upd at_ (X + 1) (wd 1)) text (wd n) z_59.2.1 z_59.2.2.1 z_59.2.2.2.1 z_59.2.2.2.2.1 z_59.2.2.2.2.2.1 z_59.2.2.2.2.2.2 (wd X) (wd 0) (wd 20)).bind fun z_61 => (if z_61.1 = 0 then some (0, z_61.2.1, vp_updL names (32 + c) (Int64.ofNat (c256 l 0)), z_61.2.2.1, z_61.2.2.2.1, z_61.2.2.2.2.1, z_61.2.2.2.2.2.1, z_61.2.2.2.2.2.2.1, z_61.2.2.2.2.2.2.2) else rTold fu text (wd n) z_61.2.1 z_61.2.2.1 z_61.2.2.2.1 z_61.2.2.2.2.1 z_61.2.2.2.2.2.1 z_61.2.2.2.2.2.2.1 z_61.2.2.2.2.2.2.2 (wd (km 4)) (wd (X + 1)) (wd 9) (fun a k g r v u q => rTold fu text (wd n) a k g r v u q (wd (km 5)) (wd (X + 2)) (wd 99) (fun a k g r v u q => f_X12_aMan_j182 fu text (wd n) a (vp_updL names (32 + c) (Int64.ofNat (c256 l 0))) k g r v u q) (fun a k g r v u q => some (0, a, vp_updL names (32 + c) (Int64.ofNat (c256 l 0)), k, g, r, v, u, q))) (fun a k g r v u q => some (0, a, vp_updL names (32 + c) (Int64.ofNat (c256 l 0)), k, g, r, v, u, q)))) := by
          unfold f_X12_aMan
          rw [bind_e (hrd _ hc0), if_neg hn8, bind_e k3, bind_e n2, if_neg (show ¬ wd 1 = 0 by decide), bind_e (hrd _ hc0), bind_e (show f_X12_findHere fu names text (wd n) (wd f1) (wd e1) 32 (wd c) = _ from r4), if_pos (show oe none = -1 from rfl), bind_e (hrd _ hc0), bind_e l4, show (32 : Int32) + wd c = wd (32 + c) from wd_add 32 c, bind_e (wrJ_wd (by omega) (by omega)), bind_e p3, bind_e (hrd _ hc0), bind_e r_manRow]
          simp only [bnd]
          rw [show (1952 : Int32) + wd (8 + 14 * c) = wd X from by rw [show (1952 : Int32) = wd 1952 from wd_lit 1952, wd_add, hX], show wd X + 1 = wd (X + 1) from wd_add X 1, bind_e (wrI_wd (by omega) (by omega))]
          unfold f_X12_aMan_j158
          rw [show wd X + 2 = wd (X + 2) from wd_add X 2]
          rfl
        have hag1 : ∀ (a : Nat → Int32) (k : Nat) (v : Int32), 1952 ≤ k → (∀ i, i < 1952 → a i = at_ i) → ∀ i, i < 1952 → upd a k v i = at_ i := by
          intro a k v hk ha i hi
          rw [upd_ne (by omega)]; exact ha i hi
        have hnm : ∀ i, i < 32 → vp_updL names (32 + c) (Int64.ofNat (c256 l 0)) i = names i := by
          intro i hi
          unfold vp_updL
          rw [if_neg (by omega)]
        have g1 := hag1 at_ (X + 1) (wd 1) (by omega) (fun _ _ => rfl)
        rcases t_word (i := 3) (ft := ft) (pl := pl) (fp := fp) (by omega) hT hWc p4 hf with ⟨f3, e3, ki3, va3, wo3, na3, vl3, q1, q2, q3, q4⟩ | ⟨x, x1, x2, q3, q4⟩
        case inr =>
          refine hfail x f2 e2 ki2 va2 wo2 na2 vl2 _ _ x1 x2 g1 hnm ?_ ?_
          · rw [hcA, bind_e q3]; rfl
          · rw [hrA, bind_e q4]; rfl
        rw [bind_e q3] at hcA
        rw [bind_e q4] at hrA
        replace hcA := hcA.trans (if_neg (show ¬ wd 1 = 0 by decide))
        replace hrA := hrA.trans (if_neg (show ¬ wd 1 = 0 by decide))
        rcases t_number (ft := ft) (pl := pl) (fp := fp) (at_ := upd at_ (X + 1) (wd 1)) (lo := 0) (hi_ := 20) (to := X) (by omega) (by omega) (by omega) hT hWc q2 hf with ⟨v1, f4, e4, ki4, va4, wo4, na4, vl4, b1, b2, u1, u2, u3, u4⟩ | ⟨x, x1, x2, u3, u4⟩
        case inr =>
          refine hfail x f3 e3 ki3 va3 wo3 na3 vl3 _ _ x1 x2 g1 hnm ?_ ?_
          · rw [hcA, bind_e (show f_X6_takeNumber fu ft pl by_ wc ki3 (wd f3) va3 wo3 na3 (wd n) (wd e3) 0 20 = _ from u3)]; rfl
          · rw [hrA, bind_e u4]; rfl
        replace hcA := hcA.trans ((bind_e (show f_X6_takeNumber fu ft pl by_ wc ki3 (wd f3) va3 wo3 na3 (wd n) (wd e3) 0 20 = _ from u3)).trans (if_neg (ne_nn (by omega))))
        replace hrA := hrA.trans ((bind_e u4).trans (if_neg (show ¬ wd 1 = 0 by decide)))
        have g2 := hag1 _ X (wd v1) (by omega) g1
        have hd1 : upd (upd at_ (X + 1) (wd 1)) X (wd v1) (X + 1) = wd 1 := by rw [upd_ne (by omega), upd_eq]
        rcases x_told (i := 4) (hi_ := 9) (d := 1) (to := X + 1) (ft := ft) (pl := pl) (fp := fp) (by omega) (by omega) (by omega) (by omega) hd1 hT hWc u2 hf with ⟨v2, f5, e5, ki5, va5, wo5, na5, vl5, b3, b4, y2, y3, y4⟩ | ⟨x, f5, e5, ki5, va5, wo5, na5, vl5, x1, x2, y3, y4⟩
        case inr =>
          refine hfail x f5 e5 ki5 va5 wo5 na5 vl5 _ _ x1 x2 g2 hnm ?_ ?_
          · rw [hcA, bind_e (show f_X1_takeIfTold fu ft pl by_ wc ki4 (wd f4) va4 wo4 na4 (wd n) (wd e4) 4 9 1 = _ from y3)]; rfl
          · rw [hrA, y4]; rfl
        replace hcA := hcA.trans (bind_e (show f_X1_takeIfTold fu ft pl by_ wc ki4 (wd f4) va4 wo4 na4 (wd n) (wd e4) 4 9 1 = _ from y3))
        replace hrA := hrA.trans (y4 _ _ _)
        have g3 := hag1 _ (X + 1) (wd v2) (by omega) g2
        have hd2 : upd (upd (upd at_ (X + 1) (wd 1)) X (wd v1)) (X + 1) (wd v2) (X + 2) = wd 0 := by
          rw [upd_ne (by omega), upd_ne (by omega), upd_ne (by omega)]
          have := aZ c 2 (Nat.le_refl c) hc7 (by omega) (by omega)
          have this : at_ (1952 + (8 + 14 * c + 2)) = wd 0 := this
          rw [show X + 2 = 1952 + (8 + 14 * c + 2) from by omega]; exact this
        have hj13 : f_X1_takeNewMan fu ft pl by_ wc ki (wd f) va wo na (wd n) (wd e) nam cou wei med sto fle lik cnt liv = (f_X1_takeIfTold fu ft pl by_ wc ki5 (wd f5) va5 wo5 na5 (wd n) (wd e5) (wd 5) (wd 99) (wd 0)).bind fun z_33 => f_X1_takeNewMan_j150 fu by_ wc (wd n) z_33.2.1 z_33.2.2.1 z_33.2.2.2.1 z_33.2.2.2.2.1 z_33.2.2.2.2.2.1 z_33.2.2.2.2.2.2.1 z_33.2.2.2.2.2.2.2.1 z_33.2.2.2.2.2.2.2.2 nam cou wei med sto fle lik cnt liv na1 (wd v1) (wd v2) z_33.1 := by
          rw [hcA]
          unfold f_X1_takeNewMan_j130
          rw [if_neg (ne_nn (by omega))]
          rfl
        rcases x_told (i := 5) (hi_ := 99) (d := 0) (to := X + 2) (ft := ft) (pl := pl) (fp := fp) (by omega) (by omega) (by omega) (by omega) hd2 hT hWc y2 hf with ⟨v3, f6, e6, ki6, va6, wo6, na6, vl6, b5, b6, w2, w3, w4⟩ | ⟨x, f6, e6, ki6, va6, wo6, na6, vl6, x1, x2, w3, w4⟩
        case inr =>
          refine hfail x f6 e6 ki6 va6 wo6 na6 vl6 _ _ x1 x2 g3 hnm ?_ ?_
          · rw [hj13, bind_e w3]; rfl
          · rw [hrA]
            exact w4 _ _ _
        replace hj13 := hj13.trans (bind_e w3)
        replace hrA := hrA.trans (w4 _ _ _)
        have g4 := hag1 _ (X + 2) (wd v3) (by omega) g3
        have g5 := hag1 _ 1952 (wd (c + 1)) (by omega) g4
        generalize hA4 : upd (upd (upd (upd at_ (X + 1) (wd 1)) X (wd v1)) (X + 1) (wd v2)) (X + 2) (wd v3) = A4 at hrA g4 g5
        have hA40 : A4 1952 = wd c := by
          rw [← hA4, upd_ne (by omega), upd_ne (by omega), upd_ne (by omega), upd_ne (by omega)]; exact hc0
        have hrB : f_X12_aMan fu at_ names text (wd n) ki (wd f) (wd e) vl fp (wd 0) = some (wd 1, upd A4 1952 (wd (c + 1)), vp_updL names (32 + c) (Int64.ofNat (c256 l 0)), ki6, wd f6, wd e6, vl6, fp, wd 0) := by
          rw [hrA]
          show f_X12_aMan_j182 fu text (wd n) A4 _ _ _ _ _ _ _ = _
          unfold f_X12_aMan_j182
          rw [bind_e (hrd _ hA40), show (1952 : Int32) = wd 1952 from wd_lit 1952, show wd c + 1 = wd (c + 1) from wd_add c 1, bind_e (wrI_wd (by omega) (by omega))]
          rfl
        rw [bind_e hrB] at hrp
        have hj15 : f_X1_takeNewMan fu ft pl by_ wc ki (wd f) va wo na (wd n) (wd e) nam cou wei med sto fle lik cnt liv = (f_X6_takeSign fu ft pl by_ wc ki6 (wd f6) va6 wo6 na6 (wd n) (wd e6) (wd 59)).bind fun z_27 => (if z_27.1 = 0 then some (0, z_27.2.1, z_27.2.2.1, z_27.2.2.2.1, z_27.2.2.2.2.1, z_27.2.2.2.2.2.1, z_27.2.2.2.2.2.2.1, z_27.2.2.2.2.2.2.2.1, z_27.2.2.2.2.2.2.2.2, nam, cou, wei, med, sto, fle, lik, cnt, liv) else (f_X0_add fu nam cou wei med sto fle lik cnt liv na1 (wd v1) (wd v2)).bind fun z_29 => (if z_29.1 = (-1) then some (1, z_27.2.1, z_27.2.2.1, z_27.2.2.2.1, z_27.2.2.2.2.1, z_27.2.2.2.2.2.1, z_27.2.2.2.2.2.2.1, z_27.2.2.2.2.2.2.2.1, z_27.2.2.2.2.2.2.2.2, z_29.2.1, z_29.2.2.1, z_29.2.2.2.1, z_29.2.2.2.2.1, z_29.2.2.2.2.2.1, z_29.2.2.2.2.2.2.1, z_29.2.2.2.2.2.2.2.1, z_29.2.2.2.2.2.2.2.2.1, z_29.2.2.2.2.2.2.2.2.2) else (wrI z_29.2.2.2.2.1 8 z_29.1 (wd v3)).bind fun a_medals_31 => some (1, z_27.2.1, z_27.2.2.1, z_27.2.2.2.1, z_27.2.2.2.2.1, z_27.2.2.2.2.2.1, z_27.2.2.2.2.2.2.1, z_27.2.2.2.2.2.2.2.1, z_27.2.2.2.2.2.2.2.2, z_29.2.1, z_29.2.2.1, z_29.2.2.2.1, a_medals_31, z_29.2.2.2.2.2.1, z_29.2.2.2.2.2.2.1, z_29.2.2.2.2.2.2.2.1, z_29.2.2.2.2.2.2.2.2.1, z_29.2.2.2.2.2.2.2.2.2))) := by
          rw [hj13]
          unfold f_X1_takeNewMan_j150
          rw [if_neg (ne_nn (by omega))]
          rfl
        rcases t_sign (ft := ft) (pl := pl) (fp := fp) (s := 59) hT hWc w2 (by omega) hf with ⟨f7, e7, ki7, va7, wo7, na7, vl7, s1, s2, s3, s4⟩ | ⟨x, x1, x2, s3, s4⟩
        case inr =>
          refine ⟨false, f6, e6, ki6, va6, wo6, na6, vl6, wd x, wd f6, wd f6, wd x, wd (t ||| 1 <<< 2), pt, qt, upd A4 1952 (wd (c + 1)), vp_updL names (32 + c) (Int64.ofNat (c256 l 0)), nam, cou, wei, med, sto, fle, lik, cnt, liv, pri, quo, mel, los, ?_, ?_, g5, hnm, fun h => (by cases h), fun _ => ⟨x, x1, x2, rfl, rfl, rfl⟩⟩
          · intro N p hp
            rw [hcl N p hp, hj15, bind_e s3]
            rfl
          · rw [hrp]
            unfold f_X12_armyPart_j133
            rw [if_neg (show ¬ wd 1 = 0 by decide), bind_e (show f_X12_wantSign fu text (wd n) ki6 (wd f6) (wd e6) vl6 fp (wd 0) 59 = _ from s4)]
            rfl
        have hmk := mask_256 (alv (shI 1952 at_)) h8
        obtain ⟨lik', hadd, hlik⟩ := c_add (fu := fu) (cou := cou) (wei := wei) (med := med) (sto := sto) (fle := fle) (lik := lik) (nam := nam) (l := mask (alv (shI 1952 at_)) c) (nm := na1) (x := wd v1) (y := wd v2) hc7 (by omega) hf
        rw [← ec, ← el] at hadd
        have hsh : shI 1952 (upd A4 1952 (wd (c + 1))) = upd (manA (shI 1952 at_) c (wd v1) (wd v2)) (8 + 14 * c + 2) (wd v3) := by
          funext j
          rw [← hA4]
          unfold manA shI upd
          by_cases j0 : j = 0
          · rw [if_pos (by omega), if_neg (by omega), if_pos j0]
          · rw [if_neg (by omega)]
            by_cases j2 : j = 8 + 14 * c + 2
            · rw [if_pos (by omega), if_pos j2]
            · rw [if_neg (by omega), if_neg j2, if_neg j0]
              by_cases j1 : j = 8 + 14 * c + 1
              · rw [if_pos (by omega), if_pos j1]
              · rw [if_neg (by omega), if_neg j1]
                by_cases j3 : j = 8 + 14 * c + 0
                · rw [if_pos (by omega), if_pos j3]
                · rw [if_neg (by omega), if_neg j3, if_neg (by omega), if_neg j1]
        have hEN := manA_EN (x := wd v1) (y := wd v2) hc7 aZ aL
        refine ⟨true, f7, e7, ki7, va7, wo7, na7, vl7, ft, pl, fp, wd 0, wd (t ||| 1 <<< 2), pt, qt, upd A4 1952 (wd (c + 1)), vp_updL names (32 + c) (Int64.ofNat (c256 l 0)), vp_updL nam c na1, upd cou c (wd v1), upd wei c (wd v2), upd (upd med c (wd 0)) c (wd v3), upd sto c (wd 0), upd fle c (wd 0), lik', wd (c + 1), wd (mask (alv (shI 1952 at_)) c ||| 1 <<< c), pri, quo, mel, los, ?_, ?_, g5, hnm, fun _ => ⟨s2, ?_, rfl, rfl, rfl, rfl, c + 1, ?_⟩, fun h => (by cases h)⟩
        · intro N p hp
          have hct : f_X1_takeNewMan fu ft pl by_ wc ki (wd f) va wo na (wd n) (wd e) nam cou wei med sto fle lik cnt liv = some (wd 1, ft, pl, ki7, wd f7, va7, wo7, na7, wd e7, vp_updL nam c na1, upd cou c (wd v1), upd wei c (wd v2), upd (upd med c (wd 0)) c (wd v3), upd sto c (wd 0), upd fle c (wd 0), lik', wd (c + 1), wd (mask (alv (shI 1952 at_)) c ||| 1 <<< c)) := by
            rw [hj15, bind_e s3, if_neg (show ¬ wd 1 = 0 by decide), bind_e hadd, ec, if_neg (show ¬ wd c = -1 from ne_nn (by omega)), bind_e (show wrI (upd med c (wd 0)) 8 (wd c) (wd v3) = some (upd (upd med c (wd 0)) c (wd v3)) from wrI_wd hc7 (by omega))]
            rfl
          rw [hcl N p hp, bind_e hct]
          rfl
        · rw [hrp]
          unfold f_X12_armyPart_j133
          rw [if_neg (show ¬ wd 1 = 0 by decide), bind_e (show f_X12_wantSign fu text (wd n) ki6 (wd f6) (wd e6) vl6 fp (wd 0) 59 = _ from s4)]
          rfl
        · have d1 := k4.fe
          have d2 := p4.fe
          have d3 := q2.fe
          have d4 := u2.fe
          have d5 := y2.fe
          have d6 := w2.fe
          omega
        · refine ⟨?_, ?_, ?_, ?_, ?_, ?_, t ||| 1 <<< 2, ?_, rfl, ?_, ?_⟩
          · rw [hsh]
            exact WF_upd (WF_EN aW hc7 (by omega) (by omega) hEN) hc7 (by omega) (fun h => absurd h (by omega)) (fun h => absurd h (by omega)) (fun _ => ⟨v3, b5, rfl⟩) (fun h => absurd h (by omega))
          · rw [hsh]
            exact RA_med (RA_EN aR hc7 hEN hlik) (by omega) (by omega)
          · intro m hm
            by_cases hmc : m = c
            · subst hmc
              show NC (vp_updL nam m na1 m) (vp_updL names (32 + m) (Int64.ofNat (c256 l 0)) (32 + m))
              unfold vp_updL
              rw [if_pos rfl, if_pos rfl]
              exact ⟨l, l1, l2, l3, rfl⟩
            · show NC (vp_updL nam c na1 m) (vp_updL names (32 + c) (Int64.ofNat (c256 l 0)) (32 + m))
              unfold vp_updL
              rw [if_neg hmc, if_neg (by omega)]
              exact aN m (by omega)
          · rw [← hA4, upd_ne (by omega), upd_ne (by omega), upd_ne (by omega), upd_ne (by omega), upd_ne (by omega)]
            exact a5
          · intro m j q1 q2 q3 q4
            rw [hsh, mn_manA (Or.inl (by omega)) (by omega)]
            exact aZ m j (by omega) q2 q3 q4
          · intro m o q1 q2 q3
            rw [hsh, mn_manA (Or.inr (by omega)) (by omega)]
            exact aL m o q1 q2 (by omega)
          · have : t ||| 1 <<< 2 < 2 ^ 4 := Nat.or_lt_two_pow (by omega) (by decide)
            exact this
          · rw [Nat.testBit_or, show Nat.testBit (1 <<< 2) 0 = false from by decide, Bool.or_false]; exact ept
          · rw [Nat.testBit_or, show Nat.testBit (1 <<< 2) 1 = false from by decide, Bool.or_false]; exact eqt
end
