/-! an army's text, part by part -/
def AIV (c : Nat) (at_ : Nat → Int32) (names : Nat → Int64) (told pt qt : Int32) (nam : Nat → Int64) (cou wei med sto fle lik : Nat → Int32) (cnt liv pri quo mel los : Int32) : Prop := WF (shI 1952 at_) c ∧ RA (shI 1952 at_) c cou wei med sto fle lik cnt liv pri quo mel los ∧ RN (shJ 32 names) nam c ∧ at_ 1957 = nn ∧ (∀ m j, c ≤ m → m < 8 → 2 ≤ j → j < 6 → mn (shI 1952 at_) m j = wd 0) ∧ (∀ m o, m < 8 → o < 8 → c ≤ m ∨ c ≤ o → mn (shI 1952 at_) m (6 + o) = if m = o then wd 0 else wd 5) ∧ ∃ t, t < 16 ∧ told = wd t ∧ pt = i01 (t.testBit 0) ∧ qt = i01 (t.testBit 1)
def APT (fu n : Nat) (b : Nat → Nat) (by_ text : Nat → Int32) (wc : Nat → Int64) (f e : Nat) (ki va wo : Int32) (na : Int64) (vl ft pl fp told : Int32) (at_ : Nat → Int32) (names : Nat → Int64) (pt qt : Int32) (nam : Nat → Int64) (cou wei med sto fle lik : Nat → Int32) (cnt liv pri quo mel los : Int32) : Prop := ∃ (g : Bool) (f' e' : Nat) (ki' va' wo' : Int32) (na' : Int64) (vl' ft' pl' fp' fs' told' pt' qt' : Int32) (at' : Nat → Int32) (names' nam' : Nat → Int64) (cou' wei' med' sto' fle' lik' : Nat → Int32) (cnt' liv' pri' quo' mel' los' : Int32),
  (∀ N p, p ≤ 900 → f_X1_readDraft_l21 fu by_ wc (wd n) (N + 1) pt qt ft pl ki (wd f) va wo na (wd e) nam cou wei med sto fle lik cnt liv pri quo mel los (wd 1) (wd p) = f_X1_readDraft_l21 fu by_ wc (wd n) N pt' qt' ft' pl' ki' (wd f') va' wo' na' (wd e') nam' cou' wei' med' sto' fle' lik' cnt' liv' pri' quo' mel' los' (i01 g) (wd (p + 1))) ∧
  f_X12_armyPart fu at_ names text (wd n) ki (wd f) (wd e) vl fp (wd 0) told = some (i01 g, at', names', ki', wd f', wd e', vl', fp', fs', told') ∧
  (∀ i, i < 1952 → at' i = at_ i) ∧ (∀ i, i < 32 → names' i = names i) ∧
  (g = true → TOK b n f' e' ki' va' wo' na' vl' ∧ e ≤ f' ∧ ft' = ft ∧ pl' = pl ∧ fp' = fp ∧ fs' = wd 0 ∧ ∃ c, AIV c at' names' told' pt' qt' nam' cou' wei' med' sto' fle' lik' cnt' liv' pri' quo' mel' los') ∧
  (g = false → ∃ x, 0 < x ∧ x ≤ 9 ∧ ft' = wd x ∧ fs' = wd x ∧ pl' = fp')
section
variable {fu n f e c : Nat} {b : Nat → Nat} {by_ text at_ : Nat → Int32} {wc nam names : Nat → Int64} {cou wei med sto fle lik : Nat → Int32} {cnt liv pri quo mel los : Int32} {ki va wo vl ft pl fp told pt qt : Int32} {na : Int64}

theorem sh_upd {bb k : Nat} {g : Nat → Int32} {x : Int32} : shI bb (upd g (bb + k) x) = upd (shI bb g) k x := by
  funext j
  unfold shI upd
  by_cases hj : j = k
  · rw [if_pos (by omega), if_pos hj]
  · rw [if_neg (by omega), if_neg hj]
theorem c_atEnd (h : ¬ ki = wd 0) : f_X6_atEnd fu ki = some (wd 0) := by
  unfold f_X6_atEnd
  rw [if_neg (show ¬ ki = 0 from h)]
  rfl
theorem km_o3 : ∀ i, i < 19 → i ≠ 0 → i ≠ 1 → i ≠ 2 → i ≠ 6 → 3 < km i := by decide +kernel
theorem TOK.ki2 {i : Nat} (h : TOK b n f e ki va wo na vl) (hw : wo = wd i) (hi : i < 19) : ki = wd 2 := by
  obtain ⟨hen, ⟨h1, h2, h3, h4, h5⟩ | ⟨hfe, ⟨h1, h2, h3⟩ | ⟨h1, hl, _⟩ | ⟨h1, h2, h3, h4⟩ | ⟨h1, h2, h3, c, hc, h4, h5⟩⟩⟩ := h
  · rw [h4, wd_eqm' (by omega)] at hw; exact hw.elim
  · rw [h2, wd_eqm' (by omega)] at hw; exact hw.elim
  · exact h1
  · rw [h2, wd_eqm' (by omega)] at hw; exact hw.elim
  · rw [h2, wd_eqm' (by omega)] at hw; exact hw.elim
/-- no part begins so -/
theorem a_none (hT : TXT b n by_ text) (hWc : RWc wc) (h : TOK b n f e ki va wo na vl) (hA : AIV c at_ names told pt qt nam cou wei med sto fle lik cnt liv pri quo mel los) (hf : 1000 ≤ fu) (h0 : ¬ ki = wd 0) (hno : ∀ i, i < 19 → wo = wd i → i ≠ 0 ∧ i ≠ 1 ∧ i ≠ 2 ∧ i ≠ 6) : APT fu n b by_ text wc f e ki va wo na vl ft pl fp told at_ names pt qt nam cou wei med sto fle lik cnt liv pri quo mel los := by
  refine ⟨false, f, e, ki, va, wo, na, vl, wd (fk ki 2), wd f, wd f, wd (fk ki 2), told, pt, qt, at_, names, nam, cou, wei, med, sto, fle, lik, cnt, liv, pri, quo, mel, los, ?_, ?_, fun _ _ => rfl, fun _ _ => rfl, fun h => (by cases h), fun _ => ⟨fk ki 2, fk_0 (by omega), fk_9 (by omega), rfl, rfl, rfl⟩⟩
  · intro N p hp
    have n0 : ¬ wo = 0 := fun g => (hno 0 (by omega) g).1 rfl
    have n1 : ¬ wo = 1 := fun g => (hno 1 (by omega) g).2.1 rfl
    have n2 : ¬ wo = 2 := fun g => (hno 2 (by omega) g).2.2.1 rfl
    have n6 : ¬ wo = 6 := fun g => (hno 6 (by omega) g).2.2.2 rfl
    have hj : f_X1_readDraft_j128 fu by_ wc (wd n) (f_X1_readDraft_l21 fu by_ wc (wd n) N) pt qt ft pl ki (wd f) va wo na (wd e) nam cou wei med sto fle lik cnt liv pri quo mel los (wd p) = f_X1_readDraft_l21 fu by_ wc (wd n) N pt qt (wd (fk ki 2)) (wd f) ki (wd f) va wo na (wd e) nam cou wei med sto fle lik cnt liv pri quo mel los (i01 false) (wd (p + 1)) := by
      unfold f_X1_readDraft_j128
      rw [bind_e (show f_X6_fail fu ft pl ki (wd f) 2 = _ from c_fail (x := 2))]
      simp only [bnd]
      rw [show wd p + 1 = wd (p + 1) from wd_add p 1]
      rfl
    rw [f_X1_readDraft_l21, f_X1_readDraft_b21, show (900 : Int32) = wd 900 from wd_lit 900, if_neg (by rw [wd_lt (by omega) (by omega)]; omega), if_neg (show ¬ wd 1 = 0 by decide), bind_e (c_atEnd h0), if_pos (show wd 0 = 0 from rfl), if_neg n0, if_neg n1, if_neg n2, hj, if_neg n6]
    simp only [ite_self]
  · have hiw : ∃ v, f_X12_inWords fu 1 text (wd n) ki (wd f) (wd e) = some v ∧ (v = nn ∨ ∃ q, 3 < q ∧ q < 19 ∧ v = wd q) := by
      rcases tok_word hT h hf with ⟨_, h2⟩ | ⟨i, hi, h1, _, h2⟩
      · exact ⟨nn, h2, Or.inl rfl⟩
      · obtain ⟨a0, a1, a2, a6⟩ := hno i hi h1
        exact ⟨_, h2, Or.inr ⟨km i, km_o3 i hi a0 a1 a2 a6, (kw_c i hi).2, rfl⟩⟩
    obtain ⟨v, v1, v2⟩ := hiw
    unfold f_X12_armyPart
    rw [bind_e v1, bind_e (show f_X12_fails fu ki (wd f) fp (wd 0) 2 = _ from r_fails (x := 2))]
    rcases v2 with rfl | ⟨q, q1, q2, rfl⟩
    · rw [if_pos (show nn < 0 by decide)]
      rfl
    · rw [if_neg (show ¬ wd q < 0 from by
        show ¬ wd q < wd 0
        rw [wd_lt (by omega) (by omega)]; omega), show (3 : Int32) = wd 3 from rfl, if_neg (by rw [wd_le (by omega) (by omega)]; omega)]
      rfl
theorem TOK.fe (h : TOK b n f e ki va wo na vl) : f ≤ e := by
  obtain ⟨hen, ⟨h1, h2, h3, h4, h5⟩ | ⟨hfe, _⟩⟩ := h
  · omega
  · omega
theorem a_pride (hT : TXT b n by_ text) (hWc : RWc wc) (h : TOK b n f e ki va wo na vl) (hA : AIV c at_ names told pt qt nam cou wei med sto fle lik cnt liv pri quo mel los) (hf : 1000 ≤ fu) (hwo : wo = wd 0) : APT fu n b by_ text wc f e ki va wo na vl ft pl fp told at_ names pt qt nam cou wei med sto fle lik cnt liv pri quo mel los := by
  have hk2 := h.ki2 hwo (by omega)
  have h0 : ¬ ki = wd 0 := by rw [hk2]; decide
  obtain ⟨aW, aR, aN, a5, aZ, aL, t, ht, etold, ept, eqt⟩ := hA
  have hkm : km 0 = 0 := by decide +kernel
  have hiw : f_X12_inWords fu 1 text (wd n) ki (wd f) (wd e) = some (wd 0) := by
    rcases tok_word hT h hf with ⟨g, _⟩ | ⟨i, hi, g, _, h2⟩
    · rw [hwo, wd_eqm (by omega)] at g; exact g.elim
    · rw [hwo, wd_inj (by omega) (by omega)] at g
      subst g; rw [hkm] at h2; exact h2
  have hcl : ∀ N p, p ≤ 900 → f_X1_readDraft_l21 fu by_ wc (wd n) (N + 1) pt qt ft pl ki (wd f) va wo na (wd e) nam cou wei med sto fle lik cnt liv pri quo mel los (wd 1) (wd p) = (f_X1_takePride fu pt ft pl by_ wc ki (wd f) va wo na (wd n) (wd e) pri).bind fun z => f_X1_readDraft_l21 fu by_ wc (wd n) N z.2.1 qt z.2.2.1 z.2.2.2.1 z.2.2.2.2.1 z.2.2.2.2.2.1 z.2.2.2.2.2.2.1 z.2.2.2.2.2.2.2.1 z.2.2.2.2.2.2.2.2.1 z.2.2.2.2.2.2.2.2.2.1 nam cou wei med sto fle lik cnt liv z.2.2.2.2.2.2.2.2.2.2 quo mel los z.1 (wd (p + 1)) := by
    intro N p hp
    rw [f_X1_readDraft_l21, f_X1_readDraft_b21, show (900 : Int32) = wd 900 from wd_lit 900, if_neg (by rw [wd_lt (by omega) (by omega)]; omega), if_neg (show ¬ wd 1 = 0 by decide), bind_e (c_atEnd h0), if_pos (show wd 0 = 0 from rfl), hwo, if_pos (show wd 0 = 0 from rfl)]
    simp only [bnd]
    rw [show wd p + 1 = wd (p + 1) from wd_add p 1]
  have hbit := wd_bit1 (a := t) (k := 0) (by omega) (by omega)
  cases htb : t.testBit 0
  · rw [htb] at ept
    have hrp : f_X12_armyPart fu at_ names text (wd n) ki (wd f) (wd e) vl fp (wd 0) told = (f_X12_ahead fu text (wd n) ki (wd f) (wd e) vl).bind fun z => (f_X12_number fu at_ text (wd n) z.1 z.2.1 z.2.2.1 z.2.2.2 fp (wd 0) (wd 1953) (wd 0) (wd 9)).bind fun y => f_X12_armyPart_j133 fu text (wd n) y.2.1 names y.2.2.1 y.2.2.2.1 y.2.2.2.2.1 y.2.2.2.2.2.1 y.2.2.2.2.2.2.1 y.2.2.2.2.2.2.2 (wd (t ||| 1 <<< 0)) y.1 := by
      unfold f_X12_armyPart
      rw [bind_e hiw, if_neg (show ¬ wd 0 < 0 by decide), if_pos (show wd 0 ≤ 3 by decide), if_neg (show ¬ 1 < wd 0 by decide), etold, if_neg (show ¬ (wd t >>> (wd 0 &&& 31)) &&& 1 = 1 from by
        show ¬ (wd t >>> (wd 0 &&& wd 31)) &&& wd 1 = wd 1
        rw [hbit, htb]; decide)]
      unfold f_X12_armyPart_j45
      simp only [bnd]
      rw [if_neg (show ¬ 1 < wd 0 by decide), show (1 : Int32) <<< (wd 0 &&& 31) = wd (1 <<< 0) from by decide, wd_or]
      unfold f_X12_armyPart_j66
      rw [show (1953 : Int32) = wd 1953 from wd_lit 1953]
      rfl
    obtain ⟨f1, e1, ki1, va1, wo1, na1, vl1, k1, k2, k3, k4⟩ := t_next (fu := fu) (ki0 := ki) (st0 := wd f) (va0 := va) (wo0 := wo) (na0 := na) (tk0 := ki) (fr0 := wd f) (vl0 := vl) hT hWc h.le hf
    rw [bind_e k3] at hrp
    rcases t_number (ft := ft) (pl := pl) (fp := fp) (at_ := at_) (lo := 0) (hi_ := 9) (to := 1953) (by omega) (by omega) (by omega) hT hWc k4 hf with ⟨v, f2, e2, ki2, va2, wo2, na2, vl2, v1, v2, m1, m2, m3, m4⟩ | ⟨x, x1, x2, m3, m4⟩
    · rw [bind_e m4] at hrp
      have hct : f_X1_takePride fu pt ft pl by_ wc ki (wd f) va wo na (wd n) (wd e) pri = (f_X6_takeSign fu ft pl by_ wc ki2 (wd f2) va2 wo2 na2 (wd n) (wd e2) (wd 59)).bind fun z_13 => (if z_13.1 = 0 then some (0, 1, z_13.2.1, z_13.2.2.1, z_13.2.2.2.1, z_13.2.2.2.2.1, z_13.2.2.2.2.2.1, z_13.2.2.2.2.2.2.1, z_13.2.2.2.2.2.2.2.1, z_13.2.2.2.2.2.2.2.2, wd v) else some (1, 1, z_13.2.1, z_13.2.2.1, z_13.2.2.2.1, z_13.2.2.2.2.1, z_13.2.2.2.2.2.1, z_13.2.2.2.2.2.2.1, z_13.2.2.2.2.2.2.2.1, z_13.2.2.2.2.2.2.2.2, wd v)) := by
        unfold f_X1_takePride
        rw [ept, if_pos (show i01 false = 0 from rfl), bind_e k2, bind_e (show f_X6_takeNumber fu ft pl by_ wc ki1 (wd f1) va1 wo1 na1 (wd n) (wd e1) 0 9 = _ from m3), if_neg (ne_nn (by omega))]
        rfl
      rcases t_sign (ft := ft) (pl := pl) (fp := fp) (s := 59) hT hWc m2 (by omega) hf with ⟨f3, e3, ki3, va3, wo3, na3, vl3, s1, s2, s3, s4⟩ | ⟨x, x1, x2, s3, s4⟩
      · refine ⟨true, f3, e3, ki3, va3, wo3, na3, vl3, ft, pl, fp, wd 0, wd (t ||| 1 <<< 0), wd 1, qt, upd at_ 1953 (wd v), names, nam, cou, wei, med, sto, fle, lik, cnt, liv, wd v, quo, mel, los, ?_, ?_, fun i hi => upd_ne (by omega), fun _ _ => rfl, fun _ => ⟨s2, ?_, rfl, rfl, rfl, rfl, c, ?_⟩, fun h => (by cases h)⟩
        · intro N p hp
          rw [hcl N p hp, hct, bind_e s3]
          rfl
        · rw [hrp]
          unfold f_X12_armyPart_j133
          rw [if_neg (show ¬ wd 1 = 0 by decide), bind_e (show f_X12_wantSign fu text (wd n) ki2 (wd f2) (wd e2) vl2 fp (wd 0) 59 = _ from s4)]
          rfl
        · have := k4.le
          have := TOK.fe k4
          have := TOK.fe m2
          omega
        · have hsh : shI 1952 (upd at_ 1953 (wd v)) = upd (shI 1952 at_) 1 (wd v) := sh_upd (bb := 1952) (k := 1)
          refine ⟨by rw [hsh]; exact WF_pri aW (by omega), by rw [hsh]; exact RA_pri aR, aN, by rw [upd_ne (by omega)]; exact a5, ?_, ?_, t ||| 1 <<< 0, ?_, rfl, ?_, ?_⟩
          · intro m j q1 q2 q3 q4
            rw [hsh, mn_upd8 (by omega)]; exact aZ m j q1 q2 q3 q4
          · intro m o q1 q2 q3
            rw [hsh, mn_upd8 (by omega)]; exact aL m o q1 q2 q3
          · have : t ||| 1 <<< 0 < 2 ^ 4 := Nat.or_lt_two_pow (by omega) (by decide)
            exact this
          · rw [Nat.testBit_or, show Nat.testBit (1 <<< 0) 0 = true from by decide, Bool.or_true]; rfl
          · rw [Nat.testBit_or, show Nat.testBit (1 <<< 0) 1 = false from by decide, Bool.or_false]; exact eqt
      · refine ⟨false, f2, e2, ki2, va2, wo2, na2, vl2, wd x, wd f2, wd f2, wd x, wd (t ||| 1 <<< 0), wd 1, qt, upd at_ 1953 (wd v), names, nam, cou, wei, med, sto, fle, lik, cnt, liv, wd v, quo, mel, los, ?_, ?_, fun i hi => upd_ne (by omega), fun _ _ => rfl, fun h => (by cases h), fun _ => ⟨x, x1, x2, rfl, rfl, rfl⟩⟩
        · intro N p hp
          rw [hcl N p hp, hct, bind_e s3]
          rfl
        · rw [hrp]
          unfold f_X12_armyPart_j133
          rw [if_neg (show ¬ wd 1 = 0 by decide), bind_e (show f_X12_wantSign fu text (wd n) ki2 (wd f2) (wd e2) vl2 fp (wd 0) 59 = _ from s4)]
          rfl
    · rw [bind_e m4] at hrp
      refine ⟨false, f1, e1, ki1, va1, wo1, na1, vl1, wd x, wd f1, wd f1, wd x, wd (t ||| 1 <<< 0), wd 1, qt, at_, names, nam, cou, wei, med, sto, fle, lik, cnt, liv, nn, quo, mel, los, ?_, ?_, fun _ _ => rfl, fun _ _ => rfl, fun h => (by cases h), fun _ => ⟨x, x1, x2, rfl, rfl, rfl⟩⟩
      · intro N p hp
        have hct : f_X1_takePride fu pt ft pl by_ wc ki (wd f) va wo na (wd n) (wd e) pri = some (wd 0, wd 1, wd x, wd f1, ki1, wd f1, va1, wo1, na1, wd e1, nn) := by
          unfold f_X1_takePride
          rw [ept, if_pos (show i01 false = 0 from rfl), bind_e k2, bind_e (show f_X6_takeNumber fu ft pl by_ wc ki1 (wd f1) va1 wo1 na1 (wd n) (wd e1) 0 9 = _ from m3), if_pos (show nn = -1 from rfl)]
          rfl
        rw [hcl N p hp, bind_e hct]
        rfl
      · rw [hrp]
        rfl
  · rw [htb] at ept
    refine ⟨false, f, e, ki, va, wo, na, vl, wd (fk ki 5), wd f, wd f, wd (fk ki 5), told, pt, qt, at_, names, nam, cou, wei, med, sto, fle, lik, cnt, liv, pri, quo, mel, los, ?_, ?_, fun _ _ => rfl, fun _ _ => rfl, fun h => (by cases h), fun _ => ⟨fk ki 5, fk_0 (by omega), fk_9 (by omega), rfl, rfl, rfl⟩⟩
    · intro N p hp
      have hct : f_X1_takePride fu pt ft pl by_ wc ki (wd f) va wo na (wd n) (wd e) pri = some (wd 0, pt, wd (fk ki 5), wd f, ki, wd f, va, wo, na, wd e, pri) := by
        unfold f_X1_takePride
        rw [if_neg (show ¬ pt = 0 from by rw [ept]; decide), bind_e (show f_X6_fail fu ft pl ki (wd f) 5 = _ from c_fail (x := 5))]
        rfl
      rw [hcl N p hp, bind_e hct]
      rfl
    · unfold f_X12_armyPart
      rw [bind_e hiw, if_neg (show ¬ wd 0 < 0 by decide), if_pos (show wd 0 ≤ 3 by decide), if_neg (show ¬ 1 < wd 0 by decide), etold, if_pos (show (wd t >>> (wd 0 &&& 31)) &&& 1 = 1 from by
        show (wd t >>> (wd 0 &&& wd 31)) &&& wd 1 = wd 1
        rw [hbit, htb]), bind_e (show f_X12_fails fu ki (wd f) fp (wd 0) 5 = _ from r_fails (x := 5))]
      rfl
theorem a_quota (hT : TXT b n by_ text) (hWc : RWc wc) (h : TOK b n f e ki va wo na vl) (hA : AIV c at_ names told pt qt nam cou wei med sto fle lik cnt liv pri quo mel los) (hf : 1000 ≤ fu) (hwo : wo = wd 1) : APT fu n b by_ text wc f e ki va wo na vl ft pl fp told at_ names pt qt nam cou wei med sto fle lik cnt liv pri quo mel los := by
  have hk2 := h.ki2 hwo (by omega)
  have h0 : ¬ ki = wd 0 := by rw [hk2]; decide
  obtain ⟨aW, aR, aN, a5, aZ, aL, t, ht, etold, ept, eqt⟩ := hA
  have hkm : km 1 = 1 := by decide +kernel
  have hiw : f_X12_inWords fu 1 text (wd n) ki (wd f) (wd e) = some (wd 1) := by
    rcases tok_word hT h hf with ⟨g, _⟩ | ⟨i, hi, g, _, h2⟩
    · rw [hwo, wd_eqm (by omega)] at g; exact g.elim
    · rw [hwo, wd_inj (by omega) (by omega)] at g
      subst g; rw [hkm] at h2; exact h2
  have hcl : ∀ N p, p ≤ 900 → f_X1_readDraft_l21 fu by_ wc (wd n) (N + 1) pt qt ft pl ki (wd f) va wo na (wd e) nam cou wei med sto fle lik cnt liv pri quo mel los (wd 1) (wd p) = (f_X1_takeQuota fu qt ft pl by_ wc ki (wd f) va wo na (wd n) (wd e) quo).bind fun z => f_X1_readDraft_l21 fu by_ wc (wd n) N pt z.2.1 z.2.2.1 z.2.2.2.1 z.2.2.2.2.1 z.2.2.2.2.2.1 z.2.2.2.2.2.2.1 z.2.2.2.2.2.2.2.1 z.2.2.2.2.2.2.2.2.1 z.2.2.2.2.2.2.2.2.2.1 nam cou wei med sto fle lik cnt liv pri z.2.2.2.2.2.2.2.2.2.2 mel los z.1 (wd (p + 1)) := by
    intro N p hp
    rw [f_X1_readDraft_l21, f_X1_readDraft_b21, show (900 : Int32) = wd 900 from wd_lit 900, if_neg (by rw [wd_lt (by omega) (by omega)]; omega), if_neg (show ¬ wd 1 = 0 by decide), bind_e (c_atEnd h0), if_pos (show wd 0 = 0 from rfl), hwo, if_neg (show ¬ wd 1 = 0 by decide), if_pos (show wd 1 = 1 from rfl)]
    simp only [bnd]
    rw [show wd p + 1 = wd (p + 1) from wd_add p 1]
  have hbit := wd_bit1 (a := t) (k := 1) (by omega) (by omega)
  cases htb : t.testBit 1
  · rw [htb] at eqt
    have hrp : f_X12_armyPart fu at_ names text (wd n) ki (wd f) (wd e) vl fp (wd 0) told = (f_X12_ahead fu text (wd n) ki (wd f) (wd e) vl).bind fun z => (f_X12_number fu at_ text (wd n) z.1 z.2.1 z.2.2.1 z.2.2.2 fp (wd 0) (wd 1954) (wd 1) (wd 99)).bind fun y => f_X12_armyPart_j133 fu text (wd n) y.2.1 names y.2.2.1 y.2.2.2.1 y.2.2.2.2.1 y.2.2.2.2.2.1 y.2.2.2.2.2.2.1 y.2.2.2.2.2.2.2 (wd (t ||| 1 <<< 1)) y.1 := by
      unfold f_X12_armyPart
      rw [bind_e hiw, if_neg (show ¬ wd 1 < 0 by decide), if_pos (show wd 1 ≤ 3 by decide), if_neg (show ¬ 1 < wd 1 by decide), etold, if_neg (show ¬ (wd t >>> (wd 1 &&& 31)) &&& 1 = 1 from by
        show ¬ (wd t >>> (wd 1 &&& wd 31)) &&& wd 1 = wd 1
        rw [hbit, htb]; decide)]
      unfold f_X12_armyPart_j45
      simp only [bnd]
      rw [if_neg (show ¬ 1 < wd 1 by decide), show (1 : Int32) <<< (wd 1 &&& 31) = wd (1 <<< 1) from by decide, wd_or]
      unfold f_X12_armyPart_j66
      rw [show (1954 : Int32) = wd 1954 from wd_lit 1954]
      rfl
    obtain ⟨f1, e1, ki1, va1, wo1, na1, vl1, k1, k2, k3, k4⟩ := t_next (fu := fu) (ki0 := ki) (st0 := wd f) (va0 := va) (wo0 := wo) (na0 := na) (tk0 := ki) (fr0 := wd f) (vl0 := vl) hT hWc h.le hf
    rw [bind_e k3] at hrp
    rcases t_number (ft := ft) (pl := pl) (fp := fp) (at_ := at_) (lo := 1) (hi_ := 99) (to := 1954) (by omega) (by omega) (by omega) hT hWc k4 hf with ⟨v, f2, e2, ki2, va2, wo2, na2, vl2, v1, v2, m1, m2, m3, m4⟩ | ⟨x, x1, x2, m3, m4⟩
    · rw [bind_e m4] at hrp
      have hct : f_X1_takeQuota fu qt ft pl by_ wc ki (wd f) va wo na (wd n) (wd e) quo = (f_X6_takeSign fu ft pl by_ wc ki2 (wd f2) va2 wo2 na2 (wd n) (wd e2) (wd 59)).bind fun z_13 => (if z_13.1 = 0 then some (0, 1, z_13.2.1, z_13.2.2.1, z_13.2.2.2.1, z_13.2.2.2.2.1, z_13.2.2.2.2.2.1, z_13.2.2.2.2.2.2.1, z_13.2.2.2.2.2.2.2.1, z_13.2.2.2.2.2.2.2.2, wd v) else some (1, 1, z_13.2.1, z_13.2.2.1, z_13.2.2.2.1, z_13.2.2.2.2.1, z_13.2.2.2.2.2.1, z_13.2.2.2.2.2.2.1, z_13.2.2.2.2.2.2.2.1, z_13.2.2.2.2.2.2.2.2, wd v)) := by
        unfold f_X1_takeQuota
        rw [eqt, if_pos (show i01 false = 0 from rfl), bind_e k2, bind_e (show f_X6_takeNumber fu ft pl by_ wc ki1 (wd f1) va1 wo1 na1 (wd n) (wd e1) 1 99 = _ from m3), if_neg (ne_nn (by omega))]
        rfl
      rcases t_sign (ft := ft) (pl := pl) (fp := fp) (s := 59) hT hWc m2 (by omega) hf with ⟨f3, e3, ki3, va3, wo3, na3, vl3, s1, s2, s3, s4⟩ | ⟨x, x1, x2, s3, s4⟩
      · refine ⟨true, f3, e3, ki3, va3, wo3, na3, vl3, ft, pl, fp, wd 0, wd (t ||| 1 <<< 1), pt, wd 1, upd at_ 1954 (wd v), names, nam, cou, wei, med, sto, fle, lik, cnt, liv, pri, wd v, mel, los, ?_, ?_, fun i hi => upd_ne (by omega), fun _ _ => rfl, fun _ => ⟨s2, ?_, rfl, rfl, rfl, rfl, c, ?_⟩, fun h => (by cases h)⟩
        · intro N p hp
          rw [hcl N p hp, hct, bind_e s3]
          rfl
        · rw [hrp]
          unfold f_X12_armyPart_j133
          rw [if_neg (show ¬ wd 1 = 0 by decide), bind_e (show f_X12_wantSign fu text (wd n) ki2 (wd f2) (wd e2) vl2 fp (wd 0) 59 = _ from s4)]
          rfl
        · have := k4.le
          have := TOK.fe k4
          have := TOK.fe m2
          omega
        · have hsh : shI 1952 (upd at_ 1954 (wd v)) = upd (shI 1952 at_) 2 (wd v) := sh_upd (bb := 1952) (k := 2)
          refine ⟨by rw [hsh]; exact WF_quo aW (by omega), by rw [hsh]; exact RA_quo aR, aN, by rw [upd_ne (by omega)]; exact a5, ?_, ?_, t ||| 1 <<< 1, ?_, rfl, ?_, ?_⟩
          · intro m j q1 q2 q3 q4
            rw [hsh, mn_upd8 (by omega)]; exact aZ m j q1 q2 q3 q4
          · intro m o q1 q2 q3
            rw [hsh, mn_upd8 (by omega)]; exact aL m o q1 q2 q3
          · have : t ||| 1 <<< 1 < 2 ^ 4 := Nat.or_lt_two_pow (by omega) (by decide)
            exact this
          · rw [Nat.testBit_or, show Nat.testBit (1 <<< 1) 0 = false from by decide, Bool.or_false]; exact ept
          · rw [Nat.testBit_or, show Nat.testBit (1 <<< 1) 1 = true from by decide, Bool.or_true]; rfl
      · refine ⟨false, f2, e2, ki2, va2, wo2, na2, vl2, wd x, wd f2, wd f2, wd x, wd (t ||| 1 <<< 1), pt, wd 1, upd at_ 1954 (wd v), names, nam, cou, wei, med, sto, fle, lik, cnt, liv, pri, wd v, mel, los, ?_, ?_, fun i hi => upd_ne (by omega), fun _ _ => rfl, fun h => (by cases h), fun _ => ⟨x, x1, x2, rfl, rfl, rfl⟩⟩
        · intro N p hp
          rw [hcl N p hp, hct, bind_e s3]
          rfl
        · rw [hrp]
          unfold f_X12_armyPart_j133
          rw [if_neg (show ¬ wd 1 = 0 by decide), bind_e (show f_X12_wantSign fu text (wd n) ki2 (wd f2) (wd e2) vl2 fp (wd 0) 59 = _ from s4)]
          rfl
    · rw [bind_e m4] at hrp
      refine ⟨false, f1, e1, ki1, va1, wo1, na1, vl1, wd x, wd f1, wd f1, wd x, wd (t ||| 1 <<< 1), pt, wd 1, at_, names, nam, cou, wei, med, sto, fle, lik, cnt, liv, pri, nn, mel, los, ?_, ?_, fun _ _ => rfl, fun _ _ => rfl, fun h => (by cases h), fun _ => ⟨x, x1, x2, rfl, rfl, rfl⟩⟩
      · intro N p hp
        have hct : f_X1_takeQuota fu qt ft pl by_ wc ki (wd f) va wo na (wd n) (wd e) quo = some (wd 0, wd 1, wd x, wd f1, ki1, wd f1, va1, wo1, na1, wd e1, nn) := by
          unfold f_X1_takeQuota
          rw [eqt, if_pos (show i01 false = 0 from rfl), bind_e k2, bind_e (show f_X6_takeNumber fu ft pl by_ wc ki1 (wd f1) va1 wo1 na1 (wd n) (wd e1) 1 99 = _ from m3), if_pos (show nn = -1 from rfl)]
          rfl
        rw [hcl N p hp, bind_e hct]
        rfl
      · rw [hrp]
        rfl
  · rw [htb] at eqt
    refine ⟨false, f, e, ki, va, wo, na, vl, wd (fk ki 5), wd f, wd f, wd (fk ki 5), told, pt, qt, at_, names, nam, cou, wei, med, sto, fle, lik, cnt, liv, pri, quo, mel, los, ?_, ?_, fun _ _ => rfl, fun _ _ => rfl, fun h => (by cases h), fun _ => ⟨fk ki 5, fk_0 (by omega), fk_9 (by omega), rfl, rfl, rfl⟩⟩
    · intro N p hp
      have hct : f_X1_takeQuota fu qt ft pl by_ wc ki (wd f) va wo na (wd n) (wd e) quo = some (wd 0, qt, wd (fk ki 5), wd f, ki, wd f, va, wo, na, wd e, quo) := by
        unfold f_X1_takeQuota
        rw [if_neg (show ¬ qt = 0 from by rw [eqt]; decide), bind_e (show f_X6_fail fu ft pl ki (wd f) 5 = _ from c_fail (x := 5))]
        rfl
      rw [hcl N p hp, bind_e hct]
      rfl
    · unfold f_X12_armyPart
      rw [bind_e hiw, if_neg (show ¬ wd 1 < 0 by decide), if_pos (show wd 1 ≤ 3 by decide), if_neg (show ¬ 1 < wd 1 by decide), etold, if_pos (show (wd t >>> (wd 1 &&& 31)) &&& 1 = 1 from by
        show (wd t >>> (wd 1 &&& wd 31)) &&& wd 1 = wd 1
        rw [hbit, htb]), bind_e (show f_X12_fails fu ki (wd f) fp (wd 0) 5 = _ from r_fails (x := 5))]
      rfl
end
