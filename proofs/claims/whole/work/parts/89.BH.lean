section
variable {fu n f e c : Nat} {b : Nat → Nat} {by_ text at_ : Nat → Int32} {wc nam names : Nat → Int64} {cou wei med sto fle lik : Nat → Int32} {cnt liv pri quo mel los : Int32} {ki va wo vl ft pl fp told pt qt : Int32} {na : Int64}

variable {tape : Nat → Int32} {xx : Int32}
theorem a_part (hT : TXT b n by_ text) (hWc : RWc wc) (h : TOK b n f e ki va wo na vl) (hA : AIV c at_ names told pt qt nam cou wei med sto fle lik cnt liv pri quo mel los) (hf : 1000 ≤ fu) (h0 : ¬ ki = wd 0) : APT fu n b by_ text wc f e ki va wo na vl ft pl fp told at_ names pt qt nam cou wei med sto fle lik cnt liv pri quo mel los := by
  rcases tok_word hT h hf with ⟨h1, _⟩ | ⟨i, hi, h1, _, _⟩
  · exact a_none hT hWc h hA hf h0 (fun i hi g => by rw [h1, wd_eqm' (by omega)] at g; exact g.elim)
  · by_cases i0 : i = 0
    · subst i0; exact a_pride hT hWc h hA hf h1
    by_cases i1 : i = 1
    · subst i1; exact a_quota hT hWc h hA hf h1
    by_cases i2 : i = 2
    · subst i2; exact a_man hT hWc h hA hf h1
    by_cases i6 : i = 6
    · subst i6; exact a_like hT hWc h hA hf h1
    refine a_none hT hWc h hA hf h0 (fun j hj g => ?_)
    rw [h1, wd_inj (by omega) (by omega)] at g
    subst g; exact ⟨i0, i1, i2, i6⟩
theorem TOK.end0 (h : TOK b n f e ki va wo na vl) (hfn : n ≤ f) : ki = wd 0 := by
  obtain ⟨hen, ⟨h1, h2, h3, h4, h5⟩ | ⟨hfe, _⟩⟩ := h
  · exact h1
  · omega
theorem TOK.not0 (h : TOK b n f e ki va wo na vl) (h0 : ¬ ki = wd 0) : f < e := by
  obtain ⟨hen, ⟨h1, h2, h3, h4, h5⟩ | ⟨hfe, _⟩⟩ := h
  · exact absurd h1 h0
  · exact hfe
/-- all the parts -/
theorem a_loop (hT : TXT b n by_ text) (hWc : RWc wc) (hf : 1000 ≤ fu) : ∀ d f, n ≤ f + d → ∀ (p N1 N2 c e : Nat) (ki va wo : Int32) (na : Int64) (vl ft pl fp told pt qt st tp sz fkd sn : Int32) (at_ : Nat → Int32) (names nam : Nat → Int64) (cou wei med sto fle lik : Nat → Int32) (cnt liv pri quo mel los : Int32), p ≤ f → f ≤ n → d + 2 ≤ N1 → d + 2 ≤ N2 → TOK b n f e ki va wo na vl → AIV c at_ names told pt qt nam cou wei med sto fle lik cnt liv pri quo mel los → ∃ (g : Bool) (f' e' : Nat) (ki' va' wo' : Int32) (na' : Int64) (vl' ft' pl' fp' fs' told' pt' qt' : Int32) (at' : Nat → Int32) (names' nam' : Nat → Int64) (cou' wei' med' sto' fle' lik' : Nat → Int32) (cnt' liv' pri' quo' mel' los' : Int32),
  f_X1_readDraft_l21 fu by_ wc (wd n) N1 pt qt ft pl ki (wd f) va wo na (wd e) nam cou wei med sto fle lik cnt liv pri quo mel los (wd 1) (wd p) = some (i01 g, pt', qt', ft', pl', ki', wd f', va', wo', na', wd e', nam', cou', wei', med', sto', fle', lik', cnt', liv', pri', quo', mel', los') ∧
  f_X12_army_l31 fu tape xx N2 at_ names st text tp (wd n) ki (wd f) (wd e) vl fkd fp (wd 0) sn told (wd 1) = f_X12_army_j50 fu tape xx at' names' st text tp (wd n) ki' (wd f') (wd e') vl' fkd fp' fs' sn told' ∧
  (∀ i, i < 1952 → at' i = at_ i) ∧ (∀ i, i < 32 → names' i = names i) ∧
  (g = true → ft' = ft ∧ pl' = pl ∧ fp' = fp ∧ fs' = wd 0 ∧ ∃ c, AIV c at' names' told' pt' qt' nam' cou' wei' med' sto' fle' lik' cnt' liv' pri' quo' mel' los') ∧
  (g = false → ∃ x, 0 < x ∧ x ≤ 9 ∧ ft' = wd x ∧ fs' = wd x ∧ pl' = fp') := by
  have h9 := hT.1
  have hend : ∀ (f p N1 N2 c e : Nat) (ki va wo : Int32) (na : Int64) (vl ft pl fp told pt qt st tp sz fkd sn : Int32) (at_ : Nat → Int32) (names nam : Nat → Int64) (cou wei med sto fle lik : Nat → Int32) (cnt liv pri quo mel los : Int32), p ≤ f → f ≤ n → 1 ≤ N1 → 1 ≤ N2 → ki = wd 0 → f_X1_readDraft_l21 fu by_ wc (wd n) N1 pt qt ft pl ki (wd f) va wo na (wd e) nam cou wei med sto fle lik cnt liv pri quo mel los (wd 1) (wd p) = some (wd 1, pt, qt, ft, pl, ki, wd f, va, wo, na, wd e, nam, cou, wei, med, sto, fle, lik, cnt, liv, pri, quo, mel, los) ∧ f_X12_army_l31 fu tape xx N2 at_ names st text tp (wd n) ki (wd f) (wd e) vl fkd fp (wd 0) sn told (wd 1) = f_X12_army_j50 fu tape xx at_ names st text tp (wd n) ki (wd f) (wd e) vl fkd fp (wd 0) sn told := by
    intro f p N1 N2 c e ki va wo na vl ft pl fp told pt qt st tp sz fkd sn at_ names nam cou wei med sto fle lik cnt liv pri quo mel los h1 h2 h3 h4 h5
    obtain ⟨M1, rfl⟩ : ∃ m, N1 = m + 1 := ⟨N1 - 1, by omega⟩
    obtain ⟨M2, rfl⟩ : ∃ m, N2 = m + 1 := ⟨N2 - 1, by omega⟩
    constructor
    · rw [f_X1_readDraft_l21, f_X1_readDraft_b21, show (900 : Int32) = wd 900 from wd_lit 900, if_neg (by rw [wd_lt (by omega) (by omega)]; omega), if_neg (show ¬ wd 1 = 0 by decide), bind_e (show f_X6_atEnd fu ki = some (wd 1) from by
        unfold f_X6_atEnd
        rw [if_pos (show ki = 0 from h5)]; rfl), if_neg (show ¬ wd 1 = 0 by decide)]
      rfl
    · rw [f_X12_army_l31, f_X12_army_b31, if_neg (show ¬ wd 1 = 0 by decide), if_pos (show ki = 0 from h5)]
  intro d
  induction d with
  | zero =>
    intro f hfd p N1 N2 c e ki va wo na vl ft pl fp told pt qt st tp sz fkd sn at_ names nam cou wei med sto fle lik cnt liv pri quo mel los h1 h2 h3 h4 h5 h6
    have hk := h5.end0 (by omega)
    obtain ⟨c1, c2⟩ := hend f p N1 N2 c e ki va wo na vl ft pl fp told pt qt st tp sz fkd sn at_ names nam cou wei med sto fle lik cnt liv pri quo mel los h1 h2 (by omega) (by omega) hk
    exact ⟨true, f, e, ki, va, wo, na, vl, ft, pl, fp, wd 0, told, pt, qt, at_, names, nam, cou, wei, med, sto, fle, lik, cnt, liv, pri, quo, mel, los, c1, c2, fun _ _ => rfl, fun _ _ => rfl, fun _ => ⟨rfl, rfl, rfl, rfl, c, h6⟩, fun h => (by cases h)⟩
  | succ d ih =>
    intro f hfd p N1 N2 c e ki va wo na vl ft pl fp told pt qt st tp sz fkd sn at_ names nam cou wei med sto fle lik cnt liv pri quo mel los h1 h2 h3 h4 h5 h6
    by_cases hk : ki = wd 0
    · obtain ⟨c1, c2⟩ := hend f p N1 N2 c e ki va wo na vl ft pl fp told pt qt st tp sz fkd sn at_ names nam cou wei med sto fle lik cnt liv pri quo mel los h1 h2 (by omega) (by omega) hk
      exact ⟨true, f, e, ki, va, wo, na, vl, ft, pl, fp, wd 0, told, pt, qt, at_, names, nam, cou, wei, med, sto, fle, lik, cnt, liv, pri, quo, mel, los, c1, c2, fun _ _ => rfl, fun _ _ => rfl, fun _ => ⟨rfl, rfl, rfl, rfl, c, h6⟩, fun h => (by cases h)⟩
    · have hfe := h5.not0 hk
      have hen := h5.le
      obtain ⟨M1, rfl⟩ : ∃ m, N1 = m + 1 := ⟨N1 - 1, by omega⟩
      obtain ⟨M2, rfl⟩ : ∃ m, N2 = m + 1 := ⟨N2 - 1, by omega⟩
      obtain ⟨g, f', e', ki', va', wo', na', vl', ft', pl', fp', fs', told', pt', qt', at', names', nam', cou', wei', med', sto', fle', lik', cnt', liv', pri', quo', mel', los', a1, a2, a3, a4, a5, a6⟩ := a_part (ft := ft) (pl := pl) (fp := fp) hT hWc h5 h6 hf hk
      have hr1 : f_X12_army_l31 fu tape xx (M2 + 1) at_ names st text tp (wd n) ki (wd f) (wd e) vl fkd fp (wd 0) sn told (wd 1) = f_X12_army_l31 fu tape xx M2 at' names' st text tp (wd n) ki' (wd f') (wd e') vl' fkd fp' fs' sn told' (i01 g) := by
        rw [f_X12_army_l31, f_X12_army_b31, if_neg (show ¬ wd 1 = 0 by decide), if_neg (show ¬ ki = 0 from hk), bind_e a2]
      rw [a1 M1 p (by omega), hr1]
      cases g
      · obtain ⟨x, x1, x2, x3, x4, x5⟩ := a6 rfl
        obtain ⟨K1, rfl⟩ : ∃ m, M1 = m + 1 := ⟨M1 - 1, by omega⟩
        obtain ⟨K2, rfl⟩ : ∃ m, M2 = m + 1 := ⟨M2 - 1, by omega⟩
        refine ⟨false, f', e', ki', va', wo', na', vl', ft', pl', fp', fs', told', pt', qt', at', names', nam', cou', wei', med', sto', fle', lik', cnt', liv', pri', quo', mel', los', ?_, ?_, a3, a4, fun h => (by cases h), fun _ => ⟨x, x1, x2, x3, x4, x5⟩⟩
        · rw [f_X1_readDraft_l21, f_X1_readDraft_b21, show (900 : Int32) = wd 900 from wd_lit 900, if_neg (by rw [wd_lt (by omega) (by omega)]; omega), if_pos (show i01 false = 0 from rfl)]
          rfl
        · rw [f_X12_army_l31, f_X12_army_b31, if_pos (show i01 false = 0 from rfl)]
      · obtain ⟨t1, t2, t3, t4, t5, t6, c', t7⟩ := a5 rfl
        subst t3; subst t4; subst t5; subst t6
        obtain ⟨g, f2, e2, ki2, va2, wo2, na2, vl2, ft2, pl2, fp2, fs2, told2, pt2, qt2, at2, names2, nam2, cou2, wei2, med2, sto2, fle2, lik2, cnt2, liv2, pri2, quo2, mel2, los2, b1, b2, b3, b4, b5, b6⟩ := ih f' (by omega) (p + 1) M1 M2 c' e' ki' va' wo' na' vl' ft' pl' fp' told' pt' qt' st tp sz fkd sn at' names' nam' cou' wei' med' sto' fle' lik' cnt' liv' pri' quo' mel' los' (by omega) (by have := t1.le; have := t1.fe; omega) (by omega) (by omega) t1 t7
        exact ⟨g, f2, e2, ki2, va2, wo2, na2, vl2, ft2, pl2, fp2, fs2, told2, pt2, qt2, at2, names2, nam2, cou2, wei2, med2, sto2, fle2, lik2, cnt2, liv2, pri2, quo2, mel2, los2, b1, b2, fun i hi => (b3 i hi).trans (a3 i hi), fun i hi => (b4 i hi).trans (a4 i hi), b5, b6⟩
end
/-! a text begins -/
theorem sb_nar : ∀ j, j < 256 → vp_nar .byte (sb j) = sb j := by decide +kernel
theorem sb_nat : ∀ j, j < 256 → (sb j &&& 255).toNatClampNeg = j := by decide +kernel
section
variable {fu n : Nat} {by_ tape text : Nat → Int32} {wc : Nat → Int64} {ft pl ki st va wo en en2 at0 tk fr vl fp fs sn tp sz : Int32} {na : Int64}
theorem t_begin {N most : Nat} (hTp : ∀ k, k < N → by_ k = tape k ∧ ∃ j, j < 256 ∧ tape k = sb j) (hN : N ≤ 900) (hn : n ≤ N) (hm : n ≤ most) (hm9 : most ≤ 900) (hWc : RWc wc) (hf : 1000 ≤ fu) : ∃ (b : Nat → Nat) (text' : Nat → Int32) (f e : Nat) (ki' va' wo' : Int32) (na' : Int64) (vl' : Int32), TXT b n by_ text' ∧ TOK b n f e ki' va' wo' na' vl' ∧ f_X6_begin fu ft pl by_ wc ki st va wo na en at0 (wd n) = some (wd 0, nn, ki', wd f, va', wo', na', wd n, wd e) ∧ f_X12_begins fu tape text (wd N) sz tk fr en2 vl fp fs sn (wd n) (wd most) = some (wd 1, text', wd 0, wd n, ki', wd f, wd e, vl', nn, wd 0, wd 0) := by
  have hTX : TXT (fun k => (tape k &&& 255).toNatClampNeg) n by_ (fun k => if k < n then tape k else text k) := by
    refine ⟨by omega, fun k hk => ?_⟩
    obtain ⟨h1, j, hj, h2⟩ := hTp k (by omega)
    show (tape k &&& 255).toNatClampNeg < 256 ∧ by_ k = sb ((tape k &&& 255).toNatClampNeg) ∧ (if k < n then tape k else text k) = sb ((tape k &&& 255).toNatClampNeg)
    rw [h1, if_pos hk, h2, sb_nat j hj]
    exact ⟨hj, rfl, rfl⟩
  obtain ⟨f, e, ki', va', wo', na', vl', k1, k2, k3, k4⟩ := t_next (fu := fu) (k := 0) (ki0 := ki) (st0 := st) (va0 := va) (wo0 := wo) (na0 := na) (tk0 := tk) (fr0 := fr) (vl0 := vl) hTX hWc (by omega) hf
  refine ⟨_, _, f, e, ki', va', wo', na', vl', hTX, k4, ?_, ?_⟩
  · unfold f_X6_begin
    have hrw : f_X7_rewind fu en at0 (wd n) = some (wd n, wd 0) := by
      unfold f_X7_rewind
      have h9' : ¬ (900 : Int32) < wd n := by
        rw [show (900 : Int32) = wd 900 from wd_lit 900, wd_lt (by omega) (by omega)]; omega
      simp only [bnd, if_neg h9']
      by_cases h0 : n = 0
      · subst h0; rfl
      · rw [if_pos (show (0 : Int32) < wd n from by
          show wd 0 < wd n
          rw [wd_lt (by omega) (by omega)]; omega)]
        rfl
    rw [bind_e hrw, bind_e k2]
    rfl
  · unfold f_X12_begins
    rw [if_neg (show ¬ wd n < 0 from by
      show ¬ wd n < wd 0
      rw [wd_lt (by omega) (by omega)]; omega), if_neg (by rw [wd_lt (by omega) (by omega)]; omega), if_pos (by rw [wd_le (by omega) (by omega)]; omega)]
    refine loop_seq (fun M i (x : Nat → Int32) => f_X12_begins_l26 fu tape (wd n) (wd most) M x (wd N) (wd n) tk fr en2 vl fp fs sn (wd i)) (fun i => fun k => if k < i then tape k else text k) n _ ?_ ?_ 0 fu (by omega) (by omega)
    · intro M i hi
      obtain ⟨_, j, hj, h2⟩ := hTp i (by omega)
      show f_X12_begins_l26 fu tape (wd n) (wd most) (M + 1) (fun k => if k < i then tape k else text k) (wd N) (wd n) tk fr en2 vl fp fs sn (wd i) = f_X12_begins_l26 fu tape (wd n) (wd most) M (fun k => if k < i + 1 then tape k else text k) (wd N) (wd n) tk fr en2 vl fp fs sn (wd (i + 1))
      rw [f_X12_begins_l26, f_X12_begins_b26, if_neg (by rw [wd_le (by omega) (by omega)]; omega), bind_e (rdI_wd (by omega) (by omega)), bind_e (wrI_wd (by omega) (by omega)), h2, sb_nar j hj, ← h2]
      simp only [bnd]
      rw [show wd i + 1 = wd (i + 1) from wd_add i 1]
      congr 1
      funext k
      unfold upd
      by_cases hk : k = i
      · rw [if_pos hk, if_pos (by omega), hk]
      · rw [if_neg hk]
        show (if k < i then tape k else text k) = _
        by_cases hk2 : k < i
        · rw [if_pos hk2, if_pos (by omega)]
        · rw [if_neg hk2, if_neg (by omega)]
    · intro M
      show f_X12_begins_l26 fu tape (wd n) (wd most) (M + 1) (fun k => if k < n then tape k else text k) (wd N) (wd n) tk fr en2 vl fp fs sn (wd n) = _
      rw [f_X12_begins_l26, f_X12_begins_b26, if_pos (by rw [wd_le (by omega) (by omega)]; omega), bind_e (show f_X12_ahead fu (fun k => if k < n then tape k else text k) (wd n) tk fr 0 vl = _ from k3)]
      rfl
end
