section
variable {fu c : Nat} {at_ cou wei med sto fle lik vot : Nat → Int32} {cnt liv pri quo mel los st st' : Int32}
theorem mask21 {p : Nat → Bool} (h : c ≤ 8) : mask p c = mask (fun x => decide (x < c) && p x) 21 := by
  apply Nat.eq_of_testBit_eq
  intro k
  rw [mask_bit, mask_bit]
  by_cases hk : k < c
  · have : k < 21 := by omega
    simp [hk, this]
  · simp [hk]
theorem sdf_stn {s : Int32} (h8 : c ≤ 8) : sdf (mask (alv at_) c) (mask (rns at_ s) c) = mask (stn at_ s) c := by
  have := mask_256 (alv at_) h8
  apply Nat.eq_of_testBit_eq
  intro k
  rw [sdf_bit (by omega), mask_bit, mask_bit, mask_bit, rns, stn]
  by_cases hk : k < c
  · cases alv at_ k <;> simp [hk]
  · simp [hk]
theorem c_frn {s : Int32} (h8 : c ≤ 8) (hf : 1000 ≤ fu) : f_X11_firstOf fu (wd (mask (rns at_ s) c)) = some (oe (frn at_ c s)) := by
  rw [mask21 h8, c_first hf]; rfl
theorem c_fsn {s : Int32} (h8 : c ≤ 8) (hf : 1000 ≤ fu) : f_X11_firstOf fu (wd (mask (stn at_ s) c)) = some (oe (fsn at_ c s)) := by
  rw [mask21 h8, c_first hf]; rfl
theorem wmax {f g : Nat} (hf : f ≤ 99) (hg : g ≤ 99) : (if wd f < wd g then wd g else wd f) = wd (max f g) := by
  simp (disch := omega) only [wd_lt]
  by_cases h : f < g
  · rw [if_pos h]; congr 1; omega
  · rw [if_neg h]; congr 1; omega
theorem c_mstood {D n k m d : Nat} {szs sz : Nat → Int32} (hW : WF at_ c) (hV : RV at_ c cou wei med lik) (hf : 1000 ≤ fu) (hrec : ∀ at' med vot, WF at' c → RV at' c cou wei med lik → alv at' = alv at_ → at' 1 = at_ 1 → ∃ vot', f_X4_mostFrom fu D szs (wd n) cou wei med lik vot (wd c) (wd (mask (alv at_) c)) (at_ 1) (wd m) (wd (k + 1)) = some (wd (mvl c m sz d (k + 1) at'), med, vot')) : ∃ vot', f_X4_mostIfStood fu (f_X4_mostFrom fu D) szs (wd n) cou wei med lik vot (wd c) (wd (mask (alv at_) c)) (at_ 1) (wd m) (wd k) (wd (mask (rns at_ (sz k)) c)) = some (wd (mvl c m sz d (k + 1) (pn at_ c (sz k))), med, vot') := by
  obtain ⟨vot', e⟩ := c_stood (fu := fu) (α := Nat) (V := fun at' => wd (mvl c m sz d (k + 1) at')) (rec := fun med vot => f_X4_mostFrom fu D szs (wd n) cou wei med lik vot (wd c) (wd (mask (alv at_) c)) (at_ 1) (wd m) (wd (k + 1))) (vot := vot) (s := sz k) hW hV hf hrec
  refine ⟨vot', ?_⟩
  rw [bind_e (c_runners hW.1 hf hV.1 hV.2.2.1)] at e
  unfold f_X4_mostIfStood
  rw [show (1 : Int32) = wd 1 from rfl, wd_add]
  exact e
theorem c_mostF {m n : Nat} {szs sz : Nat → Int32} (hm : m < c) (hn : n ≤ 4) (hsz : ∀ k, k < n → szs k = sz k) (hf : 1000 ≤ fu) : ∀ d k D at_ med vot, k + d = n → d < D → WF at_ c → RV at_ c cou wei med lik → (∃ w, w < c ∧ alv at_ w = true) → ∃ vot', f_X4_mostFrom fu D szs (wd n) cou wei med lik vot (wd c) (wd (mask (alv at_) c)) (at_ 1) (wd m) (wd k) = some (wd (mvl c m sz d k at_), med, vot') := by
  intro d
  induction d with
  | zero =>
    intro k D at_ med vot hk hD hW hV hal
    have h8 := hW.1
    obtain ⟨D, rfl⟩ : ∃ z, D = z + 1 := ⟨D - 1, by omega⟩
    refine ⟨vot, ?_⟩
    rw [f_X4_mostFrom, f_X4_mostFrom_B]
    rw [if_neg (by rw [wd_lt (by omega) (by omega)]; omega), bind_e (rdI_wd (show m < 8 by omega) (by omega)), hV.2.2.1 m hm, (mdn_e hW hm).1]
    rfl
  | succ d ih =>
    intro k D at_ med vot hk hD hW hV hal
    have h8 := hW.1
    obtain ⟨D, rfl⟩ : ∃ z, D = z + 1 := ⟨D - 1, by omega⟩
    have h256 := mask_256 (rns at_ (sz k)) h8
    have h256' := mask_256 (alv at_) h8
    have hl1 := mvl_le (sz := sz) hm d (k + 1) at_ hW
    have hl2 := mvl_le (sz := sz) hm d (k + 1) (pn at_ c (sz k)) (WF_pn hW)
    have hrec : ∀ at' med vot, WF at' c → RV at' c cou wei med lik → alv at' = alv at_ → at' 1 = at_ 1 → ∃ vot', f_X4_mostFrom fu D szs (wd n) cou wei med lik vot (wd c) (wd (mask (alv at_) c)) (at_ 1) (wd m) (wd (k + 1)) = some (wd (mvl c m sz d (k + 1) at'), med, vot') := by
      intro at' med vot h1 h2 h3 h4
      obtain ⟨vot', e⟩ := ih (k + 1) D at' med vot (by omega) (by omega) h1 h2 (by rw [h3]; exact hal)
      rw [h3, h4] at e
      exact ⟨vot', e⟩
    rw [f_X4_mostFrom, f_X4_mostFrom_B, mvl_s]
    rw [if_pos (by rw [wd_lt (by omega) (by omega)]; omega), bind_e (rdI_wd (show k < 4 by omega) (by omega)), hsz k (by omega), bind_e (c_runners h8 hf hV.1 hV.2.2.1)]
    by_cases hr0 : mask (rns at_ (sz k)) c = 0
    · rw [if_pos (show wd (mask (rns at_ (sz k)) c) = 0 by rw [hr0]; rfl), if_pos hr0]
      have hrl : ¬ mask (rns at_ (sz k)) c = mask (alv at_) c := by
        obtain ⟨w, hw, ha⟩ := hal
        intro h
        exact mask_n0 hw ha (h.symm.trans hr0)
      rw [if_neg hrl]
      obtain ⟨vot2, e2⟩ := c_mstood (fu := fu) (vot := vot) (D := D) (d := d) hW hV hf hrec
      unfold f_X4_mostFrom_B_j48
      rw [if_neg (by rw [wd_inj (by omega) (by omega)]; exact hrl), bind_e e2]
      refine ⟨vot2, ?_⟩
      rw [show (-1 : Int32) = nn from rfl, if_pos (show nn < wd (mvl c m sz d (k + 1) (pn at_ c (sz k))) by rw [wd_ltm (by omega)]; exact True.intro)]
      rw [show max 0 (mvl c m sz d (k + 1) (pn at_ c (sz k))) = mvl c m sz d (k + 1) (pn at_ c (sz k)) from by omega]
    · rw [if_neg (show ¬ wd (mask (rns at_ (sz k)) c) = 0 by rw [show (0 : Int32) = wd 0 from rfl, wd_inj (by omega) (by omega)]; exact hr0), if_neg hr0]
      obtain ⟨vot1, e1⟩ := hrec at_ med vot hW hV rfl rfl
      rw [show (1 : Int32) = wd 1 from rfl, wd_add, bind_e e1]
      unfold f_X4_mostFrom_B_j48
      by_cases hrl : mask (rns at_ (sz k)) c = mask (alv at_) c
      · rw [if_pos (by rw [hrl]), if_pos hrl]
        refine ⟨vot1, ?_⟩
        rw [show (-1 : Int32) = nn from rfl, if_neg (show ¬ wd (mvl c m sz d (k + 1) at_) < nn by rw [wd_ltm2 (by omega)]; exact id)]
        rw [show max (mvl c m sz d (k + 1) at_) 0 = mvl c m sz d (k + 1) at_ from by omega]
      · rw [if_neg (by rw [wd_inj (by omega) (by omega)]; exact hrl), if_neg hrl]
        obtain ⟨vot2, e2⟩ := c_mstood (fu := fu) (vot := vot1) (D := D) (d := d) hW hV hf hrec
        refine ⟨vot2, ?_⟩
        rw [bind_e e2, wmax (by omega) (by omega)]
theorem c_fbf {m n d k : Nat} {szs sz : Nat → Int32} (hm : m < c) (hn : n ≤ 4) (hsz : ∀ k, k < n → szs k = sz k) (hk : k + d + 1 = n) (hW : WF at_ c) (hV : RV at_ c cou wei med lik) (hal : ∃ w, w < c ∧ alv at_ w = true) (hf : 1000 ≤ fu) : ∃ vot', f_X4_firstBestFacer fu szs (wd n) cou wei med lik vot (wd c) (wd (mask (alv at_) c)) (at_ 1) (wd m) (wd k) = some (wd (fb c m sz d k at_), med, vot') := by
  have h8 := hW.1
  have h256 := mask_256 (rns at_ (sz k)) h8
  have h256' := mask_256 (alv at_) h8
  have hl1 := mvl_le (sz := sz) hm d (k + 1) at_ hW
  have hl2 := mvl_le (sz := sz) hm d (k + 1) (pn at_ c (sz k)) (WF_pn hW)
  unfold f_X4_firstBestFacer
  rw [bind_e (rdI_wd (show k < 4 by omega) (by omega)), hsz k (by omega), bind_e (c_runners h8 hf hV.1 hV.2.2.1), bind_e (c_frn h8 hf), show (-1 : Int32) = nn from rfl, wd_dif, sdf_stn h8, bind_e (c_fsn h8 hf)]
  unfold fb
  cases h1 : frn at_ c (sz k) with
  | none =>
    cases h2 : fsn at_ c (sz k) with
    | none =>
      exfalso
      obtain ⟨w, hw, ha⟩ := hal
      have rl := R_L h8 h2
      rw [R_0 h8 h1] at rl
      exact mask_n0 hw ha rl.symm
    | some s =>
      have hs := fsn_some h2
      rw [if_pos (show oe none = nn from rfl)]
      refine ⟨vot, ?_⟩
      rw [oe_n, oe_s, if_pos (show nn < wd s by rw [wd_ltm (by omega)]; exact True.intro)]
      rfl
  | some r =>
    have hr := frn_some h1
    rw [if_neg (show ¬ oe (some r) = nn by rw [oe_s, wd_eqm (by omega)]; exact id)]
    cases h2 : fsn at_ c (sz k) with
    | none =>
      rw [if_pos (show oe none = nn from rfl)]
      refine ⟨vot, ?_⟩
      rw [oe_n, oe_s, if_neg (show ¬ wd r < nn by rw [wd_ltm2 (by omega)]; exact id)]
      rfl
    | some s =>
      have hs := fsn_some h2
      rw [if_neg (show ¬ oe (some s) = nn by rw [oe_s, wd_eqm (by omega)]; exact id)]
      have hrec : ∀ at' med vot, WF at' c → RV at' c cou wei med lik → alv at' = alv at_ → at' 1 = at_ 1 → ∃ vot', f_X4_mostFrom fu 6 szs (wd n) cou wei med lik vot (wd c) (wd (mask (alv at_) c)) (at_ 1) (wd m) (wd (k + 1)) = some (wd (mvl c m sz d (k + 1) at'), med, vot') := by
        intro at' med vot g1 g2 g3 g4
        obtain ⟨vot', e⟩ := c_mostF (fu := fu) (sz := sz) hm hn hsz hf d (k + 1) 6 at' med vot (by omega) (by omega) g1 g2 (by rw [g3]; exact hal)
        rw [g3, g4] at e
        exact ⟨vot', e⟩
      obtain ⟨vot1, e1⟩ := hrec at_ med vot hW hV rfl rfl
      obtain ⟨vot2, e2⟩ := c_mstood (fu := fu) (vot := vot1) (D := 6) (d := d) hW hV hf hrec
      refine ⟨vot2, ?_⟩
      unfold f_X4_mostIfStood_C
      rw [show (1 : Int32) = wd 1 from rfl, wd_add, bind_e e1, bind_e e2]
      rw [oe_s, oe_s]
      show _ = some (wd (if mvl c m sz d (k + 1) at_ = mvl c m sz d (k + 1) (pn at_ c (sz k)) then (if s < r then s else r) else if mvl c m sz d (k + 1) at_ ≤ mvl c m sz d (k + 1) (pn at_ c (sz k)) then s else r), med, vot2)
      generalize mvl c m sz d (k + 1) at_ = f at hl1
      generalize mvl c m sz d (k + 1) (pn at_ c (sz k)) = g at hl2
      dsimp only
      simp (disch := omega) only [wd_inj, wd_lt, wd_le]
      by_cases hfg : f = g
      · rw [if_pos hfg, if_pos hfg]
        by_cases hsr : s < r
        · rw [if_pos hsr, if_pos hsr]
        · rw [if_neg hsr, if_neg hsr]
      · rw [if_neg hfg, if_neg hfg]
        by_cases hle : f ≤ g
        · rw [if_pos hle, if_pos hle]
        · rw [if_neg hle, if_neg hle]
/-- the medal is pinned for good -/
theorem c_pinw {s : Int32} (hW : WF at_ c) (hV : RV at_ c cou wei med lik) (hf : 1000 ≤ fu) : ∃ med' vot' z, f_X0_winnerOf fu wei lik vot (wd c) (wd (mask (alv at_) c)) (wd (mask (rns at_ s) c)) = some (oe (win at_ c (mask (rns at_ s) c)), vot') ∧ f_X0_pin fu med (wd c) (oe (win at_ c (mask (rns at_ s) c))) = some (z, med') ∧ RV (pn at_ c s) c cou wei med' lik := by
  have h8 := hW.1
  have h256 := mask_256 (rns at_ s) h8
  have e1 := c_winnerOf (fu := fu) (vot := vot) (show mask (rns at_ s) c < 2147483648 by omega) h8 hf hV.2.1 hV.2.2.2 hW.nn
  unfold pn
  cases hx : win at_ c (mask (rns at_ s) c) with
  | none => exact ⟨med, _, wd 0, by rw [e1, hx], c_pinn, hV⟩
  | some w =>
    have hw := win_lt hx
    exact ⟨_, _, _, by rw [e1, hx], c_pin hw.1 h8 (hV.2.2.1 w hw.1) (hW.2.2.2.2 w hw.1).2.2.1, RV_pinA hV hw.1 h8⟩
theorem c_facer {m n kk : Nat} {szs sz : Nat → Int32} (hm : m < c) (hn : n ≤ 4) (hsz : ∀ k, k < n → szs k = sz k) (hkk : kk < n) (hf : 1000 ≤ fu) : ∀ j d k at_ med vot x3 M, k + d = n → k + j = kk → j + 1 < M → WF at_ c → RV at_ c cou wei med lik → (∃ w, w < c ∧ alv at_ w = true) → ∃ med' vot', f_X4_facerOf_l5 fu szs (wd n) cou wei lik (wd c) (wd (mask (alv at_) c)) (at_ 1) (wd m) (wd kk) M med vot x3 (wd k) = some (wd (dgt c m sz d k at_ j), med', vot') := by
  intro j
  induction j with
  | zero =>
    intro d k at_ med vot x3 M hkd hkj hM hW hV hal
    have h8 := hW.1
    obtain ⟨M, rfl⟩ : ∃ z, M = z + 1 + 1 := ⟨M - 2, by omega⟩
    obtain ⟨d, rfl⟩ : ∃ z, d = z + 1 := ⟨d - 1, by omega⟩
    have q0 := imn_wd (c := c) (by omega) hm
    have hkk' : k = kk := by omega
    subst hkk'
    obtain ⟨vot1, e1⟩ := c_fbf (fu := fu) (vot := vot) (d := d) (k := k) hm hn hsz (by omega) hW hV hal hf
    refine ⟨med, vot1, ?_⟩
    rw [f_X4_facerOf_l5, f_X4_facerOf_b5]
    rw [bind_e c_isM, q0, if_neg (show ¬ i01 true = 0 by decide), if_neg (show ¬ wd k < wd k by rw [wd_lt (by omega) (by omega)]; omega), if_neg (show ¬ wd n ≤ wd k by rw [wd_le (by omega) (by omega)]; omega), bind_e e1, if_pos (show wd k ≤ wd k by rw [wd_le (by omega) (by omega)]; omega)]
    simp only [bnd]
    rw [show (1 : Int32) = wd 1 from rfl, wd_add, f_X4_facerOf_l5, f_X4_facerOf_b5]
    rw [bind_e c_isM, q0, if_neg (show ¬ i01 true = 0 by decide), if_pos (show wd k < wd (k + 1) by rw [wd_lt (by omega) (by omega)]; omega)]
    rfl
  | succ j ih =>
    intro d k at_ med vot x3 M hkd hkj hM hW hV hal
    have h8 := hW.1
    obtain ⟨M, rfl⟩ : ∃ z, M = z + 1 := ⟨M - 1, by omega⟩
    obtain ⟨d, rfl⟩ : ∃ z, d = z + 1 := ⟨d - 1, by omega⟩
    have q0 := imn_wd (c := c) (by omega) hm
    obtain ⟨vot1, e1⟩ := c_fbf (fu := fu) (vot := vot) (d := d) (k := k) hm hn hsz (by omega) hW hV hal hf
    have hfb := fb_ok (m := m) (sz := sz) (d := d) (k := k) h8 hal
    rw [f_X4_facerOf_l5, f_X4_facerOf_b5]
    rw [bind_e c_isM, q0, if_neg (show ¬ i01 true = 0 by decide), if_neg (show ¬ wd kk < wd k by rw [wd_lt (by omega) (by omega)]; omega), if_neg (show ¬ wd n ≤ wd k by rw [wd_le (by omega) (by omega)]; omega), bind_e e1, if_neg (show ¬ wd kk ≤ wd k by rw [wd_le (by omega) (by omega)]; omega)]
    show ∃ med' vot', _ = some (wd (dgt c m sz d (k + 1) (nx at_ c (fb c m sz d k at_) (sz k)) j), med', vot')
    rw [bind_e (rdI_wd (show k < 4 by omega) (by omega)), hsz k (by omega), bind_e (c_stands hfb.1 h8 (hV.1 _ hfb.1) (hV.2.2.1 _ hfb.1))]
    simp only [bnd]
    rw [show (1 : Int32) = wd 1 from rfl, wd_add]
    by_cases hb : brv at_ (fb c m sz d k at_) < sz k
    · rw [if_pos (show i01 (!decide (brv at_ (fb c m sz d k at_) < sz k)) = 0 by simp [hb]; rfl)]
      have := ih d (k + 1) at_ med vot1 (wd (fb c m sz d k at_)) M (by omega) (by omega) (by omega) hW hV hal
      unfold nx
      rw [if_pos hb]
      exact this
    · rw [if_neg (show ¬ i01 (!decide (brv at_ (fb c m sz d k at_) < sz k)) = 0 by simp [hb]; decide)]
      obtain ⟨med2, vot2, z2, p1, p2, p3⟩ := c_pinw (fu := fu) (vot := vot1) (s := sz k) hW hV hf
      rw [bind_e (rdI_wd (show k < 4 by omega) (by omega)), hsz k (by omega), bind_e (c_runners h8 hf hV.1 hV.2.2.1), bind_e p1, bind_e p2]
      have := ih d (k + 1) (pn at_ c (sz k)) med2 vot2 (wd (fb c m sz d k at_)) M (by omega) (by omega) (by omega) (WF_pn hW) p3 (by rw [alv_pn]; exact hal)
      rw [alv_pn, pn_1] at this
      unfold nx
      rw [if_neg hb]
      exact this
end
