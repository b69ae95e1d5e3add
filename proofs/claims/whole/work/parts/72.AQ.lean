theorem wd_div {a b : Nat} (ha : a < 2147483648) (hb : b < 2147483648) : wd a / wd b = wd (a / b) := by
  apply Int32.toInt_inj.1
  have hd : a / b ≤ a := Nat.div_le_self a b
  rw [Int32.toInt_div, wd_int ha, wd_int hb, wd_int (by omega), ← Int.ofNat_tdiv]
  generalize a / b = q at hd ⊢
  apply Int.bmod_eq_of_le <;> omega
theorem wd_mod {a b : Nat} (ha : a < 2147483648) (hb : b < 2147483648) : wd a - wd a / wd b * wd b = wd (a % b) := by
  rw [wd_div ha hb, wd_mul, wd_sub (Nat.div_mul_le_self a b)]
  congr 1
  have := Nat.div_add_mod a b
  rw [Nat.mul_comm] at this
  omega
/-- the next number drawn -/
def drw (D : Nat) : Nat := (D * 3109 + 11321) % 65536
theorem drw_le (D : Nat) : drw D ≤ 65535 := by
  have := Nat.mod_lt (D * 3109 + 11321) (show 0 < 65536 by omega)
  unfold drw; omega
section
variable {fu c : Nat} {at_ cou wei med sto fle lik vot ran : Nat → Int32} {cnt liv pri quo mel los ms sd fl pi : Int32}
theorem drw_e {D : Nat} (hD : D ≤ 65535) : (((wd D * wd 3109) + wd 11321) - ((wd D * wd 3109) + wd 11321) / wd 65536 * wd 65536) = wd (drw D) := by
  rw [wd_mul, wd_add, wd_mod (by omega) (by omega)]; rfl
theorem r_draw {D n : Nat} (hD : D ≤ 65535) (hn : 0 < n) (hn2 : n ≤ 100) : f_X12_draw fu (wd D) (wd n) = some (wd (drw D / 8 % n), wd (drw D)) := by
  have hl := drw_le D
  unfold f_X12_draw
  simp only [bnd]
  rw [show (3109 : Int32) = wd 3109 from wd_lit 3109, show (11321 : Int32) = wd 11321 from wd_lit 11321, show (65536 : Int32) = wd 65536 from wd_lit 65536, drw_e hD, show (8 : Int32) = wd 8 from rfl, wd_div (by omega) (by omega), wd_mod (by omega) (by omega)]
  unfold nzI
  rw [if_neg (show ¬ wd n = 0 by rw [show (0 : Int32) = wd 0 from rfl, wd_inj (by omega) (by omega)]; omega)]
  rfl
theorem c_draw {D n : Nat} (hD : D ≤ 65535) (hn : 0 < n) (hn2 : n ≤ 100) : f_X2_drawBy fu (wd D) (wd n) = some (wd (drw D / 8 % n), wd (drw D)) := by
  have hl := drw_le D
  unfold f_X2_drawBy
  simp only [bnd]
  rw [show (3109 : Int32) = wd 3109 from wd_lit 3109, show (11321 : Int32) = wd 11321 from wd_lit 11321, show (65536 : Int32) = wd 65536 from wd_lit 65536, drw_e hD, show (8 : Int32) = wd 8 from rfl, wd_div (by omega) (by omega), wd_mod (by omega) (by omega), if_neg (show ¬ wd n ≤ 0 by rw [show (0 : Int32) = wd 0 from rfl, wd_le (by omega) (by omega)]; omega)]
  unfold nzI
  rw [if_neg (show ¬ wd n = 0 by rw [show (0 : Int32) = wd 0 from rfl, wd_inj (by omega) (by omega)]; omega)]
  rfl
/-- what is counted -/
def CN (ms sd fl pi : Int32) (ran : Nat → Int32) : Prop := ran 0 = ms ∧ ran 1 = sd ∧ ran 2 = fl ∧ ran 3 = pi
/-- one faces a danger, and it is counted; whether he could -/
theorem t_faceD {m : Nat} {s : Int32} (hW : WF at_ c) (hR : RA at_ c cou wei med sto fle lik cnt liv pri quo mel los) (hm : m < c) (hC : CN ms sd fl pi ran) (hf : 1000 ≤ fu) : ∃ ok sd' fl' pi' med' sto' fle' vot' mel' los' at' ran', f_X2_faceDanger fu ms sd fl pi cou wei med sto fle lik vot cnt liv pri mel los (wd m) s = some (ms + (if ok then wd 0 else wd 1), sd', fl', pi', med', sto', fle', vot', mel', los') ∧ f_X12_facesBy fu at_ ran (wd m) s = some (i01 ok, at', ran') ∧ WF at' c ∧ RA at' c cou wei med' sto' fle' lik cnt liv pri quo mel' los' ∧ FR at_ at' ∧ CN ms sd' fl' pi' ran' ∧ ran' 4 = ran 4 := by
  have h8 := hW.1
  have hc := hW.2.1
  have ec := hR.2.1
  have el := hR.2.2.1
  have hlv : f_X0_lives fu cnt liv (wd m) = some (i01 (alv at_ m)) := by rw [ec, el]; exact c_lives hm h8
  cases hal : alv at_ m
  · refine ⟨false, sd, fl, pi, med, sto, fle, vot, mel, los, at_, ran, ?_, ?_, hW, hR, FR.rf, hC, rfl⟩
    · unfold f_X2_faceDanger
      rw [bind_e hlv, hal]
      rfl
    · unfold f_X12_facesBy
      rw [bind_e (r_isAlive (by omega)), hal]
      rfl
  · obtain ⟨med', sto', fle', vot', mel', los', e1, hW', hR', hF⟩ := p_faces (vot := vot) (s := s) hW hR hm hf
    obtain ⟨k, hk, ek⟩ := facesA_r (at_ := at_) (c := c) (m := m) (s := s) h8
    obtain ⟨c0, c1, c2, c3⟩ := hC
    have hrf : f_X12_facesBy fu at_ ran (wd m) s = (if wd k = wd 9 then f_X12_facesBy_j32 fu (wd m) s (facesA at_ c m s).2 ran (wd k) (wd 2) else f_X12_facesBy_j32 fu (wd m) s (facesA at_ c m s).2 ran (wd k) (wd 1)) := by
      unfold f_X12_facesBy
      rw [bind_e (r_isAlive (by omega)), hal, if_neg (show ¬ i01 true = 0 by decide), bind_e (r_faces (by omega) hc h8 hf), ek]
      rfl
    have hj : ∀ i, i < 3 → 1 ≤ i → f_X12_facesBy_j32 fu (wd m) s (facesA at_ c m s).2 ran (wd k) (wd i) = some (wd 1, (facesA at_ c m s).2, upd (upd ran i (ran i + wd 1)) 3 (ran 3 + (if 8 ≤ k then wd 0 else wd 1))) := by
      intro i hi hi1
      unfold f_X12_facesBy_j32
      rw [bind_e (rdI_wd (by omega) (by omega)), show (1 : Int32) = wd 1 from rfl, bind_e (wrI_wd (by omega) (by omega)), show (3 : Int32) = wd 3 from rfl, bind_e (rdI_wd (by omega) (by omega)), upd_ne (show 3 ≠ i by omega), show (8 : Int32) = wd 8 from rfl, show (0 : Int32) = wd 0 from rfl]
      by_cases h : 8 ≤ k
      · rw [if_pos (by rw [wd_le (by omega) (by omega)]; exact h), if_pos h, bind_e (wrI_wd (by omega) (by omega))]
      · rw [if_neg (by rw [wd_le (by omega) (by omega)]; exact h), if_neg h, bind_e (wrI_wd (by omega) (by omega))]
    have hcf : f_X2_faceDanger fu ms sd fl pi cou wei med sto fle lik vot cnt liv pri mel los (wd m) s = if wd k = wd 9 then some (ms, sd, fl + wd 1, pi, med', sto', fle', vot', mel', los') else if wd k = wd 8 then some (ms, sd + wd 1, fl, pi, med', sto', fle', vot', mel', los') else some (ms, sd + wd 1, fl, pi + wd 1, med', sto', fle', vot', mel', los') := by
      unfold f_X2_faceDanger
      rw [bind_e hlv, hal, if_neg (show ¬ i01 true = 0 by decide), bind_e e1, ek]
      rfl
    rw [hcf, hrf]
    by_cases h9 : k = 9
    · subst h9
      rw [if_pos rfl, if_pos rfl, hj 2 (by omega) (by omega), if_pos (by omega)]
      refine ⟨true, sd, fl + wd 1, pi, med', sto', fle', vot', mel', los', _, _, ?_, rfl, hW', hR', hF, ⟨?_, ?_, ?_, ?_⟩, ?_⟩
      · rw [if_pos rfl, wd_a0]
      · rw [upd_ne (by omega), upd_ne (by omega)]; exact c0
      · rw [upd_ne (by omega), upd_ne (by omega)]; exact c1
      · rw [upd_ne (by omega), upd_eq, c2]
      · rw [upd_eq, c3, wd_a0]
      · rw [upd_ne (by omega), upd_ne (by omega)]
    · have n9 : ¬ wd k = wd 9 := by rw [wd_inj (by omega) (by omega)]; exact h9
      rw [if_neg n9, if_neg n9, hj 1 (by omega) (by omega)]
      by_cases h8' : k = 8
      · subst h8'
        rw [if_pos (show wd 8 = wd 8 from rfl), if_pos (show 8 ≤ 8 by omega)]
        refine ⟨true, sd + wd 1, fl, pi, med', sto', fle', vot', mel', los', _, _, ?_, rfl, hW', hR', hF, ⟨?_, ?_, ?_, ?_⟩, ?_⟩
        · rw [if_pos rfl, wd_a0]
        · rw [upd_ne (by omega), upd_ne (by omega)]; exact c0
        · rw [upd_ne (by omega), upd_eq, c1]
        · rw [upd_ne (by omega), upd_ne (by omega)]; exact c2
        · rw [upd_eq, c3, wd_a0]
        · rw [upd_ne (by omega), upd_ne (by omega)]
      · have n8 : ¬ wd k = wd 8 := by rw [wd_inj (by omega) (by omega)]; exact h8'
        rw [if_neg n8, if_neg (show ¬ 8 ≤ k by omega)]
        refine ⟨true, sd + wd 1, fl, pi + wd 1, med', sto', fle', vot', mel', los', _, _, ?_, rfl, hW', hR', hF, ⟨?_, ?_, ?_, ?_⟩, ?_⟩
        · rw [if_pos rfl, wd_a0]
        · rw [upd_ne (by omega), upd_ne (by omega)]; exact c0
        · rw [upd_ne (by omega), upd_eq, c1]
        · rw [upd_ne (by omega), upd_ne (by omega)]; exact c2
        · rw [upd_eq, c3]
        · rw [upd_ne (by omega), upd_ne (by omega)]
end
