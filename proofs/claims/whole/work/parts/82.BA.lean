section
variable {fu n k : Nat} {b : Nat → Nat} {by_ text : Nat → Int32} {wc : Nat → Int64} {ki0 st0 va0 wo0 tk0 fr0 vl0 : Int32} {na0 : Int64}
/-- the next token, on both sides -/
theorem t_next (hT : TXT b n by_ text) (hWc : RWc wc) (hk : k ≤ n) (hf : 1000 ≤ fu) : ∃ f e ki va wo na vl, k ≤ f ∧ f_X7_next fu by_ wc ki0 st0 va0 wo0 na0 (wd n) (wd k) = some (ki, wd f, va, wo, na, wd e) ∧ f_X12_ahead fu text (wd n) tk0 fr0 (wd k) vl0 = some (ki, wd f, wd e, vl) ∧ TOK b n f e ki va wo na vl := by
  have h9 := hT.1
  obtain ⟨f, f1, f2, f3, f4⟩ := run_ex (fun i => tx_s (b i)) n (n - k) k (by omega)
  have hc0 : f_X7_next fu by_ wc ki0 st0 va0 wo0 na0 (wd n) (wd k) = f_X7_next_j52 fu by_ wc (wd n) ki0 st0 va0 wo0 na0 (wd f) := by
    unfold f_X7_next
    refine loop_run (fun N i (_ : Unit) => f_X7_next_l0 fu by_ wc (wd n) N ki0 st0 va0 wo0 na0 (wd i)) (fun _ => ()) k f _ ?_ ?_ f1 fu (by omega)
    · intro N i h1 h2
      show f_X7_next_l0 fu by_ wc (wd n) (N + 1) ki0 st0 va0 wo0 na0 (wd i) = _
      obtain ⟨b1, b2, _⟩ := hT.2 i (by omega)
      rw [f_X7_next_l0, f_X7_next_b0, if_neg (by rw [wd_le (by omega) (by omega)]; omega), bind_e (rdI_wd (by omega) (by omega)), b2]
      simp only [bnd]
      rw [show wd i + 1 = wd (i + 1) from wd_add i 1]
      rcases sb_s1 _ b1 (f3 i h1 h2) with g | ⟨g1, g2⟩
      · rw [if_pos (show sb (b i) = 10 from g)]
      · rw [if_neg (show ¬ sb (b i) = 10 from g1), bind_e (rdI_wd (by omega) (by omega)), b2, if_pos (show sb (b i) = 32 from g2)]
    · intro N
      show f_X7_next_l0 fu by_ wc (wd n) (N + 1) ki0 st0 va0 wo0 na0 (wd f) = _
      rw [f_X7_next_l0, f_X7_next_b0]
      by_cases hn : f = n
      · rw [if_pos (by rw [wd_le (by omega) (by omega)]; omega)]
      · obtain ⟨b1, b2, _⟩ := hT.2 f (by omega)
        obtain ⟨g1, g2⟩ := sb_s0 _ b1 (f4 (by omega))
        rw [if_neg (by rw [wd_le (by omega) (by omega)]; omega), bind_e (rdI_wd (by omega) (by omega)), b2, if_neg (show ¬ sb (b f) = 10 from g1), bind_e (rdI_wd (by omega) (by omega)), b2, if_neg (show ¬ sb (b f) = 32 from g2)]
  have hr0 : ∀ r, (∀ N, f_X12_ahead_l0 fu text (wd n) (N + 1) tk0 fr0 (wd f) vl0 = r) → f_X12_ahead fu text (wd n) tk0 fr0 (wd k) vl0 = r := by
    intro r hr
    unfold f_X12_ahead
    refine loop_run (fun N i (_ : Unit) => f_X12_ahead_l0 fu text (wd n) N tk0 fr0 (wd i) vl0) (fun _ => ()) k f r ?_ ?_ f1 fu (by omega)
    · intro N i h1 h2
      show f_X12_ahead_l0 fu text (wd n) (N + 1) tk0 fr0 (wd i) vl0 = _
      have hs := f3 i h1 h2
      simp only [tx_s, decide_eq_true_eq] at hs
      rw [f_X12_ahead_l0, f_X12_ahead_b0, bind_e (r_byte hT (by omega))]
      simp only [bnd]
      rw [show wd i + 1 = wd (i + 1) from wd_add i 1]
      rcases hs with g | g
      · rw [g, if_neg (show ¬ wd 10 = 32 by decide), bind_e (r_byte hT (by omega)), g, if_pos (show wd 10 = 10 from rfl)]
      · rw [g, if_pos (show wd 32 = 32 from rfl)]
    · intro N
      exact hr N
  by_cases hn : f = n
  · subst hn
    refine ⟨f, f, wd 0, wd 0, nn, 0, nn, f1, ?_, ?_, Nat.le_refl f, Or.inl ⟨rfl, rfl, rfl, rfl, rfl⟩⟩
    · rw [hc0]
      unfold f_X7_next_j52
      rw [if_neg (by rw [wd_lt (by omega) (by omega)]; omega)]
      rfl
    · apply hr0
      intro N
      rw [f_X12_ahead_l0, f_X12_ahead_b0, bind_e (r_byteN hT), if_neg (show ¬ nn = 32 by decide), bind_e (r_byteN hT), if_neg (show ¬ nn = 10 by decide), bind_e (r_byteN hT), if_pos (show nn = -1 from rfl)]
      rfl
  · obtain ⟨b1, b2, _⟩ := hT.2 f (by omega)
    have hns := f4 (by omega)
    simp only [tx_s, decide_eq_false_iff_not] at hns
    have hca : f_X7_next_j52 fu by_ wc (wd n) ki0 st0 va0 wo0 na0 (wd f) = (if i01 (tx_l (b f)) = 0 then (if i01 (tx_d (b f)) = 0 then (if sb (b f) = 59 then some ((4 : Int32), wd f, sb (b f), (-1 : Int32), (0 : Int64), wd (f + 1)) else (if sb (b f) = 60 then some (4, wd f, sb (b f), (-1), 0, wd (f + 1)) else (if sb (b f) = 62 then some (4, wd f, sb (b f), (-1), 0, wd (f + 1)) else (if sb (b f) = 61 then some (4, wd f, sb (b f), (-1), 0, wd (f + 1)) else some (1, wd f, sb (b f), (-1), 0, wd (f + 1)))))) else (f_X7_takeDigits fu by_ ki0 (wd f) 0 (wd n) (wd f)).bind fun z_51 => some (z_51.1, wd f, z_51.2.1, (-1), 0, z_51.2.2)) else (f_X7_takeLetters fu by_ wc ki0 (wd f) (-1) 0 (wd n) (wd f)).bind fun z_52 => some (z_52.1, wd f, 0, z_52.2.1, z_52.2.2.1, z_52.2.2.2)) := by
      unfold f_X7_next_j52
      rw [if_pos (by rw [wd_lt (by omega) (by omega)]; omega), bind_e (rdI_wd (by omega) (by omega)), b2, bind_e (show f_X7_isLetter fu (sb (b f)) = some (i01 (tx_l (b f))) from c_sm _ b1), bind_e (rdI_wd (by omega) (by omega)), b2, bind_e (show f_X7_isDigit fu (sb (b f)) = some (i01 (tx_d (b f))) from c_dg _ b1), bind_e (rdI_wd (by omega) (by omega)), b2]
      simp only [bnd]
      rw [show wd f + 1 = wd (f + 1) from wd_add f 1]
    have hra : ∀ N, f_X12_ahead_l0 fu text (wd n) (N + 1) tk0 fr0 (wd f) vl0 = (if i01 (tx_l (b f)) = 0 then (if i01 (tx_d (b f)) = 0 then (if wd (b f) = 59 then some ((4 : Int32), wd f, wd (f + 1), wd (b f)) else (if wd (b f) = 60 then some (4, wd f, wd (f + 1), wd (b f)) else (if wd (b f) = 62 then some (4, wd f, wd (f + 1), wd (b f)) else (if wd (b f) = 61 then some (4, wd f, wd (f + 1), wd (b f)) else some (1, wd f, wd (f + 1), wd (b f)))))) else f_X12_ahead_l128 fu text (wd n) fu tk0 (wd f) (wd f) 0) else f_X12_ahead_l81 fu text (wd n) fu tk0 (wd f) (wd f) (wd (b f))) := by
      intro N
      rw [f_X12_ahead_l0, f_X12_ahead_b0, bind_e (r_byte hT (by omega)), if_neg (show ¬ wd (b f) = 32 from by
        show ¬ wd (b f) = wd 32
        rw [wd_inj (by omega) (by omega)]; omega), bind_e (r_byte hT (by omega)), if_neg (show ¬ wd (b f) = 10 from by
        show ¬ wd (b f) = wd 10
        rw [wd_inj (by omega) (by omega)]; omega), bind_e (r_byte hT (by omega)), if_neg (show ¬ wd (b f) = -1 from by
        show ¬ wd (b f) = nn
        rw [wd_eqm (by omega)]; exact id), bind_e (r_sm b1), bind_e (r_dg b1)]
      simp only [bnd]
      rw [show wd f + 1 = wd (f + 1) from wd_add f 1]
    cases hL : tx_l (b f)
    · cases hD : tx_d (b f)
      · -- a sign, or none
        rw [hL, hD] at hca hra
        rw [if_pos (show i01 false = 0 from rfl), if_pos (show i01 false = 0 from rfl)] at hca
        simp only [if_pos (show i01 false = 0 from rfl)] at hra
        have hcs : ∀ c, c < 128 → (sb (b f) = wd c) = (b f = c) := fun c hc => sb_eq b1 hc
        have hrs : ∀ c, c < 128 → (wd (b f) = wd c) = (b f = c) := fun c hc => wd_inj (by omega) (by omega)
        by_cases hs : b f = 59 ∨ b f = 60 ∨ b f = 61 ∨ b f = 62
        · have hsb : sb (b f) = wd (b f) := by
            unfold sb; rw [if_pos (by omega)]
          refine ⟨f, f + 1, wd 4, wd (b f), nn, 0, wd (b f), f1, ?_, hr0 _ (fun N => (hra N).trans ?_), by omega, Or.inr ⟨by omega, Or.inr (Or.inr (Or.inr ⟨rfl, rfl, rfl, b f, by omega, rfl, rfl⟩))⟩⟩
          · rw [hc0, hca, hsb]
            rcases hs with g | g | g | g <;> rw [g] <;> rfl
          · rcases hs with g | g | g | g <;> rw [g] <;> rfl
        · refine ⟨f, f + 1, wd 1, sb (b f), nn, 0, wd (b f), f1, ?_, hr0 _ (fun N => (hra N).trans ?_), by omega, Or.inr ⟨by omega, Or.inl ⟨rfl, rfl, rfl⟩⟩⟩
          · rw [hc0, hca, if_neg (show ¬ sb (b f) = 59 from by
              show ¬ sb (b f) = wd 59
              rw [hcs 59 (by omega)]; omega), if_neg (show ¬ sb (b f) = 60 from by
              show ¬ sb (b f) = wd 60
              rw [hcs 60 (by omega)]; omega), if_neg (show ¬ sb (b f) = 62 from by
              show ¬ sb (b f) = wd 62
              rw [hcs 62 (by omega)]; omega), if_neg (show ¬ sb (b f) = 61 from by
              show ¬ sb (b f) = wd 61
              rw [hcs 61 (by omega)]; omega)]
            rfl
          · rw [if_neg (show ¬ wd (b f) = 59 from by
              show ¬ wd (b f) = wd 59
              rw [hrs 59 (by omega)]; omega), if_neg (show ¬ wd (b f) = 60 from by
              show ¬ wd (b f) = wd 60
              rw [hrs 60 (by omega)]; omega), if_neg (show ¬ wd (b f) = 62 from by
              show ¬ wd (b f) = wd 62
              rw [hrs 62 (by omega)]; omega), if_neg (show ¬ wd (b f) = 61 from by
              show ¬ wd (b f) = wd 61
              rw [hrs 61 (by omega)]; omega)]
            rfl
      · -- a number, or too long
        rw [hL, hD, if_pos (show i01 false = 0 from rfl), if_neg (show ¬ i01 true = 0 by decide)] at hca
        simp only [hL, hD, if_pos (show i01 false = 0 from rfl), if_neg (show ¬ i01 true = 0 by decide)] at hra
        obtain ⟨e, e1, e2, e3, e4⟩ := run_ex (fun i => tx_d (b i)) n (n - f) f (by omega)
        have hfe : f < e := by
          rcases Nat.lt_or_ge f e with h | h
          · exact h
          · have : e = f := by omega
            have := e4 (by omega)
            rw [‹e = f›] at this
            have this : tx_d (b f) = false := this
            rw [hD] at this; cases this
        have c1 := c_digits (ki := ki0) hT hfe e2 e3 e4 hf
        have r1 := r_digits (tk := tk0) hT hfe e2 e3 e4 hf
        rw [bind_e c1] at hca
        simp only [r1] at hra
        by_cases h4 : e - f ≤ 4
        · obtain ⟨v, v1, v2, v3⟩ := dv_e (b := b) (f := f) (e - f) h4 (fun i hi => e3 (f + i) (by omega) (by omega))
          have hp : 10 ^ (e - f) ≤ 10 ^ 4 := Nat.pow_le_pow_right (by omega) h4
          simp only [Nat.reducePow] at hp
          refine ⟨f, e, wd 3, wd v, nn, 0, wd v, f1, ?_, hr0 _ (fun N => (hra N).trans ?_), e2, Or.inr ⟨hfe, Or.inr (Or.inr (Or.inl ⟨rfl, rfl, rfl, v, by omega, rfl, rfl⟩))⟩⟩
          · rw [hc0, hca, if_pos h4, v2]; rfl
          · rw [if_pos h4, v3]
        · refine ⟨f, e, wd 1, cdv b f (e - f), nn, 0, rdv b f (e - f), f1, ?_, hr0 _ (fun N => (hra N).trans ?_), e2, Or.inr ⟨hfe, Or.inl ⟨rfl, rfl, rfl⟩⟩⟩
          · rw [hc0, hca, if_neg h4]; rfl
          · rw [if_neg h4]
    · -- a word
      rw [hL, if_neg (show ¬ i01 true = 0 by decide)] at hca
      simp only [hL, if_neg (show ¬ i01 true = 0 by decide)] at hra
      obtain ⟨e, e1, e2, e3, e4⟩ := run_ex (fun i => tx_l (b i)) n (n - f) f (by omega)
      have hfe : f < e := by
        rcases Nat.lt_or_ge f e with h | h
        · exact h
        · have : e = f := by omega
          have := e4 (by omega)
          rw [‹e = f›] at this
          have this : tx_l (b f) = false := this
          rw [hL] at this; cases this
      obtain ⟨wo, na, c1, c2⟩ := c_letters (ki := ki0) hT hWc hfe e2 e3 e4 hf
      have r1 := r_letters (tk := tk0) (vl := wd (b f)) hT hfe e2 e3 e4 hf
      rw [bind_e c1] at hca
      simp only [r1] at hra
      exact ⟨f, e, wd 2, wd 0, wo, na, wd (b f), f1, by rw [hc0, hca]; rfl, hr0 _ hra, e2, Or.inr ⟨hfe, Or.inr (Or.inl ⟨rfl, e3, c2⟩)⟩⟩
end
