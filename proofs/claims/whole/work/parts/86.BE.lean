section
variable {fu n f e c : Nat} {b : Nat → Nat} {by_ text at_ : Nat → Int32} {wc nam names : Nat → Int64} {cou wei med sto fle lik : Nat → Int32} {cnt liv pri quo mel los : Int32} {ki va wo vl ft pl fp told pt qt : Int32} {na : Int64}

theorem RA_med {m : Nat} {x : Int32} (hR : RA at_ c cou wei med sto fle lik cnt liv pri quo mel los) (h8 : c ≤ 8) (hm : m < c) : RA (upd at_ (8 + 14 * m + 2) x) c cou wei (upd med m x) sto fle lik cnt liv pri quo mel los := by
  obtain ⟨⟨a1, a2, a3, a4⟩, e1, e2, e3, e4, e5, e6, h3, h4, h0⟩ := hR
  have hal : ∀ k, alv (upd at_ (8 + 14 * m + 2) x) k = alv at_ k := by
    intro k
    unfold alv
    rw [mn_upd (by omega) (by omega), if_neg (by omega)]
  refine ⟨⟨?_, ?_, ?_, ?_⟩, e1, ?_, by rw [upd_ne (by omega)]; exact e3, by rw [upd_ne (by omega)]; exact e4, by rw [upd_ne (by omega)]; exact e5, by rw [upd_ne (by omega)]; exact e6, ?_, ?_, ?_⟩
  · intro k hk; rw [mn_upd (by omega) (by omega), if_neg (by omega)]; exact a1 k hk
  · intro k hk; rw [mn_upd (by omega) (by omega), if_neg (by omega)]; exact a2 k hk
  · intro k hk
    rw [mn_upd (by omega) (by omega)]
    by_cases hkm : k = m
    · rw [if_pos ⟨hkm, rfl⟩, hkm, upd_eq]
    · rw [if_neg (fun h => hkm h.1), upd_ne hkm]; exact a3 k hk
  · intro k o hk ho; rw [mn_upd (by omega) (by omega), if_neg (by omega)]; exact a4 k o hk ho
  · rw [e2, mask_congr (fun k _ => hal k)]
  · intro k hk; rw [mn_upd (by omega) (by omega), if_neg (by omega)]; exact h3 k hk
  · intro k hk; rw [mn_upd (by omega) (by omega), if_neg (by omega)]; exact h4 k hk
  · intro k hk hk8; rw [upd_ne (by omega)]; exact h0 k hk hk8
/-- what the reference does with a number that may be told -/
def rTold {ρ : Type} (fu : Nat) (text : Nat → Int32) (sz : Int32) (at_ : Nat → Int32) (ki fr en vl fp fs k to hi : Int32) (J F : (Nat → Int32) → Int32 → Int32 → Int32 → Int32 → Int32 → Int32 → Option ρ) : Option ρ := (f_X12_isThere fu text sz ki fr en vl k).bind fun z => if z.1 = 0 then J at_ z.2.1 z.2.2.1 z.2.2.2.1 z.2.2.2.2 fp fs else (f_X12_number fu at_ text sz z.2.1 z.2.2.1 z.2.2.2.1 z.2.2.2.2 fp fs to 0 hi).bind fun y => if y.1 = 0 then F y.2.1 y.2.2.1 y.2.2.2.1 y.2.2.2.2.1 y.2.2.2.2.2.1 y.2.2.2.2.2.2.1 y.2.2.2.2.2.2.2 else J y.2.1 y.2.2.1 y.2.2.2.1 y.2.2.2.2.1 y.2.2.2.2.2.1 y.2.2.2.2.2.2.1 y.2.2.2.2.2.2.2
theorem x_told {i hi_ to d : Nat} (hi : i < 19) (hhi : hi_ < 2000) (hdh : d ≤ hi_) (hto : to < 3648) (hd : at_ to = wd d) (hT : TXT b n by_ text) (hWc : RWc wc) (h : TOK b n f e ki va wo na vl) (hf : 1000 ≤ fu) : (∃ v f' e' ki' va' wo' na' vl', v ≤ hi_ ∧ f ≤ f' ∧ TOK b n f' e' ki' va' wo' na' vl' ∧ f_X1_takeIfTold fu ft pl by_ wc ki (wd f) va wo na (wd n) (wd e) (wd i) (wd hi_) (wd d) = some (wd v, ft, pl, ki', wd f', va', wo', na', wd e') ∧ ∀ (ρ : Type) (J F : (Nat → Int32) → Int32 → Int32 → Int32 → Int32 → Int32 → Int32 → Option ρ), rTold fu text (wd n) at_ ki (wd f) (wd e) vl fp (wd 0) (wd (km i)) (wd to) (wd hi_) J F = J (upd at_ to (wd v)) ki' (wd f') (wd e') vl' fp (wd 0)) ∨ (∃ x f' e' ki' va' wo' na' vl', 0 < x ∧ x ≤ 9 ∧ f_X1_takeIfTold fu ft pl by_ wc ki (wd f) va wo na (wd n) (wd e) (wd i) (wd hi_) (wd d) = some (nn, wd x, wd f', ki', wd f', va', wo', na', wd e') ∧ ∀ (ρ : Type) (J F : (Nat → Int32) → Int32 → Int32 → Int32 → Int32 → Int32 → Int32 → Option ρ), rTold fu text (wd n) at_ ki (wd f) (wd e) vl fp (wd 0) (wd (km i)) (wd to) (wd hi_) J F = F at_ ki' (wd f') (wd e') vl' (wd f') (wd x)) := by
  have hki := (kw_c i hi).2
  have key : ∃ g : Bool, (wo = wd i) = (g = true) ∧ ∃ v, f_X12_inWords fu 1 text (wd n) ki (wd f) (wd e) = some v ∧ (v = wd (km i)) = (g = true) := by
    rcases tok_word hT h hf with ⟨h1, h2⟩ | ⟨j, hj, h1, _, h2⟩
    · exact ⟨false, by rw [h1, wd_eqm' (by omega)]; simp, nn, h2, by rw [wd_eqm' (by omega)]; simp⟩
    · have hkj := (kw_c j hj).2
      refine ⟨decide (j = i), by rw [h1, wd_inj (by omega) (by omega)]; simp, wd (km j), h2, ?_⟩
      rw [wd_inj (by omega) (by omega)]
      apply propext
      rw [decide_eq_true_eq]
      exact ⟨km_d j hj i hi, fun h => by rw [h]⟩
  obtain ⟨g, g1, v, g2, g3⟩ := key
  cases g
  · left
    refine ⟨d, f, e, ki, va, wo, na, vl, hdh, Nat.le_refl f, h, ?_, fun ρ J F => ?_⟩
    · unfold f_X1_takeIfTold
      rw [if_neg (by rw [g1]; decide)]
    · unfold rTold f_X12_isThere
      rw [bind_e g2, if_neg (by rw [g3]; decide), upd_id hd]
      rfl
  · obtain ⟨f1, e1, ki1, va1, wo1, na1, vl1, k1, k2, k3, k4⟩ := t_next (fu := fu) (ki0 := ki) (st0 := wd f) (va0 := va) (wo0 := wo) (na0 := na) (tk0 := ki) (fr0 := wd f) (vl0 := vl) hT hWc h.le hf
    have hfe := h.fe
    have hth : f_X12_isThere fu text (wd n) ki (wd f) (wd e) vl (wd (km i)) = some (wd 1, ki1, wd f1, wd e1, vl1) := by
      unfold f_X12_isThere
      rw [bind_e g2, if_pos (by rw [g3]), bind_e k3]
      rfl
    rcases t_number (ft := ft) (pl := pl) (fp := fp) (at_ := at_) (lo := 0) (hi_ := hi_) (to := to) (by omega) (by omega) hto hT hWc k4 hf with ⟨v, f2, e2, ki2, va2, wo2, na2, vl2, v1, v2, m1, m2, m3, m4⟩ | ⟨x, x1, x2, m3, m4⟩
    · left
      have hfe1 := k4.fe
      refine ⟨v, f2, e2, ki2, va2, wo2, na2, vl2, v2, by omega, m2, ?_, fun ρ J F => ?_⟩
      · unfold f_X1_takeIfTold
        rw [if_pos (by rw [g1]), bind_e k2, bind_e (show f_X6_takeNumber fu ft pl by_ wc ki1 (wd f1) va1 wo1 na1 (wd n) (wd e1) 0 (wd hi_) = _ from m3)]
      · unfold rTold
        rw [bind_e hth, if_neg (show ¬ wd 1 = 0 by decide), bind_e (show f_X12_number fu at_ text (wd n) ki1 (wd f1) (wd e1) vl1 fp (wd 0) (wd to) 0 (wd hi_) = _ from m4)]
        rfl
    · right
      refine ⟨x, f1, e1, ki1, va1, wo1, na1, vl1, x1, x2, ?_, fun ρ J F => ?_⟩
      · unfold f_X1_takeIfTold
        rw [if_pos (by rw [g1]), bind_e k2, bind_e (show f_X6_takeNumber fu ft pl by_ wc ki1 (wd f1) va1 wo1 na1 (wd n) (wd e1) 0 (wd hi_) = _ from m3)]
      · unfold rTold
        rw [bind_e hth, if_neg (show ¬ wd 1 = 0 by decide), bind_e (show f_X12_number fu at_ text (wd n) ki1 (wd f1) (wd e1) vl1 fp (wd 0) (wd to) 0 (wd hi_) = _ from m4)]
        rfl
/-- the new man in the reference's slot -/
def manA (B : Nat → Int32) (c : Nat) (x y : Int32) : Nat → Int32 := upd (upd (upd (upd B (8 + 14 * c + 1) (wd 1)) (8 + 14 * c + 0) x) (8 + 14 * c + 1) y) 0 (wd (c + 1))
theorem manA_EN {B : Nat → Int32} {x y : Int32} (h8 : c < 8) (aZ : ∀ m j, c ≤ m → m < 8 → 2 ≤ j → j < 6 → mn B m j = wd 0) (aL : ∀ m o, m < 8 → o < 8 → c ≤ m ∨ c ≤ o → mn B m (6 + o) = if m = o then wd 0 else wd 5) : EN B (manA B c x y) c x y := by
  refine ⟨upd_eq, ?_, ?_, ?_⟩
  · intro k h1 h2
    unfold manA
    rw [upd_ne (by omega), upd_ne (by omega), upd_ne (by omega), upd_ne (by omega)]
  · intro k h1
    unfold manA
    rw [upd_ne (by omega), upd_ne (by omega), upd_ne (by omega), upd_ne (by omega)]
  · intro m j hm hj
    unfold manA
    rw [mn_upd8 (by omega), mn_upd (by omega) hj, mn_upd (by omega) hj, mn_upd (by omega) hj]
    unfold enV
    by_cases hmc : m = c
    · subst hmc
      rw [if_pos rfl]
      by_cases h0 : j = 0
      · rw [if_neg (by omega), if_pos ⟨rfl, h0⟩, if_pos h0]
      · by_cases h1 : j = 1
        · rw [if_pos ⟨rfl, h1⟩, if_neg h0, if_pos h1]
        · rw [if_neg (by omega), if_neg (by omega), if_neg (by omega), if_neg h0, if_neg h1]
          by_cases h6 : j < 6
          · rw [if_pos h6, aZ m j (Nat.le_refl m) hm (by omega) h6]
          · obtain ⟨o, rfl⟩ : ∃ o, j = 6 + o := ⟨j - 6, by omega⟩
            rw [if_neg h6, aL m o hm (by omega) (Or.inl (Nat.le_refl m))]
            by_cases ho : m = o
            · rw [if_pos ho, if_pos (by omega)]
            · rw [if_neg ho, if_neg (by omega)]
    · rw [if_neg (by omega), if_neg (by omega), if_neg (by omega), if_neg hmc]
      by_cases hj6 : j = 6 + c
      · rw [if_pos hj6, hj6, aL m c hm h8 (Or.inr (Nat.le_refl c)), if_neg hmc]
      · rw [if_neg hj6]
theorem mn_manA {B : Nat → Int32} {x y z : Int32} {m j : Nat} (h : m ≠ c ∨ 6 ≤ j) (hj : j < 14) : mn (upd (manA B c x y) (8 + 14 * c + 2) z) m j = mn B m j := by
  unfold manA
  rw [mn_upd (by omega) hj, if_neg (by omega), mn_upd8 (by omega), mn_upd (by omega) hj, if_neg (by omega), mn_upd (by omega) hj, if_neg (by omega), mn_upd (by omega) hj, if_neg (by omega)]
end
