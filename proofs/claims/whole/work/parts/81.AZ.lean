/-- what stands at a place of a text, from f to e, on both sides -/
def TOK (b : Nat → Nat) (n f e : Nat) (ki va wo : Int32) (na : Int64) (vl : Int32) : Prop := e ≤ n ∧ ((ki = wd 0 ∧ f = n ∧ e = n ∧ wo = nn ∧ na = 0) ∨ (f < e ∧ ((ki = wd 1 ∧ wo = nn ∧ na = 0) ∨ (ki = wd 2 ∧ (∀ i, f ≤ i → i < e → tx_l (b i) = true) ∧ ((∃ i, i < 19 ∧ wo = wd i ∧ na = 0 ∧ wmt b f e (km i) = true) ∨ (wo = nn ∧ (∀ t, t < 19 → wmt b f e t = false) ∧ ((e - f ≤ 8 ∧ na = Int64.ofNat (c32 (lts b f (e - f)) 0)) ∨ (8 < e - f ∧ na = 0))))) ∨ (ki = wd 3 ∧ wo = nn ∧ na = 0 ∧ ∃ v, v ≤ 9999 ∧ va = wd v ∧ vl = wd v) ∨ (ki = wd 4 ∧ wo = nn ∧ na = 0 ∧ ∃ c, c < 128 ∧ va = wd c ∧ vl = wd c))))
section
variable {fu n f e : Nat} {b : Nat → Nat} {by_ text : Nat → Int32} {wc : Nat → Int64}
theorem wc_mt {i : Nat} (hWc : RWc wc) (hl : ∀ i, f ≤ i → i < e → tx_l (b i) = true) (hfe : f ≤ e) (h8 : e - f ≤ 8) (hi : i < 19) : (wc i = Int64.ofNat (c32 (lts b f (e - f)) 0)) = (wmt b f e (km i) = true) := by
  have hm := lts_mem b f (e - f) (fun j hj => hl (f + j) (by omega) (by omega))
  have hb := c32_8 hm (by rw [lts_len]; exact h8)
  obtain ⟨k1, k2⟩ := kw_c i hi
  obtain ⟨_, _, p3, p4, _⟩ := kp_s (km i) k2
  have hm' := lts_mem kc (kp (km i)) (kl (km i)) (kp_l (km i) k2)
  have hb' := c32_8 hm' (by rw [lts_len]; omega)
  rw [hWc i hi, k1, j_inj (by omega) (by omega)]
  unfold wmt
  apply propext
  rw [Bool.and_eq_true, decide_eq_true_eq, decide_eq_true_eq]
  constructor
  · intro h
    have := c32_in hm' hm h
    refine ⟨?_, this.symm⟩
    have h2 := congrArg List.length this
    rw [lts_len, lts_len] at h2
    omega
  · intro h; rw [h.2]
theorem c_letters {ki : Int32} (hT : TXT b n by_ text) (hWc : RWc wc) (hfe : f < e) (hen : e ≤ n) (hl : ∀ i, f ≤ i → i < e → tx_l (b i) = true) (hend : e < n → tx_l (b e) = false) (hf : 1000 ≤ fu) : ∃ wo na, f_X7_takeLetters fu by_ wc ki (wd f) (-1) 0 (wd n) (wd f) = some (wd 2, wo, na, wd e) ∧ ((∃ i, i < 19 ∧ wo = wd i ∧ na = 0 ∧ wmt b f e (km i) = true) ∨ (wo = nn ∧ (∀ t, t < 19 → wmt b f e t = false) ∧ ((e - f ≤ 8 ∧ na = Int64.ofNat (c32 (lts b f (e - f)) 0)) ∨ (8 < e - f ∧ na = 0)))) := by
  have h9 := hT.1
  have hrun : ∀ r, f_X7_takeLetters_j76 fu by_ wc (wd f) (wd n) ki nn 0 (wd e) (Int64.ofNat (c32 (lts b f (e - f)) 0)) = r → f_X7_takeLetters fu by_ wc ki (wd f) (-1) 0 (wd n) (wd f) = r := by
    intro r hr
    unfold f_X7_takeLetters
    have key := loop_run (fun N i (s : Int64) => f_X7_takeLetters_l2 fu by_ wc (wd f) (wd n) N ki nn 0 (wd i) s) (fun i => Int64.ofNat (c32 (lts b f (i - f)) 0)) f e r ?_ ?_ (by omega) fu (by omega)
    · have key : f_X7_takeLetters_l2 fu by_ wc (wd f) (wd n) fu ki nn 0 (wd f) (Int64.ofNat (c32 (lts b f (f - f)) 0)) = r := key
      rw [Nat.sub_self] at key
      exact key
    · intro N i h1 h2
      show f_X7_takeLetters_l2 fu by_ wc (wd f) (wd n) (N + 1) ki nn 0 (wd i) (Int64.ofNat (c32 (lts b f (i - f)) 0)) = _
      obtain ⟨b1, b2, _⟩ := hT.2 i (by omega)
      obtain ⟨s1, s2, s3⟩ := sb_l1 _ b1 (hl i h1 h2)
      have hli := hl i h1 h2
      simp only [tx_l, decide_eq_true_eq] at hli
      rw [f_X7_takeLetters_l2, f_X7_takeLetters_b2, if_neg (by rw [wd_le (by omega) (by omega)]; omega), bind_e (rdI_wd (by omega) (by omega)), b2, if_neg (show ¬ sb (b i) < 97 from s2), bind_e (rdI_wd (by omega) (by omega)), b2, if_neg (show ¬ 122 < sb (b i) from s3), bind_e (rdI_wd (by omega) (by omega)), b2, s1]
      simp only [bnd]
      rw [show wd (b i) - 97 = wd (b i - 97) from wd_sub (a := b i) (b := 97) (show 97 ≤ b i by omega), show wd (b i - 97) + 1 = wd (b i - 97 + 1) from wd_add _ 1, wd_64 (by omega), show wd i + 1 = wd (i + 1) from wd_add i 1, show i + 1 - f = (i - f) + 1 from by omega, lts_s, c32_a, show f + (i - f) = i from by omega, show b i - 97 + 1 = b i - 96 from by omega, Int64.ofNat_add, Int64.ofNat_mul]
      rfl
    · intro N
      show f_X7_takeLetters_l2 fu by_ wc (wd f) (wd n) (N + 1) ki nn 0 (wd e) (Int64.ofNat (c32 (lts b f (e - f)) 0)) = _
      rw [f_X7_takeLetters_l2, f_X7_takeLetters_b2]
      by_cases hn : e = n
      · rw [if_pos (by rw [wd_le (by omega) (by omega)]; omega)]; exact hr
      · obtain ⟨b1, b2, _⟩ := hT.2 e (by omega)
        rw [if_neg (by rw [wd_le (by omega) (by omega)]; omega), bind_e (rdI_wd (by omega) (by omega)), b2]
        by_cases h97 : sb (b e) < 97
        · rw [if_pos h97]; exact hr
        · rw [if_neg h97, bind_e (rdI_wd (by omega) (by omega)), b2, if_pos (show 122 < sb (b e) from (sb_l0 _ b1 (hend (by omega))).resolve_left h97)]
          exact hr
  by_cases h8 : e - f ≤ 8
  · have h97 : ∀ (wo : Nat → Int32), wo 0 = nn → (∀ i, i < 19 → wo (i + 1) = if wmt b f e (km i) = true then wd i else wo i) → f_X7_takeLetters_j76 fu by_ wc (wd f) (wd n) ki nn 0 (wd e) (Int64.ofNat (c32 (lts b f (e - f)) 0)) = (if wo 19 = -1 then some (wd 2, wo 19, Int64.ofNat (c32 (lts b f (e - f)) 0), wd e) else some (wd 2, wo 19, 0, wd e)) := by
      intro wo w0 ws
      unfold f_X7_takeLetters_j76
      rw [wd_sub (by omega), show (8 : Int32) = wd 8 from rfl, if_neg (by rw [wd_lt (by omega) (by omega)]; omega)]
      rw [← w0]
      refine loop_seq (fun N i (s : Int32) => f_X7_takeLetters_l97 fu by_ wc (wd f) (wd n) N (wd 2) s 0 (wd e) (Int64.ofNat (c32 (lts b f (e - f)) 0)) (wd i)) wo 19 _ ?_ ?_ 0 fu (by omega) (by omega)
      · intro N i hi
        show f_X7_takeLetters_l97 fu by_ wc (wd f) (wd n) (N + 1) (wd 2) (wo i) 0 (wd e) (Int64.ofNat (c32 (lts b f (e - f)) 0)) (wd i) = _
        rw [f_X7_takeLetters_l97, f_X7_takeLetters_b97, show (19 : Int32) = wd 19 from rfl, if_neg (by rw [wd_le (by omega) (by omega)]; omega), bind_e (rdJ_wd (by omega) (by omega)), ws i hi]
        simp only [bnd]
        rw [show wd i + 1 = wd (i + 1) from wd_add i 1]
        have hwm := wc_mt (wc := wc) hWc hl (show f ≤ e by omega) h8 hi
        by_cases hm : wmt b f e (km i) = true
        · rw [if_pos (show lg_cmp (wc i) (Int64.ofNat (c32 (lts b f (e - f)) 0)) = 0 by rw [lgc_eq, hwm]; exact hm), if_pos hm]
        · rw [if_neg (show ¬ lg_cmp (wc i) (Int64.ofNat (c32 (lts b f (e - f)) 0)) = 0 by rw [lgc_eq, hwm]; exact hm), if_neg hm]
      · intro N
        show f_X7_takeLetters_l97 fu by_ wc (wd f) (wd n) (N + 1) (wd 2) (wo 19) 0 (wd e) (Int64.ofNat (c32 (lts b f (e - f)) 0)) (wd 19) = _
        rw [f_X7_takeLetters_l97, f_X7_takeLetters_b97, show (19 : Int32) = wd 19 from rfl, if_pos (by rw [wd_le (by omega) (by omega)]; omega)]
    by_cases hex : ∃ i, i < 19 ∧ wmt b f e (km i) = true
    · obtain ⟨i0, hi0, hm0⟩ := hex
      have hun : ∀ i, i < 19 → wmt b f e (km i) = true → i = i0 := by
        intro i hi hm
        unfold wmt at hm hm0
        rw [Bool.and_eq_true, decide_eq_true_eq, decide_eq_true_eq] at hm hm0
        exact km_d i hi i0 hi0 (kw_d _ (kw_c i hi).2 _ (kw_c i0 hi0).2 (hm.2.symm.trans hm0.2))
      refine ⟨wd i0, 0, hrun _ ?_, Or.inl ⟨i0, hi0, rfl, rfl, hm0⟩⟩
      rw [h97 (fun i => if i0 < i then wd i0 else nn) (if_neg (by omega)) (fun i hi => ?_)]
      · show (if (if i0 < 19 then wd i0 else nn) = -1 then _ else _) = _
        rw [if_pos hi0, if_neg (show ¬ wd i0 = -1 from by
          show ¬ wd i0 = nn
          rw [wd_eqm (by omega)]; exact id)]
      · show (if i0 < i + 1 then wd i0 else nn) = if wmt b f e (km i) = true then wd i else (if i0 < i then wd i0 else nn)
        by_cases hm : wmt b f e (km i) = true
        · have := hun i hi hm
          rw [if_pos hm, if_pos (by omega), this]
        · have : i ≠ i0 := fun h => hm (by rw [h]; exact hm0)
          rw [if_neg hm]
          by_cases h : i0 < i
          · rw [if_pos h, if_pos (by omega)]
          · rw [if_neg h, if_neg (by omega)]
    · refine ⟨nn, Int64.ofNat (c32 (lts b f (e - f)) 0), hrun _ ?_, Or.inr ⟨rfl, fun t ht => ?_, Or.inl ⟨h8, rfl⟩⟩⟩
      · rw [h97 (fun _ => nn) rfl (fun i hi => by rw [if_neg (fun hm => hex ⟨i, hi, hm⟩)]), if_pos (show nn = -1 from rfl)]
      · obtain ⟨i, hi, rfl⟩ := km_o t ht
        cases h : wmt b f e (km i)
        · rfl
        · exact absurd ⟨i, hi, h⟩ hex
  · refine ⟨nn, 0, hrun _ ?_, Or.inr ⟨rfl, fun t ht => ?_, Or.inr ⟨by omega, rfl⟩⟩⟩
    · unfold f_X7_takeLetters_j76
      rw [wd_sub (by omega), show (8 : Int32) = wd 8 from rfl, if_pos (by rw [wd_lt (by omega) (by omega)]; omega)]
      rfl
    · obtain ⟨_, _, p3, p4, _⟩ := kp_s t ht
      unfold wmt
      rw [decide_eq_false (by omega), Bool.false_and]
def cdv (b : Nat → Nat) (f : Nat) : Nat → Int32
  | 0 => wd 0
  | i + 1 => cdv b f i * wd 10 + (wd (b (f + i)) - wd 48)
def rdv (b : Nat → Nat) (f : Nat) : Nat → Int32
  | 0 => wd 0
  | i + 1 => if ((wd 10 * rdv b f i) + wd (b (f + i))) - wd 48 < wd 100000 then ((wd 10 * rdv b f i) + wd (b (f + i))) - wd 48 else wd 100000
theorem dv_e : ∀ L, L ≤ 4 → (∀ i, i < L → tx_d (b (f + i)) = true) → ∃ v, v < 10 ^ L ∧ cdv b f L = wd v ∧ rdv b f L = wd v := by
  intro L
  induction L with
  | zero => intro _ _; exact ⟨0, by decide, rfl, rfl⟩
  | succ L ih =>
    intro h4 hd
    obtain ⟨v, v1, v2, v3⟩ := ih (by omega) (fun i hi => hd i (by omega))
    have hL := hd L (by omega)
    simp only [tx_d, decide_eq_true_eq] at hL
    have hp : 10 ^ L ≤ 10 ^ 3 := Nat.pow_le_pow_right (by omega) (by omega)
    simp only [Nat.reducePow] at hp
    refine ⟨v * 10 + (b (f + L) - 48), by rw [Nat.pow_succ]; omega, ?_, ?_⟩
    · rw [cdv, v2, wd_mul, wd_sub (by omega), wd_add]
    · rw [rdv, v3, wd_mul, wd_add, wd_sub (by omega), if_pos (by rw [wd_lt (by omega) (by omega)]; omega)]
      congr 1; omega
theorem c_digits {ki : Int32} (hT : TXT b n by_ text) (hfe : f < e) (hen : e ≤ n) (hl : ∀ i, f ≤ i → i < e → tx_d (b i) = true) (hend : e < n → tx_d (b e) = false) (hf : 1000 ≤ fu) : f_X7_takeDigits fu by_ ki (wd f) 0 (wd n) (wd f) = some (if e - f ≤ 4 then wd 3 else wd 1, cdv b f (e - f), wd e) := by
  have h9 := hT.1
  have hj : f_X7_takeDigits_j76 fu by_ (wd f) (wd n) ki (cdv b f (e - f)) (wd e) = some (if e - f ≤ 4 then wd 3 else wd 1, cdv b f (e - f), wd e) := by
    unfold f_X7_takeDigits_j76
    rw [wd_sub (by omega), show (4 : Int32) = wd 4 from rfl]
    by_cases h : e - f ≤ 4
    · rw [if_pos (by rw [wd_le (by omega) (by omega)]; exact h), if_pos h]; rfl
    · rw [if_neg (by rw [wd_le (by omega) (by omega)]; exact h), if_neg h]; rfl
  unfold f_X7_takeDigits
  have key := loop_run (fun N i (s : Int32) => f_X7_takeDigits_l0 fu by_ (wd f) (wd n) N ki s (wd i)) (fun i => cdv b f (i - f)) f e (some (if e - f ≤ 4 then wd 3 else wd 1, cdv b f (e - f), wd e)) ?_ ?_ (by omega) fu (by omega)
  · have key : f_X7_takeDigits_l0 fu by_ (wd f) (wd n) fu ki (cdv b f (f - f)) (wd f) = _ := key
    rw [Nat.sub_self] at key
    exact key
  · intro N i h1 h2
    show f_X7_takeDigits_l0 fu by_ (wd f) (wd n) (N + 1) ki (cdv b f (i - f)) (wd i) = _
    obtain ⟨b1, b2, _⟩ := hT.2 i (by omega)
    obtain ⟨s1, s2, s3⟩ := sb_d1 _ b1 (hl i h1 h2)
    rw [f_X7_takeDigits_l0, f_X7_takeDigits_b0, if_neg (by rw [wd_le (by omega) (by omega)]; omega), bind_e (rdI_wd (by omega) (by omega)), b2, if_neg (show ¬ sb (b i) < 48 from s2), bind_e (rdI_wd (by omega) (by omega)), b2, if_neg (show ¬ 57 < sb (b i) from s3), bind_e (rdI_wd (by omega) (by omega)), b2, s1]
    simp only [bnd]
    rw [show wd i + 1 = wd (i + 1) from wd_add i 1, show i + 1 - f = (i - f) + 1 from by omega, cdv, show f + (i - f) = i from by omega]
    rfl
  · intro N
    show f_X7_takeDigits_l0 fu by_ (wd f) (wd n) (N + 1) ki (cdv b f (e - f)) (wd e) = _
    rw [f_X7_takeDigits_l0, f_X7_takeDigits_b0]
    by_cases hn : e = n
    · rw [if_pos (by rw [wd_le (by omega) (by omega)]; omega)]; exact hj
    · obtain ⟨b1, b2, _⟩ := hT.2 e (by omega)
      rw [if_neg (by rw [wd_le (by omega) (by omega)]; omega), bind_e (rdI_wd (by omega) (by omega)), b2]
      by_cases h48 : sb (b e) < 48
      · rw [if_pos h48]; exact hj
      · rw [if_neg h48, bind_e (rdI_wd (by omega) (by omega)), b2, if_pos (show 57 < sb (b e) from (sb_d0 _ b1 (hend (by omega))).resolve_left h48)]
        exact hj
theorem r_sm {j : Nat} (hj : j < 256) : f_X12_isSmall fu (wd j) = some (i01 (tx_l j)) := by
  unfold f_X12_isSmall tx_l
  rw [show (97 : Int32) = wd 97 from rfl, show (122 : Int32) = wd 122 from rfl]
  by_cases h1 : j < 97
  · rw [if_pos (by rw [wd_lt (by omega) (by omega)]; exact h1), decide_eq_false (by omega)]; rfl
  · rw [if_neg (by rw [wd_lt (by omega) (by omega)]; exact h1)]
    by_cases h2 : 122 < j
    · rw [if_pos (by rw [wd_lt (by omega) (by omega)]; exact h2), decide_eq_false (by omega)]; rfl
    · rw [if_neg (by rw [wd_lt (by omega) (by omega)]; exact h2), decide_eq_true (by omega)]; rfl
theorem r_dg {j : Nat} (hj : j < 256) : f_X12_isDigit fu (wd j) = some (i01 (tx_d j)) := by
  unfold f_X12_isDigit tx_d
  rw [show (48 : Int32) = wd 48 from rfl, show (57 : Int32) = wd 57 from rfl]
  by_cases h1 : j < 48
  · rw [if_pos (by rw [wd_lt (by omega) (by omega)]; exact h1), decide_eq_false (by omega)]; rfl
  · rw [if_neg (by rw [wd_lt (by omega) (by omega)]; exact h1)]
    by_cases h2 : 57 < j
    · rw [if_pos (by rw [wd_lt (by omega) (by omega)]; exact h2), decide_eq_false (by omega)]; rfl
    · rw [if_neg (by rw [wd_lt (by omega) (by omega)]; exact h2), decide_eq_true (by omega)]; rfl
theorem c_sm : ∀ j, j < 256 → f_X7_isLetter 0 (sb j) = some (i01 (tx_l j)) := by decide +kernel
theorem c_dg : ∀ j, j < 256 → f_X7_isDigit 0 (sb j) = some (i01 (tx_d j)) := by decide +kernel
theorem r_letters {tk vl : Int32} (hT : TXT b n by_ text) (hfe : f < e) (hen : e ≤ n) (hl : ∀ i, f ≤ i → i < e → tx_l (b i) = true) (hend : e < n → tx_l (b e) = false) (hf : 1000 ≤ fu) : f_X12_ahead_l81 fu text (wd n) fu tk (wd f) (wd f) vl = some (wd 2, wd f, wd e, vl) := by
  have h9 := hT.1
  refine loop_run (fun N i (_ : Unit) => f_X12_ahead_l81 fu text (wd n) N tk (wd f) (wd i) vl) (fun _ => ()) f e _ ?_ ?_ (by omega) fu (by omega)
  · intro N i h1 h2
    show f_X12_ahead_l81 fu text (wd n) (N + 1) tk (wd f) (wd i) vl = _
    rw [f_X12_ahead_l81, f_X12_ahead_b81, bind_e (r_byte hT (by omega)), bind_e (r_sm (hT.2 i (by omega)).1), hl i h1 h2, if_neg (show ¬ i01 true = 0 by decide)]
    simp only [bnd]
    rw [show wd i + 1 = wd (i + 1) from wd_add i 1]
  · intro N
    show f_X12_ahead_l81 fu text (wd n) (N + 1) tk (wd f) (wd e) vl = _
    rw [f_X12_ahead_l81, f_X12_ahead_b81]
    by_cases hn : e = n
    · rw [hn, bind_e (r_byteN hT)]
      rfl
    · rw [bind_e (r_byte hT (by omega)), bind_e (r_sm (hT.2 e (by omega)).1), hend (by omega)]
      rfl
theorem r_digits {tk : Int32} (hT : TXT b n by_ text) (hfe : f < e) (hen : e ≤ n) (hl : ∀ i, f ≤ i → i < e → tx_d (b i) = true) (hend : e < n → tx_d (b e) = false) (hf : 1000 ≤ fu) : f_X12_ahead_l128 fu text (wd n) fu tk (wd f) (wd f) 0 = some (if e - f ≤ 4 then wd 3 else wd 1, wd f, wd e, rdv b f (e - f)) := by
  have h9 := hT.1
  have key := loop_run (fun N i (s : Int32) => f_X12_ahead_l128 fu text (wd n) N tk (wd f) (wd i) s) (fun i => rdv b f (i - f)) f e (some (if e - f ≤ 4 then wd 3 else wd 1, wd f, wd e, rdv b f (e - f))) ?_ ?_ (by omega) fu (by omega)
  · have key : f_X12_ahead_l128 fu text (wd n) fu tk (wd f) (wd f) (rdv b f (f - f)) = _ := key
    rw [Nat.sub_self] at key
    exact key
  · intro N i h1 h2
    show f_X12_ahead_l128 fu text (wd n) (N + 1) tk (wd f) (wd i) (rdv b f (i - f)) = _
    rw [f_X12_ahead_l128, f_X12_ahead_b128, bind_e (r_byte hT (by omega)), bind_e (r_dg (hT.2 i (by omega)).1), hl i h1 h2, if_neg (show ¬ i01 true = 0 by decide), bind_e (r_byte hT (by omega))]
    simp only [bnd]
    rw [show wd i + 1 = wd (i + 1) from wd_add i 1, show i + 1 - f = (i - f) + 1 from by omega, rdv, show f + (i - f) = i from by omega, show (100000 : Int32) = wd 100000 from wd_lit 100000]
    rfl
  · intro N
    show f_X12_ahead_l128 fu text (wd n) (N + 1) tk (wd f) (wd e) (rdv b f (e - f)) = _
    have hfin : (if (wd e - wd f) ≤ 4 then some ((3 : Int32), wd f, wd e, rdv b f (e - f)) else some ((1 : Int32), wd f, wd e, rdv b f (e - f))) = some (if e - f ≤ 4 then wd 3 else wd 1, wd f, wd e, rdv b f (e - f)) := by
      rw [wd_sub (by omega), show (4 : Int32) = wd 4 from rfl]
      by_cases h : e - f ≤ 4
      · rw [if_pos (by rw [wd_le (by omega) (by omega)]; exact h), if_pos h]; rfl
      · rw [if_neg (by rw [wd_le (by omega) (by omega)]; exact h), if_neg h]; rfl
    rw [f_X12_ahead_l128, f_X12_ahead_b128]
    by_cases hn : e = n
    · rw [← hn, hn, bind_e (r_byteN hT), bind_e (show f_X12_isDigit fu nn = some 0 from rfl), if_pos (show (0 : Int32) = 0 from rfl), ← hn]
      exact hfin
    · rw [bind_e (r_byte hT (by omega)), bind_e (r_dg (hT.2 e (by omega)).1), hend (by omega), if_pos (show i01 false = 0 from rfl)]
      exact hfin
end
