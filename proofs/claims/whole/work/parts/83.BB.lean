/-! what is taken off a text, on both sides -/
def fk (ki : Int32) (x : Nat) : Nat := if ki = wd 1 then 1 else x
section
variable {fu n f e c x : Nat} {b : Nat → Nat} {by_ text at_ : Nat → Int32} {wc nam names : Nat → Int64} {ki va wo vl ft pl fp : Int32} {na : Int64}
theorem fk_0 {x : Nat} (h : 0 < x) : 0 < fk ki x := by unfold fk; split <;> omega
theorem fk_9 {x : Nat} (h : x ≤ 9) : fk ki x ≤ 9 := by unfold fk; split <;> omega
theorem c_fail {st : Int32} : f_X6_fail fu ft pl ki st (wd x) = some (wd 0, wd (fk ki x), st) := by
  unfold f_X6_fail fk
  by_cases h : ki = wd 1
  · rw [if_pos (show ki = 1 from h), if_pos h]; rfl
  · rw [if_neg (show ¬ ki = 1 from h), if_neg h]; rfl
theorem r_fails {st : Int32} : f_X12_fails fu ki st fp (wd 0) (wd x) = some (wd 0, st, wd (fk ki x)) := by
  unfold f_X12_fails fk
  rw [if_pos (show wd 0 = 0 from rfl)]
  by_cases h : ki = wd 1
  · rw [if_pos (show ki = 1 from h), if_pos h]; rfl
  · rw [if_neg (show ¬ ki = 1 from h), if_neg h]; rfl
/-- the word here: the component's number, the reference's -/
theorem tok_word (hT : TXT b n by_ text) (h : TOK b n f e ki va wo na vl) (hf : 1000 ≤ fu) : (wo = nn ∧ f_X12_inWords fu 1 text (wd n) ki (wd f) (wd e) = some nn) ∨ ∃ i, i < 19 ∧ wo = wd i ∧ f < e ∧ f_X12_inWords fu 1 text (wd n) ki (wd f) (wd e) = some (wd (km i)) := by
  have hno : ¬ ki = wd 2 → f_X12_inWords fu 1 text (wd n) ki (wd f) (wd e) = some nn := by
    intro h2
    unfold f_X12_inWords
    rw [if_neg (show ¬ ki = 2 from h2)]
    rfl
  obtain ⟨hen, ⟨h1, h2, h3, h4, h5⟩ | ⟨hfe, ⟨h1, h2, h3⟩ | ⟨h1, hl, ⟨i, hi, h2, h3, h4⟩ | ⟨h2, h3, h4⟩⟩ | ⟨h1, h2, h3, h4⟩ | ⟨h1, h2, h3, h4⟩⟩⟩ := h
  · exact Or.inl ⟨h4, hno (by rw [h1]; decide)⟩
  · exact Or.inl ⟨h2, hno (by rw [h1]; decide)⟩
  · exact Or.inr ⟨i, hi, h2, hfe, by rw [h1]; exact r_iw1 hT hfe hen hl (kw_c i hi).2 h4 hf⟩
  · exact Or.inl ⟨h2, by rw [h1]; exact r_iw0 hT hfe hen hl h3 hf⟩
  · exact Or.inl ⟨h2, hno (by rw [h1]; decide)⟩
  · exact Or.inl ⟨h2, hno (by rw [h1]; decide)⟩
/-- a name here, or none, on both sides -/
theorem tok_name (hT : TXT b n by_ text) (h : TOK b n f e ki va wo na vl) (hf : 1000 ≤ fu) : (na = 0 ∧ f_X12_isName fu 1 text (wd n) ki (wd f) (wd e) = some (wd 0)) ∨ (¬ na = 0 ∧ f_X12_isName fu 1 text (wd n) ki (wd f) (wd e) = some (wd 1) ∧ f < e ∧ ∃ l : List Nat, l.length ≤ 8 ∧ (∀ a, a ∈ l → 1 ≤ a ∧ a ≤ 26) ∧ na = Int64.ofNat (c32 l 0) ∧ f_X12_nameHere fu text (wd n) (wd f) (wd e) = some (Int64.ofNat (c256 l 0))) := by
  have h9 := hT.1
  have hno : ¬ ki = wd 2 → f_X12_isName fu 1 text (wd n) ki (wd f) (wd e) = some (wd 0) := by
    intro h2
    unfold f_X12_isName
    rw [if_neg (show ¬ ki = 2 from h2)]
    rfl
  obtain ⟨hen, ⟨h1, h2, h3, h4, h5⟩ | ⟨hfe, ⟨h1, h2, h3⟩ | ⟨h1, hl, ⟨i, hi, h2, h3, h4⟩ | ⟨h2, h3, ⟨h4, h5⟩ | ⟨h4, h5⟩⟩⟩ | ⟨h1, h2, h3, h4⟩ | ⟨h1, h2, h3, h4⟩⟩⟩ := h
  · exact Or.inl ⟨h5, hno (by rw [h1]; decide)⟩
  · exact Or.inl ⟨h3, hno (by rw [h1]; decide)⟩
  · refine Or.inl ⟨h3, ?_⟩
    have hlen : e - f ≤ 8 := by
      unfold wmt at h4
      rw [Bool.and_eq_true, decide_eq_true_eq] at h4
      have := (kp_s (km i) (kw_c i hi).2).2.2.2.1
      omega
    have hk := (kw_c i hi).2
    unfold f_X12_isName
    rw [h1, if_pos (show wd 2 = 2 from rfl), wd_sub (by omega), show (8 : Int32) = wd 8 from rfl, if_neg (by rw [wd_lt (by omega) (by omega)]; omega), bind_e (r_iw1 hT hfe hen hl hk h4 hf), if_neg (show ¬ wd (km i) = -1 from by
      show ¬ wd (km i) = nn
      rw [wd_eqm (by omega)]; exact id)]
    rfl
  · have hm := lts_mem b f (e - f) (fun j hj => hl (f + j) (by omega) (by omega))
    have h8 : (lts b f (e - f)).length ≤ 8 := by rw [lts_len]; exact h4
    refine Or.inr ⟨?_, ?_, hfe, lts b f (e - f), h8, hm, h5, r_name hT (by omega) hen hl hf⟩
    · rw [h5, show (0 : Int64) = Int64.ofNat 0 from rfl, j_inj (by have := c32_8 hm h8; omega) (by omega)]
      intro h0
      have := c32_in (l' := []) hm (fun a ha => by cases ha) h0
      have := congrArg List.length this
      rw [lts_len] at this
      have this : e - f = 0 := this
      omega
    · unfold f_X12_isName
      rw [h1, if_pos (show wd 2 = 2 from rfl), wd_sub (by omega), show (8 : Int32) = wd 8 from rfl, if_neg (by rw [wd_lt (by omega) (by omega)]; omega), bind_e (r_iw0 hT hfe hen hl h3 hf), if_pos (show nn = -1 from rfl)]
      rfl
  · refine Or.inl ⟨h5, ?_⟩
    unfold f_X12_isName
    rw [h1, if_pos (show wd 2 = 2 from rfl), wd_sub (by omega), show (8 : Int32) = wd 8 from rfl, if_pos (by rw [wd_lt (by omega) (by omega)]; omega)]
    rfl
  · exact Or.inl ⟨h3, hno (by rw [h1]; decide)⟩
  · exact Or.inl ⟨h3, hno (by rw [h1]; decide)⟩
/-- whose name it is -/
theorem t_named {base : Nat} {l : List Nat} (h8 : c ≤ 8) (hb : base + 8 ≤ 48) (hN : ∀ m, m < c → NC (nam m) (names (base + m))) (hl8 : l.length ≤ 8) (hl : ∀ a, a ∈ l → 1 ≤ a ∧ a ≤ 26) (hna : na = Int64.ofNat (c32 l 0)) (hh : f_X12_nameHere fu text (wd n) (wd f) (wd e) = some (Int64.ofNat (c256 l 0))) (hf : 1000 ≤ fu) : ∃ r : Option Nat, (∀ m, r = some m → m < c ∧ names (base + m) = Int64.ofNat (c256 l 0)) ∧ (r = none → ∀ m, m < c → ¬ names (base + m) = Int64.ofNat (c256 l 0)) ∧ f_X0_named fu nam (wd c) na = some (oe r) ∧ f_X12_findHere fu names text (wd n) (wd f) (wd e) (wd base) (wd c) = some (oe r) := by
  obtain ⟨q, q1, q2, q3, q4⟩ := run_ex (fun i => !decide (names (base + i) = Int64.ofNat (c256 l 0))) c c 0 (by omega)
  have hcs : ∀ N i, i < c → f_X0_named_l2 fu nam (wd c) na (N + 1) (wd i) = if names (base + i) = Int64.ofNat (c256 l 0) then some (wd i) else f_X0_named_l2 fu nam (wd c) na N (wd (i + 1)) := by
    intro N i hi
    rw [f_X0_named_l2, f_X0_named_b2, if_neg (by rw [wd_le (by omega) (by omega)]; omega), bind_e (rdJ_wd (by omega) (by omega))]
    simp only [bnd]
    rw [show wd i + 1 = wd (i + 1) from wd_add i 1]
    have hnc := NC_eq (hN i hi) hl hl8
    by_cases hq : names (base + i) = Int64.ofNat (c256 l 0)
    · rw [if_pos (show lg_cmp (nam i) na = 0 by rw [lgc_eq, hna, hnc]; exact hq), if_pos hq]
    · rw [if_neg (show ¬ lg_cmp (nam i) na = 0 by rw [lgc_eq, hna, hnc]; exact hq), if_neg hq]
  have hrs : ∀ N i, i < c → f_X12_findHere_l2 fu names text (wd n) (wd f) (wd e) (wd base) (wd c) (N + 1) (wd i) = if names (base + i) = Int64.ofNat (c256 l 0) then some (wd i) else f_X12_findHere_l2 fu names text (wd n) (wd f) (wd e) (wd base) (wd c) N (wd (i + 1)) := by
    intro N i hi
    rw [f_X12_findHere_l2, f_X12_findHere_b2, if_neg (by rw [wd_le (by omega) (by omega)]; omega), wd_add base i, bind_e (rdJ_wd (by omega) (by omega)), bind_e hh]
    simp only [bnd]
    rw [show wd i + 1 = wd (i + 1) from wd_add i 1]
    by_cases hq : names (base + i) = Int64.ofNat (c256 l 0)
    · rw [if_pos (show lg_cmp (names (base + i)) (Int64.ofNat (c256 l 0)) = 0 by rw [lgc_eq]; exact hq), if_pos hq]
    · rw [if_neg (show ¬ lg_cmp (names (base + i)) (Int64.ofNat (c256 l 0)) = 0 by rw [lgc_eq]; exact hq), if_neg hq]
  have q3' : ∀ i, i < q → ¬ names (base + i) = Int64.ofNat (c256 l 0) := by
    intro i hi h
    have := q3 i (by omega) hi
    simp [h] at this
  by_cases hq : q = c
  · subst hq
    refine ⟨none, fun m h => (by cases h), fun _ => q3', ?_, ?_⟩
    · unfold f_X0_named
      refine loop_run (fun N i (_ : Unit) => f_X0_named_l2 fu nam (wd q) na N (wd i)) (fun _ => ()) 0 q _ ?_ ?_ (by omega) fu (by omega)
      · intro N i _ h2
        show f_X0_named_l2 fu nam (wd q) na (N + 1) (wd i) = _
        rw [hcs N i h2, if_neg (q3' i h2)]
      · intro N
        show f_X0_named_l2 fu nam (wd q) na (N + 1) (wd q) = _
        rw [f_X0_named_l2, f_X0_named_b2, if_pos (by rw [wd_le (by omega) (by omega)]; omega)]
        rfl
    · unfold f_X12_findHere
      refine loop_run (fun N i (_ : Unit) => f_X12_findHere_l2 fu names text (wd n) (wd f) (wd e) (wd base) (wd q) N (wd i)) (fun _ => ()) 0 q _ ?_ ?_ (by omega) fu (by omega)
      · intro N i _ h2
        show f_X12_findHere_l2 fu names text (wd n) (wd f) (wd e) (wd base) (wd q) (N + 1) (wd i) = _
        rw [hrs N i h2, if_neg (q3' i h2)]
      · intro N
        show f_X12_findHere_l2 fu names text (wd n) (wd f) (wd e) (wd base) (wd q) (N + 1) (wd q) = _
        rw [f_X12_findHere_l2, f_X12_findHere_b2, if_pos (by rw [wd_le (by omega) (by omega)]; omega)]
        rfl
  · have hq4 : names (base + q) = Int64.ofNat (c256 l 0) := by
      have := q4 (by omega)
      simpa using this
    refine ⟨some q, fun m h => (by injection h with h; subst h; exact ⟨by omega, hq4⟩), fun h => (by cases h), ?_, ?_⟩
    · unfold f_X0_named
      refine loop_run (fun N i (_ : Unit) => f_X0_named_l2 fu nam (wd c) na N (wd i)) (fun _ => ()) 0 q _ ?_ ?_ (by omega) fu (by omega)
      · intro N i _ h2
        show f_X0_named_l2 fu nam (wd c) na (N + 1) (wd i) = _
        rw [hcs N i (by omega), if_neg (q3' i h2)]
      · intro N
        show f_X0_named_l2 fu nam (wd c) na (N + 1) (wd q) = _
        rw [hcs N q (by omega), if_pos hq4]
        rfl
    · unfold f_X12_findHere
      refine loop_run (fun N i (_ : Unit) => f_X12_findHere_l2 fu names text (wd n) (wd f) (wd e) (wd base) (wd c) N (wd i)) (fun _ => ()) 0 q _ ?_ ?_ (by omega) fu (by omega)
      · intro N i _ h2
        show f_X12_findHere_l2 fu names text (wd n) (wd f) (wd e) (wd base) (wd c) (N + 1) (wd i) = _
        rw [hrs N i (by omega), if_neg (q3' i h2)]
      · intro N
        show f_X12_findHere_l2 fu names text (wd n) (wd f) (wd e) (wd base) (wd c) (N + 1) (wd q) = _
        rw [hrs N q (by omega), if_pos hq4]
        rfl
theorem t_isSign {s : Nat} (h : TOK b n f e ki va wo na vl) (hs : s < 128) : ∃ g : Bool, f_X6_isSign fu ki va (wd s) = some (i01 g) ∧ f_X12_isSign fu ki vl (wd s) = some (i01 g) ∧ (g = true → ki = wd 4 ∧ va = wd s ∧ vl = wd s) := by
  have hno : ¬ ki = wd 4 → f_X6_isSign fu ki va (wd s) = some (i01 false) ∧ f_X12_isSign fu ki vl (wd s) = some (i01 false) := by
    intro h4
    unfold f_X6_isSign f_X12_isSign
    rw [if_neg (show ¬ ki = 4 from h4), if_neg (show ¬ ki = 4 from h4)]
    exact ⟨rfl, rfl⟩
  obtain ⟨hen, ⟨h1, h2, h3, h4, h5⟩ | ⟨hfe, ⟨h1, h2, h3⟩ | ⟨h1, hl, _⟩ | ⟨h1, h2, h3, h4⟩ | ⟨h1, h2, h3, c, hc, h4, h5⟩⟩⟩ := h
  · exact ⟨false, (hno (by rw [h1]; decide)).1, (hno (by rw [h1]; decide)).2, fun h => by cases h⟩
  · exact ⟨false, (hno (by rw [h1]; decide)).1, (hno (by rw [h1]; decide)).2, fun h => by cases h⟩
  · exact ⟨false, (hno (by rw [h1]; decide)).1, (hno (by rw [h1]; decide)).2, fun h => by cases h⟩
  · exact ⟨false, (hno (by rw [h1]; decide)).1, (hno (by rw [h1]; decide)).2, fun h => by cases h⟩
  · refine ⟨decide (c = s), ?_, ?_, fun h => ?_⟩
    · unfold f_X6_isSign
      rw [h1, if_pos (show wd 4 = 4 from rfl), h4]
      by_cases hcs : c = s
      · rw [if_pos (show wd c = wd s by rw [hcs]), decide_eq_true hcs]; rfl
      · rw [if_neg (show ¬ wd c = wd s by rw [wd_inj (by omega) (by omega)]; exact hcs), decide_eq_false hcs]; rfl
    · unfold f_X12_isSign
      rw [h1, if_pos (show wd 4 = 4 from rfl), h5]
      by_cases hcs : c = s
      · rw [if_pos (show wd c = wd s by rw [hcs]), decide_eq_true hcs]; rfl
      · rw [if_neg (show ¬ wd c = wd s by rw [wd_inj (by omega) (by omega)]; exact hcs), decide_eq_false hcs]; rfl
    · rw [decide_eq_true_eq] at h; subst h; exact ⟨h1, h4, h5⟩
theorem TOK.le (h : TOK b n f e ki va wo na vl) : e ≤ n := h.1
theorem t_sign {s : Nat} (hT : TXT b n by_ text) (hWc : RWc wc) (h : TOK b n f e ki va wo na vl) (hs : s < 128) (hf : 1000 ≤ fu) : (∃ f' e' ki' va' wo' na' vl', e ≤ f' ∧ TOK b n f' e' ki' va' wo' na' vl' ∧ f_X6_takeSign fu ft pl by_ wc ki (wd f) va wo na (wd n) (wd e) (wd s) = some (wd 1, ft, pl, ki', wd f', va', wo', na', wd e') ∧ f_X12_wantSign fu text (wd n) ki (wd f) (wd e) vl fp (wd 0) (wd s) = some (wd 1, ki', wd f', wd e', vl', fp, wd 0)) ∨ (∃ x, 0 < x ∧ x ≤ 9 ∧ f_X6_takeSign fu ft pl by_ wc ki (wd f) va wo na (wd n) (wd e) (wd s) = some (wd 0, wd x, wd f, ki, wd f, va, wo, na, wd e) ∧ f_X12_wantSign fu text (wd n) ki (wd f) (wd e) vl fp (wd 0) (wd s) = some (wd 0, ki, wd f, wd e, vl, wd f, wd x)) := by
  obtain ⟨g, g1, g2, _⟩ := t_isSign (fu := fu) h hs
  cases g
  · right
    refine ⟨fk ki 2, fk_0 (by omega), fk_9 (by omega), ?_, ?_⟩
    · unfold f_X6_takeSign
      rw [bind_e g1, if_pos (show i01 false = 0 from rfl), bind_e (show f_X6_fail fu ft pl ki (wd f) 2 = _ from c_fail (x := 2))]
      rfl
    · unfold f_X12_wantSign
      rw [bind_e g2, if_pos (show i01 false = 0 from rfl), bind_e (show f_X12_fails fu ki (wd f) fp (wd 0) 2 = _ from r_fails (x := 2))]
      rfl
  · left
    obtain ⟨f', e', ki', va', wo', na', vl', k1, k2, k3, k4⟩ := t_next (fu := fu) (ki0 := ki) (st0 := wd f) (va0 := va) (wo0 := wo) (na0 := na) (tk0 := ki) (fr0 := wd f) (vl0 := vl) hT hWc h.le hf
    refine ⟨f', e', ki', va', wo', na', vl', k1, k4, ?_, ?_⟩
    · unfold f_X6_takeSign
      rw [bind_e g1, if_neg (show ¬ i01 true = 0 by decide), bind_e k2]
      rfl
    · unfold f_X12_wantSign
      rw [bind_e g2, if_neg (show ¬ i01 true = 0 by decide), bind_e k3]
      rfl
theorem t_word {i : Nat} (hi : i < 19) (hT : TXT b n by_ text) (hWc : RWc wc) (h : TOK b n f e ki va wo na vl) (hf : 1000 ≤ fu) : (∃ f' e' ki' va' wo' na' vl', e ≤ f' ∧ TOK b n f' e' ki' va' wo' na' vl' ∧ f_X6_takeWord fu ft pl by_ wc ki (wd f) va wo na (wd n) (wd e) (wd i) = some (wd 1, ft, pl, ki', wd f', va', wo', na', wd e') ∧ f_X12_wantWord fu 1 text (wd n) ki (wd f) (wd e) vl fp (wd 0) (wd (km i)) = some (wd 1, ki', wd f', wd e', vl', fp, wd 0)) ∨ (∃ x, 0 < x ∧ x ≤ 9 ∧ f_X6_takeWord fu ft pl by_ wc ki (wd f) va wo na (wd n) (wd e) (wd i) = some (wd 0, wd x, wd f, ki, wd f, va, wo, na, wd e) ∧ f_X12_wantWord fu 1 text (wd n) ki (wd f) (wd e) vl fp (wd 0) (wd (km i)) = some (wd 0, ki, wd f, wd e, vl, wd f, wd x)) := by
  have hki := (kw_c i hi).2
  have key : ∃ g : Bool, (wo = wd i) = (g = true) ∧ ∃ v, f_X12_inWords fu 1 text (wd n) ki (wd f) (wd e) = some v ∧ (v = wd (km i)) = (g = true) := by
    rcases tok_word hT h hf with ⟨h1, h2⟩ | ⟨j, hj, h1, _, h2⟩
    · exact ⟨false, by rw [h1, wd_eqm' (by omega)]; simp, nn, h2, by rw [wd_eqm' (by omega)]; simp⟩
    · have hkj := (kw_c j hj).2
      refine ⟨decide (j = i), by rw [h1, wd_inj (by omega) (by omega)]; simp, wd (km j), h2, ?_⟩
      rw [wd_inj (by omega) (by omega)]
      apply propext
      rw [decide_eq_true_eq]
      exact ⟨km_d j hj i hi, fun h => by rw [h]⟩
  obtain ⟨g, g1, v, g2, g3⟩ := key
  cases g
  · right
    refine ⟨fk ki 2, fk_0 (by omega), fk_9 (by omega), ?_, ?_⟩
    · unfold f_X6_takeWord
      rw [if_neg (by rw [g1]; decide), bind_e (show f_X6_fail fu ft pl ki (wd f) 2 = _ from c_fail (x := 2))]
      rfl
    · unfold f_X12_wantWord
      rw [bind_e g2, if_neg (by rw [g3]; decide), bind_e (show f_X12_fails fu ki (wd f) fp (wd 0) 2 = _ from r_fails (x := 2))]
      rfl
  · left
    obtain ⟨f', e', ki', va', wo', na', vl', k1, k2, k3, k4⟩ := t_next (fu := fu) (ki0 := ki) (st0 := wd f) (va0 := va) (wo0 := wo) (na0 := na) (tk0 := ki) (fr0 := wd f) (vl0 := vl) hT hWc h.le hf
    refine ⟨f', e', ki', va', wo', na', vl', k1, k4, ?_, ?_⟩
    · unfold f_X6_takeWord
      rw [if_pos (by rw [g1]), bind_e k2]
      rfl
    · unfold f_X12_wantWord
      rw [bind_e g2, if_pos (by rw [g3]), bind_e k3]
      rfl
theorem t_number {lo hi_ to : Nat} (hlo : lo < 2000) (hhi : hi_ < 2000) (hto : to < 3648) (hT : TXT b n by_ text) (hWc : RWc wc) (h : TOK b n f e ki va wo na vl) (hf : 1000 ≤ fu) : (∃ v f' e' ki' va' wo' na' vl', lo ≤ v ∧ v ≤ hi_ ∧ e ≤ f' ∧ TOK b n f' e' ki' va' wo' na' vl' ∧ f_X6_takeNumber fu ft pl by_ wc ki (wd f) va wo na (wd n) (wd e) (wd lo) (wd hi_) = some (wd v, ft, pl, ki', wd f', va', wo', na', wd e') ∧ f_X12_number fu at_ text (wd n) ki (wd f) (wd e) vl fp (wd 0) (wd to) (wd lo) (wd hi_) = some (wd 1, upd at_ to (wd v), ki', wd f', wd e', vl', fp, wd 0)) ∨ (∃ x, 0 < x ∧ x ≤ 9 ∧ f_X6_takeNumber fu ft pl by_ wc ki (wd f) va wo na (wd n) (wd e) (wd lo) (wd hi_) = some (nn, wd x, wd f, ki, wd f, va, wo, na, wd e) ∧ f_X12_number fu at_ text (wd n) ki (wd f) (wd e) vl fp (wd 0) (wd to) (wd lo) (wd hi_) = some (wd 0, at_, ki, wd f, wd e, vl, wd f, wd x)) := by
  by_cases h3 : ki = wd 3
  · have hv : ∃ v, v ≤ 9999 ∧ va = wd v ∧ vl = wd v := by
      obtain ⟨hen, ⟨h1, h2, _, h4, h5⟩ | ⟨hfe, ⟨h1, h2, _⟩ | ⟨h1, hl, _⟩ | ⟨h1, h2, _, h4⟩ | ⟨h1, h2, _, c, hc, h4, h5⟩⟩⟩ := h
      · rw [h1] at h3; exact absurd h3 (by decide)
      · rw [h1] at h3; exact absurd h3 (by decide)
      · rw [h1] at h3; exact absurd h3 (by decide)
      · exact h4
      · rw [h1] at h3; exact absurd h3 (by decide)
    obtain ⟨v, v9, rfl, rfl⟩ := hv
    by_cases hin : lo ≤ v ∧ v ≤ hi_
    · left
      obtain ⟨f', e', ki', va', wo', na', vl', k1, k2, k3, k4⟩ := t_next (fu := fu) (ki0 := ki) (st0 := wd f) (va0 := wd v) (wo0 := wo) (na0 := na) (tk0 := ki) (fr0 := wd f) (vl0 := wd v) hT hWc h.le hf
      refine ⟨v, f', e', ki', va', wo', na', vl', hin.1, hin.2, k1, k4, ?_, ?_⟩
      · unfold f_X6_takeNumber
        rw [if_pos (show ki = 3 from h3), bind_e c_within, wn_wd (by omega) (by omega) (by omega), decide_eq_true hin, if_neg (show ¬ i01 true = 0 by decide), bind_e k2]
      · unfold f_X12_number
        rw [if_pos (show ki = 3 from h3), if_neg (by rw [wd_lt (by omega) (by omega)]; omega), if_pos (by rw [wd_le (by omega) (by omega)]; omega), bind_e (wrI_wd hto (by omega)), bind_e k3]
        rfl
    · right
      refine ⟨fk ki 4, fk_0 (by omega), fk_9 (by omega), ?_, ?_⟩
      · unfold f_X6_takeNumber
        rw [if_pos (show ki = 3 from h3), bind_e c_within, wn_wd (by omega) (by omega) (by omega), decide_eq_false hin, if_pos (show i01 false = 0 from rfl), bind_e (show f_X6_fail fu ft pl ki (wd f) 4 = _ from c_fail (x := 4))]
        rfl
      · unfold f_X12_number
        rw [if_pos (show ki = 3 from h3)]
        by_cases hl : v < lo
        · rw [if_pos (by rw [wd_lt (by omega) (by omega)]; exact hl), bind_e (show f_X12_fails fu ki (wd f) fp (wd 0) 4 = _ from r_fails (x := 4))]
          rfl
        · rw [if_neg (by rw [wd_lt (by omega) (by omega)]; exact hl), if_neg (by rw [wd_le (by omega) (by omega)]; omega), bind_e (show f_X12_fails fu ki (wd f) fp (wd 0) 4 = _ from r_fails (x := 4))]
          rfl
  · right
    refine ⟨fk ki 2, fk_0 (by omega), fk_9 (by omega), ?_, ?_⟩
    · unfold f_X6_takeNumber
      rw [if_neg (show ¬ ki = 3 from h3), bind_e (show f_X6_fail fu ft pl ki (wd f) 2 = _ from c_fail (x := 2))]
      rfl
    · unfold f_X12_number
      rw [if_neg (show ¬ ki = 3 from h3), bind_e (show f_X12_fails fu ki (wd f) fp (wd 0) 2 = _ from r_fails (x := 2))]
      rfl
end
