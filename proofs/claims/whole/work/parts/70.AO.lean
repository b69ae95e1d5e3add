def hrf (p : Nat → Bool) : Nat → Nat → Nat
  | 0, _ => 0
  | n + 1, k => if p n = true ∧ ctb p n = k then n else hrf p n k
theorem hrf_s (p : Nat → Bool) (n k : Nat) : hrf p (n + 1) k = if p n = true ∧ ctb p n = k then n else hrf p n k := rfl
theorem hrf_ok {p : Nat → Bool} : ∀ n k, k < ctb p n → hrf p n k < n ∧ p (hrf p n k) = true ∧ ctb p (hrf p n k) = k := by
  intro n
  induction n with
  | zero => intro k hk; exact absurd hk (by show ¬ k < 0; omega)
  | succ n ih =>
    intro k hk
    rw [ctb_s] at hk
    rw [hrf_s]
    by_cases h : p n = true ∧ ctb p n = k
    · rw [if_pos h]; exact ⟨by omega, h.1, h.2⟩
    · rw [if_neg h]
      have hk' : k < ctb p n := by
        cases hp : p n
        · rw [hp] at hk; simpa using hk
        · rw [hp] at hk h
          simp at hk h
          omega
      have := ih k hk'
      exact ⟨by omega, this.2⟩
theorem hrf_arr {p : Nat → Bool} {i : Nat} {arr : Nat → Int32} (h : ∀ k, k < ctb p i → arr k = wd (hrf p i k)) : (p i = false → ∀ k, k < ctb p (i + 1) → arr k = wd (hrf p (i + 1) k)) ∧ (p i = true → ∀ k, k < ctb p (i + 1) → upd arr (ctb p i) (wd i) k = wd (hrf p (i + 1) k)) := by
  refine ⟨fun hp k hk => ?_, fun hp k hk => ?_⟩
  · rw [ctb_s, hp] at hk
    rw [hrf_s, if_neg (by rw [hp]; simp)]
    exact h k (by simpa using hk)
  · rw [ctb_s, hp] at hk
    rw [hrf_s]
    by_cases hkc : ctb p i = k
    · rw [if_pos ⟨hp, hkc⟩, hkc]; exact upd_eq
    · rw [if_neg (fun hh => hkc hh.2), upd_ne (by omega)]
      exact h k (by simp at hk; omega)
theorem TT_le : ∀ d, d ≤ 7 → TT d ≤ 100000000 := by decide +kernel
theorem mxc_le (h cow : Nat) : mxc h cow ≤ h := by unfold mxc; split <;> omega
section
variable {fu c : Nat} {at_ cou wei med sto fle lik vot : Nat → Int32} {cnt liv pri quo mel los st st' : Int32}
theorem sdf_rns {s : Int32} (h8 : c ≤ 8) : sdf (mask (alv at_) c) (mask (stn at_ s) c) = mask (rns at_ s) c := by
  have := mask_256 (alv at_) h8
  apply Nat.eq_of_testBit_eq
  intro k
  rw [sdf_bit (by omega), mask_bit, mask_bit, mask_bit, rns, stn]
  by_cases hk : k < c
  · cases alv at_ k <;> simp [hk]
  · simp [hk]
theorem c_match {hero tried ch : Nat → Int32} {hc cp fo0 s : Int32} (hW : WF at_ c) (hV : RV at_ c cou wei med lik) (hf : 1000 ≤ fu) : ∃ hero' tried' ch' fond', f_X5_match fu hero tried ch hc cp fo0 cou med lik (wd c) (wd (mask (alv at_) c)) (at_ 1) s = some (hero', tried', ch', wd (ctb (stn at_ s) c), wd (mxc (ctb (stn at_ s) c) (mask (rns at_ s) c)), fond') ∧ (∀ k, k < ctb (stn at_ s) c → hero' k = wd (hrf (stn at_ s) c k)) ∧ KE (ctb (stn at_ s) c) (CVs (ctb (stn at_ s) c) (fdn at_ (hrf (stn at_ s) c)) (ctb (stn at_ s) c) 0 (mask (rns at_ s) c) (ctb (stn at_ s) c - mxc (ctb (stn at_ s) c) (mask (rns at_ s) c)) (fun _ => 0) none) fond' ch' := by
  have h8 := hW.1
  have h256 := mask_256 (rns at_ s) h8
  have hcl := ctb_le (stn at_ s) c
  unfold f_X5_match
  rw [bind_e (c_runners h8 hf hV.1 hV.2.2.1)]
  have key := loop_k (fun m i (x : Nat → Int32) => f_X5_match_l16 fu cou med lik (wd c) (wd (mask (alv at_) c)) (at_ 1) s m x tried ch (wd (ctb (stn at_ s) i)) cp fo0 (wd (mask (rns at_ s) c)) (wd i)) (fun i x => ∀ k, k < ctb (stn at_ s) i → x k = wd (hrf (stn at_ s) i k)) c (fun x => (f_X5_search fu 10 x tried ch (wd (ctb (stn at_ s) c)) nn lik (wd c) (wd 0) (wd (mask (rns at_ s) c)) (wd (ctb (stn at_ s) c - mxc (ctb (stn at_ s) c) (mask (rns at_ s) c))) (wd 0)).bind fun z_17 => some (x, z_17.1, z_17.2.1, wd (ctb (stn at_ s) c), wd (mxc (ctb (stn at_ s) c) (mask (rns at_ s) c)), z_17.2.2)) ?_ ?_ 0 fu hero (by omega) (by omega) (fun k hk => absurd hk (by show ¬ k < 0; omega))
  · obtain ⟨hero', e, hI⟩ := key
    have e0 : f_X5_match_l16 fu cou med lik (wd c) (wd (mask (alv at_) c)) (at_ 1) s fu hero tried ch 0 cp fo0 (wd (mask (rns at_ s) c)) 0 = _ := e
    rw [e0]
    have hm := mxc_le (ctb (stn at_ s) c) (mask (rns at_ s) c)
    obtain ⟨tried', ch', fond', e1, k1, k2⟩ := c_search (fu := fu) (hr := hrf (stn at_ s) c) (hero := hero') (lik := lik) hW hV.2.2.2 (show ctb (stn at_ s) c ≤ 8 by omega) (fun k hk => ⟨(hrf_ok c k hk).1, hI k hk⟩) hf (ctb (stn at_ s) c) 0 (mask (rns at_ s) c) (ctb (stn at_ s) c - mxc (ctb (stn at_ s) c) (mask (rns at_ s) c)) 10 (fun _ => 0) none tried ch nn (by omega) (by omega) h256 (fun i hi => by rw [mask_bit] at hi; simp at hi; exact hi.1) (by omega) (fun j hj => absurd hj (by omega)) rfl
    have e1' : f_X5_search fu 10 hero' tried ch (wd (ctb (stn at_ s) c)) nn lik (wd c) (wd 0) (wd (mask (rns at_ s) c)) (wd (ctb (stn at_ s) c - mxc (ctb (stn at_ s) c) (mask (rns at_ s) c))) (wd 0) = some (tried', ch', fond') := e1
    rw [bind_e e1']
    exact ⟨hero', tried', ch', fond', rfl, hI, k1⟩
  · intro m i x hi hI
    have ha := hrf_arr hI
    have hcl2 := ctb_le (stn at_ s) i
    have hst : f_X5_match_l16 fu cou med lik (wd c) (wd (mask (alv at_) c)) (at_ 1) s (m + 1) x tried ch (wd (ctb (stn at_ s) i)) cp fo0 (wd (mask (rns at_ s) c)) (wd i) = if stn at_ s i then f_X5_match_l16 fu cou med lik (wd c) (wd (mask (alv at_) c)) (at_ 1) s m (upd x (ctb (stn at_ s) i) (wd i)) tried ch (wd (ctb (stn at_ s) i + 1)) cp fo0 (wd (mask (rns at_ s) c)) (wd (i + 1)) else f_X5_match_l16 fu cou med lik (wd c) (wd (mask (alv at_) c)) (at_ 1) s m x tried ch (wd (ctb (stn at_ s) i)) cp fo0 (wd (mask (rns at_ s) c)) (wd (i + 1)) := by
      rw [f_X5_match_l16, f_X5_match_b16, if_neg (by rw [wd_le (by omega) (by omega)]; omega), bind_e (c_lives hi h8)]
      rw [show (31 : Int32) = wd 31 from rfl, show (1 : Int32) = wd 1 from rfl, show (0 : Int32) = wd 0 from rfl, wd_31 (by omega)]
      simp only [bnd, wd_add]
      have hmi := mask_in (p := rns at_ s) hi
      cases hal : alv at_ i
      · rw [if_pos (show i01 false = wd 0 from rfl), if_neg (by simp [stn, hal])]
      · rw [if_neg (show ¬ i01 true = wd 0 by decide)]
        by_cases hb : brv at_ i < s
        · rw [if_neg (by rw [wd_bit0' (by omega) (by omega), hmi]; simp [rns, hal, hb]), if_neg (by simp [stn, hb])]
        · rw [if_pos (by rw [wd_bit0' (by omega) (by omega), hmi]; simp [rns, hb]), if_pos (by simp [stn, hal, hb]), bind_e (wrI_wd (by omega) (by omega))]
    rw [hst]
    cases hp : stn at_ s i
    · refine ⟨x, ?_, ha.1 hp⟩
      rw [if_neg (by simp), ctb_s, hp, if_neg (by simp)]
      rfl
    · refine ⟨upd x (ctb (stn at_ s) i) (wd i), ?_, ha.2 hp⟩
      rw [if_pos rfl, ctb_s, hp, if_pos rfl]
  · intro m x hI
    show f_X5_match_l16 fu cou med lik (wd c) (wd (mask (alv at_) c)) (at_ 1) s (m + 1) x tried ch (wd (ctb (stn at_ s) c)) cp fo0 (wd (mask (rns at_ s) c)) (wd c) = _
    rw [f_X5_match_l16, f_X5_match_b16, if_pos (by rw [wd_le (by omega) (by omega)]; omega), bind_e (c_bc h256)]
    have hp8 := pc_le (mask (rns at_ s) c) 8
    have hcp : (if wd (pc 8 (mask (rns at_ s) c)) < wd (ctb (stn at_ s) c) then wd (pc 8 (mask (rns at_ s) c)) else wd (ctb (stn at_ s) c)) = wd (mxc (ctb (stn at_ s) c) (mask (rns at_ s) c)) := by
      unfold mxc
      simp (disch := omega) only [wd_lt]
      by_cases hh : pc 8 (mask (rns at_ s) c) < ctb (stn at_ s) c
      · rw [if_pos hh, if_neg (by omega)]
      · rw [if_neg hh, if_pos (by omega)]
    simp only [bnd]
    rw [hcp, wd_sub (mxc_le _ _)]
    rfl
theorem r_pairing {sd has bh : Nat → Int32} {sm bc bf s : Int32} (hW : WF at_ c) (hf : 1000000000 ≤ fu) : ∃ sd' has' bh' bc' bf', f_X12_pairing fu at_ sd has bh sm bc bf s = some (sd', has', bh', wd (ctb (stn at_ s) c), bc', bf') ∧ (∀ k, k < ctb (stn at_ s) c → sd' k = wd (hrf (stn at_ s) c k)) ∧ PE (ctb (stn at_ s) c) (RVs (ctb (stn at_ s) c) (fdn at_ (hrf (stn at_ s) c)) (ctb (stn at_ s) c) 0 (mask (rns at_ s) c) (fun _ => 0) none) bh' bc' bf' := by
  have h8 := hW.1
  have hc := hW.2.1
  have h256 := mask_256 (rns at_ s) h8
  have h256' := mask_256 (stn at_ s) h8
  have hcl := ctb_le (stn at_ s) c
  unfold f_X12_pairing
  rw [bind_e (r_standing hc h8 (by omega)), bind_e (r_living hc h8 (by omega))]
  simp only [bnd]
  rw [show (-1 : Int32) = nn from rfl, wd_dif, sdf_rns h8]
  have key := loop_k (fun m i (x : Nat → Int32) => f_X12_pairing_l23 fu at_ s m x has bh (wd (ctb (stn at_ s) i)) bc bf (wd (mask (stn at_ s) c)) (wd (mask (rns at_ s) c)) (wd i)) (fun i x => ∀ k, k < ctb (stn at_ s) i → x k = wd (hrf (stn at_ s) i k)) c (fun x => if wd (ctb (stn at_ s) c) = wd 0 then (f_X12_weighs fu at_ x has bh (wd (ctb (stn at_ s) c)) nn nn).bind fun z_45 => some (x, has, z_45.1, wd (ctb (stn at_ s) c), z_45.2.1, z_45.2.2) else f_X12_pairing_l106 fu at_ s fu x (upd has 0 nn) bh (wd (ctb (stn at_ s) c)) nn nn (wd (mask (rns at_ s) c)) (wd 0)) ?_ ?_ 0 fu sd (by omega) (by omega) (fun k hk => absurd hk (by show ¬ k < 0; omega))
  · obtain ⟨sd', e, hI⟩ := key
    have e0 : f_X12_pairing_l23 fu at_ s fu sd has bh 0 bc bf (wd (mask (stn at_ s) c)) (wd (mask (rns at_ s) c)) 0 = _ := e
    rw [e0]
    have hhr : ∀ k, k < ctb (stn at_ s) c → hrf (stn at_ s) c k < c ∧ sd' k = wd (hrf (stn at_ s) c k) := fun k hk => ⟨(hrf_ok c k hk).1, hI k hk⟩
    by_cases h0 : ctb (stn at_ s) c = 0
    · obtain ⟨bh', bc', bf', e1, g1⟩ := r_weighs (fu := fu) (has := has) (bh := bh) (bc := nn) (bf := nn) (t := fun _ => 0) (r := none) hW (show ctb (stn at_ s) c ≤ 8 by omega) hhr (fun j hj => absurd hj (by omega)) ⟨rfl, rfl⟩ (by omega)
      rw [if_pos (by rw [h0]), bind_e e1]
      refine ⟨sd', has, bh', bc', bf', rfl, hI, ?_⟩
      generalize hrf (stn at_ s) c = hr at g1 ⊢
      generalize ctb (stn at_ s) c = h at g1 h0 ⊢
      subst h0
      exact g1
    · rw [if_neg (by rw [wd_inj (by omega) (by omega)]; exact h0)]
      obtain ⟨u, has', bh', bc', bf', g1, g2, g3, g4⟩ := r_odo (fu := fu) (x1 := s) (F := mask (rns at_ s) c) hW (show ctb (stn at_ s) c ≤ 8 by omega) h256 (fun i hi => by rw [mask_bit] at hi; simp at hi; exact hi.1) hhr (by omega) (ctb (stn at_ s) c - 1) 0 (mask (rns at_ s) c) (fun _ => 0) none (upd has 0 nn) bh nn nn (by omega) h256 (fun i _ => by rw [show alb (fun j => decide ((fun _ => 0) j ≠ i)) 0 = true from rfl, Bool.and_true]) (fun j hj => absurd hj (by omega)) upd_eq ⟨rfl, rfl⟩
      have hT := TT_le (ctb (stn at_ s) c - 1) (by omega)
      have e2 := g2 (fu - u)
      rw [show fu - u + u = fu from by omega] at e2
      rw [e2]
      refine ⟨sd', has', bh', bc', bf', ?_, hI, ?_⟩
      · obtain ⟨n, hn⟩ : ∃ n, fu - u = n + 1 := ⟨fu - u - 1, by omega⟩
        rw [hn, f_X12_pairing_l106, f_X12_pairing_b106, if_pos (show cnk 0 < 0 by decide)]
      · rw [show ctb (stn at_ s) c - 1 + 1 = ctb (stn at_ s) c from by omega] at g3
        exact g3
  · intro m i x hi hI
    have ha := hrf_arr hI
    have hcl2 := ctb_le (stn at_ s) i
    have hst : f_X12_pairing_l23 fu at_ s (m + 1) x has bh (wd (ctb (stn at_ s) i)) bc bf (wd (mask (stn at_ s) c)) (wd (mask (rns at_ s) c)) (wd i) = if stn at_ s i then f_X12_pairing_l23 fu at_ s m (upd x (ctb (stn at_ s) i) (wd i)) has bh (wd (ctb (stn at_ s) i + 1)) bc bf (wd (mask (stn at_ s) c)) (wd (mask (rns at_ s) c)) (wd (i + 1)) else f_X12_pairing_l23 fu at_ s m x has bh (wd (ctb (stn at_ s) i)) bc bf (wd (mask (stn at_ s) c)) (wd (mask (rns at_ s) c)) (wd (i + 1)) := by
      rw [f_X12_pairing_l23, f_X12_pairing_b23, bind_e (show rdI at_ 3648 0 = some (at_ 0) from rdI_wd (k := 0) (by omega) (by omega)), hc, if_neg (by rw [wd_le (by omega) (by omega)]; omega), bind_e (r_isIn (by omega) (by omega)), mask_in hi]
      simp only [bnd, wd_lit, wd_add]
      cases hp : stn at_ s i
      · rfl
      · rw [if_neg (show ¬ i01 true = wd 0 by decide), bind_e (wrI_wd (by omega) (by omega))]
        rfl
    rw [hst]
    cases hp : stn at_ s i
    · refine ⟨x, ?_, ha.1 hp⟩
      rw [if_neg (by simp), ctb_s, hp, if_neg (by simp)]
      rfl
    · refine ⟨upd x (ctb (stn at_ s) i) (wd i), ?_, ha.2 hp⟩
      rw [if_pos rfl, ctb_s, hp, if_pos rfl]
  · intro m x hI
    show f_X12_pairing_l23 fu at_ s (m + 1) x has bh (wd (ctb (stn at_ s) c)) bc bf (wd (mask (stn at_ s) c)) (wd (mask (rns at_ s) c)) (wd c) = _
    rw [f_X12_pairing_l23, f_X12_pairing_b23, bind_e (show rdI at_ 3648 0 = some (at_ 0) from rdI_wd (k := 0) (by omega) (by omega)), hc, if_pos (by rw [wd_le (by omega) (by omega)]; omega)]
    rw [bind_e (show wrI has 8 0 (-1) = some (upd has 0 nn) from wrI_wd (k := 0) (by omega) (by omega))]
    rfl
/-- both come to the same -/
theorem t_pair {s : Int32} (h8 : c ≤ 8) : ∃ f b b', CVs (ctb (stn at_ s) c) (fdn at_ (hrf (stn at_ s) c)) (ctb (stn at_ s) c) 0 (mask (rns at_ s) c) (ctb (stn at_ s) c - mxc (ctb (stn at_ s) c) (mask (rns at_ s) c)) (fun _ => 0) none = some (f, b) ∧ RVs (ctb (stn at_ s) c) (fdn at_ (hrf (stn at_ s) c)) (ctb (stn at_ s) c) 0 (mask (rns at_ s) c) (fun _ => 0) none = some (mxc (ctb (stn at_ s) c) (mask (rns at_ s) c), f, b') ∧ ∀ k, k < ctb (stn at_ s) c → b' k = b k := by
  have h256 := mask_256 (rns at_ s) h8
  have hm := mxc_le (ctb (stn at_ s) c) (mask (rns at_ s) c)
  have := S_main (h := ctb (stn at_ s) c) (fd := fdn at_ (hrf (stn at_ s) c)) (cow := mask (rns at_ s) c) (ctb (stn at_ s) c) 0 (mask (rns at_ s) c) (ctb (stn at_ s) c - mxc (ctb (stn at_ s) c) (mask (rns at_ s) c)) (fun _ => 0) none none (by omega) h256 (by show 0 + _ = _; omega) (by show 0 + _ = _; omega) (Or.inl ⟨rfl, fun x hx => by cases hx⟩)
  obtain ⟨h1, h2⟩ := this
  rcases h1 with ⟨h3, _⟩ | ⟨f, b, b', h3, h4, h5⟩
  · exact absurd h3 h2
  · exact ⟨f, b, b', h3, h4, h5⟩
end
theorem Q1_couples {fu : Nat} (hf : 1000000000 ≤ fu) : Q_couples fu RR := by
  intro S M x1 h
  obtain ⟨c, hW, hA, hN, hWr⟩ := h.2.2.1
  have h8 := hW.1
  cases q0 : wn 1 99 x1
  · refine q_of (r := nn) (bind_e (z := (nn, wd 1, vX5_heroes (S_q S), vX5_tried (S_q S), vX5_chosen (S_q S), vX5_heroCount (S_q S), vX5_couples (S_q S), vX5_fondest (S_q S))) ?_) (bind_e (z := (nn, wd 1, vX12_standers M, vX12_has M, vX12_bestHas M, vX12_standerMany M, vX12_bestCouples M, vX12_bestFondness M)) ?_) ⟨⟨rfl, h.1.2⟩, h.2⟩
    · unfold f_X11_couples; rw [bind_e c_isSize, q0]; rfl
    · unfold f_X12_couples; rw [bind_e r_isSize, q0]; rfl
  · obtain ⟨f, b, b', e1, e2, e3⟩ := t_pair (at_ := vX12_at M) (s := x1) h8
    obtain ⟨hero', tried', ch', fond', m1, m2, m3⟩ := c_match (fu := fu) (hero := vX5_heroes (S_q S)) (tried := vX5_tried (S_q S)) (ch := vX5_chosen (S_q S)) (hc := vX5_heroCount (S_q S)) (cp := vX5_couples (S_q S)) (fo0 := vX5_fondest (S_q S)) (s := x1) hW hA.1 (by omega)
    obtain ⟨sd', has', bh', bc', bf', p1, p2, p3⟩ := r_pairing (fu := fu) (sd := vX12_standers M) (has := vX12_has M) (bh := vX12_bestHas M) (sm := vX12_standerMany M) (bc := vX12_bestCouples M) (bf := vX12_bestFondness M) (s := x1) hW hf
    rw [e1] at m3
    rw [e2] at p3
    refine q_of (r := wd (mxc (ctb (stn (vX12_at M) x1) c) (mask (rns (vX12_at M) x1) c))) (bind_e (z := (wd (mxc (ctb (stn (vX12_at M) x1) c) (mask (rns (vX12_at M) x1) c)), wd 0, hero', tried', ch', wd (ctb (stn (vX12_at M) x1) c), wd (mxc (ctb (stn (vX12_at M) x1) c) (mask (rns (vX12_at M) x1) c)), fond')) ?_) (bind_e (z := (wd (mxc (ctb (stn (vX12_at M) x1) c) (mask (rns (vX12_at M) x1) c)), wd 0, sd', has', bh', wd (ctb (stn (vX12_at M) x1) c), bc', bf')) ?_) ⟨⟨rfl, h.1.2⟩, h.2⟩
    · unfold f_X11_couples
      rw [hA.2.1, hA.2.2.1, hA.2.2.2.1, bind_e c_isSize, q0, if_neg (show ¬ i01 true = 0 by decide), bind_e m1]
      rfl
    · unfold f_X12_couples
      rw [bind_e r_isSize, q0, if_neg (show ¬ i01 true = 0 by decide), bind_e p1]
      rw [p3.1]; rfl
theorem Q1_fondness {fu : Nat} (hf : 1000000000 ≤ fu) : Q_fondness fu RR := by
  intro S M x1 h
  obtain ⟨c, hW, hA, hN, hWr⟩ := h.2.2.1
  have h8 := hW.1
  cases q0 : wn 1 99 x1
  · refine q_of (r := nn) (bind_e (z := (nn, wd 1, vX5_heroes (S_q S), vX5_tried (S_q S), vX5_chosen (S_q S), vX5_heroCount (S_q S), vX5_couples (S_q S), vX5_fondest (S_q S))) ?_) (bind_e (z := (nn, wd 1, vX12_standers M, vX12_has M, vX12_bestHas M, vX12_standerMany M, vX12_bestCouples M, vX12_bestFondness M)) ?_) ⟨⟨rfl, h.1.2⟩, h.2⟩
    · unfold f_X11_fondness; rw [bind_e c_isSize, q0]; rfl
    · unfold f_X12_fondness; rw [bind_e r_isSize, q0]; rfl
  · obtain ⟨f, b, b', e1, e2, e3⟩ := t_pair (at_ := vX12_at M) (s := x1) h8
    obtain ⟨hero', tried', ch', fond', m1, m2, m3⟩ := c_match (fu := fu) (hero := vX5_heroes (S_q S)) (tried := vX5_tried (S_q S)) (ch := vX5_chosen (S_q S)) (hc := vX5_heroCount (S_q S)) (cp := vX5_couples (S_q S)) (fo0 := vX5_fondest (S_q S)) (s := x1) hW hA.1 (by omega)
    obtain ⟨sd', has', bh', bc', bf', p1, p2, p3⟩ := r_pairing (fu := fu) (sd := vX12_standers M) (has := vX12_has M) (bh := vX12_bestHas M) (sm := vX12_standerMany M) (bc := vX12_bestCouples M) (bf := vX12_bestFondness M) (s := x1) hW hf
    rw [e1] at m3
    rw [e2] at p3
    refine q_of (r := wd f) (bind_e (z := (wd f, wd 0, hero', tried', ch', wd (ctb (stn (vX12_at M) x1) c), wd (mxc (ctb (stn (vX12_at M) x1) c) (mask (rns (vX12_at M) x1) c)), fond')) ?_) (bind_e (z := (wd f, wd 0, sd', has', bh', wd (ctb (stn (vX12_at M) x1) c), bc', bf')) ?_) ⟨⟨rfl, h.1.2⟩, h.2⟩
    · unfold f_X11_fondness
      rw [hA.2.1, hA.2.2.1, hA.2.2.2.1, bind_e c_isSize, q0, if_neg (show ¬ i01 true = 0 by decide), bind_e m1]
      rw [m3.1]; rfl
    · unfold f_X12_fondness
      rw [bind_e r_isSize, q0, if_neg (show ¬ i01 true = 0 by decide), bind_e p1]
      rw [p3.2.2.1]; rfl
