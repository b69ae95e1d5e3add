section
variable {h : Nat} {fd : Nat → Nat → Nat} {R : Nat}
def okv (R v : Nat) : Prop := v = 8 ∨ (v < 8 ∧ R.testBit v = true)
theorem C_ok : ∀ d k free al t s, k + d = h → free < 256 → (∀ i, free.testBit i = true → R.testBit i = true) → (∀ j, j < k → okv R (t j)) → (∀ x, s = some x → ∀ j, j < h → okv R (x.2 j)) → ∀ x, CVs h fd d k free al t s = some x → ∀ j, j < h → okv R (x.2 j) := by
  intro d
  induction d with
  | zero =>
    intro k free al t s hk hfr hfree ht hs x hx
    have hkh : k = h := by omega
    subst hkh
    cases s with
    | none =>
      have hx : some (fnl fd t k, t) = some x := hx
      injection hx with hx; subst hx; exact ht
    | some y =>
      have hx : (if fnl fd t k ≤ y.1 then some y else some (fnl fd t k, t)) = some x := hx
      split at hx
      · injection hx with hx; subst hx; exact hs y rfl
      · injection hx with hx; subst hx; exact ht
  | succ d ih =>
    intro k free al t s hk hfr hfree ht hs
    have hup : ∀ v, okv R v → ∀ j, j < k + 1 → okv R (updN t k v j) := by
      intro v hv j hj
      by_cases hjk : j = k
      · subst hjk; rw [updN_eq]; exact hv
      · rw [updN_ne hjk]; exact ht j (by omega)
    have h1 : ∀ x, fo (fun i r => if free.testBit i then CVs h fd d (k + 1) (rm free i) al (updN t k i) r else r) 8 s = some x → ∀ j, j < h → okv R (x.2 j) := fo_inv (R := fun r => ∀ x, r = some x → ∀ j, j < h → okv R (x.2 j)) 8 (fun i r hi hr => by
      show ∀ x, (if free.testBit i then CVs h fd d (k + 1) (rm free i) al (updN t k i) r else r) = some x → ∀ j, j < h → okv R (x.2 j)
      cases hb : free.testBit i
      · exact hr
      · exact ih (k + 1) (rm free i) al (updN t k i) r (by omega) (by have := rm_le free i; omega) (fun j hj => by rw [rm_bit hfr] at hj; simp only [Bool.and_eq_true] at hj; exact hfree j hj.1) (hup i (Or.inr ⟨hi, hfree i hb⟩)) hr) s hs
    intro x hx
    have hx : (if 0 < al then CVs h fd d (k + 1) free (al - 1) (updN t k 8) (fo (fun i r => if free.testBit i then CVs h fd d (k + 1) (rm free i) al (updN t k i) r else r) 8 s) else fo (fun i r => if free.testBit i then CVs h fd d (k + 1) (rm free i) al (updN t k i) r else r) 8 s) = some x := hx
    split at hx
    · exact ih (k + 1) free (al - 1) (updN t k 8) _ (by omega) hfr hfree (hup 8 (Or.inl rfl)) h1 x hx
    · exact h1 x hx
end
/-- whose partner one is -/
def prt (hr b : Nat → Nat) (m : Nat) : Nat → Nat → Option Nat
  | 0, _ => none
  | d + 1, k => if hr k = m then (if b k = 8 then none else some (b k)) else if b k = m then some (hr k) else prt hr b m d (k + 1)
theorem prt_s (hr b : Nat → Nat) (m d k : Nat) : prt hr b m (d + 1) k = if hr k = m then (if b k = 8 then none else some (b k)) else if b k = m then some (hr k) else prt hr b m d (k + 1) := rfl
section
variable {fu c h : Nat} {hr b : Nat → Nat} {hero ch sd bh has : Nat → Int32}
theorem prt_none {m : Nat} : ∀ d k, (∀ j, k ≤ j → j < k + d → hr j ≠ m ∧ b j ≠ m) → prt hr b m d k = none := by
  intro d
  induction d with
  | zero => intro k _; rfl
  | succ d ih =>
    intro k hh
    have := hh k (by omega) (by omega)
    rw [prt_s, if_neg this.1, if_neg this.2]
    exact ih (k + 1) (fun j h1 h2 => hh j (by omega) (by omega))
theorem prt_lt {m : Nat} (hb : ∀ j, j < h → b j ≤ 8) (hhr : ∀ j, j < h → hr j < 8) : ∀ d k v, k + d = h → prt hr b m d k = some v → v < 8 := by
  intro d
  induction d with
  | zero => intro k v _ hv; cases hv
  | succ d ih =>
    intro k v hk hv
    rw [prt_s] at hv
    have h1 := hb k (by omega)
    have h2 := hhr k (by omega)
    split at hv
    · split at hv
      · cases hv
      · injection hv with hv; omega
    · split at hv
      · injection hv with hv; omega
      · exact ih (k + 1) v (by omega) hv
theorem c_partnerOf {m : Nat} (hh : h ≤ 8) (hm : m < 8) (h1 : ∀ k, k < h → hr k < 8 ∧ hero k = wd (hr k)) (h2 : ∀ k, k < h → b k ≤ 8 ∧ ch k = ow (b k)) (hf : 1000 ≤ fu) : f_X5_partnerOf fu hero ch (wd h) (wd m) = some (oe (prt hr b m h 0)) := by
  unfold f_X5_partnerOf
  have key : ∀ d k M, k + d = h → d < M → f_X5_partnerOf_l2 fu hero ch (wd h) (wd m) M (wd k) = some (oe (prt hr b m d k)) := by
    intro d
    induction d with
    | zero =>
      intro k M hk hM
      obtain ⟨M, rfl⟩ : ∃ z, M = z + 1 := ⟨M - 1, by omega⟩
      rw [f_X5_partnerOf_l2, f_X5_partnerOf_b2, if_pos (by rw [wd_le (by omega) (by omega)]; omega)]
      rfl
    | succ d ih =>
      intro k M hk hM
      obtain ⟨M, rfl⟩ : ∃ z, M = z + 1 := ⟨M - 1, by omega⟩
      obtain ⟨a1, a2⟩ := h1 k (by omega)
      obtain ⟨b1, b2⟩ := h2 k (by omega)
      have hm8 : ow (b k) = wd m ↔ b k = m := by
        unfold ow
        split
        · rename_i h8
          rw [wd_eqm' (by omega)]
          constructor
          · intro h; exact h.elim
          · intro h; omega
        · rw [wd_inj (by omega) (by omega)]
      rw [f_X5_partnerOf_l2, f_X5_partnerOf_b2, if_neg (by rw [wd_le (by omega) (by omega)]; omega), bind_e (rdI_wd (by omega) (by omega)), a2, bind_e (rdI_wd (by omega) (by omega)), b2, prt_s]
      by_cases hrm : hr k = m
      · rw [if_pos (by rw [hrm]), if_pos hrm]
        unfold ow
        by_cases hb8 : b k = 8
        · rw [if_pos hb8, if_pos hb8]; rfl
        · rw [if_neg hb8, if_neg hb8]; rfl
      · rw [if_neg (by rw [wd_inj (by omega) (by omega)]; exact hrm), if_neg hrm, bind_e (rdI_wd (by omega) (by omega)), b2]
        by_cases hbm : b k = m
        · rw [if_pos (hm8.2 hbm), if_pos hbm, bind_e (rdI_wd (by omega) (by omega)), a2]; rfl
        · rw [if_neg (fun hh => hbm (hm8.1 hh)), if_neg hbm]
          simp only [bnd, wd_lit, wd_add]
          exact ih (k + 1) M (by omega) (by omega)
  exact key h 0 fu (by omega) (by omega)
theorem r_partnerL {at_ : Nat → Int32} {m : Nat} {x2 st bc bf : Int32} (hh : h ≤ 8) (hm : m < 8) (h1 : ∀ k, k < h → hr k < 8 ∧ sd k = wd (hr k)) (h2 : ∀ k, k < h → b k ≤ 8 ∧ bh k = wd (b k)) (h3 : ∀ j k, j < h → k < h → hr j = hr k → j = k) (h4 : ∀ j k, j < h → k < h → hr j ≠ b k) (hf : 1000 ≤ fu) : f_X12_partner_l29 fu at_ (wd m) x2 fu st sd has bh (wd h) bc bf (wd 0) = some (match prt hr b m h 0 with | none => (nn, wd 6, sd, has, bh, wd h, bc, bf) | some v => (wd v, wd 0, sd, has, bh, wd h, bc, bf)) := by
  have key : ∀ d k M, k + d = h → d < M → f_X12_partner_l29 fu at_ (wd m) x2 M st sd has bh (wd h) bc bf (wd k) = some (match prt hr b m d k with | none => (nn, wd 6, sd, has, bh, wd h, bc, bf) | some v => (wd v, wd 0, sd, has, bh, wd h, bc, bf)) := by
    intro d
    induction d with
    | zero =>
      intro k M hk hM
      obtain ⟨M, rfl⟩ : ∃ z, M = z + 1 := ⟨M - 1, by omega⟩
      rw [f_X12_partner_l29, f_X12_partner_b29, if_pos (by rw [wd_le (by omega) (by omega)]; omega)]
      rfl
    | succ d ih =>
      intro k M hk hM
      obtain ⟨M, rfl⟩ : ∃ z, M = z + 1 := ⟨M - 1, by omega⟩
      obtain ⟨a1, a2⟩ := h1 k (by omega)
      obtain ⟨b1, b2⟩ := h2 k (by omega)
      have ihk := ih (k + 1) M (by omega) (by omega)
      rw [f_X12_partner_l29, f_X12_partner_b29, if_neg (by rw [wd_le (by omega) (by omega)]; omega), bind_e (rdI_wd (by omega) (by omega)), b2, bind_e (rdI_wd (by omega) (by omega)), a2, bind_e (rdI_wd (f := bh) (by omega) (by omega)), b2, prt_s, show (8 : Int32) = wd 8 from rfl, show (1 : Int32) = wd 1 from rfl]
      simp only [bnd, wd_add]
      by_cases hb8 : b k = 8
      · rw [if_pos (by rw [hb8]), ihk]
        by_cases hrm : hr k = m
        · rw [if_pos hrm, if_pos hb8]
          rw [prt_none d (k + 1) (fun j hj1 hj2 => ⟨fun hjm => by have := h3 j k (by omega) (by omega) (hjm.trans hrm.symm); omega, fun hjm => h4 k j (by omega) (by omega) (hrm.trans hjm.symm)⟩)]
        · rw [if_neg hrm, if_neg (by omega)]
      · rw [if_neg (by rw [wd_inj (by omega) (by omega)]; exact hb8)]
        by_cases hrm : hr k = m
        · rw [if_pos (by rw [hrm]), if_pos hrm, if_neg hb8]
          rfl
        · rw [if_neg (by rw [wd_inj (by omega) (by omega)]; exact hrm), if_neg hrm]
          rw [bind_e (rdI_wd (by omega) (by omega)), b2]
          by_cases hbm : b k = m
          · rw [if_pos (by rw [hbm]), if_pos hbm, bind_e (rdI_wd (by omega) (by omega)), a2]; rfl
          · rw [if_neg (by rw [wd_inj (by omega) (by omega)]; exact hbm), if_neg hbm]
            exact ihk
  exact key h 0 fu (by omega) (by omega)
end
theorem Q1_partner {fu : Nat} (hf : 1000000000 ≤ fu) : Q_partner fu RR := by
  intro S M x1 x2 h
  obtain ⟨c, hW, hA, hN, hWr⟩ := h.2.2.1
  have h8 := hW.1
  have hc := hW.2.1
  cases q1 : imn c x1
  · refine q_of (r := nn) (bind_e (z := (nn, wd 1, vX5_heroes (S_q S), vX5_tried (S_q S), vX5_chosen (S_q S), vX5_heroCount (S_q S), vX5_couples (S_q S), vX5_fondest (S_q S))) ?_) (bind_e (z := (nn, wd 1, vX12_standers M, vX12_has M, vX12_bestHas M, vX12_standerMany M, vX12_bestCouples M, vX12_bestFondness M)) ?_) ⟨⟨rfl, h.1.2⟩, h.2⟩
    · unfold f_X11_partner; rw [hA.2.1, bind_e c_isM, q1]; rfl
    · unfold f_X12_partner; rw [bind_e (r_isM hc), q1]; rfl
  obtain ⟨m, hm, rfl⟩ := imn_ex (by omega) q1
  cases q0 : wn 1 99 x2
  · refine q_of (r := nn) (bind_e (z := (nn, wd 1, vX5_heroes (S_q S), vX5_tried (S_q S), vX5_chosen (S_q S), vX5_heroCount (S_q S), vX5_couples (S_q S), vX5_fondest (S_q S))) ?_) (bind_e (z := (nn, wd 1, vX12_standers M, vX12_has M, vX12_bestHas M, vX12_standerMany M, vX12_bestCouples M, vX12_bestFondness M)) ?_) ⟨⟨rfl, h.1.2⟩, h.2⟩
    · unfold f_X11_partner; rw [hA.2.1, bind_e c_isM, q1, if_neg (show ¬ i01 true = 0 by decide), bind_e c_isSize, q0]; rfl
    · unfold f_X12_partner; rw [bind_e (r_isM hc), q1, if_neg (show ¬ i01 true = 0 by decide), bind_e r_isSize, q0]; rfl
  · obtain ⟨f, b, b', e1, e2, e3⟩ := t_pair (at_ := vX12_at M) (s := x2) h8
    obtain ⟨hero', tried', ch', fond', m1, m2, m3⟩ := c_match (fu := fu) (hero := vX5_heroes (S_q S)) (tried := vX5_tried (S_q S)) (ch := vX5_chosen (S_q S)) (hc := vX5_heroCount (S_q S)) (cp := vX5_couples (S_q S)) (fo0 := vX5_fondest (S_q S)) (s := x2) hW hA.1 (by omega)
    obtain ⟨sd', has', bh', bc', bf', p1, p2, p3⟩ := r_pairing (fu := fu) (sd := vX12_standers M) (has := vX12_has M) (bh := vX12_bestHas M) (sm := vX12_standerMany M) (bc := vX12_bestCouples M) (bf := vX12_bestFondness M) (s := x2) hW hf
    have h256 := mask_256 (rns (vX12_at M) x2) h8
    have hcl := ctb_le (stn (vX12_at M) x2) c
    have hok := C_ok (fd := fdn (vX12_at M) (hrf (stn (vX12_at M) x2) c)) (R := mask (rns (vX12_at M) x2) c) _ 0 _ _ (fun _ => 0) none (Nat.zero_add _) h256 (fun i hi => hi) (fun j hj => absurd hj (by omega)) (fun x hx => by cases hx) _ e1
    rw [e1] at m3
    rw [e2] at p3
    have hhr := fun k (hk : k < ctb (stn (vX12_at M) x2) c) => hrf_ok (p := stn (vX12_at M) x2) c k hk
    have hb8 : ∀ k, k < ctb (stn (vX12_at M) x2) c → b k ≤ 8 := fun k hk => by
      have := hok k hk
      rcases this with g | g
      · have g : b k = 8 := g; omega
      · have g : b k < 8 := g.1; omega
    have c1 := c_partnerOf (fu := fu) (hr := hrf (stn (vX12_at M) x2) c) (b := b) (hero := hero') (ch := ch') (m := m) (show ctb (stn (vX12_at M) x2) c ≤ 8 by omega) (by omega) (fun k hk => ⟨by have := (hhr k hk).1; omega, m2 k hk⟩) (fun k hk => ⟨hb8 k hk, m3.2.2 k hk⟩) (by omega)
    have r1 := r_partnerL (fu := fu) (at_ := vX12_at M) (hr := hrf (stn (vX12_at M) x2) c) (b := b) (sd := sd') (bh := bh') (has := has') (m := m) (x2 := x2) (st := vX12_status M) (bc := bc') (bf := bf') (show ctb (stn (vX12_at M) x2) c ≤ 8 by omega) (by omega) (fun k hk => ⟨by have := (hhr k hk).1; omega, p2 k hk⟩) (fun k hk => ⟨hb8 k hk, (p3.2.2.2.2 k hk).trans (congrArg wd (e3 k hk))⟩) (fun j k hj hk hjk => by
      have g1 := (hhr j hj).2.2
      have g2 := (hhr k hk).2.2
      rw [hjk] at g1
      omega) (fun j k hj hk hjk => by
      have g1 := (hhr j hj).2.1
      rcases hok k hk with g | g
      · have g : b k = 8 := g
        have := (hhr j hj).1
        omega
      · have g : (mask (rns (vX12_at M) x2) c).testBit (b k) = true := g.2
        rw [← hjk, mask_bit] at g
        simp only [Bool.and_eq_true, rns] at g
        simp only [stn, Bool.and_eq_true, Bool.not_eq_true', decide_eq_false_iff_not] at g1
        have := g.2.2
        rw [decide_eq_true_eq] at this
        exact g1.2 this) (by omega)
    have hpl := prt_lt (hr := hrf (stn (vX12_at M) x2) c) (b := b) (m := m) (h := ctb (stn (vX12_at M) x2) c) hb8 (fun j hj => by have := (hhr j hj).1; omega) (ctb (stn (vX12_at M) x2) c) 0
    cases hx : prt (hrf (stn (vX12_at M) x2) c) b m (ctb (stn (vX12_at M) x2) c) 0 with
    | none =>
      rw [hx] at c1 r1
      refine q_of (r := nn) (bind_e (z := (nn, wd 6, hero', tried', ch', wd (ctb (stn (vX12_at M) x2) c), wd (mxc (ctb (stn (vX12_at M) x2) c) (mask (rns (vX12_at M) x2) c)), fond')) ?_) (bind_e (z := (nn, wd 6, sd', has', bh', wd (ctb (stn (vX12_at M) x2) c), bc', bf')) ?_) ⟨⟨rfl, h.1.2⟩, h.2⟩
      · unfold f_X11_partner
        rw [hA.2.1, hA.2.2.1, hA.2.2.2.1, bind_e c_isM, q1, if_neg (show ¬ i01 true = 0 by decide), bind_e c_isSize, q0, if_neg (show ¬ i01 true = 0 by decide), bind_e m1]
        dsimp only
        rw [bind_e c1, if_pos (show oe none = -1 from rfl)]
        rfl
      · unfold f_X12_partner
        rw [bind_e (r_isM hc), q1, if_neg (show ¬ i01 true = 0 by decide), bind_e r_isSize, q0, if_neg (show ¬ i01 true = 0 by decide), bind_e p1]
        exact r1
    | some v =>
      have hv := hpl v (by omega) hx
      rw [hx] at c1 r1
      refine q_of (r := wd v) (bind_e (z := (wd v, wd 0, hero', tried', ch', wd (ctb (stn (vX12_at M) x2) c), wd (mxc (ctb (stn (vX12_at M) x2) c) (mask (rns (vX12_at M) x2) c)), fond')) ?_) (bind_e (z := (wd v, wd 0, sd', has', bh', wd (ctb (stn (vX12_at M) x2) c), bc', bf')) ?_) ⟨⟨rfl, h.1.2⟩, h.2⟩
      · unfold f_X11_partner
        rw [hA.2.1, hA.2.2.1, hA.2.2.2.1, bind_e c_isM, q1, if_neg (show ¬ i01 true = 0 by decide), bind_e c_isSize, q0, if_neg (show ¬ i01 true = 0 by decide), bind_e m1]
        dsimp only
        rw [bind_e c1, if_neg (show ¬ oe (some v) = -1 by rw [oe_s, show (-1 : Int32) = nn from rfl, wd_eqm (by omega)]; exact id)]
        rfl
      · unfold f_X12_partner
        rw [bind_e (r_isM hc), q1, if_neg (show ¬ i01 true = 0 by decide), bind_e r_isSize, q0, if_neg (show ¬ i01 true = 0 by decide), bind_e p1]
        exact r1
