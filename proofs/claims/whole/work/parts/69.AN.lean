/-! pairs on the reference's side -/
def PE (h : Nat) (r : Option (Nat × Nat × (Nat → Nat))) (bh : Nat → Int32) (bc bf : Int32) : Prop := match r with
  | none => bc = nn ∧ bf = nn
  | some x => bc = wd x.1 ∧ x.1 ≤ 8 ∧ bf = wd x.2.1 ∧ x.2.1 ≤ 1000 ∧ ∀ j, j < h → bh j = wd (x.2.2 j)
def FRp (F k free : Nat) (t : Nat → Nat) : Prop := ∀ i, i < 8 → free.testBit i = (F.testBit i && alb (fun j => decide (t j ≠ i)) k)
section
variable {fu c h : Nat} {at_ sd : Nat → Int32} {hr : Nat → Nat}
theorem r_weighsL {bh has : Nat → Int32} {bc bf : Int32} {t : Nat → Nat} (hh : h ≤ 8) (ht : ∀ j, j < h → has j = wd (t j)) (hf : 1000 ≤ fu) : ∃ bh', f_X12_weighs_l93 fu at_ sd has (wd h) fu bh bc bf (wd 0) = some (bh', bc, bf) ∧ ∀ j, j < h → bh' j = wd (t j) := by
  have key := loop_inv (fun m i (s : Nat → Int32) => f_X12_weighs_l93 fu at_ sd has (wd h) m s bc bf (wd i)) (fun i s => ∀ j, j < i → s j = wd (t j)) (fun r => ∃ bh', r = (bh', bc, bf) ∧ ∀ j, j < h → bh' j = wd (t j)) h ?_ ?_ 0 fu bh (by omega) (by omega) (fun j hj => absurd hj (by omega))
  · obtain ⟨r, e, bh', rfl, g⟩ := key
    exact ⟨bh', e, g⟩
  · intro m i s hi hI
    refine ⟨upd s i (wd (t i)), ?_, ?_⟩
    · rw [f_X12_weighs_l93, f_X12_weighs_b93, if_neg (by rw [wd_le (by omega) (by omega)]; omega), bind_e (rdI_wd (by omega) (by omega)), ht i hi, bind_e (wrI_wd (by omega) (by omega))]
      simp only [bnd, wd_lit, wd_add]
    · intro j hj
      by_cases hji : j = i
      · subst hji; exact upd_eq
      · rw [upd_ne hji]; exact hI j (by omega)
  · intro m s hI
    refine ⟨_, ?_, s, rfl, hI⟩
    rw [f_X12_weighs_l93, f_X12_weighs_b93, if_pos (by rw [wd_le (by omega) (by omega)]; omega)]
theorem r_weighs {bh has : Nat → Int32} {bc bf : Int32} {t : Nat → Nat} {r : Option (Nat × Nat × (Nat → Nat))} (hW : WF at_ c) (hh : h ≤ 8) (hhr : ∀ k, k < h → hr k < c ∧ sd k = wd (hr k)) (ht : ∀ j, j < h → has j = wd (t j) ∧ (t j = 8 ∨ t j < c)) (hr0 : PE h r bh bc bf) (hf : 1000 ≤ fu) : ∃ bh' bc' bf', f_X12_weighs fu at_ sd has bh (wd h) bc bf = some (bh', bc', bf') ∧ PE h (wgh h (fdn at_ hr) t r) bh' bc' bf' := by
  have h8 := hW.1
  have hfl := fnl_le (hr := hr) (t := t) hW h (fun j hj => ⟨(hhr j hj).1, (ht j hj).2⟩)
  have hcl := cpl_le t h
  have hfin : f_X12_weighs fu at_ sd has bh (wd h) bc bf = (if wd (cpl t h) < bc then some (bh, bc, bf) else (if wd (cpl t h) = bc then (if bf < wd (fnl (fdn at_ hr) t h) then f_X12_weighs_l93 fu at_ sd has (wd h) fu bh (wd (cpl t h)) (wd (fnl (fdn at_ hr) t h)) (wd 0) else some (bh, bc, bf)) else f_X12_weighs_l93 fu at_ sd has (wd h) fu bh (wd (cpl t h)) (wd (fnl (fdn at_ hr) t h)) (wd 0))) := by
    unfold f_X12_weighs
    refine loop_seq (fun m i (x : Nat × Nat) => f_X12_weighs_l6 fu at_ sd has (wd h) m bh bc bf (wd x.1) (wd x.2) (wd i)) (fun i => (cpl t i, fnl (fdn at_ hr) t i)) h _ ?_ ?_ 0 fu (by omega) (by omega)
    · intro m i hi
      have e1 : cpl t (i + 1) = cpl t i + (if t i = 8 then 0 else 1) := rfl
      have e2 : fnl (fdn at_ hr) t (i + 1) = fnl (fdn at_ hr) t i + (if t i = 8 then 0 else fdn at_ hr i (t i)) := rfl
      dsimp only
      rw [e1, e2, f_X12_weighs_l6, f_X12_weighs_b6, if_neg (by rw [wd_le (by omega) (by omega)]; omega), bind_e (rdI_wd (by omega) (by omega)), (ht i hi).1, show (8 : Int32) = wd 8 from rfl]
      by_cases h9 : t i = 8
      · rw [if_pos (by rw [h9]), if_pos h9, if_pos h9]
        simp only [bnd, wd_lit, wd_add]; rfl
      · have hti : t i < c := by have := (ht i hi).2; omega
        have hri := hhr i hi
        rw [if_neg (by rw [wd_inj (by omega) (by omega)]; exact h9), if_neg h9, if_neg h9]
        simp only [bnd, wd_lit, wd_add]
        have ef : f_X12_fondOf fu at_ (wd (hr i)) (wd (t i)) = some (wd (fdn at_ hr i (t i))) := by
          unfold f_X12_fondOf
          rw [bind_e (r_likesOf (by omega) (by omega)), bind_e (r_likesOf (by omega) (by omega)), (lkn_e hW hri.1 hti).1, (lkn_e hW hti hri.1).1, wd_add]
          rfl
        rw [bind_e (rdI_wd (by omega) (by omega)), hri.2, bind_e (rdI_wd (by omega) (by omega)), (ht i hi).1, bind_e ef, wd_add]
    · intro m
      dsimp only
      rw [f_X12_weighs_l6, f_X12_weighs_b6, if_pos (by rw [wd_le (by omega) (by omega)]; omega)]
      rfl
  rw [hfin]
  obtain ⟨bh', l1, l2⟩ := r_weighsL (fu := fu) (at_ := at_) (sd := sd) (bh := bh) (bc := wd (cpl t h)) (bf := wd (fnl (fdn at_ hr) t h)) hh (fun j hj => (ht j hj).1) hf
  have hnew : PE h (some (cpl t h, fnl (fdn at_ hr) t h, t)) bh' (wd (cpl t h)) (wd (fnl (fdn at_ hr) t h)) := ⟨rfl, by show cpl t h ≤ 8; omega, rfl, by show fnl (fdn at_ hr) t h ≤ 1000; omega, l2⟩
  cases r with
  | none =>
    obtain ⟨p1, p2⟩ : bc = nn ∧ bf = nn := hr0
    subst p1 p2
    rw [if_neg (by rw [wd_ltm2 (by omega)]; exact id), if_neg (by rw [wd_eqm (by omega)]; exact id)]
    exact ⟨bh', _, _, l1, hnew⟩
  | some x =>
    obtain ⟨p1, p2, p3, p4, p5⟩ : bc = wd x.1 ∧ x.1 ≤ 8 ∧ bf = wd x.2.1 ∧ x.2.1 ≤ 1000 ∧ ∀ j, j < h → bh j = wd (x.2.2 j) := hr0
    subst p1 p3
    show ∃ bh' bc' bf', _ ∧ PE h (if cpl t h < x.1 ∨ (cpl t h = x.1 ∧ fnl (fdn at_ hr) t h ≤ x.2.1) then some x else some (cpl t h, fnl (fdn at_ hr) t h, t)) bh' bc' bf'
    have hold : PE h (some x) bh (wd x.1) (wd x.2.1) := ⟨rfl, p2, rfl, p4, p5⟩
    by_cases a1 : cpl t h < x.1
    · rw [if_pos (by rw [wd_lt (by omega) (by omega)]; exact a1), if_pos (Or.inl a1)]
      exact ⟨bh, _, _, rfl, hold⟩
    · rw [if_neg (by rw [wd_lt (by omega) (by omega)]; exact a1)]
      by_cases a2 : cpl t h = x.1
      · rw [if_pos (by rw [a2])]
        by_cases a3 : x.2.1 < fnl (fdn at_ hr) t h
        · rw [if_pos (by rw [wd_lt (by omega) (by omega)]; exact a3), if_neg (by omega)]
          exact ⟨bh', _, _, l1, hnew⟩
        · rw [if_neg (by rw [wd_lt (by omega) (by omega)]; exact a3), if_pos (Or.inr ⟨a2, by omega⟩)]
          exact ⟨bh, _, _, rfl, hold⟩
      · rw [if_neg (by rw [wd_inj (by omega) (by omega)]; exact a2), if_neg (by omega)]
        exact ⟨bh', _, _, l1, hnew⟩
theorem r_isFree {has : Nat → Int32} {F k i free : Nat} {t : Nat → Nat} (hF : F < 256) (hk : k ≤ 8) (hi : i < 8) (ht : ∀ j, j < k → has j = wd (t j) ∧ t j ≤ 8) (hfr : FRp F k free t) (hf : 1000 ≤ fu) : f_X12_isFree fu has (wd k) (wd i) (wd F) = some (i01 (free.testBit i)) := by
  unfold f_X12_isFree
  rw [show (8 : Int32) = wd 8 from rfl, if_neg (by rw [wd_inj (by omega) (by omega)]; omega), hfr i hi]
  have key := loop_inv2 (fun m j (_ : Unit) => f_X12_isFree_l11 fu has (wd k) (wd i) (wd F) m (wd j)) (fun j _ => alb (fun j => decide (t j ≠ i)) j = true) (fun r => r = i01 (F.testBit i && alb (fun j => decide (t j ≠ i)) k)) k ?_ ?_ 0 fu () (by omega) (by omega) rfl
  · obtain ⟨r, e, rfl⟩ := key
    exact e
  · intro m j _ hj hI
    have htj := ht j hj
    by_cases hc : t j = i
    · right
      refine ⟨wd 0, ?_, by rw [alb_f hj (by simp [hc]), Bool.and_false]; rfl⟩
      rw [f_X12_isFree_l11, f_X12_isFree_b11, if_neg (by rw [wd_le (by omega) (by omega)]; omega), bind_e (rdI_wd (by omega) (by omega)), htj.1, if_pos (by rw [hc])]
      rfl
    · left
      refine ⟨(), ?_, by rw [alb_s, hI]; simp [hc]⟩
      rw [f_X12_isFree_l11, f_X12_isFree_b11, if_neg (by rw [wd_le (by omega) (by omega)]; omega), bind_e (rdI_wd (by omega) (by omega)), htj.1, if_neg (by rw [wd_inj (by omega) (by omega)]; exact hc)]
      simp only [bnd, wd_lit, wd_add]
  · intro m _ hI
    refine ⟨i01 (F.testBit i), ?_, by rw [hI, Bool.and_true]⟩
    rw [f_X12_isFree_l11, f_X12_isFree_b11, if_pos (by rw [wd_le (by omega) (by omega)]; omega), bind_e (r_isIn (by omega) (by omega)), i01_bz]
    rfl
theorem FRp_i {F k free i : Nat} {t : Nat → Nat} (hfr : free < 256) (h : FRp F k free t) (hi : i < 8) : FRp F (k + 1) (rm free i) (updN t k i) := by
  intro j hj
  rw [rm_bit hfr, h j hj, alb_s, updN_eq]
  have : alb (fun j' => decide (updN t k i j' ≠ j)) k = alb (fun j' => decide (t j' ≠ j)) k := alb_congr k (fun x hx => by rw [updN_ne (by omega)])
  rw [this, Bool.and_assoc]
  congr 2
  by_cases hij : i = j <;> simp [hij]
theorem FRp_8 {F k free : Nat} {t : Nat → Nat} (h : FRp F k free t) : FRp F (k + 1) free (updN t k 8) := by
  intro j hj
  rw [h j hj, alb_s, updN_eq]
  have : alb (fun j' => decide (updN t k 8 j' ≠ j)) k = alb (fun j' => decide (t j' ≠ j)) k := alb_congr k (fun x hx => by rw [updN_ne (by omega)])
  rw [this]
  have h8 : (8 : Nat) ≠ j := by omega
  simp [h8]
def TT : Nat → Nat
  | 0 => 10
  | d + 1 => 9 * (1 + TT d) + 1
def hpr (i : Nat) : Int32 := if i = 0 then nn else wd (i - 1)
theorem hpr_s {i : Nat} : hpr i + wd 1 = wd i := by
  unfold hpr
  by_cases h : i = 0
  · subst h; rw [if_pos rfl]; decide
  · rw [if_neg h, wd_add]; congr 1; omega
end
section
variable {fu c h : Nat} {at_ sd : Nat → Int32} {hr : Nat → Nat}
/-- one who is free has been found for level k -/
def nxt (fu : Nat) (at_ sd : Nat → Int32) (x1 : Int32) (h F k n : Nat) (has bh : Nat → Int32) (bc bf : Int32) : Option ((Nat → Int32) × (Nat → Int32) × (Nat → Int32) × Int32 × Int32 × Int32) := if k + 1 = h then (f_X12_weighs fu at_ sd has bh (wd h) bc bf).bind fun z => f_X12_pairing_l106 fu at_ x1 n sd has z.1 (wd h) z.2.1 z.2.2 (wd F) (wd k) else f_X12_pairing_l106 fu at_ x1 n sd (upd has (k + 1) nn) bh (wd h) bc bf (wd F) (wd (k + 1))
theorem r_odo1 {x1 : Int32} {F d k T free : Nat} {t : Nat → Nat} {r : Option (Nat × Nat × (Nat → Nat))} {has bh : Nat → Int32} {bc bf : Int32} (hW : WF at_ c) (hh : h ≤ 8) (hF : F < 256) (hFc : ∀ i, F.testBit i = true → i < c) (hhr : ∀ k, k < h → hr k < c ∧ sd k = wd (hr k)) (hf : 1000 ≤ fu) (hk : k + d + 1 = h) (hfr : free < 256) (hFR : FRp F k free t) (ht : ∀ j, j < k → has j = wd (t j) ∧ (t j = 8 ∨ t j < c)) (hk0 : has k = nn) (hPE : PE h r bh bc bf)
    (hch : ∀ i t' free' r' has' bh' bc' bf', i ≤ 8 → free' < 256 → FRp F (k + 1) free' t' → (∀ j, j < k + 1 → has' j = wd (t' j) ∧ (t' j = 8 ∨ t' j < c)) → has' k = wd i → PE h r' bh' bc' bf' → ∃ u has2 bh2 bc2 bf2, u ≤ T ∧ (∀ n, nxt fu at_ sd x1 h F k (n + u) has' bh' bc' bf' = f_X12_pairing_l106 fu at_ x1 n sd has2 bh2 (wd h) bc2 bf2 (wd F) (wd k)) ∧ PE h (RVs h (fdn at_ hr) d (k + 1) free' t' r') bh2 bc2 bf2 ∧ ∀ j, j < k + 1 → has2 j = has' j) : ∃ u has' bh' bc' bf', u ≤ 9 * (1 + T) + 1 ∧ (∀ n, f_X12_pairing_l106 fu at_ x1 (n + u) sd has bh (wd h) bc bf (wd F) (wd k) = f_X12_pairing_l106 fu at_ x1 n sd has' bh' (wd h) bc' bf' (wd F) (cnk k)) ∧ PE h (RVs h (fdn at_ hr) (d + 1) k free t r) bh' bc' bf' ∧ ∀ j, j < k → has' j = has j := by
  have h8 := hW.1
  have hstep : ∀ n hs bh bc bf i, i ≤ 8 → hs k = hpr i → f_X12_pairing_l106 fu at_ x1 (n + 1) sd hs bh (wd h) bc bf (wd F) (wd k) = ((f_X12_isFree fu (upd hs k (wd i)) (wd k) (wd i) (wd F)).bind fun z => (if z = wd 0 then f_X12_pairing_l106 fu at_ x1 n sd (upd hs k (wd i)) bh (wd h) bc bf (wd F) (wd k) else nxt fu at_ sd x1 h F k n (upd hs k (wd i)) bh bc bf)) := by
    intro n hs bh bc bf i hi hsk
    have e1 : upd hs k (wd i) k = wd i := upd_eq
    rw [f_X12_pairing_l106, f_X12_pairing_b106, if_neg (show ¬ wd k < 0 by rw [show (0 : Int32) = wd 0 from rfl, wd_lt (by omega) (by omega)]; omega), bind_e (rdI_wd (show k < 8 by omega) (by omega)), hsk, show (1 : Int32) = wd 1 from rfl, hpr_s, bind_e (wrI_wd (show k < 8 by omega) (by omega)), bind_e (rdI_wd (show k < 8 by omega) (by omega)), e1, show (8 : Int32) = wd 8 from rfl, if_pos (by rw [wd_le (by omega) (by omega)]; exact hi), bind_e (rdI_wd (show k < 8 by omega) (by omega)), e1]
    congr 1
    funext z
    rw [show (0 : Int32) = wd 0 from rfl]
    by_cases hz : z = wd 0
    · rw [if_pos hz, if_pos hz]
    · rw [if_neg hz, if_neg hz]
      unfold nxt
      simp only [bnd, wd_add]
      by_cases hkh : k + 1 = h
      · rw [if_pos hkh, if_pos (by rw [hkh])]
      · rw [if_neg hkh, if_neg (by rw [wd_inj (by omega) (by omega)]; exact hkh), bind_e (wrI_wd (by omega) (by omega))]
        rfl
  have hlast : ∀ n hs bh bc bf, hs k = hpr 9 → f_X12_pairing_l106 fu at_ x1 (n + 1) sd hs bh (wd h) bc bf (wd F) (wd k) = f_X12_pairing_l106 fu at_ x1 n sd (upd hs k (wd 9)) bh (wd h) bc bf (wd F) (cnk k) := by
    intro n hs bh bc bf hsk
    have e1 : upd hs k (wd 9) k = wd 9 := upd_eq
    rw [f_X12_pairing_l106, f_X12_pairing_b106, if_neg (show ¬ wd k < 0 by rw [show (0 : Int32) = wd 0 from rfl, wd_lt (by omega) (by omega)]; omega), bind_e (rdI_wd (show k < 8 by omega) (by omega)), hsk, show (1 : Int32) = wd 1 from rfl, hpr_s, bind_e (wrI_wd (show k < 8 by omega) (by omega)), bind_e (rdI_wd (show k < 8 by omega) (by omega)), e1, show (8 : Int32) = wd 8 from rfl, if_neg (by decide)]
    simp only [bnd]
    rw [show -wd 1 = nn from rfl, cnk_s]
  have hth : ∀ i hs, i ≤ 8 → (i < 8 → i < c) → (∀ j, j < k → hs j = has j) → ∀ j, j < k + 1 → upd hs k (wd i) j = wd (updN t k i j) ∧ (updN t k i j = 8 ∨ updN t k i j < c) := by
    intro i hs hi hic hsj j hj
    by_cases hjk : j = k
    · subst hjk
      rw [upd_eq, updN_eq]
      exact ⟨rfl, by by_cases h : i = 8; exact Or.inl h; exact Or.inr (hic (by omega))⟩
    · rw [upd_ne hjk, updN_ne hjk, hsj j (by omega)]
      exact ht j (by omega)
  have key : ∀ i, i ≤ 8 → ∃ u has' bh' bc' bf', u ≤ i * (1 + T) ∧ (∀ n, f_X12_pairing_l106 fu at_ x1 (n + u) sd has bh (wd h) bc bf (wd F) (wd k) = f_X12_pairing_l106 fu at_ x1 n sd has' bh' (wd h) bc' bf' (wd F) (wd k)) ∧ PE h (fo (fun i r => if free.testBit i then RVs h (fdn at_ hr) d (k + 1) (rm free i) (updN t k i) r else r) i r) bh' bc' bf' ∧ has' k = hpr i ∧ ∀ j, j < k → has' j = has j := by
    intro i
    induction i with
    | zero => intro _; exact ⟨0, has, bh, bc, bf, by omega, fun _ => rfl, hPE, hk0, fun _ _ => rfl⟩
    | succ i ih =>
      intro hi
      obtain ⟨u, hs, bh1, bc1, bf1, g1, g2, g3, g4, g5⟩ := ih (by omega)
      have hfree : f_X12_isFree fu (upd hs k (wd i)) (wd k) (wd i) (wd F) = some (i01 (free.testBit i)) := r_isFree hF (by omega) (by omega) (fun j hj => by rw [upd_ne (by omega), g5 j hj]; have := ht j hj; exact ⟨this.1, by omega⟩) hFR hf
      have hst := fun n => hstep n hs bh1 bc1 bf1 i (by omega) g4
      cases hb : free.testBit i
      · refine ⟨1 + u, upd hs k (wd i), bh1, bc1, bf1, by rw [Nat.add_mul]; omega, ?_, ?_, ?_, ?_⟩
        · intro n
          rw [← Nat.add_assoc, g2, hst n, bind_e hfree, hb, if_pos (show i01 false = wd 0 from rfl)]
        · rw [fo_s, if_neg (by rw [hb]; simp)]; exact g3
        · rw [upd_eq]; unfold hpr; rw [if_neg (by omega)]; congr 1
        · intro j hj; rw [upd_ne (by omega)]; exact g5 j hj
      · have hFb : F.testBit i = true := by
          have := hFR i (by omega)
          rw [hb] at this
          cases hFi : F.testBit i
          · rw [hFi] at this; simp at this
          · rfl
        obtain ⟨u2, has2, bh2, bc2, bf2, p1, p2, p3, p4⟩ := hch i (updN t k i) (rm free i) _ (upd hs k (wd i)) bh1 bc1 bf1 (by omega) (by have := rm_le free i; omega) (FRp_i hfr hFR (by omega)) (hth i hs (by omega) (fun _ => hFc i hFb) g5) upd_eq g3
        refine ⟨u2 + 1 + u, has2, bh2, bc2, bf2, by rw [Nat.add_mul]; omega, ?_, ?_, ?_, ?_⟩
        · intro n
          rw [← Nat.add_assoc, g2, ← Nat.add_assoc, hst (n + u2), bind_e hfree, hb, if_neg (by decide), p2 n]
        · rw [fo_s, if_pos hb]; exact p3
        · rw [p4 k (by omega), upd_eq]; unfold hpr; rw [if_neg (by omega)]; congr 1
        · intro j hj; rw [p4 j (by omega), upd_ne (by omega)]; exact g5 j hj
  obtain ⟨u, hs, bh1, bc1, bf1, g1, g2, g3, g4, g5⟩ := key 8 (Nat.le_refl 8)
  have hst := fun n => hstep n hs bh1 bc1 bf1 8 (Nat.le_refl 8) g4
  have hfree : f_X12_isFree fu (upd hs k (wd 8)) (wd k) (wd 8) (wd F) = some (wd 1) := by
    unfold f_X12_isFree
    rw [if_pos (show wd 8 = 8 from rfl)]
    rfl
  obtain ⟨u2, has2, bh2, bc2, bf2, p1, p2, p3, p4⟩ := hch 8 (updN t k 8) free _ (upd hs k (wd 8)) bh1 bc1 bf1 (Nat.le_refl 8) hfr (FRp_8 hFR) (hth 8 hs (Nat.le_refl 8) (fun h => absurd h (by omega)) g5) upd_eq g3
  have hk9 : has2 k = hpr 9 := by rw [p4 k (by omega), upd_eq]; rfl
  refine ⟨1 + u2 + 1 + u, upd has2 k (wd 9), bh2, bc2, bf2, by omega, ?_, p3, ?_⟩
  · intro n
    rw [← Nat.add_assoc, g2, ← Nat.add_assoc, hst, bind_e hfree, if_neg (by decide), ← Nat.add_assoc, p2, hlast n has2 bh2 bc2 bf2 hk9]
  · intro j hj; rw [upd_ne (by omega), p4 j (by omega), upd_ne (by omega)]; exact g5 j hj
end
section
variable {fu c h : Nat} {at_ sd : Nat → Int32} {hr : Nat → Nat}
theorem r_odo {x1 : Int32} {F : Nat} (hW : WF at_ c) (hh : h ≤ 8) (hF : F < 256) (hFc : ∀ i, F.testBit i = true → i < c) (hhr : ∀ k, k < h → hr k < c ∧ sd k = wd (hr k)) (hf : 1000 ≤ fu) : ∀ d k free t r has bh bc bf, k + d + 1 = h → free < 256 → FRp F k free t → (∀ j, j < k → has j = wd (t j) ∧ (t j = 8 ∨ t j < c)) → has k = nn → PE h r bh bc bf → ∃ u has' bh' bc' bf', u ≤ TT d ∧ (∀ n, f_X12_pairing_l106 fu at_ x1 (n + u) sd has bh (wd h) bc bf (wd F) (wd k) = f_X12_pairing_l106 fu at_ x1 n sd has' bh' (wd h) bc' bf' (wd F) (cnk k)) ∧ PE h (RVs h (fdn at_ hr) (d + 1) k free t r) bh' bc' bf' ∧ ∀ j, j < k → has' j = has j := by
  have h8 := hW.1
  intro d
  induction d with
  | zero =>
    intro k free t r has bh bc bf hk hfr hFR ht hk0 hPE
    exact r_odo1 (d := 0) (T := 0) hW hh hF hFc hhr hf hk hfr hFR ht hk0 hPE (fun i t' free' r' has' bh' bc' bf' hi hfr' hFR' ht' hk' hPE' => by
      have hkh : k + 1 = h := by omega
      obtain ⟨bh2, bc2, bf2, e, g⟩ := r_weighs (fu := fu) (hr := hr) hW hh hhr (fun j hj => ht' j (by omega)) hPE' hf
      refine ⟨0, has', bh2, bc2, bf2, by omega, ?_, g, fun _ _ => rfl⟩
      intro n
      unfold nxt
      rw [if_pos hkh, bind_e e]
      rfl)
  | succ d ih =>
    intro k free t r has bh bc bf hk hfr hFR ht hk0 hPE
    exact r_odo1 (d := d + 1) (T := TT d) hW hh hF hFc hhr hf hk hfr hFR ht hk0 hPE (fun i t' free' r' has' bh' bc' bf' hi hfr' hFR' ht' hk' hPE' => by
      have hkh : ¬ k + 1 = h := by omega
      obtain ⟨u, has2, bh2, bc2, bf2, g1, g2, g3, g4⟩ := ih (k + 1) free' t' r' (upd has' (k + 1) nn) bh' bc' bf' (by omega) hfr' hFR' (fun j hj => by rw [upd_ne (by omega)]; exact ht' j hj) upd_eq hPE'
      refine ⟨u, has2, bh2, bc2, bf2, g1, ?_, g3, fun j hj => by rw [g4 j hj, upd_ne (by omega)]⟩
      intro n
      unfold nxt
      rw [if_neg hkh, g2 n]
      rfl)
end
