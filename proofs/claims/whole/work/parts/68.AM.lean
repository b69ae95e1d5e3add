/-! pairs on the component's side -/
def ow (x : Nat) : Int32 := if x = 8 then nn else wd x
def lkn (at_ : Nat → Int32) (a b : Nat) : Nat := (mn at_ a (6 + b)).toNatClampNeg
theorem lkn_e {at_ : Nat → Int32} {c a b : Nat} (hW : WF at_ c) (ha : a < c) (hb : b < c) : mn at_ a (6 + b) = wd (lkn at_ a b) ∧ lkn at_ a b ≤ 9 := by
  obtain ⟨k, hk, e⟩ := (hW.2.2.2.2 a ha).2.2.2 b hb
  unfold lkn
  rw [e, wd_nat (by omega)]
  exact ⟨rfl, hk⟩
def fdn (at_ : Nat → Int32) (hr : Nat → Nat) (k i : Nat) : Nat := lkn at_ (hr k) i + lkn at_ i (hr k)
theorem fnl_upd {fd : Nat → Nat → Nat} {t : Nat → Nat} {x : Nat} : ∀ k j, k ≤ j → fnl fd (updN t j x) k = fnl fd t k := by
  intro k
  induction k with
  | zero => intro j _; rfl
  | succ k ih =>
    intro j hj
    show fnl fd (updN t j x) k + (if updN t j x k = 8 then 0 else fd k (updN t j x k)) = fnl fd t k + (if t k = 8 then 0 else fd k (t k))
    rw [ih j (by omega), updN_ne (by omega)]
theorem fnl_s8 {fd : Nat → Nat → Nat} {t : Nat → Nat} {k : Nat} : fnl fd (updN t k 8) (k + 1) = fnl fd t k := by
  show fnl fd (updN t k 8) k + (if updN t k 8 k = 8 then 0 else fd k (updN t k 8 k)) = fnl fd t k
  rw [fnl_upd k k (Nat.le_refl k), updN_eq, if_pos rfl, Nat.add_zero]
theorem fnl_si {fd : Nat → Nat → Nat} {t : Nat → Nat} {k i : Nat} (hi : i < 8) : fnl fd (updN t k i) (k + 1) = fnl fd t k + fd k i := by
  show fnl fd (updN t k i) k + (if updN t k i k = 8 then 0 else fd k (updN t k i k)) = fnl fd t k + fd k i
  rw [fnl_upd k k (Nat.le_refl k), updN_eq, if_neg (by omega)]
theorem fnl_le {at_ : Nat → Int32} {c : Nat} {hr t : Nat → Nat} (hW : WF at_ c) : ∀ k, (∀ j, j < k → hr j < c ∧ (t j = 8 ∨ t j < c)) → fnl (fdn at_ hr) t k ≤ 18 * k := by
  intro k
  induction k with
  | zero => intro _; exact Nat.le_refl 0
  | succ k ih =>
    intro hh
    have h1 := ih (fun j hj => hh j (by omega))
    obtain ⟨h2, h3⟩ := hh k (by omega)
    show fnl (fdn at_ hr) t k + (if t k = 8 then 0 else fdn at_ hr k (t k)) ≤ 18 * (k + 1)
    split
    · omega
    · rename_i h4
      have h5 : t k < c := by omega
      have h6 := (lkn_e hW h2 h5).2
      have h7 := (lkn_e hW h5 h2).2
      have h8 : fdn at_ hr k (t k) = lkn at_ (hr k) (t k) + lkn at_ (t k) (hr k) := rfl
      omega
theorem fo_skip {σ : Type} {f : Nat → σ → σ} {s : σ} {c : Nat} : ∀ d, (∀ i r, c ≤ i → i < c + d → f i r = r) → fo f (c + d) s = fo f c s := by
  intro d
  induction d with
  | zero => intro _; rfl
  | succ d ih =>
    intro hs
    rw [← Nat.add_assoc, fo_s, hs _ _ (by omega) (by omega)]
    exact ih (fun i r h1 h2 => hs i r h1 (by omega))
def KE (h : Nat) (s : Option (Nat × (Nat → Nat))) (fond : Int32) (ch : Nat → Int32) : Prop := match s with
  | none => fond = nn
  | some x => fond = wd x.1 ∧ x.1 ≤ 1000 ∧ ∀ j, j < h → ch j = ow (x.2 j)
section
variable {fu c h : Nat} {at_ lik hero : Nat → Int32} {hr : Nat → Nat}
theorem c_search (hW : WF at_ c) (hl : ∀ m o, m < c → o < c → lik (m * 8 + o) = mn at_ m (6 + o)) (hh : h ≤ 8) (hhr : ∀ k, k < h → hr k < c ∧ hero k = wd (hr k)) (hf : 1000 ≤ fu) : ∀ d k free al D t s tried ch fond, k + d = h → d < D → free < 256 → (∀ i, free.testBit i = true → i < c) → al ≤ 8 → (∀ j, j < k → tried j = ow (t j) ∧ (t j = 8 ∨ t j < c)) → KE h s fond ch → ∃ tried' ch' fond', f_X5_search fu D hero tried ch (wd h) fond lik (wd c) (wd k) (wd free) (wd al) (wd (fnl (fdn at_ hr) t k)) = some (tried', ch', fond') ∧ KE h (CVs h (fdn at_ hr) d k free al t s) fond' ch' ∧ ∀ j, j < k → tried' j = tried j := by
  have h8 := hW.1
  intro d
  induction d with
  | zero =>
    intro k free al D t s tried ch fond hk hD hfr hfc hal ht hs
    obtain ⟨D, rfl⟩ : ∃ z, D = z + 1 := ⟨D - 1, by omega⟩
    have hkh : k = h := by omega
    subst hkh
    have hle := fnl_le (hr := hr) (t := t) hW k (fun j hj => ⟨(hhr j hj).1, (ht j hj).2⟩)
    rw [f_X5_search, f_X5_search_B, if_neg (by rw [wd_lt (by omega) (by omega)]; omega), bind_e (show cpI tried 8 ch 8 0 0 8 = some (va_cpy tried ch 0 0 8) from cpI_wd (sp := 0) (dp := 0) (n := 8) (by omega) (by omega) (by omega) (by omega))]
    have hcp : ∀ j, j < k → va_cpy tried ch 0 0 8 j = ow (t j) := fun j hj => (cpy0 (by omega)).trans (ht j hj).1
    cases s with
    | none =>
      have hs : fond = nn := hs
      subst hs
      rw [if_neg (by rw [wd_lem (by omega)]; exact id)]
      exact ⟨_, _, _, rfl, ⟨rfl, by show fnl (fdn at_ hr) t k ≤ 1000; omega, hcp⟩, fun _ _ => rfl⟩
    | some x =>
      obtain ⟨hs1, hs2, hs3⟩ : fond = wd x.1 ∧ x.1 ≤ 1000 ∧ ∀ j, j < k → ch j = ow (x.2 j) := hs
      subst hs1
      show ∃ tried' ch' fond', _ ∧ KE k (if fnl (fdn at_ hr) t k ≤ x.1 then some x else some (fnl (fdn at_ hr) t k, t)) fond' ch' ∧ _
      by_cases hfx : fnl (fdn at_ hr) t k ≤ x.1
      · rw [if_pos (by rw [wd_le (by omega) (by omega)]; exact hfx), if_pos hfx]
        exact ⟨_, _, _, rfl, ⟨rfl, hs2, hs3⟩, fun _ _ => rfl⟩
      · rw [if_neg (by rw [wd_le (by omega) (by omega)]; exact hfx), if_neg hfx]
        exact ⟨_, _, _, rfl, ⟨rfl, by show fnl (fdn at_ hr) t k ≤ 1000; omega, hcp⟩, fun _ _ => rfl⟩
  | succ d ih =>
    intro k free al D t s tried ch fond hk hD hfr hfc hal ht hs
    obtain ⟨D, rfl⟩ : ∃ z, D = z + 1 := ⟨D - 1, by omega⟩
    have hrk := hhr k (by omega)
    rw [f_X5_search, f_X5_search_B, if_pos (by rw [wd_lt (by omega) (by omega)]; omega), bind_e (rdI_wd (show k < 8 by omega) (by omega)), hrk.2]
    have key := loop_inv (fun m i (x : (Nat → Int32) × (Nat → Int32) × Int32) => f_X5_search_B_l50 fu (f_X5_search fu D) hero (wd h) lik (wd c) (wd k) (wd free) (wd al) (wd (fnl (fdn at_ hr) t k)) m x.1 x.2.1 x.2.2 (wd (hr k)) (wd i)) (fun i x => KE h (fo (fun i r => if free.testBit i then CVs h (fdn at_ hr) d (k + 1) (rm free i) al (updN t k i) r else r) i s) x.2.2 x.2.1 ∧ ∀ j, j < k → x.1 j = tried j) (fun r => KE h (CVs h (fdn at_ hr) (d + 1) k free al t s) r.2.2 r.2.1 ∧ ∀ j, j < k → r.1 j = tried j) c ?_ ?_ 0 fu (tried, ch, fond) (by omega) (by omega) ⟨hs, fun _ _ => rfl⟩
    · obtain ⟨⟨t', c', f'⟩, e, g1, g2⟩ := key
      exact ⟨t', c', f', e, g1, g2⟩
    · intro m i x hi hI
      obtain ⟨g1, g2⟩ := hI
      have hst : f_X5_search_B_l50 fu (f_X5_search fu D) hero (wd h) lik (wd c) (wd k) (wd free) (wd al) (wd (fnl (fdn at_ hr) t k)) (m + 1) x.1 x.2.1 x.2.2 (wd (hr k)) (wd i) = (if free.testBit i = false then f_X5_search_B_l50 fu (f_X5_search fu D) hero (wd h) lik (wd c) (wd k) (wd free) (wd al) (wd (fnl (fdn at_ hr) t k)) m x.1 x.2.1 x.2.2 (wd (hr k)) (wd (i + 1)) else (f_X5_search fu D hero (upd x.1 k (wd i)) x.2.1 (wd h) x.2.2 lik (wd c) (wd (k + 1)) (wd (rm free i)) (wd al) (wd (fnl (fdn at_ hr) t k + fdn at_ hr k i))).bind fun z => f_X5_search_B_l50 fu (f_X5_search fu D) hero (wd h) lik (wd c) (wd k) (wd free) (wd al) (wd (fnl (fdn at_ hr) t k)) m z.1 z.2.1 z.2.2 (wd (hr k)) (wd (i + 1))) := by
        have l1 := lkn_e hW hrk.1 hi
        have l2 := lkn_e hW hi hrk.1
        rw [f_X5_search_B_l50, f_X5_search_B_b50, if_neg (by rw [wd_le (by omega) (by omega)]; omega)]
        rw [show (31 : Int32) = wd 31 from rfl, show (1 : Int32) = wd 1 from rfl, show (0 : Int32) = wd 0 from rfl, wd_31 (by omega)]
        cases hb : free.testBit i
        · rw [if_pos (by rw [wd_bit0' (by omega) (by omega)]; exact hb), if_pos rfl]
          simp only [bnd, wd_add]
        · rw [if_neg (by rw [wd_bit0' (by omega) (by omega), hb]; simp), if_neg (by simp), bind_e (wrI_wd (by omega) (by omega)), bind_e (c_liking hrk.1 hi h8), bind_e (c_liking hi hrk.1 h8), hl _ _ hrk.1 hi, hl _ _ hi hrk.1, l1.1, l2.1, wd_shl (by omega), show -wd 1 = nn from rfl, wd_dif]
          simp only [bnd, wd_add]
          rw [Nat.add_assoc (fnl (fdn at_ hr) t k)]
          rfl
      rw [hst, ]
      cases hb : free.testBit i
      · refine ⟨x, if_pos rfl, ?_, g2⟩
        rw [fo_s, if_neg (by rw [hb]; simp)]
        exact g1
      · rw [if_neg (by simp)]
        have ht' : ∀ j, j < k + 1 → upd x.1 k (wd i) j = ow (updN t k i j) ∧ (updN t k i j = 8 ∨ updN t k i j < c) := by
          intro j hj
          by_cases hjk : j = k
          · subst hjk
            rw [upd_eq, updN_eq]
            exact ⟨by unfold ow; rw [if_neg (by omega)], Or.inr hi⟩
          · rw [upd_ne hjk, updN_ne hjk, g2 j (by omega)]
            exact ht j (by omega)
        obtain ⟨t2, c2, f2, e2, k2, k3⟩ := ih (k + 1) (rm free i) al D (updN t k i) _ (upd x.1 k (wd i)) x.2.1 x.2.2 (by omega) (by omega) (by have := rm_le free i; omega) (fun j hj => by rw [rm_bit hfr] at hj; simp only [Bool.and_eq_true] at hj; exact hfc j hj.1) hal ht' g1
        rw [fnl_si (by omega)] at e2
        refine ⟨(t2, c2, f2), by rw [bind_e e2], ?_, ?_⟩
        · rw [fo_s, if_pos hb]; exact k2
        · intro j hj
          show t2 j = _
          rw [k3 j (by omega), upd_ne (by omega)]; exact g2 j hj
    · intro m x hI
      obtain ⟨g1, g2⟩ := hI
      have hsk : fo (fun i r => if free.testBit i then CVs h (fdn at_ hr) d (k + 1) (rm free i) al (updN t k i) r else r) 8 s = fo (fun i r => if free.testBit i then CVs h (fdn at_ hr) d (k + 1) (rm free i) al (updN t k i) r else r) c s := by
        have := fo_skip (f := fun i r => if free.testBit i then CVs h (fdn at_ hr) d (k + 1) (rm free i) al (updN t k i) r else r) (s := s) (c := c) (8 - c) (fun i r h1 h2 => if_neg (fun hb => by have := hfc i hb; omega))
        rwa [show c + (8 - c) = 8 by omega] at this
      have hCV : CVs h (fdn at_ hr) (d + 1) k free al t s = if 0 < al then CVs h (fdn at_ hr) d (k + 1) free (al - 1) (updN t k 8) (fo (fun i r => if free.testBit i then CVs h (fdn at_ hr) d (k + 1) (rm free i) al (updN t k i) r else r) c s) else fo (fun i r => if free.testBit i then CVs h (fdn at_ hr) d (k + 1) (rm free i) al (updN t k i) r else r) c s := by
        rw [← hsk]; rfl
      rw [hCV]
      show ∃ r, f_X5_search_B_l50 fu (f_X5_search fu D) hero (wd h) lik (wd c) (wd k) (wd free) (wd al) (wd (fnl (fdn at_ hr) t k)) (m + 1) x.1 x.2.1 x.2.2 (wd (hr k)) (wd c) = some r ∧ _
      rw [f_X5_search_B_l50, f_X5_search_B_b50, if_pos (by rw [wd_le (by omega) (by omega)]; omega)]
      rw [show (1 : Int32) = wd 1 from rfl, show (0 : Int32) = wd 0 from rfl, show -wd 1 = nn from rfl]
      by_cases ha : 0 < al
      · rw [if_neg (by rw [wd_le (by omega) (by omega)]; omega), if_pos ha, bind_e (wrI_wd (by omega) (by omega)), wd_add, wd_sub (by omega)]
        have ht' : ∀ j, j < k + 1 → upd x.1 k nn j = ow (updN t k 8 j) ∧ (updN t k 8 j = 8 ∨ updN t k 8 j < c) := by
          intro j hj
          by_cases hjk : j = k
          · subst hjk
            rw [upd_eq, updN_eq]
            exact ⟨by unfold ow; rw [if_pos rfl], Or.inl rfl⟩
          · rw [upd_ne hjk, updN_ne hjk, g2 j (by omega)]
            exact ht j (by omega)
        obtain ⟨t2, c2, f2, e2, k2, k3⟩ := ih (k + 1) free (al - 1) D (updN t k 8) _ (upd x.1 k nn) x.2.1 x.2.2 (by omega) (by omega) hfr hfc (by omega) ht' g1
        rw [fnl_s8] at e2
        refine ⟨(t2, c2, f2), by rw [bind_e e2], k2, ?_⟩
        intro j hj
        show t2 j = _
        rw [k3 j (by omega), upd_ne (by omega)]; exact g2 j hj
      · rw [if_pos (by rw [wd_le (by omega) (by omega)]; omega), if_neg ha]
        exact ⟨_, rfl, g1, g2⟩
end
