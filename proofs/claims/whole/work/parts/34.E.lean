theorem mn_upd {at_ : Nat → Int32} {m j m' j' : Nat} {x : Int32} (hj : j < 14) (hj' : j' < 14) : mn (upd at_ (8 + 14 * m + j) x) m' j' = if m' = m ∧ j' = j then x else mn at_ m' j' := by
  unfold mn upd
  by_cases h : m' = m ∧ j' = j
  · rw [if_pos h, if_pos (by omega)]
  · rw [if_neg h, if_neg (by omega)]
theorem mn_upd8 {at_ : Nat → Int32} {k m j : Nat} {x : Int32} (hk : k < 8) : mn (upd at_ k x) m j = mn at_ m j := by
  unfold mn upd
  rw [if_neg (by omega)]
theorem upd_ne {f : Nat → Int32} {k j : Nat} {x : Int32} (h : j ≠ k) : upd f k x j = f j := if_neg h
theorem upd_eq {f : Nat → Int32} {k : Nat} {x : Int32} : upd f k x k = x := if_pos rfl
/-! what holds of the men -/
def WF (at_ : Nat → Int32) (c : Nat) : Prop := c ≤ 8 ∧ at_ 0 = wd c ∧ (∃ p, p ≤ 9 ∧ at_ 1 = wd p) ∧ (∃ q, q ≤ 99 ∧ at_ 2 = wd q) ∧ ∀ m, m < c → (∃ k, k ≤ 20 ∧ mn at_ m 0 = wd k) ∧ (∃ k, k ≤ 9 ∧ mn at_ m 1 = wd k) ∧ (∃ k, k ≤ 99 ∧ mn at_ m 2 = wd k) ∧ (∀ o, o < c → ∃ k, k ≤ 9 ∧ mn at_ m (6 + o) = wd k)
theorem WF.nn {at_ : Nat → Int32} {c : Nat} (h : WF at_ c) : ∀ m o, m < c → o < c → nn < mn at_ m (6 + o) := by
  intro m o hm ho
  obtain ⟨k, hk, e⟩ := (h.2.2.2.2 m hm).2.2.2 o ho
  rw [e, wd_ltm (by omega)]
  exact True.intro
/-- what a board sees -/
def RV (at_ : Nat → Int32) (c : Nat) (cou wei med lik : Nat → Int32) : Prop := (∀ m, m < c → cou m = mn at_ m 0) ∧ (∀ m, m < c → wei m = mn at_ m 1) ∧ (∀ m, m < c → med m = mn at_ m 2) ∧ (∀ m o, m < c → o < c → lik (m * 8 + o) = mn at_ m (6 + o))
/-- all of an army but its names -/
def RA (at_ : Nat → Int32) (c : Nat) (cou wei med sto fle lik : Nat → Int32) (cnt liv pri quo mel los : Int32) : Prop := RV at_ c cou wei med lik ∧ cnt = wd c ∧ liv = wd (mask (alv at_) c) ∧ pri = at_ 1 ∧ quo = at_ 2 ∧ mel = at_ 3 ∧ los = at_ 4 ∧ (∀ m, m < c → sto m = mn at_ m 3) ∧ (∀ m, m < c → fle m = mn at_ m 4) ∧ (∀ m, c ≤ m → m < 8 → med m = wd 0 ∧ sto m = wd 0 ∧ fle m = wd 0)
/-- what is not of the men -/
def FR (at_ at' : Nat → Int32) : Prop := at' 0 = at_ 0 ∧ (∀ k, 5 ≤ k → k < 8 → at' k = at_ k) ∧ ∀ k, 120 ≤ k → at' k = at_ k
theorem FR.rf {at_ : Nat → Int32} : FR at_ at_ := ⟨rfl, fun _ _ _ => rfl, fun _ _ => rfl⟩
theorem FR.tr {a b d : Nat → Int32} (h1 : FR a b) (h2 : FR b d) : FR a d := ⟨h2.1.trans h1.1, fun k h h' => (h2.2.1 k h h').trans (h1.2.1 k h h'), fun k h => (h2.2.2 k h).trans (h1.2.2 k h)⟩
section
variable {fu c : Nat} {at_ cou wei med sto fle lik vot : Nat → Int32} {cnt liv pri quo mel los : Int32}
def pinA (at_ : Nat → Int32) (w : Nat) : Nat → Int32 := upd (upd at_ 4 (at_ 4 + (if mn at_ w 2 = wd 99 then wd 1 else wd 0))) (8 + 14 * w + 2) (bmin (mn at_ w 2 + wd 1))
def pinsA (at_ : Nat → Int32) (c m : Nat) (s : Int32) : Int32 × (Nat → Int32) := match win at_ c (cnd at_ c m s) with
  | none => (wd 8, upd (upd at_ (8 + 14 * m + 3) (mn at_ m 3 + wd 1)) 3 (at_ 3 + wd 1))
  | some w => (wd w, pinA (upd at_ (8 + 14 * m + 3) (mn at_ m 3 + wd 1)) w)
theorem r_pins {m : Nat} {s : Int32} (hm : m < 8) (hc : at_ 0 = wd c) (h8 : c ≤ 8) (hf : 1000 ≤ fu) : f_X12_pins fu at_ (wd m) s = some (pinsA at_ c m s) := by
  have hl := fun b => win_lt (at_ := at_) (c := c) (S := cnd at_ c m s) (b := b)
  unfold f_X12_pins pinsA
  rw [r_winner hm hc h8 hf]
  cases hx : win at_ c (cnd at_ c m s) with
  | none =>
    simp (disch := omega) only [wd_lit, wd_of, wd_add, wd_mul, wd_neg, Option.bind_some, bnd, rdI_wd, wrI_wd, rdJ_wd, wrJ_wd, wd_31, wd_le, wd_lt, wd_inj, wd_eqm, wd_eqm', wd_ltm, wd_lem, wd_ltm2, wd_lem2, wd_bit0', wd_bit1', wd_shl, wd_or, wd_dif, r_manRow, oe_n, upd_ne, if_true]
    rfl
  | some w =>
    have := hl w hx
    simp (disch := omega) only [wd_lit, wd_of, wd_add, wd_mul, wd_neg, Option.bind_some, bnd, rdI_wd, wrI_wd, rdJ_wd, wrJ_wd, wd_31, wd_le, wd_lt, wd_inj, wd_eqm, wd_eqm', wd_ltm, wd_lem, wd_ltm2, wd_lem2, wd_bit0', wd_bit1', wd_shl, wd_or, wd_dif, r_manRow, oe_s, upd_ne, if_false, f_X12_pins_j72]
    unfold pinA
    have e3 : mn (upd at_ (8 + 14 * m + 3) (mn at_ m 3 + wd 1)) w 2 = mn at_ w 2 := upd_ne (by omega)
    rw [e3, upd_ne (show 4 ≠ 8 + 14 * m + 3 by omega)]
    show (if mn at_ w 2 = wd 99 then _ else _) = _
    by_cases h9 : mn at_ w 2 = wd 99
    · rw [if_pos h9, if_pos h9]; rfl
    · rw [if_neg h9, if_neg h9]; rfl
def facesA (at_ : Nat → Int32) (c m : Nat) (s : Int32) : Int32 × (Nat → Int32) := if brv at_ m < s then (wd 9, upd at_ (8 + 14 * m + 4) (mn at_ m 4 + wd 1)) else pinsA at_ c m s
theorem r_faces {m : Nat} {s : Int32} (hm : m < 8) (hc : at_ 0 = wd c) (h8 : c ≤ 8) (hf : 1000 ≤ fu) : f_X12_faces fu at_ (wd m) s = some (facesA at_ c m s) := by
  unfold f_X12_faces facesA
  rw [r_stands hm, r_pins hm hc h8 hf]
  simp (disch := omega) only [wd_lit, wd_of, wd_add, wd_mul, wd_neg, Option.bind_some, bnd, rdI_wd, wrI_wd, rdJ_wd, wrJ_wd, wd_31, wd_le, wd_lt, wd_inj, wd_eqm, wd_eqm', wd_ltm, wd_lem, wd_ltm2, wd_lem2, wd_bit0', wd_bit1', wd_shl, wd_or, wd_dif, r_manRow, i01_0]
  by_cases h : brv at_ m < s
  · rw [if_pos (by simp [h]), if_pos h]; rfl
  · rw [if_neg (by simp [h]), if_neg h]
/-- one more medal, at most 99 -/
theorem bmin_le {k : Nat} (h : k ≤ 1000) : ∃ n, n ≤ 99 ∧ bmin (wd k) = wd n := by
  unfold bmin
  simp (disch := omega) only [wd_lt]
  by_cases h : k < 99
  · exact ⟨k, by omega, if_pos h⟩
  · exact ⟨99, by omega, if_neg h⟩
theorem bmin_s {k : Nat} (h : k < 99) : bmin (wd k + wd 1) = wd k + wd 1 := by
  unfold bmin
  simp (disch := omega) only [wd_lt, wd_add]
  by_cases h1 : k + 1 < 99
  · rw [if_pos h1]
  · rw [if_neg h1, show k + 1 = 99 by omega]
theorem cnd_runs {m : Nat} {s : Int32} (h : ¬ brv at_ m < s) : cnd at_ c m s = mask (rns at_ s) c := by
  apply mask_congr
  intro k hk
  by_cases h1 : k = m
  · subst h1; simp [rns, h]
  · simp [h1]
theorem FR_u3 {m j : Nat} {x : Int32} (hm : m < 8) (hj : j < 14) : FR at_ (upd at_ (8 + 14 * m + j) x) := ⟨upd_ne (by omega), fun k h h' => upd_ne (by omega), fun k h => upd_ne (by omega)⟩
theorem FR_u8 {k : Nat} {x : Int32} (hk : k < 5) (hk0 : k ≠ 0) : FR at_ (upd at_ k x) := ⟨upd_ne (by omega), fun k h h' => upd_ne (by omega), fun k h => upd_ne (by omega)⟩
theorem alv_upd {m j : Nat} {x : Int32} (hj : j < 14) (h5 : j ≠ 5) : alv (upd at_ (8 + 14 * m + j) x) = alv at_ := by
  funext k
  unfold alv
  rw [mn_upd hj (by omega), if_neg (by omega)]
theorem alv_upd8 {k : Nat} {x : Int32} (hk : k < 8) : alv (upd at_ k x) = alv at_ := by
  funext j
  unfold alv
  rw [mn_upd8 hk]
theorem WF_upd {m j : Nat} {x : Int32} (h : WF at_ c) (hm : m < 8) (hj : j < 14) (h0 : j = 0 → ∃ k, k ≤ 20 ∧ x = wd k) (h1 : j = 1 → ∃ k, k ≤ 9 ∧ x = wd k) (h2 : j = 2 → ∃ k, k ≤ 99 ∧ x = wd k) (h6 : 6 ≤ j → ∃ k, k ≤ 9 ∧ x = wd k) : WF (upd at_ (8 + 14 * m + j) x) c := by
  obtain ⟨a1, a2, a3, a4, a5⟩ := h
  refine ⟨a1, by rw [upd_ne (by omega)]; exact a2, by rw [upd_ne (by omega)]; exact a3, by rw [upd_ne (by omega)]; exact a4, ?_⟩
  intro k hk
  obtain ⟨b1, b2, b3, b4⟩ := a5 k hk
  refine ⟨?_, ?_, ?_, ?_⟩
  · rw [mn_upd hj (by omega)]; split
    · exact h0 (by omega)
    · exact b1
  · rw [mn_upd hj (by omega)]; split
    · exact h1 (by omega)
    · exact b2
  · rw [mn_upd hj (by omega)]; split
    · exact h2 (by omega)
    · exact b3
  · intro o ho
    rw [mn_upd hj (by omega)]; split
    · exact h6 (by omega)
    · exact b4 o ho
theorem WF_upd8 {k : Nat} {x : Int32} (h : WF at_ c) (hk : 3 ≤ k) (hk8 : k < 8) : WF (upd at_ k x) c := by
  obtain ⟨a1, a2, a3, a4, a5⟩ := h
  refine ⟨a1, by rw [upd_ne (by omega)]; exact a2, by rw [upd_ne (by omega)]; exact a3, by rw [upd_ne (by omega)]; exact a4, ?_⟩
  intro m hm
  simp only [mn_upd8 hk8]
  exact a5 m hm
end
