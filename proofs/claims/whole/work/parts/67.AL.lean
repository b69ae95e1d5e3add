/-! pairs: all ways, and the ways with as many couples as can be -/
def fo {σ : Type} (f : Nat → σ → σ) : Nat → σ → σ
  | 0, s => s
  | n + 1, s => f n (fo f n s)
theorem fo_s {σ : Type} (f : Nat → σ → σ) (n : Nat) (s : σ) : fo f (n + 1) s = f n (fo f n s) := rfl
def updN (f : Nat → Nat) (k x : Nat) : Nat → Nat := fun j => if j = k then x else f j
theorem updN_eq {f : Nat → Nat} {k x : Nat} : updN f k x k = x := if_pos rfl
theorem updN_ne {f : Nat → Nat} {k j x : Nat} (h : j ≠ k) : updN f k x j = f j := if_neg h
def rm (free i : Nat) : Nat := sdf free (1 <<< i)
theorem rm_bit {free i : Nat} (h : free < 256) (j : Nat) : (rm free i).testBit j = (free.testBit j && !decide (i = j)) := by
  unfold rm
  rw [sdf_bit (by omega), Nat.one_shiftLeft, Nat.testBit_two_pow]
theorem rm_le (free i : Nat) : rm free i ≤ free := sdf_le _ _
theorem pc_rm {free i : Nat} (h : free < 256) (hi : free.testBit i = true) : ∀ n, pc n (rm free i) + (if i < n then 1 else 0) = pc n free := by
  intro n
  induction n with
  | zero => rfl
  | succ n ih =>
    show pc n (rm free i) + (if (rm free i).testBit n then 1 else 0) + (if i < n + 1 then 1 else 0) = pc n free + (if free.testBit n then 1 else 0)
    rw [rm_bit h]
    by_cases hin : i = n
    · subst hin
      have : ¬ i < i := by omega
      simp only [this, if_false] at ih
      simp [hi]
      omega
    · simp only [hin, decide_false, Bool.not_false, Bool.and_true]
      by_cases h1 : i < n
      · have h2 : i < n + 1 := by omega
        simp only [h1, h2, if_true] at ih ⊢
        omega
      · have h2 : ¬ i < n + 1 := by omega
        simp only [h1, h2, if_false] at ih ⊢
        omega
theorem pc_0 {free : Nat} : ∀ n, pc n free = 0 → ∀ i, i < n → free.testBit i = false := by
  intro n
  induction n with
  | zero => intro _ i hi; omega
  | succ n ih =>
    intro h i hi
    have h' : pc n free + (if free.testBit n then 1 else 0) = 0 := h
    cases h1 : free.testBit n
    · by_cases hin : i = n
      · subst hin; exact h1
      · exact ih (by omega) i (by omega)
    · rw [h1] at h'; simp at h'
section
variable (h : Nat) (fd : Nat → Nat → Nat)
/-- how many have one, and how fond -/
def cpl (t : Nat → Nat) : Nat → Nat
  | 0 => 0
  | k + 1 => cpl t k + (if t k = 8 then 0 else 1)
def fnl (t : Nat → Nat) : Nat → Nat
  | 0 => 0
  | k + 1 => fnl t k + (if t k = 8 then 0 else fd k (t k))
def wgh (t : Nat → Nat) : Option (Nat × Nat × (Nat → Nat)) → Option (Nat × Nat × (Nat → Nat))
  | none => some (cpl t h, fnl fd t h, t)
  | some r => if cpl t h < r.1 ∨ (cpl t h = r.1 ∧ fnl fd t h ≤ r.2.1) then some r else some (cpl t h, fnl fd t h, t)
def cwg (t : Nat → Nat) : Option (Nat × (Nat → Nat)) → Option (Nat × (Nat → Nat))
  | none => some (fnl fd t h, t)
  | some r => if fnl fd t h ≤ r.1 then some r else some (fnl fd t h, t)
def RVs : Nat → Nat → Nat → (Nat → Nat) → Option (Nat × Nat × (Nat → Nat)) → Option (Nat × Nat × (Nat → Nat))
  | 0, _, _, t, r => wgh h fd t r
  | d + 1, k, free, t, r => RVs d (k + 1) free (updN t k 8) (fo (fun i r => if free.testBit i then RVs d (k + 1) (rm free i) (updN t k i) r else r) 8 r)
def CVs : Nat → Nat → Nat → Nat → (Nat → Nat) → Option (Nat × (Nat → Nat)) → Option (Nat × (Nat → Nat))
  | 0, _, _, _, t, r => cwg h fd t r
  | d + 1, k, free, al, t, r => if 0 < al then CVs d (k + 1) free (al - 1) (updN t k 8) (fo (fun i r => if free.testBit i then CVs d (k + 1) (rm free i) al (updN t k i) r else r) 8 r) else fo (fun i r => if free.testBit i then CVs d (k + 1) (rm free i) al (updN t k i) r else r) 8 r
end
section
variable {h : Nat} {fd : Nat → Nat → Nat} {cow : Nat}
theorem cpl_le (t : Nat → Nat) : ∀ k, cpl t k ≤ k := by
  intro k
  induction k with
  | zero => exact Nat.le_refl 0
  | succ k ih =>
    show cpl t k + (if t k = 8 then 0 else 1) ≤ k + 1
    split <;> omega
theorem cpl_upd {t : Nat → Nat} {x : Nat} : ∀ k j, k ≤ j → cpl (updN t j x) k = cpl t k := by
  intro k
  induction k with
  | zero => intro j _; rfl
  | succ k ih =>
    intro j hj
    show cpl (updN t j x) k + (if updN t j x k = 8 then 0 else 1) = cpl t k + (if t k = 8 then 0 else 1)
    rw [ih j (by omega), updN_ne (by omega)]
theorem cpl_s8 {t : Nat → Nat} {k : Nat} : cpl (updN t k 8) (k + 1) = cpl t k := by
  show cpl (updN t k 8) k + (if updN t k 8 k = 8 then 0 else 1) = cpl t k
  rw [cpl_upd k k (Nat.le_refl k), updN_eq, if_pos rfl, Nat.add_zero]
theorem cpl_si {t : Nat → Nat} {k i : Nat} (hi : i < 8) : cpl (updN t k i) (k + 1) = cpl t k + 1 := by
  show cpl (updN t k i) k + (if updN t k i k = 8 then 0 else 1) = cpl t k + 1
  rw [cpl_upd k k (Nat.le_refl k), updN_eq, if_neg (by omega)]
/-- as many couples as can be -/
def mxc (h cow : Nat) : Nat := if h ≤ pc 8 cow then h else pc 8 cow
def Rl (h cow : Nat) (r : Option (Nat × Nat × (Nat → Nat))) (s : Option (Nat × (Nat → Nat))) : Prop := (s = none ∧ ∀ x, r = some x → x.1 < mxc h cow) ∨ ∃ f b b', s = some (f, b) ∧ r = some (mxc h cow, f, b') ∧ ∀ k, k < h → b' k = b k
theorem fo_rel {σ τ : Type} {R : σ → τ → Prop} {f : Nat → σ → σ} {g : Nat → τ → τ} : ∀ n, (∀ i r s, i < n → R r s → R (f i r) (g i s)) → ∀ r s, R r s → R (fo f n r) (fo g n s) := by
  intro n
  induction n with
  | zero => intro _ r s hr; exact hr
  | succ n ih =>
    intro hs r s hr
    exact hs n _ _ (by omega) (ih (fun i r s hi hr => hs i r s (by omega) hr) r s hr)
theorem fo_inv {σ : Type} {R : σ → Prop} {f : Nat → σ → σ} : ∀ n, (∀ i r, i < n → R r → R (f i r)) → ∀ r, R r → R (fo f n r) := by
  intro n
  induction n with
  | zero => intro _ r hr; exact hr
  | succ n ih =>
    intro hs r hr
    exact hs n _ (by omega) (ih (fun i r hi hr => hs i r (by omega) hr) r hr)
/-- too many are alone already: these ways count for nothing -/
theorem P_low : ∀ d k free t r s, k + d = h → free < 256 → cpl t k + d < mxc h cow → Rl h cow r s → Rl h cow (RVs h fd d k free t r) s := by
  intro d
  induction d with
  | zero =>
    intro k free t r s hk hfr hlt hr
    have : k = h := by omega
    subst this
    show Rl k cow (wgh k fd t r) s
    rcases hr with ⟨h1, h2⟩ | ⟨f, b, b', h1, h2, h3⟩
    · refine Or.inl ⟨h1, fun x hx => ?_⟩
      cases r with
      | none => injection hx with hx; subst hx; show cpl t k < _; omega
      | some y =>
        have hy := h2 y rfl
        have hx : (if cpl t k < y.1 ∨ (cpl t k = y.1 ∧ fnl fd t k ≤ y.2.1) then some y else some (cpl t k, fnl fd t k, t)) = some x := hx
        split at hx
        · injection hx with hx; subst hx; exact hy
        · injection hx with hx; subst hx; show cpl t k < _; omega
    · subst h2
      refine Or.inr ⟨f, b, b', h1, ?_, h3⟩
      exact if_pos (Or.inl (by show cpl t k < mxc k cow; omega))
  | succ d ih =>
    intro k free t r s hk hfr hlt hr
    show Rl h cow (RVs h fd d (k + 1) free (updN t k 8) _) s
    refine ih (k + 1) free (updN t k 8) _ s (by omega) hfr (by rw [cpl_s8]; omega) ?_
    refine fo_inv (R := fun r => Rl h cow r s) 8 (fun i r hi hr => ?_) r hr
    show Rl h cow (if free.testBit i then RVs h fd d (k + 1) (rm free i) (updN t k i) r else r) s
    split
    · exact ih (k + 1) (rm free i) (updN t k i) r s (by omega) (by have := rm_le free i; omega) (by rw [cpl_si hi]; omega) hr
    · exact hr
theorem C_keep : ∀ d k free al t s, s ≠ none → CVs h fd d k free al t s ≠ none := by
  intro d
  induction d with
  | zero =>
    intro k free al t s hs
    cases s with
    | none => exact absurd rfl hs
    | some x =>
      show (if fnl fd t h ≤ x.1 then some x else some (fnl fd t h, t)) ≠ none
      split <;> exact fun hh => by cases hh
  | succ d ih =>
    intro k free al t s hs
    have h1 : fo (fun i r => if free.testBit i then CVs h fd d (k + 1) (rm free i) al (updN t k i) r else r) 8 s ≠ none := fo_inv (R := fun r => r ≠ none) 8 (fun i r _ hr => by
      show (if free.testBit i then CVs h fd d (k + 1) (rm free i) al (updN t k i) r else r) ≠ none
      split
      · exact ih _ _ _ _ _ hr
      · exact hr) s hs
    show (if 0 < al then _ else _) ≠ none
    split
    · exact ih _ _ _ _ _ h1
    · exact h1
theorem fo_found {τ : Type} {g : Nat → Option τ → Option τ} (hk : ∀ i r, r ≠ none → g i r ≠ none) : ∀ n j, j < n → (∀ r, g j r ≠ none) → ∀ r, fo g n r ≠ none := by
  intro n
  induction n with
  | zero => intro j hj; omega
  | succ n ih =>
    intro j hj hg r
    rw [fo_s]
    by_cases hjn : j = n
    · subst hjn; exact hg _
    · exact hk n _ (ih j (by omega) hg r)
/-- as few are alone as can be: both go the same ways -/
theorem S_main : ∀ d k free al t r s, k + d = h → free < 256 → cpl t k + pc 8 free = pc 8 cow → cpl t k + d = mxc h cow + al → Rl h cow r s → Rl h cow (RVs h fd d k free t r) (CVs h fd d k free al t s) ∧ CVs h fd d k free al t s ≠ none := by
  intro d
  induction d with
  | zero =>
    intro k free al t r s hk hfr hpc hal hr
    have : k = h := by omega
    subst this
    have hle := cpl_le t k
    have hC : cpl t k = mxc k cow := by
      unfold mxc at hal ⊢
      split <;> rename_i hh <;> simp only [hh, if_true, if_false] at hal <;> omega
    refine ⟨?_, ?_⟩
    · show Rl k cow (wgh k fd t r) (cwg k fd t s)
      rcases hr with ⟨h1, h2⟩ | ⟨f, b, b', h1, h2, h3⟩
      · subst h1
        refine Or.inr ⟨fnl fd t k, t, t, rfl, ?_, fun _ _ => rfl⟩
        cases r with
        | none => show some (cpl t k, fnl fd t k, t) = _; rw [hC]
        | some y =>
          have hy := h2 y rfl
          show (if cpl t k < y.1 ∨ (cpl t k = y.1 ∧ fnl fd t k ≤ y.2.1) then some y else some (cpl t k, fnl fd t k, t)) = _
          rw [if_neg (by omega), hC]
      · subst h1 h2
        by_cases hf : fnl fd t k ≤ f
        · refine Or.inr ⟨f, b, b', if_pos hf, ?_, h3⟩
          exact if_pos (Or.inr ⟨hC, hf⟩)
        · refine Or.inr ⟨fnl fd t k, t, t, if_neg hf, ?_, fun _ _ => rfl⟩
          show (if cpl t k < mxc k cow ∨ (cpl t k = mxc k cow ∧ fnl fd t k ≤ f) then _ else some (cpl t k, fnl fd t k, t)) = _
          rw [if_neg (by omega), hC]
    · show cwg k fd t s ≠ none
      cases s with
      | none => exact fun hh => by cases hh
      | some x =>
        show (if fnl fd t k ≤ x.1 then some x else some (fnl fd t k, t)) ≠ none
        split <;> exact fun hh => by cases hh
  | succ d ih =>
    intro k free al t r s hk hfr hpc hal hr
    have hi1 : ∀ i r s, i < 8 → free.testBit i = true → Rl h cow r s → Rl h cow (RVs h fd d (k + 1) (rm free i) (updN t k i) r) (CVs h fd d (k + 1) (rm free i) al (updN t k i) s) ∧ CVs h fd d (k + 1) (rm free i) al (updN t k i) s ≠ none := by
      intro i r s hi hb hr
      have hp := pc_rm hfr hb 8
      rw [if_pos hi] at hp
      exact ih (k + 1) (rm free i) al (updN t k i) r s (by omega) (by have := rm_le free i; omega) (by rw [cpl_si hi]; omega) (by rw [cpl_si hi]; omega) hr
    have hfo : Rl h cow (fo (fun i r => if free.testBit i then RVs h fd d (k + 1) (rm free i) (updN t k i) r else r) 8 r) (fo (fun i r => if free.testBit i then CVs h fd d (k + 1) (rm free i) al (updN t k i) r else r) 8 s) := by
      refine fo_rel (R := Rl h cow) 8 (fun i r s hi hr => ?_) r s hr
      cases hb : free.testBit i
      · exact hr
      · exact (hi1 i r s hi hb hr).1
    show Rl h cow (RVs h fd d (k + 1) free (updN t k 8) _) (if 0 < al then CVs h fd d (k + 1) free (al - 1) (updN t k 8) _ else _) ∧ (if 0 < al then CVs h fd d (k + 1) free (al - 1) (updN t k 8) _ else _) ≠ none
    by_cases ha : 0 < al
    · rw [if_pos ha]
      exact ih (k + 1) free (al - 1) (updN t k 8) _ _ (by omega) hfr (by rw [cpl_s8]; omega) (by rw [cpl_s8]; omega) hfo
    · rw [if_neg ha]
      refine ⟨P_low d (k + 1) free (updN t k 8) _ _ (by omega) hfr (by rw [cpl_s8]; omega) hfo, ?_⟩
      have hne : ∃ i, i < 8 ∧ free.testBit i = true := by
        apply Classical.byContradiction
        intro hno
        have h0 : pc 8 free = 0 := by
          have : ∀ n, n ≤ 8 → pc n free = 0 := by
            intro n
            induction n with
            | zero => intro _; rfl
            | succ n ihn =>
              intro hn
              show pc n free + (if free.testBit n then 1 else 0) = 0
              rw [ihn (by omega), if_neg (fun hb => hno ⟨n, by omega, hb⟩)]
          exact this 8 (Nat.le_refl 8)
        have hle := cpl_le t k
        unfold mxc at hal
        split at hal <;> omega
      obtain ⟨i, hi, hb⟩ := hne
      refine fo_found (fun j r hr => ?_) 8 i hi (fun r => ?_) s
      · show (if free.testBit j then CVs h fd d (k + 1) (rm free j) al (updN t k j) r else r) ≠ none
        split
        · exact C_keep _ _ _ _ _ _ hr
        · exact hr
      · show (if free.testBit i then CVs h fd d (k + 1) (rm free i) al (updN t k i) r else r) ≠ none
        rw [if_pos hb]
        cases r with
        | none => exact (hi1 i none none hi hb (Or.inl ⟨rfl, fun x hx => by cases hx⟩)).2
        | some x => exact C_keep _ _ _ _ _ _ (fun hh => by cases hh)
end
