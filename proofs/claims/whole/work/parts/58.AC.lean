theorem loop_k {σ ρ : Type} (L : Nat → Nat → σ → ρ) (I : Nat → σ → Prop) (c : Nat) (E : σ → ρ) (hs : ∀ n i s, i < c → I i s → ∃ s', L (n + 1) i s = L n (i + 1) s' ∧ I (i + 1) s') (he : ∀ n s, I c s → L (n + 1) c s = E s) : ∀ i n s, i ≤ c → c - i < n → I i s → ∃ s', L n i s = E s' ∧ I c s' := by
  have key : ∀ d i n s, i + d = c → d < n → I i s → ∃ s', L n i s = E s' ∧ I c s' := by
    intro d
    induction d with
    | zero =>
      intro i n s h1 h2 h3
      obtain ⟨m, rfl⟩ : ∃ m, n = m + 1 := ⟨n - 1, by omega⟩
      have : i = c := by omega
      subst this
      exact ⟨s, he m s h3, h3⟩
    | succ d ih =>
      intro i n s h1 h2 h3
      obtain ⟨m, rfl⟩ : ∃ m, n = m + 1 := ⟨n - 1, by omega⟩
      obtain ⟨s', e, h4⟩ := hs m i s (by omega) h3
      rw [e]
      exact ih (i + 1) m s' (by omega) (by omega) h4
  intro i n s h1 h2 h3
  exact key (c - i) i n s (by omega) (by omega) h3
def AG2 (at_ at' : Nat → Int32) : Prop := ∀ i, i < 2928 ∨ 3048 ≤ i → at' i = at_ i
def PT (c a b : Nat) (sz at_ : Nat → Int32) : Nat → Nat → Nat → Int32
  | 0, _ => at_
  | k + 1, p => if p % 2 = 0 ∧ ¬ brv (PT c a b sz at_ k (p / 2)) (if k % 2 = 0 then a else b) < sz k then pn (PT c a b sz at_ k (p / 2)) c (sz k) else PT c a b sz at_ k (p / 2)
theorem PT_s (c a b : Nat) (sz at_ : Nat → Int32) (k p : Nat) : PT c a b sz at_ (k + 1) p = if p % 2 = 0 ∧ ¬ brv (PT c a b sz at_ k (p / 2)) (if k % 2 = 0 then a else b) < sz k then pn (PT c a b sz at_ k (p / 2)) c (sz k) else PT c a b sz at_ k (p / 2) := rfl
theorem PT_WF {c a b : Nat} {sz at_ : Nat → Int32} (h : WF at_ c) : ∀ k p, WF (PT c a b sz at_ k p) c := by
  intro k
  induction k with
  | zero => intro p; exact h
  | succ k ih =>
    intro p
    rw [PT_s]
    by_cases hh : p % 2 = 0 ∧ ¬ brv (PT c a b sz at_ k (p / 2)) (if k % 2 = 0 then a else b) < sz k
    · rw [if_pos hh]; exact WF_pn (ih _)
    · rw [if_neg hh]; exact ih _
def UV (c a b n : Nat) (sz at_ : Nat → Int32) (k p : Nat) : Int32 := gvl c a b sz (n - k) k (PT c a b sz at_ k p)
theorem cmb_same (k : Nat) (r : Int32) : cmb k r r = r := by
  unfold cmb
  split <;> split <;> rfl
theorem UV_s {c a b n k p : Nat} {sz at_ : Nat → Int32} (hk : k < n) : UV c a b n sz at_ k p = cmb k (UV c a b n sz at_ (k + 1) (2 * p + 1)) (UV c a b n sz at_ (k + 1) (2 * p)) := by
  unfold UV
  obtain ⟨d, hd⟩ : ∃ d, n - k = d + 1 := ⟨n - k - 1, by omega⟩
  have e1 : PT c a b sz at_ (k + 1) (2 * p + 1) = PT c a b sz at_ k p := by
    rw [PT_s, if_neg (fun h => absurd h.1 (by omega)), show (2 * p + 1) / 2 = p from by omega]
  have e2 := PT_s c a b sz at_ k (2 * p)
  rw [show 2 * p / 2 = p from by omega] at e2
  rw [hd, show n - (k + 1) = d from by omega, gvl_s, e1, e2]
  by_cases h : brv (PT c a b sz at_ k p) (if k % 2 = 0 then a else b) < sz k
  · rw [if_pos h, if_neg (fun h2 => h2.2 h), cmb_same]
  · rw [if_neg h, if_pos ⟨by omega, h⟩]
theorem cmb_e {k : Nat} {r s : Int32} (h : k % 2 = 0) : cmb k r s = if s < r then r else s := by
  unfold cmb
  rw [if_pos h]
  by_cases h1 : s < r
  · rw [if_pos h1, if_neg (fun h2 => Int32.lt_irrefl (Int32.lt_trans h1 h2))]
  · rw [if_neg h1]
    by_cases h2 : r < s
    · rw [if_pos h2]
    · rw [if_neg h2]; exact Int32.le_antisymm (Int32.not_lt.1 h1) (Int32.not_lt.1 h2)
theorem cmb_o {k : Nat} {r s : Int32} (h : ¬ k % 2 = 0) : cmb k r s = if r < s then r else s := by
  unfold cmb
  rw [if_neg h]
  by_cases h1 : s < r
  · rw [if_pos h1, if_neg (fun h2 => Int32.lt_irrefl (Int32.lt_trans h1 h2))]
  · rw [if_neg h1]
    by_cases h2 : r < s
    · rw [if_pos h2]
    · rw [if_neg h2]; exact Int32.le_antisymm (Int32.not_lt.1 h1) (Int32.not_lt.1 h2)
section
variable {fu c a b n t : Nat} {at_ : Nat → Int32} {tr : Nat → Int64}
def sza (t : Nat) (tr : Nat → Int64) (k : Nat) : Int32 := Int64.toInt32 (tr (60 * t + k))
theorem r_sizeAt {k : Nat} (ht : t < 4) (hk : k < 60) : f_X12_sizeAt fu tr (wd t) (wd k) = some (sza t tr k) := by
  simp (disch := omega) only [f_X12_sizeAt, wd_lit, wd_of, wd_add, wd_mul, wd_neg, Option.bind_some, bnd, rdI_wd, wrI_wd, rdJ_wd, wrJ_wd, wd_31, sza]
theorem pw_dv (r n i : Nat) (h : i < n) : r / 2 ^ (n - (i + 1)) / 2 = r / 2 ^ (n - i) := by
  rw [Nat.div_div_eq_div_mul, ← Nat.pow_succ]
  congr 2
  omega
theorem r_played {at1 : Nat → Int32} {row : Nat} (hW : WF at_ c) (ha : a < c) (hb : b < c) (ht : t < 4) (hn : n ≤ 4) (hrow : row < 2147483648) (hag : AG2 at_ at1) (hf : 1000 ≤ fu) : ∃ at2, f_X12_playedBy fu at1 tr (wd a) (wd b) (wd t) (wd n) (wd row) = some (UV c a b n (sza t tr) at_ n row, at2) ∧ AG2 at_ at2 := by
  have h8 := hW.1
  unfold f_X12_playedBy
  rw [show (2928 : Int32) = wd 2928 from wd_lit 2928, bind_e (r_keeps (by omega) (by omega) hf)]
  have key := loop_inv (fun m i (s : Nat → Int32) => f_X12_playedBy_l10 fu tr (wd a) (wd b) (wd t) (wd n) (wd row) m s (wd i)) (fun i s => ME (PT c a b (sza t tr) at_ i (row / 2 ^ (n - i))) s ∧ (∀ j, j < 120 → s (2928 + j) = at_ j) ∧ ∀ j, 120 ≤ j → j < 2928 ∨ 3048 ≤ j → s j = at_ j) (fun r => ∃ at2, r = (UV c a b n (sza t tr) at_ n row, at2) ∧ AG2 at_ at2) n ?_ ?_ 0 fu (va_cpy at1 at1 0 2928 120) (by omega) (by omega) ⟨?_, ?_, ?_⟩
  · obtain ⟨r, e, at2, rfl, h⟩ := key
    exact ⟨at2, e, h⟩
  · intro m i s hi hI
    obtain ⟨hM, h1, h2⟩ := hI
    have hWp := PT_WF (a := a) (b := b) (sz := sza t tr) hW i (row / 2 ^ (n - i))
    have hs0 : s 0 = wd c := hM.1.trans hWp.2.1
    have ni : ¬ n ≤ i := by omega
    have hwho : (if i % 2 = 0 then a else b) < 8 := by split <;> omega
    have hst : f_X12_playedBy_l10 fu tr (wd a) (wd b) (wd t) (wd n) (wd row) (m + 1) s (wd i) = f_X12_playedBy_j29 fu tr (wd a) (wd b) (wd t) (wd n) (wd row) (f_X12_playedBy_l10 fu tr (wd a) (wd b) (wd t) (wd n) (wd row) m) s (wd i) (wd (if i % 2 = 0 then a else b)) := by
      rw [f_X12_playedBy_l10, f_X12_playedBy_b10, if_neg (by rw [wd_le (by omega) (by omega)]; exact ni), show (2 : Int32) = wd 2 from rfl, md2 i (by omega)]
      by_cases hk2 : i % 2 = 0
      · rw [if_pos (show wd (i % 2) = 0 by rw [hk2]; rfl), if_pos hk2]
      · have hk1 : i % 2 = 1 := by omega
        rw [if_neg (show ¬ wd (i % 2) = 0 by rw [hk1]; decide), if_neg hk2]
    have hPT := PT_s c a b (sza t tr) at_ i (row / 2 ^ (n - (i + 1)))
    rw [pw_dv row n i hi] at hPT
    generalize hwe : (if i % 2 = 0 then a else b) = who at hst hwho hPT
    have hbe := ME_nbrv hM hwho
    by_cases hb1 : brv (PT c a b (sza t tr) at_ i (row / 2 ^ (n - i))) who < sza t tr i
    · refine ⟨s, ?_, ?_, h1, h2⟩
      · rw [hst]
        unfold f_X12_playedBy_j29
        rw [bind_e (r_sizeAt ht (by omega)), bind_e (r_stands hwho), hbe, if_pos (show i01 (!decide (brv (PT c a b (sza t tr) at_ i (row / 2 ^ (n - i))) who < sza t tr i)) = 0 by simp [hb1]; rfl)]
        simp only [bnd, wd_lit, wd_add]
      · rw [if_neg (fun h => h.2 hb1)] at hPT
        rw [hPT]; exact hM
    · have hni : ¬ i01 (!decide (brv (PT c a b (sza t tr) at_ i (row / 2 ^ (n - i))) who < sza t tr i)) = 0 := by simp [hb1]; decide
      have e2 : f_X12_isIn fu (wd row) ((wd n - 1) - wd i) = some (i01 (row.testBit (n - 1 - i))) := by
        rw [show (1 : Int32) = wd 1 from rfl, wd_sub (by omega), wd_sub (by omega), r_isIn (by omega) hrow]
      have hbit : row.testBit (n - 1 - i) = decide (row / 2 ^ (n - (i + 1)) % 2 = 1) := by
        rw [Nat.testBit_eq_decide_div_mod_eq, show n - 1 - i = n - (i + 1) from by omega]
      by_cases hp : row / 2 ^ (n - (i + 1)) % 2 = 0
      · rw [if_pos ⟨hp, hb1⟩] at hPT
        refine ⟨(pinsA s c who (sza t tr i)).2, ?_, ?_, ?_, ?_⟩
        · rw [hst]
          unfold f_X12_playedBy_j29
          rw [bind_e (r_sizeAt ht (by omega)), bind_e (r_stands hwho), hbe, if_neg hni, bind_e e2, hbit, if_pos (by simp [hp]; rfl), bind_e (r_sizeAt ht (by omega)), bind_e (r_pins hwho hs0 h8 hf)]
          simp only [bnd, wd_lit, wd_add]
        · rw [hPT]; exact ME_pins hM h8 hwho hb1
        · intro j hj
          have := FR_pins (a := s) (c := c) (m := who) (s := sza t tr i) h8 hwho
          rw [this.2.2 _ (by omega)]; exact h1 j hj
        · intro j hj hj2
          have := FR_pins (a := s) (c := c) (m := who) (s := sza t tr i) h8 hwho
          rw [this.2.2 _ (by omega)]; exact h2 j hj hj2
      · have hp1 : row / 2 ^ (n - (i + 1)) % 2 = 1 := by omega
        rw [if_neg (fun h => hp h.1)] at hPT
        refine ⟨s, ?_, by rw [hPT]; exact hM, h1, h2⟩
        rw [hst]
        unfold f_X12_playedBy_j29
        rw [bind_e (r_sizeAt ht (by omega)), bind_e (r_stands hwho), hbe, if_neg hni, bind_e e2, hbit, if_neg (by simp [hp1]; decide)]
        simp only [bnd, wd_lit, wd_add]
  · intro m s hI
    obtain ⟨hM, h1, h2⟩ := hI
    refine ⟨_, ?_, va_cpy s s 2928 0 120, rfl, ?_⟩
    · rw [f_X12_playedBy_l10, f_X12_playedBy_b10, if_pos (by rw [wd_le (by omega) (by omega)]; omega), show (2 : Int32) = wd 2 from rfl, bind_e (r_manOf (by omega) (by omega)), bind_e (r_manOf (by omega) (by omega))]
      simp only [bnd]
      rw [show (2928 : Int32) = wd 2928 from wd_lit 2928, bind_e (r_restores (by omega) (by omega) hf), hM.2.2 a 2 (by omega) (by omega) (by omega) (by omega), hM.2.2 b 2 (by omega) (by omega) (by omega) (by omega)]
      unfold UV
      rw [Nat.sub_self, Nat.pow_zero, Nat.div_one]
      rfl
    · intro j hj
      by_cases hj1 : j < 120
      · show va_cpy s s 2928 0 120 j = _
        unfold va_cpy
        rw [if_pos (by omega), show 2928 + (j - 0) = 2928 + j from by omega]; exact h1 j hj1
      · show va_cpy s s 2928 0 120 j = _
        unfold va_cpy
        rw [if_neg (by omega)]; exact h2 j (by omega) hj
  · refine ⟨?_, ?_, fun m j hm hj h3 h4 => ?_⟩
    · show va_cpy at1 at1 0 2928 120 0 = at_ 0
      unfold va_cpy; rw [if_neg (by omega)]; exact hag 0 (by omega)
    · show va_cpy at1 at1 0 2928 120 1 = at_ 1
      unfold va_cpy; rw [if_neg (by omega)]; exact hag 1 (by omega)
    · show va_cpy at1 at1 0 2928 120 (8 + 14 * m + j) = at_ (8 + 14 * m + j)
      unfold va_cpy; rw [if_neg (by omega)]; exact hag _ (by omega)
  · intro j hj
    unfold va_cpy
    rw [if_pos (by omega), show 0 + (2928 + j - 2928) = j from by omega]; exact hag j (by omega)
  · intro j hj hj2
    unfold va_cpy
    rw [if_neg (by omega)]; exact hag j hj2
end
