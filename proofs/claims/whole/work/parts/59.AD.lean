section
variable {fu c a b n t : Nat} {at_ : Nat → Int32} {tr : Nat → Int64}
def cnk (k : Nat) : Int32 := if k = 0 then nn else wd (k - 1)
theorem cnk_s {k : Nat} : wd k + nn = cnk k := by
  unfold cnk
  by_cases h : k = 0
  · subst h; rw [if_pos rfl]; exact wd_dec0
  · rw [if_neg h, wd_dec (by omega)]
theorem pw_4 : ∀ k, k ≤ 4 → 2 ^ k ≤ 16 := by decide
theorem r_play50 {at1 cam : Nat → Int32} {ds x1 x2 x3 x4 : Int32} {k : Nat} {K : (Nat → Int32) → (Nat → Int32) → Int32 → Int32 → Option (Int32 × (Nat → Int32) × (Nat → Int32) × Int32)} {U : Nat → Nat → Int32} (hk : k ≤ 3) (hU : ∀ p, U k p = cmb k (U (k + 1) (2 * p + 1)) (U (k + 1) (2 * p))) (hc : ∀ p, p < 2 ^ (k + 1) → cam p = U (k + 1) p) (hf : 1000 ≤ fu) : ∃ s' : (Nat → Int32) × Int32, f_X12_playing_l50 fu tr x1 x2 x3 x4 K fu at1 cam ds (wd k) (wd 0) = K at1 s'.1 s'.2 (cnk k) ∧ (∀ q, q < 2 ^ k → s'.1 q = U k q) ∧ (k = 0 → s'.2 = i01 (!decide (U 1 0 < U 1 1))) := by
  have hp := pw_4 (k + 1) (by omega)
  have hp1 : 2 ^ (k + 1) = 2 * 2 ^ k := by rw [Nat.pow_succ]; omega
  have hp0 : 0 < 2 ^ k := Nat.two_pow_pos k
  have key := loop_k (fun m i (s : (Nat → Int32) × Int32) => f_X12_playing_l50 fu tr x1 x2 x3 x4 K m at1 s.1 s.2 (wd k) (wd i)) (fun i s => (∀ q, q < i → s.1 q = U k q) ∧ (∀ q, 2 * i ≤ q → q < 2 ^ (k + 1) → s.1 q = U (k + 1) q) ∧ (k = 0 → 0 < i → s.2 = i01 (!decide (U 1 0 < U 1 1)))) (2 ^ k) (fun s => K at1 s.1 s.2 (cnk k)) ?_ ?_ 0 fu (cam, ds) (by omega) (by omega) ⟨fun q hq => absurd hq (by omega), fun q _ hq => hc q hq, fun _ h => absurd h (by omega)⟩
  · obtain ⟨s', e, h1, h2, h3⟩ := key
    exact ⟨s', e, h1, fun h => h3 h hp0⟩
  · intro m i s hi hI
    obtain ⟨h1, h2, h3⟩ := hI
    have r1 := h2 (2 * i) (by omega) (by omega)
    have r2 := h2 (2 * i + 1) (by omega) (by omega)
    have hne : ¬ 1 <<< k ≤ i := by rw [Nat.one_shiftLeft]; omega
    have hst : ∃ x, f_X12_playing_l50 fu tr x1 x2 x3 x4 K (m + 1) at1 s.1 s.2 (wd k) (wd i) = f_X12_playing_l50 fu tr x1 x2 x3 x4 K m at1 (upd s.1 i (U k i)) x (wd k) (wd (i + 1)) ∧ (k = 0 → x = i01 (!decide (U (k + 1) (2 * i) < U (k + 1) (2 * i + 1)))) := by
      rw [f_X12_playing_l50, f_X12_playing_b50]
      simp (disch := omega) only [wd_lit, wd_31, wd_shl, wd_le, hne, if_false, wd_mul, wd_add, rdI_wd, Option.bind_some, r1, r2, md2, wd_inj]
      rw [hU i]
      unfold f_X12_playing_j117
      by_cases hk2 : k % 2 = 0
      · rw [if_pos hk2, cmb_e hk2]
        by_cases hlt : U (k + 1) (2 * i) < U (k + 1) (2 * i + 1)
        · rw [if_pos hlt, if_pos hlt]
          refine ⟨wd 0, ?_, fun _ => by simp [hlt, i01]⟩
          simp (disch := omega) only [wd_lit, if_true, wrI_wd, Option.bind_some, bz_0, bnd, wd_add]
        · rw [if_neg hlt, if_neg hlt]
          refine ⟨wd 1, ?_, fun _ => by simp [hlt, i01]⟩
          simp (disch := omega) only [wd_lit, wd_inj, Nat.reduceEqDiff, if_false, wrI_wd, Option.bind_some, bz_1, bnd, wd_add]
      · rw [if_neg hk2, cmb_o hk2]
        by_cases hlt : U (k + 1) (2 * i + 1) < U (k + 1) (2 * i)
        · rw [if_pos hlt, if_pos hlt]
          refine ⟨wd 0, ?_, fun h => absurd h (by omega)⟩
          simp (disch := omega) only [wd_lit, if_true, wrI_wd, Option.bind_some, bz_0, bnd, wd_add]
        · rw [if_neg hlt, if_neg hlt]
          refine ⟨wd 1, ?_, fun h => absurd h (by omega)⟩
          simp (disch := omega) only [wd_lit, wd_inj, Nat.reduceEqDiff, if_false, wrI_wd, Option.bind_some, bz_1, bnd, wd_add]
    obtain ⟨x, e, hx⟩ := hst
    refine ⟨(upd s.1 i (U k i), x), e, ?_, ?_, ?_⟩
    · intro q hq
      show upd s.1 i (U k i) q = _
      by_cases hqi : q = i
      · subst hqi; exact upd_eq
      · rw [upd_ne hqi]; exact h1 q (by omega)
    · intro q hq hq2
      show upd s.1 i (U k i) q = _
      rw [upd_ne (by omega)]; exact h2 q (by omega) hq2
    · intro hk0 _
      have := hx hk0
      subst hk0
      have hi0 : i = 0 := by omega
      subst hi0
      exact this
  · intro m s hI
    show f_X12_playing_l50 fu tr x1 x2 x3 x4 K (m + 1) at1 s.1 s.2 (wd k) (wd (2 ^ k)) = _
    rw [f_X12_playing_l50, f_X12_playing_b50]
    have hle : 1 <<< k ≤ 2 ^ k := by rw [Nat.one_shiftLeft]; omega
    simp (disch := omega) only [wd_lit, wd_31, wd_shl (show k < 32 by omega), wd_neg, cnk_s, bnd]
    rw [if_pos (by rw [wd_le (by omega) (by omega)]; exact hle)]
theorem r_play42 {at1 : Nat → Int32} {x1 x2 x3 x4 : Int32} {U : Nat → Nat → Int32} (hn : n ≤ 4) (hU : ∀ k p, k < n → U k p = cmb k (U (k + 1) (2 * p + 1)) (U (k + 1) (2 * p))) (hf : 1000 ≤ fu) : ∀ k m cam ds, k ≤ n → k < m → (∀ p, p < 2 ^ k → cam p = U k p) → (k = 0 → 0 < n → ds = i01 (!decide (U 1 0 < U 1 1))) → ∃ cam' ds', f_X12_playing_l42 fu tr x1 x2 x3 x4 m at1 cam ds (cnk k) = some (U 0 0, at1, cam', ds') ∧ (0 < n → ds' = i01 (!decide (U 1 0 < U 1 1))) := by
  intro k
  induction k with
  | zero =>
    intro m cam ds hk hm hc hd
    obtain ⟨m, rfl⟩ : ∃ z, m = z + 1 := ⟨m - 1, by omega⟩
    have e0 := hc 0 (by decide)
    refine ⟨cam, ds, ?_, hd rfl⟩
    have ec : cnk 0 = nn := rfl
    simp (disch := omega) only [f_X12_playing_l42, f_X12_playing_b42, ec, wd_lit, nn_lt0, if_true, rdI_wd, Option.bind_some, e0]
  | succ k ih =>
    intro m cam ds hk hm hc hd
    obtain ⟨m, rfl⟩ : ∃ z, m = z + 1 := ⟨m - 1, by omega⟩
    obtain ⟨s', e1, e2, e3⟩ := r_play50 (fu := fu) (tr := tr) (at1 := at1) (ds := ds) (x1 := x1) (x2 := x2) (x3 := x3) (x4 := x4) (K := f_X12_playing_l42 fu tr x1 x2 x3 x4 m) (show k ≤ 3 by omega) (fun p => hU k p (by omega)) hc hf
    obtain ⟨cam', ds', e4, e5⟩ := ih m s'.1 s'.2 (by omega) (by omega) e2 (fun h _ => e3 h)
    refine ⟨cam', ds', ?_, e5⟩
    rw [← e4, ← e1]
    have ec : cnk (k + 1) = wd k := rfl
    rw [f_X12_playing_l42, f_X12_playing_b42, ec, if_neg (show ¬ wd k < 0 by rw [show (0 : Int32) = wd 0 from rfl, wd_lt (by omega) (by omega)]; omega)]
    rfl
theorem r_playing {cam : Nat → Int32} {ds : Int32} (hW : WF at_ c) (ha : a < c) (hb : b < c) (ht : t < 4) (hn : n ≤ 4) (hf : 1000 ≤ fu) : ∃ at2 cam' ds', f_X12_playing fu at_ tr cam ds (wd a) (wd b) (wd t) (wd n) = some (UV c a b n (sza t tr) at_ 0 0, at2, cam', ds') ∧ AG2 at_ at2 ∧ (0 < n → ds' = i01 (!decide (UV c a b n (sza t tr) at_ 1 0 < UV c a b n (sza t tr) at_ 1 1))) := by
  have hp := pw_4 n hn
  have hp0 : 0 < 2 ^ n := Nat.two_pow_pos n
  unfold f_X12_playing
  have key := loop_k (fun m i (s : (Nat → Int32) × (Nat → Int32)) => f_X12_playing_l3 fu tr (wd a) (wd b) (wd t) (wd n) m s.1 s.2 ds (wd i)) (fun i s => AG2 at_ s.1 ∧ ∀ q, q < i → s.2 q = UV c a b n (sza t tr) at_ n q) (2 ^ n) (fun s => f_X12_playing_l42 fu tr (wd a) (wd b) (wd t) (wd n) fu s.1 s.2 ds (cnk n)) ?_ ?_ 0 fu (at_, cam) (by omega) (by omega) ⟨fun _ _ => rfl, fun q hq => absurd hq (by omega)⟩
  · obtain ⟨s', e, h1, h2⟩ := key
    have e0 : f_X12_playing_l3 fu tr (wd a) (wd b) (wd t) (wd n) fu at_ cam ds 0 = _ := e
    rw [e0]
    by_cases hn0 : n = 0
    · subst hn0
      obtain ⟨fu', rfl⟩ : ∃ z, fu = z + 1 := ⟨fu - 1, by omega⟩
      have e0 := h2 0 (by decide)
      refine ⟨s'.1, s'.2, ds, ?_, h1, fun h => absurd h (by omega)⟩
      have ec : cnk 0 = nn := rfl
      simp (disch := omega) only [f_X12_playing_l42, f_X12_playing_b42, ec, wd_lit, nn_lt0, if_true, rdI_wd, Option.bind_some, e0]
    · obtain ⟨cam', ds', e4, e5⟩ := r_play42 (fu := fu) (tr := tr) (at1 := s'.1) (x1 := wd a) (x2 := wd b) (x3 := wd t) (x4 := wd n) (U := UV c a b n (sza t tr) at_) hn (fun k p hk => UV_s hk) hf n fu s'.2 ds (Nat.le_refl n) (by omega) h2 (fun h _ => absurd h hn0)
      exact ⟨s'.1, cam', ds', e4, h1, e5⟩
  · intro m i s hi hI
    obtain ⟨at2, e1, h1⟩ := r_played (fu := fu) (tr := tr) (n := n) (row := i) hW ha hb ht hn (by omega) hI.1 hf
    refine ⟨(at2, upd s.2 i (UV c a b n (sza t tr) at_ n i)), ?_, h1, ?_⟩
    · have hne : ¬ 1 <<< n ≤ i := by rw [Nat.one_shiftLeft]; omega
      show f_X12_playing_l3 fu tr (wd a) (wd b) (wd t) (wd n) (m + 1) s.1 s.2 ds (wd i) = _
      rw [f_X12_playing_l3, f_X12_playing_b3]
      simp (disch := omega) only [wd_lit, wd_31, wd_shl, wd_le, hne, if_false, e1, wrI_wd, Option.bind_some, bnd, wd_add]
    · intro q hq
      show upd s.2 i _ q = _
      by_cases hqi : q = i
      · subst hqi; exact upd_eq
      · rw [upd_ne hqi]; exact hI.2 q (by omega)
  · intro m s hI
    show f_X12_playing_l3 fu tr (wd a) (wd b) (wd t) (wd n) (m + 1) s.1 s.2 ds (wd (2 ^ n)) = _
    rw [f_X12_playing_l3, f_X12_playing_b3]
    have hle : 1 <<< n ≤ 2 ^ n := by rw [Nat.one_shiftLeft]; omega
    have ec : wd n - wd 1 = cnk n := by
      unfold cnk
      by_cases h : n = 0
      · subst h; decide
      · rw [if_neg h, wd_sub (by omega)]
    simp (disch := omega) only [wd_lit, wd_31, wd_shl (show n < 32 by omega), ec, bnd]
    rw [if_pos (by rw [wd_le (by omega) (by omega)]; exact hle)]
end
