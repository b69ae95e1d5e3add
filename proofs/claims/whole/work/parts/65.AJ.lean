def nf : Int32 := -1000000
theorem imn_dec {c w : Nat} (hc : c < 2147483648) (hw : w < 2147483648) : imn c (wd w) = decide (w < c) := by
  unfold imn
  simp (disch := omega) only [wd_lt]
  apply decide_eq_decide.2
  omega
theorem and_7 (x : Nat) : x &&& 7 = x % 8 := by
  have := Nat.and_two_pow_sub_one_eq_mod x 3
  simpa using this
theorem pw_8 (d : Nat) : 2 ^ (3 * d) = 8 ^ d := by rw [Nat.pow_mul]
theorem dig {o d : Nat} (ho : o < 2147483648) (hd : d ≤ 4) : (wd o >>> ((wd 3 * wd d) &&& wd 31)) &&& wd 7 = wd (o / 8 ^ d % 8) := by
  rw [wd_mul, wd_31 (by omega), wd_shr ho (by omega), wd_and, and_7, Nat.shiftRight_eq_div_pow, pw_8]
theorem pw_82 : ∀ n, n ≤ 4 → 1 <<< (3 * n) = 8 ^ n ∧ 8 ^ n ≤ 4096 := by decide
section
variable {fu c m n t : Nat} {at_ : Nat → Int32} {tr : Nat → Int64}
def gvo (c m n t : Nat) (tr : Nat → Int64) (at_ : Nat → Int32) (old : Nat) (x : Option Nat) : Int32 := match x with
  | some v => wd v - wd old
  | none => nf
theorem r_back {s : Nat → Int32} (h1 : ∀ j, j < 120 → s (2928 + j) = at_ j) (h2 : ∀ j, 120 ≤ j → j < 2928 ∨ 3048 ≤ j → s j = at_ j) : AG2 at_ (va_cpy s s 2928 0 120) := by
  intro j hj
  by_cases hj1 : j < 120
  · show va_cpy s s 2928 0 120 j = _
    unfold va_cpy
    rw [if_pos (by omega), show 2928 + (j - 0) = 2928 + j from by omega]; exact h1 j hj1
  · show va_cpy s s 2928 0 120 j = _
    unfold va_cpy
    rw [if_neg (by omega)]; exact h2 j (by omega) hj
theorem r_gotL {o old : Nat} (hm : m < c) (h8 : c ≤ 8) (ht : t < 4) (hn : n ≤ 4) (ho : o < 2147483648) (hf : 1000 ≤ fu) : ∀ d k M at' s, k + d = n → d + 1 < M → WF at' c → ME at' s → (∀ j, j < 120 → s (2928 + j) = at_ j) → (∀ j, 120 ≤ j → j < 2928 ∨ 3048 ≤ j → s j = at_ j) → ∃ at2, f_X12_gotBy_l21 fu tr (wd m) (wd t) (wd n) (wd o) M s (wd old) (wd 0) (wd k) = some (gvo c m n t tr at_ old (ev c m (sza t tr) d k at' o), at2) ∧ AG2 at_ at2 := by
  intro d
  induction d with
  | zero =>
    intro k M at' s hk hM hW hME h1 h2
    obtain ⟨M, rfl⟩ : ∃ z, M = z + 1 := ⟨M - 1, by omega⟩
    refine ⟨va_cpy s s 2928 0 120, ?_, r_back h1 h2⟩
    rw [f_X12_gotBy_l21, f_X12_gotBy_b21, if_pos (by rw [wd_le (by omega) (by omega)]; omega)]
    unfold f_X12_gotBy_j94
    rw [if_pos (show wd 0 = 0 from rfl), show (2 : Int32) = wd 2 from rfl, bind_e (r_manOf (by omega) (by omega)), hME.2.2 m 2 (by omega) (by omega) (by omega) (by omega), (mdn_e hW hm).1]
    simp only [bnd]
    rw [show (2928 : Int32) = wd 2928 from wd_lit 2928, bind_e (r_restores (by omega) (by omega) hf)]
    rfl
  | succ d ih =>
    intro k M at' s hk hM hW hME h1 h2
    obtain ⟨M, rfl⟩ : ∃ z, M = z + 1 + 1 := ⟨M - 2, by omega⟩
    have hs0 : s 0 = wd c := hME.1.trans hW.2.1
    have hend : f_X12_gotBy_l21 fu tr (wd m) (wd t) (wd n) (wd o) (M + 1) s (wd old) nf (wd (k + 1)) = some (nf, va_cpy s s 2928 0 120) := by
      have hj : f_X12_gotBy_j94 fu tr (wd m) (wd t) (wd n) (wd o) s (wd old) nf = some (nf, va_cpy s s 2928 0 120) := by
        unfold f_X12_gotBy_j94
        rw [if_neg (show ¬ nf = 0 by decide), show (2928 : Int32) = wd 2928 from wd_lit 2928, bind_e (r_restores (by omega) (by omega) hf)]
      rw [f_X12_gotBy_l21, f_X12_gotBy_b21, hj]
      by_cases hh : wd n ≤ wd (k + 1)
      · rw [if_pos hh]
      · rw [if_neg hh, if_neg (show ¬ nf = 0 by decide)]
    have hst : f_X12_gotBy_l21 fu tr (wd m) (wd t) (wd n) (wd o) (M + 1 + 1) s (wd old) (wd 0) (wd k) = (if o / 8 ^ d % 8 < c ∧ alv at' (o / 8 ^ d % 8) = true then f_X12_gotBy_l21 fu tr (wd m) (wd t) (wd n) (wd o) (M + 1) (facesA s c (o / 8 ^ d % 8) (sza t tr k)).2 (wd old) (wd 0) (wd (k + 1)) else f_X12_gotBy_l21 fu tr (wd m) (wd t) (wd n) (wd o) (M + 1) s (wd old) nf (wd (k + 1))) := by
      rw [f_X12_gotBy_l21, f_X12_gotBy_b21, if_neg (by rw [wd_le (by omega) (by omega)]; omega), if_pos (show wd 0 = 0 from rfl)]
      simp only [bnd]
      rw [show (1 : Int32) = wd 1 from rfl, show (3 : Int32) = wd 3 from rfl, show (31 : Int32) = wd 31 from rfl, show (7 : Int32) = wd 7 from rfl, wd_sub (show 1 ≤ n by omega), wd_sub (show k ≤ n - 1 by omega), show n - 1 - k = d from by omega, dig ho (by omega), wd_add]
      have hw7 : o / 8 ^ d % 8 < 8 := Nat.mod_lt _ (by omega)
      generalize o / 8 ^ d % 8 = w at hw7
      rw [bind_e (r_isM hs0), imn_dec (by omega) (by omega)]
      by_cases hwc : w < c
      · rw [if_neg (show ¬ i01 (decide (w < c)) = 0 by simp [hwc]; decide), bind_e (r_isAlive hw7), ME_nalv hME hw7]
        cases hal : alv at' w
        · rw [if_pos (show i01 false = 0 from rfl), if_neg (by simp)]
          rfl
        · rw [if_neg (show ¬ i01 true = 0 by decide), bind_e (r_sizeAt ht (by omega)), bind_e (r_faces hw7 hs0 h8 hf), if_pos ⟨hwc, rfl⟩]
      · rw [if_pos (show i01 (decide (w < c)) = 0 by simp [hwc]; rfl), if_neg (fun h => hwc h.1)]
        rfl
    rw [hst, ev_s]
    by_cases hv : o / 8 ^ d % 8 < c ∧ alv at' (o / 8 ^ d % 8) = true
    · rw [if_pos hv, if_pos hv]
      have hw7 : o / 8 ^ d % 8 < 8 := Nat.mod_lt _ (by omega)
      have hfr := FR_faces (a := s) (c := c) (m := o / 8 ^ d % 8) (s := sza t tr k) h8 hw7
      refine ih (k + 1) (M + 1) (nx at' c (o / 8 ^ d % 8) (sza t tr k)) _ (by omega) (by omega) (nx_WF hW) (ME_faces hME h8 hw7) ?_ ?_
      · intro j hj; rw [hfr.2.2 _ (by omega)]; exact h1 j hj
      · intro j hj hj2; rw [hfr.2.2 _ (by omega)]; exact h2 j hj hj2
    · rw [if_neg hv, if_neg hv]
      exact ⟨_, hend, r_back h1 h2⟩
theorem r_gotBy {at1 : Nat → Int32} {o : Nat} (hW : WF at_ c) (hm : m < c) (ht : t < 4) (hn : n ≤ 4) (ho : o < 2147483648) (hag : AG2 at_ at1) (hf : 1000 ≤ fu) : ∃ at2, f_X12_gotBy fu at1 tr (wd m) (wd t) (wd n) (wd o) = some (gvo c m n t tr at_ (mdn at_ m) (ev c m (sza t tr) n 0 at_ o), at2) ∧ AG2 at_ at2 := by
  have h8 := hW.1
  have hME : ME at_ (va_cpy at1 at1 0 2928 120) := by
    refine ⟨?_, ?_, fun m j hm hj h3 h4 => ?_⟩
    · show va_cpy at1 at1 0 2928 120 0 = at_ 0
      unfold va_cpy; rw [if_neg (by omega)]; exact hag 0 (by omega)
    · show va_cpy at1 at1 0 2928 120 1 = at_ 1
      unfold va_cpy; rw [if_neg (by omega)]; exact hag 1 (by omega)
    · show va_cpy at1 at1 0 2928 120 (8 + 14 * m + j) = at_ (8 + 14 * m + j)
      unfold va_cpy; rw [if_neg (by omega)]; exact hag _ (by omega)
  unfold f_X12_gotBy
  rw [show (2928 : Int32) = wd 2928 from wd_lit 2928, bind_e (r_keeps (by omega) (by omega) hf), show (2 : Int32) = wd 2 from rfl, bind_e (r_manOf (by omega) (by omega)), hME.2.2 m 2 (by omega) (by omega) (by omega) (by omega), (mdn_e hW hm).1]
  refine r_gotL (at_ := at_) hm h8 ht hn ho hf n 0 fu at_ _ (by omega) (by omega) hW hME ?_ ?_
  · intro j hj
    unfold va_cpy
    rw [if_pos (by omega), show 0 + (2928 + j - 2928) = j from by omega]; exact hag j (by omega)
  · intro j hj hj2
    unfold va_cpy
    rw [if_neg (by omega)]; exact hag j hj2
def gcm (x y : Option Nat) : Prop := match x, y with
  | _, none => False
  | none, some _ => True
  | some v, some w => v < w
theorem nf_int : nf.toInt = -1000000 := by decide
theorem gvo_lt {old : Nat} {x y : Option Nat} (hold : old ≤ 99) (hx : ∀ v, x = some v → v ≤ 99) (hy : ∀ v, y = some v → v ≤ 99) : (gvo c m n t tr at_ old x < gvo c m n t tr at_ old y) = gcm x y := by
  cases x with
  | none =>
    cases y with
    | none => exact eq_false (Int32.lt_irrefl)
    | some w =>
      have := hy w rfl
      show (nf < wd w - wd old) = True
      rw [Int32.lt_iff_toInt_lt, nf_int, wd_subi (by omega) (by omega)]
      exact eq_true (by omega)
  | some v =>
    have := hx v rfl
    cases y with
    | none =>
      show (wd v - wd old < nf) = False
      rw [Int32.lt_iff_toInt_lt, nf_int, wd_subi (by omega) (by omega)]
      exact eq_false (by omega)
    | some w =>
      have := hy w rfl
      show (wd v - wd old < wd w - wd old) = (v < w)
      rw [Int32.lt_iff_toInt_lt, wd_subi (by omega) (by omega), wd_subi (by omega) (by omega)]
      exact propext (by omega)
def SC (E : Nat → Option Nat) (o : Nat) (x : Option Nat) (b : Int32) : Prop := (x = none ∧ ∀ o', o' < o → E o' = none) ∨ ∃ v k, x = some v ∧ b = wd k ∧ k < o ∧ E k = some v ∧ (∀ o' w, o' < o → E o' = some w → w ≤ v) ∧ ∀ o' w, o' < k → E o' = some w → w < v
theorem r_ordering {b0 : Int32} (hW : WF at_ c) (hm : m < c) (ha : alv at_ m = true) (ht : t < 4) (hn : n ≤ 4) (hf : 5000 ≤ fu) : ∃ at2, f_X12_ordering fu at_ tr b0 (wd m) (wd t) (wd n) = some (wd (mvl c m (sza t tr) n 0 at_) - wd (mdn at_ m), at2, wd (bo c m (sza t tr) n 0 at_)) ∧ AG2 at_ at2 := by
  have h8 := hW.1
  have hp := pw_82 n hn
  have hold := (mdn_e hW hm).2
  have hal : ∃ w, w < c ∧ alv at_ w = true := ⟨m, hm, ha⟩
  have hEl : ∀ o v, ev c m (sza t tr) n 0 at_ o = some v → v ≤ 99 := fun o v h => Nat.le_trans (ev_le _ _ _ _ _ h) (mvl_le hm n 0 at_ hW)
  unfold f_X12_ordering
  have key := loop_k (fun M i (s : (Nat → Int32) × Int32 × Option Nat) => f_X12_ordering_l8 fu tr (wd m) (wd t) (wd n) M s.1 s.2.1 (gvo c m n t tr at_ (mdn at_ m) s.2.2) (wd i)) (fun i s => AG2 at_ s.1 ∧ SC (ev c m (sza t tr) n 0 at_) i s.2.2 s.2.1 ∧ ∀ v, s.2.2 = some v → v ≤ 99) (8 ^ n) (fun s => some (gvo c m n t tr at_ (mdn at_ m) s.2.2, s.1, s.2.1)) ?_ ?_ 0 fu (at_, b0, none) (Nat.zero_le _) (by omega) ⟨fun _ _ => rfl, Or.inl ⟨rfl, fun o' h => absurd h (by omega)⟩, fun v h => by cases h⟩
  · obtain ⟨s', e, h1, h2, h3⟩ := key
    have e0 : f_X12_ordering_l8 fu tr (wd m) (wd t) (wd n) fu at_ b0 (-1000000) 0 = _ := e
    rw [e0]
    have hbo := bo_lt (m := m) (sz := sza t tr) h8 n 0 at_ hal
    have heb := ev_bo (m := m) (sz := sza t tr) h8 n 0 at_ hal
    rcases h2 with ⟨h4, h5⟩ | ⟨v, k, h4, h5, h6, h7, h8', h9⟩
    · rw [h5 _ hbo] at heb; cases heb
    · have hv1 := h8' _ _ hbo heb
      have hv2 := ev_le _ _ _ _ _ h7
      have hv : v = mvl c m (sza t tr) n 0 at_ := by omega
      have hk : k = bo c m (sza t tr) n 0 at_ := by
        rcases Nat.lt_trichotomy k (bo c m (sza t tr) n 0 at_) with h | h | h
        · have := ev_first (m := m) (sz := sza t tr) h8 n 0 at_ k v hal h h7; omega
        · exact h
        · have := h9 _ _ h heb; omega
      refine ⟨s'.1, ?_, h1⟩
      rw [h4, h5, hk, hv]
      rfl
  · intro M i s hi hI
    obtain ⟨h1, h2, h3⟩ := hI
    obtain ⟨at2, e1, g1⟩ := r_gotBy (fu := fu) (tr := tr) (o := i) hW hm ht hn (by omega) h1 (by omega)
    have hne : ¬ 1 <<< (3 * n) ≤ i := by rw [hp.1]; omega
    have hst : f_X12_ordering_l8 fu tr (wd m) (wd t) (wd n) (M + 1) s.1 s.2.1 (gvo c m n t tr at_ (mdn at_ m) s.2.2) (wd i) = if gvo c m n t tr at_ (mdn at_ m) s.2.2 < gvo c m n t tr at_ (mdn at_ m) (ev c m (sza t tr) n 0 at_ i) then f_X12_ordering_l8 fu tr (wd m) (wd t) (wd n) M at2 (wd i) (gvo c m n t tr at_ (mdn at_ m) (ev c m (sza t tr) n 0 at_ i)) (wd (i + 1)) else f_X12_ordering_l8 fu tr (wd m) (wd t) (wd n) M at2 s.2.1 (gvo c m n t tr at_ (mdn at_ m) s.2.2) (wd (i + 1)) := by
      rw [f_X12_ordering_l8, f_X12_ordering_b8]
      rw [show (1 : Int32) = wd 1 from rfl, show (3 : Int32) = wd 3 from rfl, show (31 : Int32) = wd 31 from rfl, wd_mul, wd_31 (by omega), wd_shl (by omega), if_neg (by rw [wd_le (by rw [hp.1]; omega) (by omega)]; exact hne), bind_e e1]
      simp only [bnd, wd_add]
    have hg := gvo_lt (c := c) (m := m) (n := n) (t := t) (tr := tr) (at_ := at_) hold h3 (hEl i)
    have hup : ∀ o' w, o' < i + 1 → ev c m (sza t tr) n 0 at_ o' = some w → o' < i ∨ (o' = i ∧ ev c m (sza t tr) n 0 at_ i = some w) := by
      intro o' w ho' hw
      by_cases h : o' = i
      · subst h; exact Or.inr ⟨rfl, hw⟩
      · exact Or.inl (by omega)
    cases hE : ev c m (sza t tr) n 0 at_ i with
    | none =>
      rw [hE] at hst hg
      refine ⟨(at2, s.2.1, s.2.2), ?_, g1, ?_, h3⟩
      · rw [hst]
        exact if_neg (by rw [hg]; cases s.2.2 <;> exact id)
      · rcases h2 with ⟨h4, h5⟩ | ⟨v, k, h4, h5, h6, h7, h8', h9⟩
        · refine Or.inl ⟨h4, fun o' ho' => ?_⟩
          by_cases h : o' = i
          · subst h; exact hE
          · exact h5 o' (by omega)
        · refine Or.inr ⟨v, k, h4, h5, by omega, h7, fun o' w ho' hw => ?_, h9⟩
          rcases hup o' w ho' hw with h | ⟨h, h'⟩
          · exact h8' o' w h hw
          · rw [hE] at h'; cases h'
    | some v1 =>
      rw [hE] at hst hg
      rcases h2 with ⟨h4, h5⟩ | ⟨v, k, h4, h5, h6, h7, h8', h9⟩
      · rw [h4] at hst hg
        refine ⟨(at2, wd i, some v1), ?_, g1, Or.inr ⟨v1, i, rfl, rfl, by omega, hE, fun o' w ho' hw => ?_, fun o' w ho' hw => ?_⟩, fun v hv => by injection hv with hv; subst hv; exact hEl i v1 hE⟩
        · rw [h4, hst]; exact if_pos (by rw [hg]; exact True.intro)
        · rcases hup o' w ho' hw with h | ⟨h, h'⟩
          · rw [h5 o' h] at hw; cases hw
          · rw [hE] at h'; injection h' with h'; omega
        · rw [h5 o' ho'] at hw; cases hw
      · rw [h4] at hst hg
        by_cases hlt : v < v1
        · refine ⟨(at2, wd i, some v1), ?_, g1, Or.inr ⟨v1, i, rfl, rfl, by omega, hE, fun o' w ho' hw => ?_, fun o' w ho' hw => ?_⟩, fun v hv => by injection hv with hv; subst hv; exact hEl i v1 hE⟩
          · rw [h4, hst]; exact if_pos (by rw [hg]; exact hlt)
          · rcases hup o' w ho' hw with h | ⟨h, h'⟩
            · have := h8' o' w h hw; omega
            · rw [hE] at h'; injection h' with h'; omega
          · have := h8' o' w ho' hw; omega
        · refine ⟨(at2, s.2.1, some v), ?_, g1, Or.inr ⟨v, k, rfl, h5, by omega, h7, fun o' w ho' hw => ?_, h9⟩, fun w hw => by injection hw with hw; subst hw; exact h3 v h4⟩
          · rw [h4, hst]; exact if_neg (by rw [hg]; exact hlt)
          · rcases hup o' w ho' hw with h | ⟨h, h'⟩
            · exact h8' o' w h hw
            · rw [hE] at h'; injection h' with h'; omega
  · intro M s hI
    show f_X12_ordering_l8 fu tr (wd m) (wd t) (wd n) (M + 1) s.1 s.2.1 (gvo c m n t tr at_ (mdn at_ m) s.2.2) (wd (8 ^ n)) = _
    rw [f_X12_ordering_l8, f_X12_ordering_b8]
    rw [show (1 : Int32) = wd 1 from rfl, show (3 : Int32) = wd 3 from rfl, show (31 : Int32) = wd 31 from rfl, wd_mul, wd_31 (by omega), wd_shl (by omega), hp.1, if_pos (by rw [wd_le (by omega) (by omega)]; omega)]
end
