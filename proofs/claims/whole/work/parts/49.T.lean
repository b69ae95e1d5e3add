/-! chances -/
def ch : Nat → Nat → Nat
  | _, 0 => 1
  | 0, _ + 1 => 0
  | n + 1, k + 1 => ch n k + ch n (k + 1)
theorem ch_0 (n : Nat) : ch n 0 = 1 := by cases n <;> rfl
theorem ch_s (n k : Nat) : ch (n + 1) (k + 1) = ch n k + ch n (k + 1) := rfl
theorem ch_up : ∀ d k, ch d (d + k + 1) = 0 := by
  intro d
  induction d with
  | zero => intro k; rfl
  | succ d ih =>
    intro k
    have h1 := ih k
    have h2 := ih (k + 1)
    rw [show d + 1 + k + 1 = (d + k + 1) + 1 from by omega, ch_s, h1, show d + k + 1 + 1 = d + (k + 1) + 1 from by omega, h2]
theorem ch_9 : ∀ n, n ≤ 9 → ∀ j, j ≤ n → ch n j * (n - j) / (j + 1) = ch n (j + 1) ∧ ch n j ≤ 126 := by decide +kernel
def bb (g q : Nat) : Nat → Nat → Nat
  | 0, i => if i = 0 then 1 else 0
  | d + 1, i => bb g q d i * q + (if i = 0 then 0 else bb g q d (i - 1) * g)
theorem bb_s (g q d i : Nat) : bb g q (d + 1) i = bb g q d i * q + (if i = 0 then 0 else bb g q d (i - 1) * g) := rfl
theorem bb_e (g q : Nat) : ∀ d i, (i ≤ d → bb g q d i = ch d i * g ^ i * q ^ (d - i)) ∧ (d < i → bb g q d i = 0) := by
  intro d
  induction d with
  | zero =>
    intro i
    refine ⟨fun h => ?_, fun h => if_neg (by omega)⟩
    have : i = 0 := by omega
    subst this
    rfl
  | succ d ih =>
    intro i
    cases i with
    | zero =>
      refine ⟨fun _ => ?_, fun h => absurd h (by omega)⟩
      rw [bb_s, if_pos rfl, (ih 0).1 (by omega), ch_0, ch_0, Nat.sub_zero, Nat.sub_zero, Nat.pow_succ, Nat.pow_zero]
      simp
    | succ i =>
      have e0 : bb g q (d + 1) (i + 1) = bb g q d (i + 1) * q + bb g q d i * g := by rw [bb_s, if_neg (by omega)]; rfl
      refine ⟨fun h => ?_, fun h => ?_⟩
      · rw [e0, (ih i).1 (by omega), ch_s]
        by_cases h1 : i = d
        · subst h1
          have h2 := ch_up i 0
          rw [(ih (i + 1)).2 (by omega), show ch i (i + 1) = 0 from h2, Nat.sub_self, show i + 1 - (i + 1) = 0 from by omega, Nat.pow_succ]
          simp [Nat.mul_assoc]
        · rw [(ih (i + 1)).1 (by omega), show d + 1 - (i + 1) = d - i from by omega]
          obtain ⟨e, he⟩ : ∃ e, d - i = e + 1 := ⟨d - i - 1, by omega⟩
          rw [he, show d - (i + 1) = e from by omega, Nat.pow_succ, Nat.pow_succ]
          generalize ch d i = a
          generalize ch d (i + 1) = b
          generalize g ^ i = p
          generalize q ^ e = r
          grind
      · rw [e0, (ih i).2 (by omega), (ih (i + 1)).2 (by omega)]
        simp
theorem bb_le {g q : Nat} (hg : g ≤ 20) (hq : q ≤ 20) : ∀ d i, bb g q d i ≤ 40 ^ d := by
  intro d
  induction d with
  | zero => intro i; show (if i = 0 then 1 else 0) ≤ 40 ^ 0; split <;> decide
  | succ d ih =>
    intro i
    rw [bb_s, Nat.pow_succ]
    have h1 := Nat.mul_le_mul (ih i) hq
    have h2 := Nat.mul_le_mul (ih (i - 1)) hg
    split <;> omega
def nsm (f : Nat → Nat) : Nat → Nat
  | 0 => 0
  | i + 1 => nsm f i + f i
theorem nsm_s (f : Nat → Nat) (i : Nat) : nsm f (i + 1) = nsm f i + f i := rfl
theorem nsm_le {f : Nat → Nat} {b : Nat} (h : ∀ i, f i ≤ b) : ∀ n, nsm f n ≤ b * n := by
  intro n
  induction n with
  | zero => exact Nat.le_refl _
  | succ n ih => have := h n; rw [nsm_s, Nat.mul_succ]; omega
theorem nsm_up {f : Nat → Nat} {a : Nat} (h : ∀ i, a ≤ i → f i = 0) : ∀ d, nsm f (a + d) = nsm f a := by
  intro d
  induction d with
  | zero => rfl
  | succ d ih => rw [← Nat.add_assoc, nsm_s, h _ (by omega), ih, Nat.add_zero]
theorem nsm_lo {f : Nat → Nat} {a : Nat} (h : ∀ i, i < a → f i = 0) : ∀ n, n ≤ a → nsm f n = 0 := by
  intro n
  induction n with
  | zero => intro _; rfl
  | succ n ih => intro hn; rw [nsm_s, ih (by omega), h n (by omega)]
theorem nsm_congr {f g : Nat → Nat} : ∀ n, (∀ i, i < n → f i = g i) → nsm f n = nsm g n := by
  intro n
  induction n with
  | zero => intro _; rfl
  | succ n ih => intro h; rw [nsm_s, nsm_s, ih (fun i hi => h i (by omega)), h n (by omega)]
def cht (g n k j : Nat) : Nat := if k ≤ j then bb g (20 - g) n j else 0
theorem c_raised {fu b e : Nat} (he : e ≤ 100) (hf : 1000 ≤ fu) : f_X11_raised fu (jd b) (wd e) = some (jd (b ^ e)) := by
  unfold f_X11_raised
  refine loop_seq (fun n i (x : Nat) => f_X11_raised_l5 fu (jd b) (wd e) n (jd x) (wd i)) (fun i => b ^ i) e _ ?_ ?_ 0 fu (by omega) (by omega)
  · intro n i hi
    simp (disch := omega) only [f_X11_raised_l5, f_X11_raised_b5, wd_lit, wd_of, wd_add, wd_mul, wd_neg, Option.bind_some, bnd, rdI_wd, wrI_wd, rdJ_wd, wrJ_wd, wd_31, wd_le, wd_lt, wd_inj, wd_eqm, wd_eqm', wd_ltm, wd_lem, wd_ltm2, wd_lem2, wd_bit0', wd_bit1', wd_shl, wd_or, wd_dif, jd_mul]
    rw [if_neg (by omega)]
    rfl
  · intro n
    simp (disch := omega) only [f_X11_raised_l5, f_X11_raised_b5, wd_lit, wd_of, wd_add, wd_mul, wd_neg, Option.bind_some, bnd, rdI_wd, wrI_wd, rdJ_wd, wrJ_wd, wd_31, wd_le, wd_lt, wd_inj, wd_eqm, wd_eqm', wd_ltm, wd_lem, wd_ltm2, wd_lem2, wd_bit0', wd_bit1', wd_shl, wd_or, wd_dif]
    rw [if_pos (by omega)]
theorem c_ways {fu g n k : Nat} (hg : g ≤ 20) (hn : n ≤ 9) (hk : k ≤ 9) (hf : 1000 ≤ fu) : f_X11_waysToStand fu (wd g) (wd n) (wd k) = some (jd (nsm (cht g n k) (n + 1))) := by
  unfold f_X11_waysToStand
  have key := loop_seq (fun m i (x : Nat × Nat) => f_X11_waysToStand_l8 fu (wd g) (wd n) (wd k) m (jd x.1) (jd x.2) (wd i)) (fun i => (nsm (cht g n k) i, ch n i)) (n + 1) (some (jd (nsm (cht g n k) (n + 1)))) ?_ ?_ 0 fu (by omega) (by omega)
  · simp only [ch_0] at key
    exact key
  · intro m i hi
    have h9 := ch_9 n hn i (by omega)
    have hle : ch n i * (n - i) ≤ 126 * 9 := Nat.mul_le_mul h9.2 (by omega)
    have eB := (bb_e g (20 - g) n i).1 (by omega)
    dsimp only
    rw [nsm_s, ← h9.1]
    unfold cht
    simp (disch := omega) only [f_X11_waysToStand_l8, f_X11_waysToStand_b8, f_X11_waysToStand_j46, wd_lit, wd_of, wd_add, wd_mul, wd_neg, Option.bind_some, bnd, rdI_wd, wrI_wd, rdJ_wd, wrJ_wd, wd_31, wd_le, wd_lt, wd_inj, wd_eqm, wd_eqm', wd_ltm, wd_lem, wd_ltm2, wd_lem2, wd_bit0', wd_bit1', wd_shl, wd_or, wd_dif, wd_64, wd_sub (show i ≤ n by omega), wd_sub (show g ≤ 20 by omega), c_raised, jd_mul, jd_add, jd_div, jd_nz]
    rw [if_neg (by omega)]
    by_cases hik : i < k
    · rw [if_pos hik, if_neg (by omega)]; rfl
    · rw [if_neg hik, if_pos (by omega), eB]
  · intro m
    simp (disch := omega) only [f_X11_waysToStand_l8, f_X11_waysToStand_b8, wd_lit, wd_of, wd_add, wd_mul, wd_neg, Option.bind_some, bnd, rdI_wd, wrI_wd, rdJ_wd, wrJ_wd, wd_31, wd_le, wd_lt, wd_inj, wd_eqm, wd_eqm', wd_ltm, wd_lem, wd_ltm2, wd_lem2, wd_bit0', wd_bit1', wd_shl, wd_or, wd_dif]
    rw [if_pos (by omega)]
theorem wd_dec {k : Nat} (h : 0 < k) : wd k + nn = wd (k - 1) := by
  have e : nn = wd 4294967295 := by decide
  rw [e, wd_add]
  unfold wd
  apply Int32.toBitVec_inj.1
  apply BitVec.eq_of_toNat_eq
  simp only [Int32.toBitVec_ofNat', BitVec.toNat_ofNat]
  omega
theorem wd_dec0 : wd 0 + nn = nn := by decide
def ct9 (t : Nat) : Int32 := if t < 10 then wd (9 - t) else nn
theorem nn_lt0 : (nn < wd 0) = True := by decide
theorem r_chance1 {fu g n k d : Nat} {at_ : Nat → Int32} {x1 st x3 : Int32} {tp bt' x5 : Int64} {K : Int32 → Int64 → Int64 → (Nat → Int64) → Int32 → Int64 → Int32 → Option (Int32 × Int32 × Int64 × Int64 × (Nat → Int64))} {s : Nat → Int64} (hg : g ≤ 20) (hd : d < 10) (hs : ∀ j, j < 10 → s j = jd (bb g (20 - g) d j)) (hf : 1000 ≤ fu) : ∃ s', f_X12_chance_l99 fu at_ x1 (wd n) x3 K fu st tp bt' s (wd g) x5 (wd d) 9 = K st tp bt' s' (wd g) (x5 * jd 20) (wd (d + 1)) ∧ ∀ j, j < 10 → s' j = jd (bb g (20 - g) (d + 1) j) := by
  have key : ∀ e t m s, t + e = 10 → e < m → (∀ j, j < 10 → s j = jd (if 10 ≤ j + t then bb g (20 - g) (d + 1) j else bb g (20 - g) d j)) → ∃ s', f_X12_chance_l99 fu at_ x1 (wd n) x3 K m st tp bt' s (wd g) x5 (wd d) (ct9 t) = K st tp bt' s' (wd g) (x5 * jd 20) (wd (d + 1)) ∧ ∀ j, j < 10 → s' j = jd (bb g (20 - g) (d + 1) j) := by
    intro e
    induction e with
    | zero =>
      intro t m s ht hm hs
      obtain ⟨m, rfl⟩ : ∃ k, m = k + 1 := ⟨m - 1, by omega⟩
      have ht : t = 10 := by omega
      subst ht
      refine ⟨s, ?_, fun j hj => by rw [hs j hj, if_pos (by omega)]⟩
      have e9 : ct9 10 = nn := rfl
      simp (disch := omega) only [f_X12_chance_l99, f_X12_chance_b99, e9, nn_lt0, wd_lit, wd_of, wd_add, wd_mul, wd_neg, Option.bind_some, bnd, rdI_wd, wrI_wd, rdJ_wd, wrJ_wd, wd_31, wd_le, wd_lt, wd_inj, wd_eqm, wd_eqm', wd_ltm, wd_lem, wd_ltm2, wd_lem2, wd_bit0', wd_bit1', wd_shl, wd_or, wd_dif, i01_t, i01_f, jd_lit, i01_bz, bz_1, bz_0, f_X11_refuse, f_X11_answer, f_X11_allow, f_X11_deny, f_X12_refuse, f_X12_gives, f_X12_is, Option.some.injEq, exists_eq', if_true, if_false, ↓reduceIte, Nat.reduceEqDiff, Nat.reduceLT, Nat.reduceAdd]
    | succ e ih =>
      intro t m s ht hm hs
      obtain ⟨m, rfl⟩ : ∃ k, m = k + 1 := ⟨m - 1, by omega⟩
      have e9 : ct9 t = wd (9 - t) := if_pos (by omega)
      have s1 := hs (9 - t) (by omega)
      rw [if_neg (by omega)] at s1
      by_cases h9 : t = 9
      · subst h9
        have := ih 10 m (vp_updL s 0 (jd (bb g (20 - g) (d + 1) 0))) (by omega) (by omega) (fun j hj => by
          by_cases hj0 : j = 0
          · subst hj0; rw [updL_eq, if_pos (by omega)]
          · rw [updL_ne hj0, hs j hj, if_pos (by omega), if_pos (by omega)])
        obtain ⟨s', e1, e2⟩ := this
        refine ⟨s', ?_, e2⟩
        rw [← e1, e9]
        have e10 : ct9 10 = nn := rfl
        have s1 : s 0 = jd (bb g (20 - g) d 0) := s1
        rw [bb_s, if_pos rfl]
        simp (disch := omega) only [f_X12_chance_l99, f_X12_chance_b99, e10, s1, wd_sub (show g ≤ 20 by omega), wd_64, jd_mul, jd_add, wd_dec0, Nat.sub_self, wd_lit, wd_of, wd_add, wd_mul, wd_neg, Option.bind_some, bnd, rdI_wd, wrI_wd, rdJ_wd, wrJ_wd, wd_31, wd_le, wd_lt, wd_inj, wd_eqm, wd_eqm', wd_ltm, wd_lem, wd_ltm2, wd_lem2, wd_bit0', wd_bit1', wd_shl, wd_or, wd_dif, i01_t, i01_f, jd_lit, i01_bz, bz_1, bz_0, f_X11_refuse, f_X11_answer, f_X11_allow, f_X11_deny, f_X12_refuse, f_X12_gives, f_X12_is, Option.some.injEq, exists_eq', if_true, if_false, ↓reduceIte, Nat.reduceEqDiff, Nat.reduceLT, Nat.reduceAdd]
      · have s2 := hs (9 - t - 1) (by omega)
        rw [if_neg (by omega)] at s2
        have := ih (t + 1) m (vp_updL s (9 - t) (jd (bb g (20 - g) (d + 1) (9 - t)))) (by omega) (by omega) (fun j hj => by
          by_cases hj0 : j = 9 - t
          · subst hj0; rw [updL_eq, if_pos (by omega)]
          · rw [updL_ne hj0, hs j hj]
            by_cases hj1 : 10 ≤ j + t
            · rw [if_pos hj1, if_pos (by omega)]
            · rw [if_neg hj1, if_neg (by omega)])
        obtain ⟨s', e1, e2⟩ := this
        refine ⟨s', ?_, e2⟩
        rw [← e1, e9]
        have e10 : ct9 (t + 1) = wd (9 - t - 1) := by unfold ct9; rw [if_pos (by omega)]; congr 1
        have n9 : ¬ 9 - t = 0 := by omega
        have n9' : ¬ 9 - t < 0 := by omega
        rw [bb_s, if_neg n9]
        simp (disch := omega) only [f_X12_chance_l99, f_X12_chance_b99, e10, s1, s2, n9, n9', wd_sub (show g ≤ 20 by omega), wd_sub (show 1 ≤ 9 - t by omega), wd_64, jd_mul, jd_add, wd_dec, wd_lit, wd_of, wd_add, wd_mul, wd_neg, Option.bind_some, bnd, rdI_wd, wrI_wd, rdJ_wd, wrJ_wd, wd_31, wd_le, wd_lt, wd_inj, wd_eqm, wd_eqm', wd_ltm, wd_lem, wd_ltm2, wd_lem2, wd_bit0', wd_bit1', wd_shl, wd_or, wd_dif, i01_t, i01_f, jd_lit, i01_bz, bz_1, bz_0, f_X11_refuse, f_X11_answer, f_X11_allow, f_X11_deny, f_X12_refuse, f_X12_gives, f_X12_is, Option.some.injEq, exists_eq', if_true, if_false, ↓reduceIte, Nat.reduceEqDiff, Nat.reduceLT, Nat.reduceAdd]
  have := key 10 0 fu s (by omega) (by omega) (fun j hj => by rw [if_neg (by omega)]; exact hs j hj)
  exact this
theorem r_chance {fu g n k : Nat} {at_ : Nat → Int32} {x1 st : Int32} {tp bt' : Int64} {s : Nat → Int64} (hg : g ≤ 20) (hn : n ≤ 9) (hk : k ≤ 9) (hf : 1000 ≤ fu) {p q : Int64} (ht : f_X12_tellsBy fu st tp bt' (jd (nsm (cht g n k) (n + 1))) (jd (20 ^ n)) = some (wd 1, wd 0, p, q)) : ∃ s', f_X12_chance_l56 fu at_ x1 (wd n) (wd k) fu st tp bt' s (wd g) (jd 1) (wd 0) = some (wd 1, wd 0, p, q, s') := by
  have e10 : nsm (cht g n k) 10 = nsm (cht g n k) (n + 1) := by
    have := nsm_up (f := cht g n k) (a := n + 1) (fun i hi => by
      unfold cht
      split
      · exact (bb_e g (20 - g) n i).2 (by omega)
      · rfl) (9 - n)
    rwa [show n + 1 + (9 - n) = 10 by omega] at this
  have l3 : ∀ s, (∀ j, j < 10 → s j = jd (bb g (20 - g) n j)) → f_X12_chance_l174 fu at_ x1 (wd n) (wd k) fu st tp bt' s (jd (20 ^ n)) (jd 0) (wd k) = some (wd 1, wd 0, p, q, s) := by
    intro s hs
    have key := loop_seq (fun m i (x : Nat) => f_X12_chance_l174 fu at_ x1 (wd n) (wd k) m st tp bt' s (jd (20 ^ n)) (jd x) (wd (k + i))) (fun i => nsm (cht g n k) (k + i)) (10 - k) (some (wd 1, wd 0, p, q, s)) ?_ ?_ 0 fu (by omega) (by omega)
    · rw [Nat.add_zero, nsm_lo (f := cht g n k) (a := k) (fun i hi => by unfold cht; rw [if_neg (by omega)]) k (Nat.le_refl k)] at key
      exact key
    · intro m i hi
      have : cht g n k (k + i) = bb g (20 - g) n (k + i) := if_pos (by omega)
      rw [← Nat.add_assoc, nsm_s, this]
      simp (disch := omega) only [f_X12_chance_l174, f_X12_chance_b174, wd_lit, wd_of, wd_add, wd_mul, wd_neg, Option.bind_some, bnd, rdI_wd, wrI_wd, rdJ_wd, wrJ_wd, wd_31, wd_le, wd_lt, wd_inj, wd_eqm, wd_eqm', wd_ltm, wd_lem, wd_ltm2, wd_lem2, wd_bit0', wd_bit1', wd_shl, wd_or, wd_dif, hs (k + i) (by omega), jd_add]
      rw [if_neg (by omega)]
    · intro m
      rw [show k + (10 - k) = 10 from by omega, e10]
      simp (disch := omega) only [f_X12_chance_l174, f_X12_chance_b174, ht, Nat.le_refl, wd_lit, wd_of, wd_add, wd_mul, wd_neg, Option.bind_some, bnd, rdI_wd, wrI_wd, rdJ_wd, wrJ_wd, wd_31, wd_le, wd_lt, wd_inj, wd_eqm, wd_eqm', wd_ltm, wd_lem, wd_ltm2, wd_lem2, wd_bit0', wd_bit1', wd_shl, wd_or, wd_dif, i01_t, i01_f, jd_lit, i01_bz, bz_1, bz_0, f_X11_refuse, f_X11_answer, f_X11_allow, f_X11_deny, f_X12_refuse, f_X12_gives, f_X12_is, Option.some.injEq, exists_eq', if_true, if_false, ↓reduceIte, Nat.reduceEqDiff, Nat.reduceLT, Nat.reduceAdd]
  have l2 : ∀ s, (∀ j, j < 10 → s j = jd (bb g (20 - g) 0 j)) → ∃ r, f_X12_chance_l89 fu at_ x1 (wd n) (wd k) fu st tp bt' s (wd g) (jd 1) (wd 0) = some r ∧ ∃ s', r = (wd 1, wd 0, p, q, s') := by
    intro s hs
    refine loop_inv (fun m i (s : Nat → Int64) => f_X12_chance_l89 fu at_ x1 (wd n) (wd k) m st tp bt' s (wd g) (jd (20 ^ i)) (wd i)) (fun i s => ∀ j, j < 10 → s j = jd (bb g (20 - g) i j)) _ n ?_ ?_ 0 fu s (by omega) (by omega) hs
    · intro m i s hi hs
      obtain ⟨s', e1, e2⟩ := r_chance1 (n := n) (k := k) (at_ := at_) (x1 := x1) (x3 := wd k) (st := st) (tp := tp) (bt' := bt') (x5 := jd (20 ^ i)) (K := f_X12_chance_l89 fu at_ x1 (wd n) (wd k) m) hg (show i < 10 by omega) hs hf
      refine ⟨s', ?_, e2⟩
      rw [Nat.pow_succ, ← jd_mul, ← e1]
      show f_X12_chance_b89 fu at_ x1 (wd n) (wd k) _ st tp bt' s (wd g) (jd (20 ^ i)) (wd i) = _
      unfold f_X12_chance_b89
      rw [if_neg (by rw [wd_le (by omega) (by omega)]; omega)]
    · intro m s hs
      refine ⟨_, ?_, s, rfl⟩
      show f_X12_chance_b89 fu at_ x1 (wd n) (wd k) _ st tp bt' s (wd g) (jd (20 ^ n)) (wd n) = _
      unfold f_X12_chance_b89
      rw [if_pos (by rw [wd_le (by omega) (by omega)]; omega)]
      exact l3 s hs
  have l1 := loop_inv (fun m i (s : Nat → Int64) => f_X12_chance_l56 fu at_ x1 (wd n) (wd k) m st tp bt' s (wd g) (jd 1) (wd i)) (fun i s => ∀ j, j < i → s j = jd (bb g (20 - g) 0 j)) (fun r => ∃ s', r = (wd 1, wd 0, p, q, s')) 10 ?_ ?_ 0 fu s (by omega) (by omega) (fun j hj => absurd hj (by omega))
  · obtain ⟨r, e, s', rfl⟩ := l1
    exact ⟨s', e⟩
  · intro m i s hi hs
    refine ⟨vp_updL s i (jd (bb g (20 - g) 0 i)), ?_, ?_⟩
    · simp (disch := omega) only [f_X12_chance_l56, f_X12_chance_b56, wd_lit, wd_of, wd_add, wd_mul, wd_neg, Option.bind_some, bnd, rdI_wd, wrI_wd, rdJ_wd, wrJ_wd, wd_31, wd_le, wd_lt, wd_inj, wd_eqm, wd_eqm', wd_ltm, wd_lem, wd_ltm2, wd_lem2, wd_bit0', wd_bit1', wd_shl, wd_or, wd_dif, i01_t, i01_f, jd_lit, i01_bz, bz_1, bz_0, f_X11_refuse, f_X11_answer, f_X11_allow, f_X11_deny, f_X12_refuse, f_X12_gives, f_X12_is, Option.some.injEq, exists_eq', if_true, if_false, ↓reduceIte, Nat.reduceEqDiff, Nat.reduceLT, Nat.reduceAdd]
      rw [if_neg (by omega)]
      by_cases h0 : i = 0
      · subst h0; rfl
      · rw [if_neg h0]
        have : bb g (20 - g) 0 i = 0 := if_neg h0
        rw [this]
    · intro j hj
      by_cases hji : j = i
      · subst hji; rw [updL_eq]
      · rw [updL_ne hji]; exact hs j (by omega)
  · intro m s hs
    obtain ⟨r, e, h⟩ := l2 s hs
    refine ⟨r, ?_, h⟩
    simp (disch := omega) only [f_X12_chance_l56, f_X12_chance_b56, wd_lit, wd_of, wd_add, wd_mul, wd_neg, Option.bind_some, bnd, rdI_wd, wrI_wd, rdJ_wd, wrJ_wd, wd_31, wd_le, wd_lt, wd_inj, wd_eqm, wd_eqm', wd_ltm, wd_lem, wd_ltm2, wd_lem2, wd_bit0', wd_bit1', wd_shl, wd_or, wd_dif, i01_t, i01_f, jd_lit, i01_bz, bz_1, bz_0, f_X11_refuse, f_X11_answer, f_X11_allow, f_X11_deny, f_X12_refuse, f_X12_gives, f_X12_is, Option.some.injEq, exists_eq', if_true, if_false, ↓reduceIte, Nat.reduceEqDiff, Nat.reduceLT, Nat.reduceAdd]
    exact e
theorem Q1_chance {fu : Nat} (hf : 1000 ≤ fu) : Q_chance fu RR := by
  intro S M x1 x2 x3 h
  obtain ⟨c, hW, hA, hN, hWr⟩ := h.2.2.1
  have h8 := hW.1
  have hc := hW.2.1
  have ec := hA.2.1
  have ep := hA.2.2.2.1
  have hV := hA.1
  cases q0 : imn c x1
  · refine q_of (r := wd 0) (bind_e (z := (wd 0, wd 1, vX11_fractionTop (S_b S), vX11_fractionBottom (S_b S))) ?_) (bind_e (z := (wd 0, wd 1, vX12_top M, vX12_bottom M, vX12_stoodBy M)) ?_) ⟨⟨rfl, h.1.2⟩, h.2⟩ <;> simp (disch := omega) only [f_X11_chance, f_X12_chance, q0, ec, c_isM, r_isM hc, wd_lit, wd_of, wd_add, wd_mul, wd_neg, Option.bind_some, bnd, rdI_wd, wrI_wd, rdJ_wd, wrJ_wd, wd_31, wd_le, wd_lt, wd_inj, wd_eqm, wd_eqm', wd_ltm, wd_lem, wd_ltm2, wd_lem2, wd_bit0', wd_bit1', wd_shl, wd_or, wd_dif, i01_t, i01_f, jd_lit, i01_bz, bz_1, bz_0, f_X11_refuse, f_X11_answer, f_X11_allow, f_X11_deny, f_X12_refuse, f_X12_gives, f_X12_is, Option.some.injEq, exists_eq', if_true, if_false, ↓reduceIte, Nat.reduceEqDiff, Nat.reduceLT, Nat.reduceAdd]
  · obtain ⟨m, hm, rfl⟩ := imn_ex (by omega) q0
    cases q1 : wn 0 9 x2
    · refine q_of (r := wd 0) (bind_e (z := (wd 0, wd 1, vX11_fractionTop (S_b S), vX11_fractionBottom (S_b S))) ?_) (bind_e (z := (wd 0, wd 1, vX12_top M, vX12_bottom M, vX12_stoodBy M)) ?_) ⟨⟨rfl, h.1.2⟩, h.2⟩ <;> simp (disch := omega) only [f_X11_chance, f_X12_chance, q0, q1, ec, c_isM, r_isM hc, c_within, r_from, wd_lit, wd_of, wd_add, wd_mul, wd_neg, Option.bind_some, bnd, rdI_wd, wrI_wd, rdJ_wd, wrJ_wd, wd_31, wd_le, wd_lt, wd_inj, wd_eqm, wd_eqm', wd_ltm, wd_lem, wd_ltm2, wd_lem2, wd_bit0', wd_bit1', wd_shl, wd_or, wd_dif, i01_t, i01_f, jd_lit, i01_bz, bz_1, bz_0, f_X11_refuse, f_X11_answer, f_X11_allow, f_X11_deny, f_X12_refuse, f_X12_gives, f_X12_is, Option.some.injEq, exists_eq', if_true, if_false, ↓reduceIte, Nat.reduceEqDiff, Nat.reduceLT, Nat.reduceAdd]
    · cases q2 : wn 0 9 x3
      · refine q_of (r := wd 0) (bind_e (z := (wd 0, wd 1, vX11_fractionTop (S_b S), vX11_fractionBottom (S_b S))) ?_) (bind_e (z := (wd 0, wd 1, vX12_top M, vX12_bottom M, vX12_stoodBy M)) ?_) ⟨⟨rfl, h.1.2⟩, h.2⟩ <;> simp (disch := omega) only [f_X11_chance, f_X12_chance, q0, q1, q2, ec, c_isM, r_isM hc, c_within, r_from, wd_lit, wd_of, wd_add, wd_mul, wd_neg, Option.bind_some, bnd, rdI_wd, wrI_wd, rdJ_wd, wrJ_wd, wd_31, wd_le, wd_lt, wd_inj, wd_eqm, wd_eqm', wd_ltm, wd_lem, wd_ltm2, wd_lem2, wd_bit0', wd_bit1', wd_shl, wd_or, wd_dif, i01_t, i01_f, jd_lit, i01_bz, bz_1, bz_0, f_X11_refuse, f_X11_answer, f_X11_allow, f_X11_deny, f_X12_refuse, f_X12_gives, f_X12_is, Option.some.injEq, exists_eq', if_true, if_false, ↓reduceIte, Nat.reduceEqDiff, Nat.reduceLT, Nat.reduceAdd]
      · obtain ⟨n, _, hn, rfl⟩ := wn_ex (by omega) (by omega) q1
        obtain ⟨k, _, hk, rfl⟩ := wn_ex (by omega) (by omega) q2
        obtain ⟨b, hb, eb⟩ := brv_le hW hm
        obtain ⟨g, hg, eg⟩ : ∃ g, g ≤ 20 ∧ (if b < 20 then wd b else wd 20) = wd g := by
          by_cases hb2 : b < 20
          · exact ⟨b, by omega, if_pos hb2⟩
          · exact ⟨20, by omega, if_neg hb2⟩
        have hp : 20 ^ n ≤ 20 ^ 9 := Nat.pow_le_pow_right (by omega) hn
        have hp0 : 0 < 20 ^ n := Nat.pow_pos (by omega)
        have h40 : 40 ^ n ≤ 40 ^ 9 := Nat.pow_le_pow_right (by omega) hn
        have e9 : (20 : Nat) ^ 9 = 512000000000 := by decide
        have e9' : (40 : Nat) ^ 9 = 262144000000000 := by decide
        have hs := nsm_le (f := cht g n k) (b := 40 ^ n) (fun i => by
          unfold cht
          split
          · exact bb_le hg (by omega) n i
          · exact Nat.zero_le _) (n + 1)
        have hs2 : 40 ^ n * (n + 1) ≤ 262144000000000 * 10 := Nat.mul_le_mul (by omega) (by omega)
        obtain ⟨p, q, e1, e2⟩ := t_tell (fu := fu) (a := nsm (cht g n k) (n + 1)) (b := 20 ^ n) (t0 := vX11_fractionTop (S_b S)) (b0 := vX11_fractionBottom (S_b S)) (t1 := vX12_top M) (b1 := vX12_bottom M) (st := vX12_status M) (by omega) (by omega) hp0 hf
        obtain ⟨s', e3⟩ := r_chance (k := k) (at_ := vX12_at M) (x1 := wd m) (s := vX12_stoodBy M) hg hn hk hf e2
        refine q_of (r := wd 1) (bind_e (z := (wd 1, wd 0, p, q)) ?_) (bind_e (z := (wd 1, wd 0, p, q, s')) ?_) ⟨⟨rfl, rfl, rfl⟩, h.2⟩
        · simp (disch := omega) only [f_X11_chance, q0, q1, q2, ec, ep, c_isM, c_within, c_bravery hm h8 (hV.1 m hm) (hV.2.2.1 m hm), eb, eg, c_ways hg hn hk hf, c_raised, e1, wd_lit, wd_of, wd_add, wd_mul, wd_neg, Option.bind_some, bnd, rdI_wd, wrI_wd, rdJ_wd, wrJ_wd, wd_31, wd_le, wd_lt, wd_inj, wd_eqm, wd_eqm', wd_ltm, wd_lem, wd_ltm2, wd_lem2, wd_bit0', wd_bit1', wd_shl, wd_or, wd_dif, i01_t, i01_f, jd_lit, i01_bz, bz_1, bz_0, f_X11_refuse, f_X11_answer, f_X11_allow, f_X11_deny, f_X12_refuse, f_X12_gives, f_X12_is, Option.some.injEq, exists_eq', if_true, if_false, ↓reduceIte, Nat.reduceEqDiff, Nat.reduceLT, Nat.reduceAdd]
        · simp (disch := omega) only [f_X12_chance, q0, q1, q2, r_isM hc, r_from, r_braveOf, eb, eg, e3, wd_lit, wd_of, wd_add, wd_mul, wd_neg, Option.bind_some, bnd, rdI_wd, wrI_wd, rdJ_wd, wrJ_wd, wd_31, wd_le, wd_lt, wd_inj, wd_eqm, wd_eqm', wd_ltm, wd_lem, wd_ltm2, wd_lem2, wd_bit0', wd_bit1', wd_shl, wd_or, wd_dif, i01_t, i01_f, jd_lit, i01_bz, bz_1, bz_0, f_X11_refuse, f_X11_answer, f_X11_allow, f_X11_deny, f_X12_refuse, f_X12_gives, f_X12_is, Option.some.injEq, exists_eq', if_true, if_false, ↓reduceIte, Nat.reduceEqDiff, Nat.reduceLT, Nat.reduceAdd]
