/-! long numbers -/
theorem jd_add (a b : Nat) : jd a + jd b = jd (a + b) := (Int64.ofNat_add a b).symm
theorem jd_mul (a b : Nat) : jd a * jd b = jd (a * b) := (Int64.ofNat_mul a b).symm
theorem jd_sub {a b : Nat} (h : b ≤ a) : jd a - jd b = jd (a - b) := (Int64.ofNat_sub a b h).symm
theorem jd_div {a b : Nat} (ha : a < 9223372036854775808) (hb : b < 9223372036854775808) : jd a / jd b = jd (a / b) := by
  apply Int64.toInt_inj.1
  have hd : a / b ≤ a := Nat.div_le_self a b
  rw [Int64.toInt_div, jd_int ha, jd_int hb, jd_int (by omega), ← Int.ofNat_tdiv]
  generalize a / b = q at hd ⊢
  apply Int.bmod_eq_of_le <;> omega
theorem jd_mod {a b : Nat} (ha : a < 9223372036854775808) (hb : b < 9223372036854775808) : jd a - jd a / jd b * jd b = jd (a % b) := by
  rw [jd_div ha hb, jd_mul, jd_sub (Nat.div_mul_le_self a b)]
  congr 1
  have := Nat.div_add_mod a b
  rw [Nat.mul_comm] at this
  omega
theorem jd_inj {a b : Nat} (ha : a < 9223372036854775808) (hb : b < 9223372036854775808) : (jd a = jd b) = (a = b) := by
  apply propext
  constructor
  · intro h
    have := congrArg Int64.toInt h
    rw [jd_int ha, jd_int hb] at this
    omega
  · intro h; rw [h]
theorem jd_le {a b : Nat} (ha : a < 9223372036854775808) (hb : b < 9223372036854775808) : (jd a ≤ jd b) = (a ≤ b) := by
  rw [Int64.le_iff_toInt_le, jd_int ha, jd_int hb]; exact propext (by omega)
theorem jd_lt {a b : Nat} (ha : a < 9223372036854775808) (hb : b < 9223372036854775808) : (jd a < jd b) = (a < b) := by
  rw [Int64.lt_iff_toInt_lt, jd_int ha, jd_int hb]; exact propext (by omega)
theorem jd_nz {a : Nat} (ha : a < 9223372036854775808) (h0 : a ≠ 0) : nzJ (jd a) = some (jd a) := by
  unfold nzJ
  rw [if_neg]
  rw [jd_lit, jd_inj ha (by omega)]
  exact h0
theorem wd_64 {a : Nat} (h : a < 2147483648) : Int32.toInt64 (wd a) = jd a := by
  apply Int64.toInt_inj.1
  rw [Int32.toInt_toInt64, wd_int h, jd_int (by omega)]
theorem jd_lgc {a b : Nat} (ha : a < 9223372036854775808) (hb : b < 9223372036854775808) : (lg_cmp (jd a) (jd b) = 0) = (a = b) := by rw [lgc_eq, jd_inj ha hb]
theorem lgc_le {x y : Int64} : (lg_cmp x y ≤ 0) = (x ≤ y) := by
  have := lgc_gt (x := x) (y := y)
  rw [← Int32.not_lt, this, Int64.not_lt]
theorem lgc_eqw {x y : Int64} : (lg_cmp x y = wd 0) = (x = y) := lgc_eq
theorem lgc_ltw {x y : Int64} : (lg_cmp x y < wd 0) = (x < y) := lgc_lt
theorem lgc_lew {x y : Int64} : (lg_cmp x y ≤ wd 0) = (x ≤ y) := lgc_le
theorem lgc_gtw {x y : Int64} : (wd 0 < lg_cmp x y) = (y < x) := lgc_gt
theorem euc_half {x y : Nat} (hy : 0 < y) (hr : 0 < x % y) : 2 * (y % (x % y)) < y := by
  have h1 : x % y < y := Nat.mod_lt x hy
  have h2 : y % (x % y) < x % y := Nat.mod_lt y hr
  by_cases h : 2 * (x % y) ≤ y
  · omega
  · have : y % (x % y) = y - x % y := by
      rw [Nat.mod_eq_sub_mod (by omega), Nat.mod_eq_of_lt (by omega)]
    omega
theorem gcd_st (x y : Nat) : Nat.gcd x y = Nat.gcd y (x % y) := by rw [Nat.gcd_comm x y, Nat.gcd_rec, Nat.gcd_comm]
theorem c_gcd {fu : Nat} {a b : Int64} : ∀ k x y t n, y < 2 ^ k → k ≤ 62 → x < 9223372036854775808 → t + 2 * k + 1 ≤ 200 → 2 * k + 2 ≤ n → f_X11_commonDivisor_l9 fu a b n (jd x) (jd y) (wd t) = some (jd (Nat.gcd x y)) := by
  intro k
  induction k with
  | zero =>
    intro x y t n hy hk hx ht hn
    obtain ⟨n, rfl⟩ : ∃ m, n = m + 1 := ⟨n - 1, by omega⟩
    have hy0 : y = 0 := by omega
    subst hy0
    simp (disch := omega) only [f_X11_commonDivisor_l9, f_X11_commonDivisor_b9, wd_lit, wd_of, wd_add, wd_mul, wd_neg, Option.bind_some, bnd, rdI_wd, wrI_wd, rdJ_wd, wrJ_wd, wd_31, wd_le, wd_lt, wd_inj, wd_eqm, wd_eqm', wd_ltm, wd_lem, wd_ltm2, wd_lem2, wd_bit0', wd_bit1', wd_shl, wd_or, wd_dif, jd_lit, lgc_eqw, jd_inj, if_true]
    rw [if_neg (by omega), Nat.gcd_zero_right]
  | succ k ih =>
    intro x y t n hy hk hx ht hn
    have hp : (2 : Nat) ^ (k + 1) ≤ 2 ^ 62 := Nat.pow_le_pow_right (by omega) (by omega)
    obtain ⟨n, rfl⟩ : ∃ m, n = m + 1 + 1 := ⟨n - 2, by omega⟩
    have hp2 : (2 : Nat) ^ (k + 1) = 2 * 2 ^ k := by rw [Nat.pow_succ]; omega
    have e62 : (2 : Nat) ^ 62 = 4611686018427387904 := by decide
    by_cases h0 : y = 0
    · subst h0
      simp (disch := omega) only [f_X11_commonDivisor_l9, f_X11_commonDivisor_b9, wd_lit, wd_of, wd_add, wd_mul, wd_neg, Option.bind_some, bnd, rdI_wd, wrI_wd, rdJ_wd, wrJ_wd, wd_31, wd_le, wd_lt, wd_inj, wd_eqm, wd_eqm', wd_ltm, wd_lem, wd_ltm2, wd_lem2, wd_bit0', wd_bit1', wd_shl, wd_or, wd_dif, jd_lit, lgc_eqw, jd_inj, if_true]
      rw [if_neg (by omega), Nat.gcd_zero_right]
    · have h1 : x % y < y := Nat.mod_lt x (by omega)
      rw [gcd_st x y]
      rw [f_X11_commonDivisor_l9, f_X11_commonDivisor_b9]
      simp (disch := omega) only [wd_lit, wd_of, wd_add, wd_mul, wd_neg, Option.bind_some, bnd, rdI_wd, wrI_wd, rdJ_wd, wrJ_wd, wd_31, wd_le, wd_lt, wd_inj, wd_eqm, wd_eqm', wd_ltm, wd_lem, wd_ltm2, wd_lem2, wd_bit0', wd_bit1', wd_shl, wd_or, wd_dif, jd_lit, lgc_eqw, jd_inj, h0, if_false, jd_nz, jd_mod]
      rw [if_neg (by omega)]
      by_cases h2 : x % y = 0
      · rw [h2, Nat.gcd_zero_right]
        simp (disch := omega) only [f_X11_commonDivisor_l9, f_X11_commonDivisor_b9, wd_lit, wd_of, wd_add, wd_mul, wd_neg, Option.bind_some, bnd, rdI_wd, wrI_wd, rdJ_wd, wrJ_wd, wd_31, wd_le, wd_lt, wd_inj, wd_eqm, wd_eqm', wd_ltm, wd_lem, wd_ltm2, wd_lem2, wd_bit0', wd_bit1', wd_shl, wd_or, wd_dif, jd_lit, lgc_eqw, jd_inj, if_true]
        rw [if_neg (by omega)]
      · have h3 := euc_half (x := x) (y := y) (by omega) (by omega)
        rw [gcd_st y (x % y)]
        rw [f_X11_commonDivisor_l9, f_X11_commonDivisor_b9]
        simp (disch := omega) only [wd_lit, wd_of, wd_add, wd_mul, wd_neg, Option.bind_some, bnd, rdI_wd, wrI_wd, rdJ_wd, wrJ_wd, wd_31, wd_le, wd_lt, wd_inj, wd_eqm, wd_eqm', wd_ltm, wd_lem, wd_ltm2, wd_lem2, wd_bit0', wd_bit1', wd_shl, wd_or, wd_dif, jd_lit, lgc_eqw, jd_inj, h2, if_false, jd_nz, jd_mod]
        rw [if_neg (by omega)]
        exact ih (x % y) (y % (x % y)) (t + 1 + 1) n (by omega) (by omega) (by omega) (by omega) (by omega)
theorem r_gcd {fu : Nat} {a b tp bt' : Int64} {st : Int32} (P : Option (Int32 × Int32 × Int64 × Int64)) : ∀ k x y n, y < 2 ^ k → k ≤ 62 → x < 9223372036854775808 → 2 * k + 2 ≤ n → (∀ m, f_X12_tellsBy_l6 fu a b (m + 1) st tp bt' (jd (Nat.gcd x y)) (jd 0) = P) → f_X12_tellsBy_l6 fu a b n st tp bt' (jd x) (jd y) = P := by
  intro k
  induction k with
  | zero =>
    intro x y n hy hk hx hn hP
    obtain ⟨n, rfl⟩ : ∃ m, n = m + 1 := ⟨n - 1, by omega⟩
    have hy0 : y = 0 := by omega
    subst hy0
    rw [Nat.gcd_zero_right] at hP
    exact hP n
  | succ k ih =>
    intro x y n hy hk hx hn hP
    have hp : (2 : Nat) ^ (k + 1) ≤ 2 ^ 62 := Nat.pow_le_pow_right (by omega) (by omega)
    obtain ⟨n, rfl⟩ : ∃ m, n = m + 1 + 1 := ⟨n - 2, by omega⟩
    have hp2 : (2 : Nat) ^ (k + 1) = 2 * 2 ^ k := by rw [Nat.pow_succ]; omega
    have e62 : (2 : Nat) ^ 62 = 4611686018427387904 := by decide
    by_cases h0 : y = 0
    · subst h0
      rw [Nat.gcd_zero_right] at hP
      exact hP (n + 1)
    · have h1 : x % y < y := Nat.mod_lt x (by omega)
      rw [gcd_st x y] at hP
      rw [f_X12_tellsBy_l6, f_X12_tellsBy_b6]
      simp (disch := omega) only [wd_lit, wd_of, wd_add, wd_mul, wd_neg, Option.bind_some, bnd, rdI_wd, wrI_wd, rdJ_wd, wrJ_wd, wd_31, wd_le, wd_lt, wd_inj, wd_eqm, wd_eqm', wd_ltm, wd_lem, wd_ltm2, wd_lem2, wd_bit0', wd_bit1', wd_shl, wd_or, wd_dif, jd_lit, lgc_eqw, jd_inj, h0, if_false, jd_nz, jd_mod]
      by_cases h2 : x % y = 0
      · rw [h2, Nat.gcd_zero_right] at hP
        rw [h2]
        exact hP n
      · have h3 := euc_half (x := x) (y := y) (by omega) (by omega)
        rw [gcd_st y (x % y)] at hP
        rw [f_X12_tellsBy_l6, f_X12_tellsBy_b6]
        simp (disch := omega) only [wd_lit, wd_of, wd_add, wd_mul, wd_neg, Option.bind_some, bnd, rdI_wd, wrI_wd, rdJ_wd, wrJ_wd, wd_31, wd_le, wd_lt, wd_inj, wd_eqm, wd_eqm', wd_ltm, wd_lem, wd_ltm2, wd_lem2, wd_bit0', wd_bit1', wd_shl, wd_or, wd_dif, jd_lit, lgc_eqw, jd_inj, h2, if_false, jd_nz, jd_mod]
        exact ih (x % y) (y % (x % y)) n (by omega) (by omega) (by omega) (by omega) hP
theorem t_tell {fu a b : Nat} {t0 b0 t1 b1 : Int64} {st : Int32} (ha : a < 4611686018427387904) (hb : b < 4611686018427387904) (hb0 : 0 < b) (hf : 1000 ≤ fu) : ∃ p q, f_X11_tell fu t0 b0 (jd a) (jd b) = some (p, q) ∧ f_X12_tellsBy fu st t1 b1 (jd a) (jd b) = some (wd 1, wd 0, p, q) := by
  have hg : Nat.gcd a b ≤ b := Nat.gcd_le_right a hb0
  have hg0 : Nat.gcd a b ≠ 0 := by
    have := Nat.gcd_pos_of_pos_right a hb0
    omega
  have e62 : (2 : Nat) ^ 62 = 4611686018427387904 := by decide
  refine ⟨jd a / jd (Nat.gcd a b), jd b / jd (Nat.gcd a b), ?_, ?_⟩
  · have e1 : f_X11_commonDivisor fu (jd a) (jd b) = some (jd (Nat.gcd a b)) := c_gcd 62 a b 0 fu (by omega) (by omega) (by omega) (by omega) (by omega)
    unfold f_X11_tell
    simp (disch := omega) only [e1, Option.bind_some, wd_lit, lgc_lew, jd_lit, jd_le, jd_nz, bnd]
    rw [if_neg (by omega)]
  · unfold f_X12_tellsBy
    refine r_gcd _ 62 a b fu (by omega) (by omega) (by omega) (by omega) ?_
    intro m
    simp (disch := omega) only [f_X12_tellsBy_l6, f_X12_tellsBy_b6, lgc_eqw, jd_lit, if_true, jd_nz, wd_lit, wd_of, wd_add, wd_mul, wd_neg, Option.bind_some, bnd, rdI_wd, wrI_wd, rdJ_wd, wrJ_wd, wd_31, wd_le, wd_lt, wd_inj, wd_eqm, wd_eqm', wd_ltm, wd_lem, wd_ltm2, wd_lem2, wd_bit0', wd_bit1', wd_shl, wd_or, wd_dif, i01_t, i01_f, jd_lit, i01_bz, bz_1, bz_0, f_X11_refuse, f_X11_answer, f_X11_allow, f_X11_deny, f_X12_refuse, f_X12_gives, f_X12_is, Option.some.injEq, exists_eq', if_true, if_false, ↓reduceIte, Nat.reduceEqDiff, Nat.reduceLT, Nat.reduceAdd]
/-! who carries a board -/
def fac : Nat → Nat
  | 0 => 1
  | n + 1 => (n + 1) * fac n
theorem c_orders {fu k : Nat} (hk : k ≤ 8) : f_X3_ordersOf fu (wd k) = some (wd (fac k)) := by
  have q : wn 0 8 (wd k) = true := by rw [wn_wd (by omega) (by omega) (by omega)]; simp; omega
  simp (disch := omega) only [f_X3_ordersOf, wd_lit, wd_of, wd_add, wd_mul, wd_neg, Option.bind_some, bnd, rdI_wd, wrI_wd, rdJ_wd, wrJ_wd, wd_31, wd_le, wd_lt, wd_inj, wd_eqm, wd_eqm', wd_ltm, wd_lem, wd_ltm2, wd_lem2, wd_bit0', wd_bit1', wd_shl, wd_or, wd_dif, c_within, q, i01_t, Nat.reduceEqDiff, if_false]
  obtain rfl | rfl | rfl | rfl | rfl | rfl | rfl | rfl | rfl : k = 0 ∨ k = 1 ∨ k = 2 ∨ k = 3 ∨ k = 4 ∨ k = 5 ∨ k = 6 ∨ k = 7 ∨ k = 8 := by omega
  all_goals rfl
theorem r_orders {fu k : Nat} (hk : k ≤ 8) (hf : 1000 ≤ fu) : f_X12_ordersOf fu (wd k) = some (wd (fac k)) := by
  unfold f_X12_ordersOf
  have e : fac k = fac (k - 1 + 1) := by
    cases k with
    | zero => rfl
    | succ k => rfl
  rw [e]
  refine loop_seq (fun n i (x : Nat) => f_X12_ordersOf_l4 fu (wd k) n (wd x) (wd (i + 2))) (fun i => fac (i + 1)) (k - 1) _ ?_ ?_ 0 fu (by omega) (by omega)
  · intro n i hi
    simp (disch := omega) only [f_X12_ordersOf_l4, f_X12_ordersOf_b4, wd_lit, wd_of, wd_add, wd_mul, wd_neg, Option.bind_some, bnd, rdI_wd, wrI_wd, rdJ_wd, wrJ_wd, wd_31, wd_le, wd_lt, wd_inj, wd_eqm, wd_eqm', wd_ltm, wd_lem, wd_ltm2, wd_lem2, wd_bit0', wd_bit1', wd_shl, wd_or, wd_dif]
    rw [if_neg (by omega)]
    congr 1
    rw [Nat.mul_comm]; rfl
  · intro n
    simp (disch := omega) only [f_X12_ordersOf_l4, f_X12_ordersOf_b4, wd_lit, wd_of, wd_add, wd_mul, wd_neg, Option.bind_some, bnd, rdI_wd, wrI_wd, rdJ_wd, wrJ_wd, wd_31, wd_le, wd_lt, wd_inj, wd_eqm, wd_eqm', wd_ltm, wd_lem, wd_ltm2, wd_lem2, wd_bit0', wd_bit1', wd_shl, wd_or, wd_dif]
    rw [if_pos (by omega)]
theorem fac_8 : ∀ a, a ≤ 8 → ∀ b, b ≤ 8 - a → fac a * fac b ≤ 40320 := by decide +kernel
theorem fac_1 : ∀ a, a ≤ 8 → 1 ≤ fac a ∧ fac a ≤ 40320 := by decide +kernel
theorem pc_sub {x y : Nat} (h : ∀ k, x.testBit k = true → y.testBit k = true) : ∀ n, pc n x ≤ pc n y := by
  intro n
  induction n with
  | zero => exact Nat.le_refl 0
  | succ n ih =>
    show pc n x + (if x.testBit n then 1 else 0) ≤ pc n y + (if y.testBit n then 1 else 0)
    have := h n
    split
    · rename_i h1; rw [if_pos (this h1)]; omega
    · omega
theorem sdf0 {x y : Nat} (hx : x < 4294967296) (h : sdf x y = 0) : ∀ k, x.testBit k = true → y.testBit k = true := by
  intro k hk
  have := sdf_bit (b := y) hx k
  rw [h, Nat.zero_testBit, hk] at this
  simpa using this.symm
section
variable {fu c : Nat} {at_ cou wei med sto fle lik vot : Nat → Int32} {cnt liv pri quo mel los st st' : Int32}
def fok (at_ : Nat → Int32) (c s : Nat) : Bool := decide (sdf s (mask (alv at_) c) = 0) && cry at_ c s
def fbt (s : Nat) : Option Nat → Bool
  | none => true
  | some b => decide (pc 8 s < pc 8 b)
def fnb : Option Nat → Nat
  | none => 9
  | some b => pc 8 b
def fws (at_ : Nat → Int32) (c : Nat) : Nat → Option Nat
  | 0 => none
  | i + 1 => if fok at_ c (i + 1) && fbt (i + 1) (fws at_ c i) then some (i + 1) else fws at_ c i
theorem fws_s (at_ : Nat → Int32) (c i : Nat) : fws at_ c (i + 1) = if fok at_ c (i + 1) && fbt (i + 1) (fws at_ c i) then some (i + 1) else fws at_ c i := rfl
theorem fws_lt (at_ : Nat → Int32) (c : Nat) : ∀ i b, fws at_ c i = some b → b ≤ i := by
  intro i
  induction i with
  | zero => intro b h; cases h
  | succ i ih =>
    intro b h
    rw [fws_s] at h
    split at h
    · injection h with h; omega
    · have := ih b h; omega
theorem fbt_e (s : Nat) (x : Option Nat) : fbt s x = decide (pc 8 s < fnb x) := by
  cases x with
  | none =>
    have := pc_le s 8
    have h : pc 8 s < 9 := by omega
    simp [fbt, fnb, h]
  | some b => rfl
theorem c_fewestOf (h8 : c ≤ 8) (hf : 1000 ≤ fu) (hw : ∀ m, m < c → wei m = mn at_ m 1) : f_X3_fewestOf fu wei (wd c) (wd (mask (alv at_) c)) (at_ 2) = some (oe (fws at_ c (mask (alv at_) c))) := by
  have h256 := mask_256 (alv at_) h8
  unfold f_X3_fewestOf
  refine loop_seq (fun n i (x : Option Nat) => f_X3_fewestOf_l7 fu wei (wd c) (wd (mask (alv at_) c)) (at_ 2) n (oe x) (wd (fnb x)) (wd (i + 1))) (fun i => fws at_ c i) (mask (alv at_) c) _ ?_ ?_ 0 fu (by omega) (by omega)
  · intro n i hi
    have hs := sdf_le (i + 1) (mask (alv at_) c)
    have hp := pc_le (i + 1) 8
    have hfn : fnb (fws at_ c i) ≤ 9 := by
      cases hx : fws at_ c i with
      | none => exact Nat.le_refl 9
      | some b => have := pc_le b 8; show pc 8 b ≤ 9; omega
    rw [fws_s, fbt_e]
    simp (disch := omega) only [f_X3_fewestOf_l7, f_X3_fewestOf_b7, wd_lit, wd_of, wd_add, wd_mul, wd_neg, Option.bind_some, bnd, rdI_wd, wrI_wd, rdJ_wd, wrJ_wd, wd_31, wd_le, wd_lt, wd_inj, wd_eqm, wd_eqm', wd_ltm, wd_lem, wd_ltm2, wd_lem2, wd_bit0', wd_bit1', wd_shl, wd_or, wd_dif, c_bc, c_carried (show i + 1 < 2147483648 by omega) h8 hf hw, i01_0]
    rw [if_neg (by omega)]
    unfold fok
    by_cases q1 : sdf (i + 1) (mask (alv at_) c) = 0
    · rw [if_pos q1]
      by_cases q2 : fnb (fws at_ c i) ≤ pc 8 (i + 1)
      · rw [if_pos q2, if_neg (by simp; omega)]
      · rw [if_neg q2]
        cases q3 : cry at_ c (i + 1)
        · simp
        · have : pc 8 (i + 1) < fnb (fws at_ c i) := by omega
          simp only [q1, this, decide_true, Bool.and_self, if_true, oe_s, Bool.true_eq_false, if_false]
          rfl
    · simp [q1]
  · intro n
    simp (disch := omega) only [f_X3_fewestOf_l7, f_X3_fewestOf_b7, wd_lit, wd_of, wd_add, wd_mul, wd_neg, Option.bind_some, bnd, rdI_wd, wrI_wd, rdJ_wd, wrJ_wd, wd_31, wd_le, wd_lt, wd_inj, wd_eqm, wd_eqm', wd_ltm, wd_lem, wd_ltm2, wd_lem2, wd_bit0', wd_bit1', wd_shl, wd_or, wd_dif]
    rw [if_pos (by omega)]
theorem r_fewestOf (hc : at_ 0 = wd c) (h8 : c ≤ 8) (hf : 1000 ≤ fu) : f_X12_fewestOf fu at_ = some (oe (fws at_ c (mask (alv at_) c))) := by
  have h256 := mask_256 (alv at_) h8
  unfold f_X12_fewestOf
  refine loop_seq (fun n i (x : Option Nat) => f_X12_fewestOf_l4 fu at_ n (oe x) (wd (i + 1))) (fun i => fws at_ c i) (mask (alv at_) c) _ ?_ ?_ 0 fu (by omega) (by omega)
  · intro n i hi
    have hs := sdf_le (i + 1) (mask (alv at_) c)
    have hp := pc_le (i + 1) 8
    have hb := fws_lt at_ c i
    rw [fws_s]
    cases hx : fws at_ c i with
    | none =>
      simp (disch := omega) only [f_X12_fewestOf_l4, f_X12_fewestOf_b4, r_living hc h8 hf, r_doCarry (show i + 1 < 2147483648 by omega) hc h8 hf, wd_lit, wd_of, wd_add, wd_mul, wd_neg, Option.bind_some, bnd, rdI_wd, wrI_wd, rdJ_wd, wrJ_wd, wd_31, wd_le, wd_lt, wd_inj, wd_eqm, wd_eqm', wd_ltm, wd_lem, wd_ltm2, wd_lem2, wd_bit0', wd_bit1', wd_shl, wd_or, wd_dif, i01_0, oe_n]
      rw [if_neg (by omega)]
      unfold fok fbt
      by_cases q1 : sdf (i + 1) (mask (alv at_) c) = 0
      · rw [if_pos q1]
        cases q3 : cry at_ c (i + 1)
        · simp [oe_n]
        · simp [q1, oe_s]
      · simp [q1, oe_n]
    | some b =>
      have hbi := hb b hx
      have hpb := pc_le b 8
      simp (disch := omega) only [f_X12_fewestOf_l4, f_X12_fewestOf_b4, r_living hc h8 hf, r_doCarry (show i + 1 < 2147483648 by omega) hc h8 hf, wd_lit, wd_of, wd_add, wd_mul, wd_neg, Option.bind_some, bnd, rdI_wd, wrI_wd, rdJ_wd, wrJ_wd, wd_31, wd_le, wd_lt, wd_inj, wd_eqm, wd_eqm', wd_ltm, wd_lem, wd_ltm2, wd_lem2, wd_bit0', wd_bit1', wd_shl, wd_or, wd_dif, i01_0, oe_s, r_bits (show i + 1 < 256 by omega) hf, r_bits (show b < 256 by omega) hf]
      rw [if_neg (by omega)]
      unfold fok fbt
      by_cases q1 : sdf (i + 1) (mask (alv at_) c) = 0
      · rw [if_pos q1]
        cases q3 : cry at_ c (i + 1)
        · simp [oe_s]
        · by_cases q2 : pc 8 b ≤ pc 8 (i + 1)
          · have : ¬ pc 8 (i + 1) < pc 8 b := by omega
            simp [q1, q2, this, oe_s]
          · have : pc 8 (i + 1) < pc 8 b := by omega
            simp [q1, q2, this, oe_s]
      · simp [q1, oe_s]
  · intro n
    simp (disch := omega) only [f_X12_fewestOf_l4, f_X12_fewestOf_b4, r_living hc h8 hf, wd_lit, wd_of, wd_add, wd_mul, wd_neg, Option.bind_some, bnd, rdI_wd, wrI_wd, rdJ_wd, wrJ_wd, wd_31, wd_le, wd_lt, wd_inj, wd_eqm, wd_eqm', wd_ltm, wd_lem, wd_ltm2, wd_lem2, wd_bit0', wd_bit1', wd_shl, wd_or, wd_dif]
    rw [if_pos (by omega)]
end
theorem t_fewest {fu c : Nat} {at_ cou wei med sto fle lik vot : Nat → Int32} {cnt liv pri quo mel los st st' : Int32} (hW : WF at_ c) (hR : RA at_ c cou wei med sto fle lik cnt liv pri quo mel los) (hf : 1000 ≤ fu) : ∃ z, f_X11_fewest fu st wei cnt liv quo = some z ∧ f_X12_fewest fu at_ st' = some z := by
  obtain ⟨hV, rfl, rfl, rfl, rfl, rfl, rfl, h3, h4, h0⟩ := hR
  have h8 := hW.1
  have hc := hW.2.1
  have h256 := mask_256 (alv at_) h8
  cases hx : fws at_ c (mask (alv at_) c) with
  | none => apply two <;> simp (disch := omega) only [f_X11_fewest, f_X12_fewest, f_X11_fewestSet, f_X12_fewestSet, f_X12_orNone, c_fewestOf h8 hf hV.2.1, r_fewestOf hc h8 hf, hx, oe_n, wd_lit, wd_of, wd_add, wd_mul, wd_neg, Option.bind_some, bnd, rdI_wd, wrI_wd, rdJ_wd, wrJ_wd, wd_31, wd_le, wd_lt, wd_inj, wd_eqm, wd_eqm', wd_ltm, wd_lem, wd_ltm2, wd_lem2, wd_bit0', wd_bit1', wd_shl, wd_or, wd_dif, i01_t, i01_f, jd_lit, i01_bz, bz_1, bz_0, f_X11_refuse, f_X11_answer, f_X11_allow, f_X11_deny, f_X12_refuse, f_X12_gives, f_X12_is, Option.some.injEq, exists_eq', if_true, if_false, ↓reduceIte, Nat.reduceEqDiff, Nat.reduceLT, Nat.reduceAdd]
  | some b =>
    have := fws_lt at_ c _ b hx
    apply two <;> simp (disch := omega) only [f_X11_fewest, f_X12_fewest, f_X11_fewestSet, f_X12_fewestSet, f_X12_orNone, c_fewestOf h8 hf hV.2.1, r_fewestOf hc h8 hf, hx, oe_s, c_bc, r_bits (show b < 256 by omega) hf, wd_lit, wd_of, wd_add, wd_mul, wd_neg, Option.bind_some, bnd, rdI_wd, wrI_wd, rdJ_wd, wrJ_wd, wd_31, wd_le, wd_lt, wd_inj, wd_eqm, wd_eqm', wd_ltm, wd_lem, wd_ltm2, wd_lem2, wd_bit0', wd_bit1', wd_shl, wd_or, wd_dif, i01_t, i01_f, jd_lit, i01_bz, bz_1, bz_0, f_X11_refuse, f_X11_answer, f_X11_allow, f_X11_deny, f_X12_refuse, f_X12_gives, f_X12_is, Option.some.injEq, exists_eq', if_true, if_false, ↓reduceIte, Nat.reduceEqDiff, Nat.reduceLT, Nat.reduceAdd]
theorem Q1_fewest {fu : Nat} (hf : 1000 ≤ fu) : Q_fewest fu RR := by
  intro S M h
  obtain ⟨c, hW, hA, hN, hWr⟩ := h.2.2.1
  obtain ⟨z, e1, e2⟩ := t_fewest (st := vX11_latestStatus (S_b S)) (st' := vX12_status M) (vot := vX0_votes (S_a S)) hW hA hf
  exact q_of (bind_e e1) (bind_e e2) ⟨⟨rfl, h.1.2⟩, h.2⟩
theorem t_fewestSet {fu c : Nat} {at_ cou wei med sto fle lik vot : Nat → Int32} {cnt liv pri quo mel los st st' : Int32} (hW : WF at_ c) (hR : RA at_ c cou wei med sto fle lik cnt liv pri quo mel los) (hf : 1000 ≤ fu) : ∃ z, f_X11_fewestSet fu st wei cnt liv quo = some z ∧ f_X12_fewestSet fu at_ st' = some z := by
  obtain ⟨hV, rfl, rfl, rfl, rfl, rfl, rfl, h3, h4, h0⟩ := hR
  have h8 := hW.1
  have hc := hW.2.1
  have h256 := mask_256 (alv at_) h8
  cases hx : fws at_ c (mask (alv at_) c) with
  | none => apply two <;> simp (disch := omega) only [f_X11_fewest, f_X12_fewest, f_X11_fewestSet, f_X12_fewestSet, f_X12_orNone, c_fewestOf h8 hf hV.2.1, r_fewestOf hc h8 hf, hx, oe_n, wd_lit, wd_of, wd_add, wd_mul, wd_neg, Option.bind_some, bnd, rdI_wd, wrI_wd, rdJ_wd, wrJ_wd, wd_31, wd_le, wd_lt, wd_inj, wd_eqm, wd_eqm', wd_ltm, wd_lem, wd_ltm2, wd_lem2, wd_bit0', wd_bit1', wd_shl, wd_or, wd_dif, i01_t, i01_f, jd_lit, i01_bz, bz_1, bz_0, f_X11_refuse, f_X11_answer, f_X11_allow, f_X11_deny, f_X12_refuse, f_X12_gives, f_X12_is, Option.some.injEq, exists_eq', if_true, if_false, ↓reduceIte, Nat.reduceEqDiff, Nat.reduceLT, Nat.reduceAdd]
  | some b =>
    have := fws_lt at_ c _ b hx
    apply two <;> simp (disch := omega) only [f_X11_fewest, f_X12_fewest, f_X11_fewestSet, f_X12_fewestSet, f_X12_orNone, c_fewestOf h8 hf hV.2.1, r_fewestOf hc h8 hf, hx, oe_s, c_bc, r_bits (show b < 256 by omega) hf, wd_lit, wd_of, wd_add, wd_mul, wd_neg, Option.bind_some, bnd, rdI_wd, wrI_wd, rdJ_wd, wrJ_wd, wd_31, wd_le, wd_lt, wd_inj, wd_eqm, wd_eqm', wd_ltm, wd_lem, wd_ltm2, wd_lem2, wd_bit0', wd_bit1', wd_shl, wd_or, wd_dif, i01_t, i01_f, jd_lit, i01_bz, bz_1, bz_0, f_X11_refuse, f_X11_answer, f_X11_allow, f_X11_deny, f_X12_refuse, f_X12_gives, f_X12_is, Option.some.injEq, exists_eq', if_true, if_false, ↓reduceIte, Nat.reduceEqDiff, Nat.reduceLT, Nat.reduceAdd]
theorem Q1_fewestSet {fu : Nat} (hf : 1000 ≤ fu) : Q_fewestSet fu RR := by
  intro S M h
  obtain ⟨c, hW, hA, hN, hWr⟩ := h.2.2.1
  obtain ⟨z, e1, e2⟩ := t_fewestSet (st := vX11_latestStatus (S_b S)) (st' := vX12_status M) (vot := vX0_votes (S_a S)) hW hA hf
  exact q_of (bind_e e1) (bind_e e2) ⟨⟨rfl, h.1.2⟩, h.2⟩
