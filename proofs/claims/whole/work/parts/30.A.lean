def wd (n : Nat) : Int32 := Int32.ofNat n
def nn : Int32 := -1
theorem wd_neg : -(wd 1) = nn := (congrArg (fun x : Int32 => x) (Eq.refl nn)).trans (Eq.refl nn)
theorem wd_lit (n : Nat) : (no_index (OfNat.ofNat n) : Int32) = wd (OfNat.ofNat n) := by
  cases n with
  | zero => rfl
  | succ n => rfl
theorem wd_of (n : Nat) : Int32.ofNat n = wd n := by
  cases n with
  | zero => rfl
  | succ n => rfl
theorem wd_add (a b : Nat) : wd a + wd b = wd (a + b) := (Int32.ofNat_add a b).symm
theorem wd_mul (a b : Nat) : wd a * wd b = wd (a * b) := (Int32.ofNat_mul a b).symm
theorem wd_sub {a b : Nat} (h : b ≤ a) : wd a - wd b = wd (a - b) := (Int32.ofNat_sub a b h).symm
theorem wd_int {n : Nat} (h : n < 2147483648) : (wd n).toInt = n := by
  unfold wd
  rw [Int32.toInt_ofNat_of_lt (by omega)]
theorem wd_nat {n : Nat} (h : n < 2147483648) : (wd n).toNatClampNeg = n := by
  unfold wd
  rw [Int32.toNatClampNeg_ofNat_of_lt (by omega)]
theorem wd_le {a b : Nat} (ha : a < 2147483648) (hb : b < 2147483648) : (wd a ≤ wd b) = (a ≤ b) := by
  rw [Int32.le_iff_toInt_le, wd_int ha, wd_int hb]; exact propext (by omega)
theorem wd_lt {a b : Nat} (ha : a < 2147483648) (hb : b < 2147483648) : (wd a < wd b) = (a < b) := by
  rw [Int32.lt_iff_toInt_lt, wd_int ha, wd_int hb]; exact propext (by omega)
theorem wd_inj {a b : Nat} (ha : a < 2147483648) (hb : b < 2147483648) : (wd a = wd b) = (a = b) := by
  apply propext
  constructor
  · intro h
    have := congrArg Int32.toInt h
    rw [wd_int ha, wd_int hb] at this
    omega
  · intro h; rw [h]
theorem wd_m1 : nn.toInt = -1 := rfl
theorem wd_lt0 {a : Nat} (ha : a < 2147483648) : (wd a < wd 0) = False := by
  rw [wd_lt ha (by omega)]; exact eq_false (by omega)
theorem wd_eqm {a : Nat} (ha : a < 2147483648) : (wd a = nn) = False := by
  apply propext
  constructor
  · intro h
    have := congrArg Int32.toInt h
    rw [wd_int ha, wd_m1] at this
    omega
  · exact False.elim
theorem wd_eqm' {a : Nat} (ha : a < 2147483648) : (nn = wd a) = False := by
  apply eq_false; intro h; rw [← wd_eqm ha]; exact h.symm
theorem wd_ltm {a : Nat} (ha : a < 2147483648) : (nn < wd a) = True := by
  rw [Int32.lt_iff_toInt_lt, wd_int ha, wd_m1]; exact eq_true (by omega)
theorem wd_lem {a : Nat} (ha : a < 2147483648) : (wd a ≤ nn) = False := by
  rw [Int32.le_iff_toInt_le, wd_int ha, wd_m1]; exact eq_false (by omega)
theorem wd_ltm2 {a : Nat} (ha : a < 2147483648) : (wd a < nn) = False := by
  rw [Int32.lt_iff_toInt_lt, wd_int ha, wd_m1]; exact eq_false (by omega)
theorem wd_lem2 {a : Nat} (ha : a < 2147483648) : (nn ≤ wd a) = True := by
  rw [Int32.le_iff_toInt_le, wd_int ha, wd_m1]; exact eq_true (by omega)
theorem wd_and (a b : Nat) : wd a &&& wd b = wd (a &&& b) := by
  unfold wd
  apply Int32.toBitVec_inj.1
  simp
theorem wd_or (a b : Nat) : wd a ||| wd b = wd (a ||| b) := by
  unfold wd
  apply Int32.toBitVec_inj.1
  simp
theorem wd_31 {k : Nat} (h : k < 32) : wd k &&& wd 31 = wd k := by
  rw [wd_and]
  have : k &&& 31 = k := by
    have := Nat.and_two_pow_sub_one_eq_mod k 5
    simp only [Nat.reducePow, Nat.reduceSub] at this
    rw [this]; omega
  rw [this]
theorem rdI_wd {f : Nat → Int32} {N k : Nat} (h : k < N) (h2 : k < 2147483648) : rdI f N (wd k) = some (f k) := by
  unfold rdI
  rw [if_neg, wd_nat h2]
  rw [wd_nat h2]
  rintro (h3 | h3)
  · exact absurd h3 (by rw [show (0 : Int32) = wd 0 from rfl, wd_lt0 h2]; exact id)
  · omega
theorem rdJ_wd {f : Nat → Int64} {N k : Nat} (h : k < N) (h2 : k < 2147483648) : rdJ f N (wd k) = some (f k) := by
  unfold rdJ
  rw [if_neg, wd_nat h2]
  rw [wd_nat h2]
  rintro (h3 | h3)
  · exact absurd h3 (by rw [show (0 : Int32) = wd 0 from rfl, wd_lt0 h2]; exact id)
  · omega
theorem wrI_wd {f : Nat → Int32} {N k : Nat} {x : Int32} (h : k < N) (h2 : k < 2147483648) : wrI f N (wd k) x = some (upd f k x) := by
  unfold wrI
  rw [if_neg, wd_nat h2]
  rw [wd_nat h2]
  rintro (h3 | h3)
  · exact absurd h3 (by rw [show (0 : Int32) = wd 0 from rfl, wd_lt0 h2]; exact id)
  · omega
theorem wrJ_wd {f : Nat → Int64} {N k : Nat} {x : Int64} (h : k < N) (h2 : k < 2147483648) : wrJ f N (wd k) x = some (vp_updL f k x) := by
  unfold wrJ
  rw [if_neg, wd_nat h2]
  rw [wd_nat h2]
  rintro (h3 | h3)
  · exact absurd h3 (by rw [show (0 : Int32) = wd 0 from rfl, wd_lt0 h2]; exact id)
  · omega
theorem loop_seq {σ ρ : Type} (L : Nat → Nat → σ → ρ) (g : Nat → σ) (c : Nat) (r : ρ) (hs : ∀ n i, i < c → L (n + 1) i (g i) = L n (i + 1) (g (i + 1))) (he : ∀ n, L (n + 1) c (g c) = r) : ∀ i n, i ≤ c → c - i < n → L n i (g i) = r := by
  have key : ∀ d i n, i + d = c → d < n → L n i (g i) = r := by
    intro d
    induction d with
    | zero =>
      intro i n h1 h2
      obtain ⟨m, rfl⟩ : ∃ m, n = m + 1 := ⟨n - 1, by omega⟩
      have : i = c := by omega
      subst this
      exact he m
    | succ d ih =>
      intro i n h1 h2
      obtain ⟨m, rfl⟩ : ∃ m, n = m + 1 := ⟨n - 1, by omega⟩
      rw [hs m i (by omega)]
      exact ih (i + 1) m (by omega) (by omega)
  intro i n h1 h2
  exact key (c - i) i n (by omega) (by omega)
theorem wd_sm : ∀ k, k < 32 → (Int32.ofNat k).toBitVec.smod 32 = BitVec.ofNat 32 k := by decide +kernel
theorem wd_shl {a k : Nat} (h : k < 32) : wd a <<< wd k = wd (a <<< k) := by
  apply Int32.toBitVec_inj.1
  show (wd a).toBitVec <<< ((Int32.ofNat k).toBitVec.smod 32) = (Int32.ofNat (a <<< k)).toBitVec
  rw [wd_sm k h]
  apply BitVec.eq_of_toNat_eq
  show ((Int32.ofNat a).toBitVec <<< (BitVec.ofNat 32 k).toNat).toNat = _
  rw [BitVec.toNat_shiftLeft]
  simp only [Int32.toBitVec_ofNat, BitVec.toNat_ofNat, Nat.shiftLeft_eq, Int32.toBitVec_ofNat']
  rw [Nat.mod_eq_of_lt (show k < 2 ^ 32 by omega), Nat.mod_mul_mod]
theorem wd_shr {a k : Nat} (ha : a < 2147483648) (h : k < 32) : wd a >>> wd k = wd (a >>> k) := by
  apply Int32.toBitVec_inj.1
  show BitVec.sshiftRight' (wd a).toBitVec ((Int32.ofNat k).toBitVec.smod 32) = (Int32.ofNat (a >>> k)).toBitVec
  rw [wd_sm k h, BitVec.sshiftRight_eq']
  have h1 : (wd a).toBitVec.toNat = a := by
    show ((Int32.ofNat a).toBitVec).toNat = a
    simp only [Int32.toBitVec_ofNat', BitVec.toNat_ofNat]
    omega
  rw [BitVec.sshiftRight_eq_of_msb_false (by rw [BitVec.msb_eq_decide, h1]; simp; omega)]
  apply BitVec.eq_of_toNat_eq
  rw [BitVec.toNat_ushiftRight, h1]
  simp only [Int32.toBitVec_ofNat', BitVec.toNat_ofNat]
  rw [Nat.mod_eq_of_lt (show k < 2 ^ 32 by omega), Nat.mod_eq_of_lt]
  have := Nat.shiftRight_le a k
  omega
theorem wd_bit {a k : Nat} (ha : a < 2147483648) (h : k < 32) : (wd a >>> (wd k &&& wd 31)) &&& wd 1 = wd (if a.testBit k then 1 else 0) := by
  rw [wd_31 h, wd_shr ha h, wd_and]
  congr 1
  rw [Nat.testBit, Nat.and_comm]
  rcases Nat.mod_two_eq_zero_or_one (a >>> k) with h1 | h1
  · have : 1 &&& a >>> k = 0 := by rw [Nat.one_and_eq_mod_two, h1]
    rw [this]; rfl
  · have : 1 &&& a >>> k = 1 := by rw [Nat.one_and_eq_mod_two, h1]
    rw [this]; rfl
theorem wd_bit0 {a k : Nat} (ha : a < 2147483648) (h : k < 32) : ((wd a >>> (wd k &&& wd 31)) &&& wd 1 = wd 0) = (a.testBit k = false) := by
  rw [wd_bit ha h]
  cases h1 : a.testBit k
  · exact propext ⟨fun _ => rfl, fun _ => rfl⟩
  · apply propext
    constructor
    · intro h2
      exact absurd h2 (by decide)
    · intro h2; cases h2
theorem wd_bit1 {a k : Nat} (ha : a < 2147483648) (h : k < 32) : ((wd a >>> (wd k &&& wd 31)) &&& wd 1 = wd 1) = (a.testBit k = true) := by
  rw [wd_bit ha h]
  cases h1 : a.testBit k
  · apply propext
    constructor
    · intro h2
      exact absurd h2 (by decide)
    · intro h2; cases h2
  · exact propext ⟨fun _ => rfl, fun _ => rfl⟩
theorem wd_bit0' {a k : Nat} (ha : a < 2147483648) (h : k < 32) : ((wd a >>> wd k) &&& wd 1 = wd 0) = (a.testBit k = false) := by
  have := wd_bit0 ha h
  rwa [wd_31 h] at this
theorem wd_bit1' {a k : Nat} (ha : a < 2147483648) (h : k < 32) : ((wd a >>> wd k) &&& wd 1 = wd 1) = (a.testBit k = true) := by
  have := wd_bit1 ha h
  rwa [wd_31 h] at this
theorem wd_xor (a b : Nat) : wd a ^^^ wd b = wd (a ^^^ b) := by
  unfold wd
  apply Int32.toBitVec_inj.1
  simp
def sdf (a b : Nat) : Nat := a &&& (b ^^^ 4294967295)
theorem wd_dif (a b : Nat) : wd a &&& (wd b ^^^ nn) = wd (sdf a b) := by
  rw [show nn = wd 4294967295 from by decide, wd_xor, wd_and]; rfl
theorem sdf_bit {a b : Nat} (ha : a < 4294967296) (k : Nat) : (sdf a b).testBit k = (a.testBit k && !b.testBit k) := by
  unfold sdf
  rw [Nat.testBit_and, Nat.testBit_xor]
  by_cases hk : k < 32
  · have : Nat.testBit 4294967295 k = true := by
      have := Nat.testBit_two_pow_sub_one 32 k
      simp only [Nat.reducePow, Nat.reduceSub] at this
      rw [this]; simp [hk]
    rw [this]; simp
  · have : a.testBit k = false := Nat.testBit_lt_two_pow (Nat.lt_of_lt_of_le (show a < 2 ^ 32 by omega) (Nat.pow_le_pow_right (by omega) (by omega)))
    rw [this]; simp
theorem sdf_le (a b : Nat) : sdf a b ≤ a := Nat.and_le_left
/-! sets of less than nine -/
def mask (p : Nat → Bool) : Nat → Nat
  | 0 => 0
  | i + 1 => mask p i ||| (if p i then 1 <<< i else 0)
theorem mask_lt (p : Nat → Bool) : ∀ i, mask p i < 2 ^ i := by
  intro i
  induction i with
  | zero => exact Nat.zero_lt_one
  | succ i ih =>
    show mask p i ||| (if p i then 1 <<< i else 0) < _
    apply Nat.or_lt_two_pow
    · rw [Nat.pow_succ]; omega
    · split
      · rw [Nat.shiftLeft_eq, Nat.one_mul]; exact Nat.pow_lt_pow_right (by omega) (by omega)
      · exact Nat.two_pow_pos _
theorem mask_bit (p : Nat → Bool) (k : Nat) : ∀ i, (mask p i).testBit k = (decide (k < i) && p k) := by
  intro i
  induction i with
  | zero => simp [mask]
  | succ i ih =>
    show (mask p i ||| (if p i then 1 <<< i else 0)).testBit k = _
    rw [Nat.testBit_or, ih]
    by_cases h : k = i
    · subst h
      cases hp : p k <;> simp
    · have : (if p i then 1 <<< i else 0).testBit k = false := by
        split
        · rw [Nat.one_shiftLeft, Nat.testBit_two_pow]; simp; omega
        · simp
      rw [this]
      have : decide (k < i + 1) = decide (k < i) := by simp; omega
      rw [this]; simp
theorem mask_congr {p q : Nat → Bool} {c : Nat} (h : ∀ k, k < c → p k = q k) : mask p c = mask q c := by
  apply Nat.eq_of_testBit_eq
  intro k
  rw [mask_bit, mask_bit]
  by_cases hk : k < c
  · rw [h k hk]
  · simp [hk]
theorem mask_256 (p : Nat → Bool) {c : Nat} (h : c ≤ 8) : mask p c < 256 := by
  have := mask_lt p c
  have : 2 ^ c ≤ 2 ^ 8 := Nat.pow_le_pow_right (by omega) h
  omega
theorem mask_set {x c : Nat} (h : x < 2 ^ c) : mask (fun k => x.testBit k) c = x := by
  apply Nat.eq_of_testBit_eq
  intro k
  rw [mask_bit]
  by_cases hk : k < c
  · simp [hk]
  · simp only [hk, decide_false, Bool.false_and]
    exact (Nat.testBit_lt_two_pow (Nat.lt_of_lt_of_le h (Nat.pow_le_pow_right (by omega) (by omega)))).symm
def oe : Option Nat → Int32
  | none => nn
  | some k => wd k
theorem oe_nn {x : Option Nat} (h : ∀ k, x = some k → k < 2147483648) : (oe x = nn) = (x = none) := by
  cases x with
  | none => exact propext ⟨fun _ => rfl, fun _ => rfl⟩
  | some k =>
    show (wd k = nn) = _
    rw [wd_eqm (h k rfl)]
    exact propext ⟨False.elim, fun h => by cases h⟩
theorem wd_ex {x : Int32} (h : ¬ x < wd 0) : ∃ n, n < 2147483648 ∧ x = wd n := by
  have h1 : 0 ≤ x.toInt := by
    have := mt (Int32.lt_iff_toInt_lt (x := x) (y := wd 0)).2 h
    rw [wd_int (by omega)] at this
    omega
  have h2 := Int32.toInt_lt x
  refine ⟨x.toInt.toNat, by omega, ?_⟩
  apply Int32.toInt_inj.1
  rw [wd_int (by omega)]
  omega
