/-! texts: bytes, words, names -/
def tx_l (j : Nat) : Bool := decide (97 ≤ j ∧ j ≤ 122)
def tx_d (j : Nat) : Bool := decide (48 ≤ j ∧ j ≤ 57)
def tx_s (j : Nat) : Bool := decide (j = 10 ∨ j = 32)
theorem sb_l1 : ∀ j, j < 256 → tx_l j = true → sb j = wd j ∧ ¬ sb j < wd 97 ∧ ¬ wd 122 < sb j := by decide +kernel
theorem sb_l0 : ∀ j, j < 256 → tx_l j = false → sb j < wd 97 ∨ wd 122 < sb j := by decide +kernel
theorem sb_d1 : ∀ j, j < 256 → tx_d j = true → sb j = wd j ∧ ¬ sb j < wd 48 ∧ ¬ wd 57 < sb j := by decide +kernel
theorem sb_d0 : ∀ j, j < 256 → tx_d j = false → sb j < wd 48 ∨ wd 57 < sb j := by decide +kernel
theorem sb_s1 : ∀ j, j < 256 → tx_s j = true → sb j = wd 10 ∨ (¬ sb j = wd 10 ∧ sb j = wd 32) := by decide +kernel
theorem sb_s0 : ∀ j, j < 256 → tx_s j = false → ¬ sb j = wd 10 ∧ ¬ sb j = wd 32 := by decide +kernel
theorem sb_an : ∀ j, j < 256 → sb j &&& 255 = wd j := by decide +kernel
theorem sb_eq {j c : Nat} (hj : j < 256) (hc : c < 128) : (sb j = wd c) = (j = c) := by
  unfold sb
  by_cases h : j < 128
  · rw [if_pos h, wd_inj (by omega) (by omega)]
  · rw [if_neg h]
    apply propext
    constructor
    · intro g
      have : (wd j - wd 256) + wd 256 = wd c + wd 256 := by rw [g]
      rw [Int32.sub_add_cancel, wd_add, wd_inj (by omega) (by omega)] at this
      omega
    · intro g; omega
def TXT (b : Nat → Nat) (n : Nat) (by_ text : Nat → Int32) : Prop := n ≤ 900 ∧ ∀ k, k < n → b k < 256 ∧ by_ k = sb (b k) ∧ text k = sb (b k)
theorem run_ex (p : Nat → Bool) (n : Nat) : ∀ d k, k + d = n → ∃ e, k ≤ e ∧ e ≤ n ∧ (∀ i, k ≤ i → i < e → p i = true) ∧ (e < n → p e = false) := by
  intro d
  induction d with
  | zero => intro k hk; exact ⟨k, Nat.le_refl k, by omega, fun i h1 h2 => absurd h2 (by omega), fun h => absurd h (by omega)⟩
  | succ d ih =>
    intro k hk
    cases h : p k
    · exact ⟨k, Nat.le_refl k, by omega, fun i h1 h2 => absurd h2 (by omega), fun _ => h⟩
    · obtain ⟨e, e1, e2, e3, e4⟩ := ih (k + 1) (by omega)
      refine ⟨e, by omega, e2, fun i h1 h2 => ?_, e4⟩
      by_cases hi : i = k
      · rw [hi]; exact h
      · exact e3 i (by omega) h2
theorem loop_run {σ ρ : Type} (L : Nat → Nat → σ → ρ) (g : Nat → σ) (k e : Nat) (r : ρ) (hs : ∀ n i, k ≤ i → i < e → L (n + 1) i (g i) = L n (i + 1) (g (i + 1))) (he : ∀ n, L (n + 1) e (g e) = r) (hk : k ≤ e) (n : Nat) (hn : e - k < n) : L n k (g k) = r := by
  have key : ∀ d i n, k ≤ i → i + d = e → d < n → L n i (g i) = r := by
    intro d
    induction d with
    | zero =>
      intro i n h0 h1 h2
      obtain ⟨m, rfl⟩ : ∃ m, n = m + 1 := ⟨n - 1, by omega⟩
      have : i = e := by omega
      subst this
      exact he m
    | succ d ih =>
      intro i n h0 h1 h2
      obtain ⟨m, rfl⟩ : ∃ m, n = m + 1 := ⟨n - 1, by omega⟩
      rw [hs m i h0 (by omega)]
      exact ih (i + 1) m (by omega) (by omega) (by omega)
  exact key (e - k) k n (Nat.le_refl k) (by omega) hn
/-- the letters of a word, as numbers from 1 on -/
def lts (b : Nat → Nat) (f : Nat) : Nat → List Nat
  | 0 => []
  | i + 1 => lts b f i ++ [b (f + i) - 96]
theorem lts_s (b : Nat → Nat) (f i : Nat) : lts b f (i + 1) = lts b f i ++ [b (f + i) - 96] := rfl
theorem lts_len (b : Nat → Nat) (f : Nat) : ∀ i, (lts b f i).length = i := by
  intro i
  induction i with
  | zero => rfl
  | succ i ih => rw [lts_s, List.length_append, ih]; rfl
theorem lts_mem (b : Nat → Nat) (f : Nat) : ∀ L, (∀ i, i < L → tx_l (b (f + i)) = true) → ∀ a, a ∈ lts b f L → 1 ≤ a ∧ a ≤ 26 := by
  intro L
  induction L with
  | zero => intro _ a h; cases h
  | succ L ih =>
    intro h a ha
    rw [lts_s, List.mem_append] at ha
    rcases ha with ha | ha
    · exact ih (fun i hi => h i (by omega)) a ha
    · rw [List.mem_singleton] at ha
      have := h L (by omega)
      simp only [tx_l, decide_eq_true_eq] at this
      omega
theorem lts_eq {b b' : Nat → Nat} {f f' : Nat} : ∀ L, (∀ i, i < L → b (f + i) = b' (f' + i)) → lts b f L = lts b' f' L := by
  intro L
  induction L with
  | zero => intro _; rfl
  | succ L ih => intro h; rw [lts_s, lts_s, ih (fun i hi => h i (by omega)), h L (by omega)]
theorem lts_in {b b' : Nat → Nat} {f f' : Nat} : ∀ L, lts b f L = lts b' f' L → ∀ i, i < L → b (f + i) - 96 = b' (f' + i) - 96 := by
  intro L
  induction L with
  | zero => intro _ i hi; omega
  | succ L ih =>
    intro h i hi
    rw [lts_s, lts_s] at h
    obtain ⟨h1, h2⟩ := List.append_inj' h rfl
    by_cases hL : i = L
    · subst hL
      injection h2
    · exact ih h1 i (by omega)
theorem c32_a : ∀ (l : List Nat) (v a : Nat), c32 (l ++ [a]) v = c32 l v * 32 + a := by
  intro l
  induction l with
  | nil => intro v a; rfl
  | cons x l ih => intro v a; exact ih (v * 32 + x) a
theorem c256_a : ∀ (l : List Nat) (v a : Nat), c256 (l ++ [a]) v = c256 l v * 256 + (a + 96) := by
  intro l
  induction l with
  | nil => intro v a; rfl
  | cons x l ih => intro v a; exact ih (v * 256 + (x + 96)) a
theorem c32_r : ∀ (l l' : List Nat), (∀ a, a ∈ l → 1 ≤ a ∧ a ≤ 26) → (∀ a, a ∈ l' → 1 ≤ a ∧ a ≤ 26) → c32 l.reverse 0 = c32 l'.reverse 0 → l = l' := by
  intro l
  induction l with
  | nil =>
    intro l' _ h' e
    cases l' with
    | nil => rfl
    | cons a l' =>
      rw [List.reverse_cons, c32_a] at e
      have := h' a List.mem_cons_self
      have e : 0 = c32 l'.reverse 0 * 32 + a := e
      omega
  | cons x l ih =>
    intro l' h h' e
    cases l' with
    | nil =>
      rw [List.reverse_cons, c32_a] at e
      have := h x List.mem_cons_self
      have e : c32 l.reverse 0 * 32 + x = 0 := e
      omega
    | cons a l' =>
      rw [List.reverse_cons, c32_a, List.reverse_cons, c32_a] at e
      have g1 := h x List.mem_cons_self
      have g2 := h' a List.mem_cons_self
      have e1 : x = a := by omega
      have e2 : c32 l.reverse 0 = c32 l'.reverse 0 := by omega
      rw [e1, ih l' (fun z hz => h z (List.mem_cons_of_mem x hz)) (fun z hz => h' z (List.mem_cons_of_mem a hz)) e2]
theorem c32_in {l l' : List Nat} (h : ∀ a, a ∈ l → 1 ≤ a ∧ a ≤ 26) (h' : ∀ a, a ∈ l' → 1 ≤ a ∧ a ≤ 26) (e : c32 l 0 = c32 l' 0) : l = l' := by
  have := c32_r l.reverse l'.reverse (fun a ha => h a (List.mem_reverse.1 ha)) (fun a ha => h' a (List.mem_reverse.1 ha)) (by rw [List.reverse_reverse, List.reverse_reverse]; exact e)
  rw [← List.reverse_reverse l, this, List.reverse_reverse]
theorem c256_r : ∀ (l l' : List Nat), (∀ a, a ∈ l → 1 ≤ a ∧ a ≤ 26) → (∀ a, a ∈ l' → 1 ≤ a ∧ a ≤ 26) → c256 l.reverse 0 = c256 l'.reverse 0 → l = l' := by
  intro l
  induction l with
  | nil =>
    intro l' _ h' e
    cases l' with
    | nil => rfl
    | cons a l' =>
      rw [List.reverse_cons, c256_a] at e
      have e : 0 = c256 l'.reverse 0 * 256 + (a + 96) := e
      omega
  | cons x l ih =>
    intro l' h h' e
    cases l' with
    | nil =>
      rw [List.reverse_cons, c256_a] at e
      have e : c256 l.reverse 0 * 256 + (x + 96) = 0 := e
      omega
    | cons a l' =>
      rw [List.reverse_cons, c256_a, List.reverse_cons, c256_a] at e
      have g1 := h x List.mem_cons_self
      have g2 := h' a List.mem_cons_self
      have e1 : x = a := by omega
      have e2 : c256 l.reverse 0 = c256 l'.reverse 0 := by omega
      rw [e1, ih l' (fun z hz => h z (List.mem_cons_of_mem x hz)) (fun z hz => h' z (List.mem_cons_of_mem a hz)) e2]
theorem c256_in {l l' : List Nat} (h : ∀ a, a ∈ l → 1 ≤ a ∧ a ≤ 26) (h' : ∀ a, a ∈ l' → 1 ≤ a ∧ a ≤ 26) (e : c256 l 0 = c256 l' 0) : l = l' := by
  have := c256_r l.reverse l'.reverse (fun a ha => h a (List.mem_reverse.1 ha)) (fun a ha => h' a (List.mem_reverse.1 ha)) (by rw [List.reverse_reverse, List.reverse_reverse]; exact e)
  rw [← List.reverse_reverse l, this, List.reverse_reverse]
theorem c32_lt : ∀ (l : List Nat) (v : Nat), (∀ a, a ∈ l → 1 ≤ a ∧ a ≤ 26) → c32 l v < (v + 1) * 32 ^ l.length := by
  intro l
  induction l with
  | nil => intro v _; show v < (v + 1) * 1; omega
  | cons x l ih =>
    intro v h
    have g := h x List.mem_cons_self
    have := ih (v * 32 + x) (fun z hz => h z (List.mem_cons_of_mem x hz))
    show c32 l (v * 32 + x) < _
    rw [List.length_cons, Nat.pow_succ]
    have h2 : (v * 32 + x + 1) * 32 ^ l.length ≤ ((v + 1) * 32) * 32 ^ l.length := Nat.mul_le_mul_right _ (by omega)
    have h3 : ((v + 1) * 32) * 32 ^ l.length = (v + 1) * (32 ^ l.length * 32) := by
      rw [Nat.mul_assoc, Nat.mul_comm 32]
    omega
theorem c256_lt : ∀ (l : List Nat) (v : Nat), (∀ a, a ∈ l → 1 ≤ a ∧ a ≤ 26) → c256 l v < (v + 1) * 256 ^ l.length := by
  intro l
  induction l with
  | nil => intro v _; show v < (v + 1) * 1; omega
  | cons x l ih =>
    intro v h
    have g := h x List.mem_cons_self
    have := ih (v * 256 + (x + 96)) (fun z hz => h z (List.mem_cons_of_mem x hz))
    show c256 l (v * 256 + (x + 96)) < _
    rw [List.length_cons, Nat.pow_succ]
    have h2 : (v * 256 + (x + 96) + 1) * 256 ^ l.length ≤ ((v + 1) * 256) * 256 ^ l.length := Nat.mul_le_mul_right _ (by omega)
    have h3 : ((v + 1) * 256) * 256 ^ l.length = (v + 1) * (256 ^ l.length * 256) := by
      rw [Nat.mul_assoc, Nat.mul_comm 256]
    omega
theorem c32_8 {l : List Nat} (h : ∀ a, a ∈ l → 1 ≤ a ∧ a ≤ 26) (h8 : l.length ≤ 8) : c32 l 0 < 1099511627776 := by
  have h1 := c32_lt l 0 h
  have h2 : 32 ^ l.length ≤ 32 ^ 8 := Nat.pow_le_pow_right (by omega) h8
  simp only [Nat.reducePow] at h2
  omega
theorem c256_8 {l : List Nat} (h : ∀ a, a ∈ l → 1 ≤ a ∧ a ≤ 26) (h8 : l.length ≤ 8) : c256 l 0 < 18446744073709551616 := by
  have h1 := c256_lt l 0 h
  have h2 : 256 ^ l.length ≤ 256 ^ 8 := Nat.pow_le_pow_right (by omega) h8
  simp only [Nat.reducePow] at h2
  omega
theorem j_inj {a b : Nat} (ha : a < 18446744073709551616) (hb : b < 18446744073709551616) : (Int64.ofNat a = Int64.ofNat b) = (a = b) := by
  apply propext
  constructor
  · intro h
    have h2 := congrArg (fun x : Int64 => x.toBitVec.toNat) h
    simp only [Int64.toBitVec_ofNat', BitVec.toNat_ofNat] at h2
    omega
  · intro h; rw [h]
/-- two names are one on the one side as on the other -/
theorem NC_eq {x y : Int64} {l : List Nat} (h : NC x y) (hl : ∀ a, a ∈ l → 1 ≤ a ∧ a ≤ 26) (h8 : l.length ≤ 8) : (x = Int64.ofNat (c32 l 0)) = (y = Int64.ofNat (c256 l 0)) := by
  obtain ⟨l', k1, k2, rfl, rfl⟩ := h
  have b1 := c32_8 k2 k1
  have b2 := c32_8 hl h8
  rw [j_inj (by omega) (by omega), j_inj (c256_8 k2 k1) (c256_8 hl h8)]
  apply propext
  constructor
  · intro e; rw [c32_in k2 hl e]
  · intro e; rw [c256_in k2 hl e]
/-! the words of the reference -/
def kcs : List Nat := [32, 112, 114, 105, 100, 101, 32, 113, 117, 111, 116, 97, 32, 109, 97, 110, 32, 108, 105, 107, 101, 115, 32, 99, 111, 117, 114, 97, 103, 101, 32, 119, 101, 105, 103, 104, 116, 32, 109, 101, 100, 97, 108, 115, 32, 102, 97, 99, 101, 32, 103, 105, 118, 101, 32, 108, 111, 115, 101, 32, 102, 97, 108, 108, 32, 97, 110, 121, 32, 119, 104, 101, 110, 32, 108, 111, 111, 112, 32, 101, 110, 100, 32, 115, 116, 111, 112, 32, 98, 114, 97, 118, 101, 32, 119, 111, 114, 110, 32, 102, 108, 101, 100, 32]
def kc (i : Nat) : Nat := kcs.getD i 0
def kps : List Nat := [1, 7, 13, 17, 23, 31, 38, 45, 50, 55, 60, 65, 69, 74, 79, 83, 88, 94, 99, 104]
def kp (t : Nat) : Nat := kps.getD t 0
def kls : List Nat := [5, 5, 3, 5, 7, 6, 6, 4, 4, 4, 4, 3, 4, 4, 3, 4, 5, 4, 4]
def kl (t : Nat) : Nat := kls.getD t 0
def kms : List Nat := [0, 1, 2, 4, 5, 6, 3, 7, 8, 9, 10, 11, 12, 16, 17, 18, 13, 14, 15]
def km (t : Nat) : Nat := kms.getD t 0
theorem ch_at0 : ∀ i, i < 104 → f_J0_charAt_5068e 0 1 (wd i) = some (wd (kc i)) := by decide +kernel
theorem ch_at {fu i : Nat} (h : i < 104) : f_J0_charAt_5068e fu 1 (wd i) = some (wd (kc i)) := ch_at0 i h
theorem ch_len {fu : Nat} : f_J0_length_8abf5 fu 1 = some (wd 104) := by
  show f_J0_length_8abf5 0 1 = some (wd 104)
  decide +kernel
theorem kc_lt : ∀ i, i < 104 → kc i < 128 := by decide +kernel
theorem kp_s : ∀ t, t < 19 → kp (t + 1) = kp t + kl t + 1 ∧ kp t + kl t < 104 ∧ 1 ≤ kl t ∧ kl t ≤ 7 ∧ kc (kp t + kl t) = 32 := by decide +kernel
theorem kp_l : ∀ t, t < 19 → ∀ i, i < kl t → tx_l (kc (kp t + i)) = true := by decide +kernel
theorem kp_19 : kp 19 = 104 := by decide +kernel
theorem kw_d : ∀ t, t < 19 → ∀ t', t' < 19 → lts kc (kp t) (kl t) = lts kc (kp t') (kl t') → t = t' := by decide +kernel
theorem kw_c : ∀ i, i < 19 → wcodes.getD i 0 = c32 (lts kc (kp (km i)) (kl (km i))) 0 ∧ km i < 19 := by decide +kernel
theorem km_d : ∀ i, i < 19 → ∀ i', i' < 19 → km i = km i' → i = i' := by decide +kernel
theorem km_o : ∀ t, t < 19 → ∃ i, i < 19 ∧ km i = t := by decide +kernel
