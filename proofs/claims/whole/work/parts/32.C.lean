section
variable {fu c : Nat} {at_ : Nat → Int32}
theorem mask_s (p : Nat → Bool) (i : Nat) : mask p (i + 1) = mask p i ||| (if p i then 1 <<< i else 0) := rfl
theorem r_living (hc : at_ 0 = wd c) (h8 : c ≤ 8) (hf : 1000 ≤ fu) : f_X12_living fu at_ = some (wd (mask (alv at_) c)) := by
  unfold f_X12_living
  refine loop_seq (fun n i (x : Int32) => f_X12_living_l4 fu at_ n x (wd i)) (fun i => wd (mask (alv at_) i)) c _ ?_ ?_ 0 fu (by omega) (by omega)
  · intro n i hi
    simp (disch := omega) only [f_X12_living_l4, f_X12_living_b4, wd_lit, wd_of, wd_add, wd_mul, wd_neg, Option.bind_some, bnd, rdI_wd, wrI_wd, rdJ_wd, wrJ_wd, wd_31, hc, wd_le, wd_lt, wd_inj, wd_eqm, wd_eqm', wd_ltm, wd_lem, wd_ltm2, wd_lem2, wd_bit0', wd_bit1', wd_shl, wd_or, wd_dif, r_isAlive, i01_0]
    grind [mask_s]
  · intro n
    simp (disch := omega) only [f_X12_living_l4, f_X12_living_b4, wd_lit, wd_of, wd_add, wd_mul, wd_neg, Option.bind_some, bnd, rdI_wd, wrI_wd, rdJ_wd, wrJ_wd, wd_31, hc, wd_le, wd_lt, wd_inj, wd_eqm, wd_eqm', wd_ltm, wd_lem, wd_ltm2, wd_lem2, wd_bit0', wd_bit1', wd_shl, wd_or, wd_dif, r_isAlive, i01_0]
    grind [mask_s]
def stn (at_ : Nat → Int32) (s : Int32) (o : Nat) : Bool := alv at_ o && !decide (brv at_ o < s)
theorem r_standing {s : Int32} (hc : at_ 0 = wd c) (h8 : c ≤ 8) (hf : 1000 ≤ fu) : f_X12_standing fu at_ s = some (wd (mask (stn at_ s) c)) := by
  unfold f_X12_standing
  refine loop_seq (fun n i (x : Int32) => f_X12_standing_l4 fu at_ s n x (wd i)) (fun i => wd (mask (stn at_ s) i)) c _ ?_ ?_ 0 fu (by omega) (by omega)
  · intro n i hi
    simp (disch := omega) only [f_X12_standing_l4, f_X12_standing_b4, wd_lit, wd_of, wd_add, wd_mul, wd_neg, Option.bind_some, bnd, rdI_wd, wrI_wd, rdJ_wd, wrJ_wd, wd_31, hc, wd_le, wd_lt, wd_inj, wd_eqm, wd_eqm', wd_ltm, wd_lem, wd_ltm2, wd_lem2, wd_bit0', wd_bit1', wd_shl, wd_or, wd_dif, r_isAlive, r_stands, i01_0]
    grind [mask_s, stn]
  · intro n
    simp (disch := omega) only [f_X12_standing_l4, f_X12_standing_b4, wd_lit, wd_of, wd_add, wd_mul, wd_neg, Option.bind_some, bnd, rdI_wd, wrI_wd, rdJ_wd, wrJ_wd, wd_31, hc, wd_le, wd_lt, wd_inj, wd_eqm, wd_eqm', wd_ltm, wd_lem, wd_ltm2, wd_lem2, wd_bit0', wd_bit1', wd_shl, wd_or, wd_dif, r_isAlive, r_stands, i01_0]
    grind [mask_s, stn]
def dec (at_ : Nat → Int32) (o : Nat) : Bool := !decide (mn at_ o 2 ≤ wd 0)
theorem r_decorated (hc : at_ 0 = wd c) (h8 : c ≤ 8) (hf : 1000 ≤ fu) : f_X12_decorated fu at_ = some (wd (mask (dec at_) c)) := by
  unfold f_X12_decorated
  refine loop_seq (fun n i (x : Int32) => f_X12_decorated_l4 fu at_ n x (wd i)) (fun i => wd (mask (dec at_) i)) c _ ?_ ?_ 0 fu (by omega) (by omega)
  · intro n i hi
    simp (disch := omega) only [f_X12_decorated_l4, f_X12_decorated_b4, wd_lit, wd_of, wd_add, wd_mul, wd_neg, Option.bind_some, bnd, rdI_wd, wrI_wd, rdJ_wd, wrJ_wd, wd_31, hc, wd_le, wd_lt, wd_inj, wd_eqm, wd_eqm', wd_ltm, wd_lem, wd_ltm2, wd_lem2, wd_bit0', wd_bit1', wd_shl, wd_or, wd_dif, r_manOf, i01_0]
    grind [mask_s, dec]
  · intro n
    simp (disch := omega) only [f_X12_decorated_l4, f_X12_decorated_b4, wd_lit, wd_of, wd_add, wd_mul, wd_neg, Option.bind_some, bnd, rdI_wd, wrI_wd, rdJ_wd, wrJ_wd, wd_31, hc, wd_le, wd_lt, wd_inj, wd_eqm, wd_eqm', wd_ltm, wd_lem, wd_ltm2, wd_lem2, wd_bit0', wd_bit1', wd_shl, wd_or, wd_dif, r_manOf, i01_0]
    grind [mask_s, dec]
def ssum (f : Nat → Int32) : Nat → Int32
  | 0 => wd 0
  | i + 1 => ssum f i + f i
theorem ssum_s (f : Nat → Int32) (i : Nat) : ssum f (i + 1) = ssum f i + f i := rfl
theorem ssum_0 (f : Nat → Int32) : ssum f 0 = wd 0 := rfl
theorem ssum_congr {f g : Nat → Int32} : ∀ {c : Nat}, (∀ k, k < c → f k = g k) → ssum f c = ssum g c
  | 0, _ => rfl
  | c + 1, h => by rw [ssum_s, ssum_s, ssum_congr (c := c) (fun k hk => h k (by omega)), h c (by omega)]
theorem wd_a0 (x : Int32) : x + wd 0 = x := by show x + 0 = x; simp
theorem wd_0a (x : Int32) : wd 0 + x = x := by show 0 + x = x; simp
theorem r_sumOf {j : Nat} (hj : j < 14) (hc : at_ 0 = wd c) (h8 : c ≤ 8) (hf : 1000 ≤ fu) : f_X12_sumOf fu at_ (wd j) = some (ssum (fun m => mn at_ m j) c) := by
  unfold f_X12_sumOf
  refine loop_seq (fun n i (x : Int32) => f_X12_sumOf_l4 fu at_ (wd j) n x (wd i)) (fun i => ssum (fun m => mn at_ m j) i) c _ ?_ ?_ 0 fu (by omega) (by omega)
  · intro n i hi
    simp (disch := omega) only [f_X12_sumOf_l4, f_X12_sumOf_b4, wd_lit, wd_of, wd_add, wd_mul, wd_neg, Option.bind_some, bnd, rdI_wd, wrI_wd, rdJ_wd, wrJ_wd, wd_31, hc, wd_le, wd_lt, wd_inj, wd_eqm, wd_eqm', wd_ltm, wd_lem, wd_ltm2, wd_lem2, wd_bit0', wd_bit1', wd_shl, wd_or, wd_dif, r_manOf, i01_0]
    grind [ssum_s]
  · intro n
    simp (disch := omega) only [f_X12_sumOf_l4, f_X12_sumOf_b4, wd_lit, wd_of, wd_add, wd_mul, wd_neg, Option.bind_some, bnd, rdI_wd, wrI_wd, rdJ_wd, wrJ_wd, wd_31, hc, wd_le, wd_lt, wd_inj, wd_eqm, wd_eqm', wd_ltm, wd_lem, wd_ltm2, wd_lem2, wd_bit0', wd_bit1', wd_shl, wd_or, wd_dif, r_manOf, i01_0]
    grind [ssum_s]
def wts (at_ : Nat → Int32) (S : Nat) (c : Nat) : Int32 := ssum (fun m => if S.testBit m then mn at_ m 1 else wd 0) c
theorem r_weightOf {S : Nat} (hS : S < 2147483648) (hc : at_ 0 = wd c) (h8 : c ≤ 8) (hf : 1000 ≤ fu) : f_X12_weightOf fu at_ (wd S) = some (wts at_ S c) := by
  unfold f_X12_weightOf
  refine loop_seq (fun n i (x : Int32) => f_X12_weightOf_l4 fu at_ (wd S) n x (wd i)) (fun i => wts at_ S i) c _ ?_ ?_ 0 fu (by omega) (by omega)
  · intro n i hi
    simp (disch := omega) only [f_X12_weightOf_l4, f_X12_weightOf_b4, wd_lit, wd_of, wd_add, wd_mul, wd_neg, Option.bind_some, bnd, rdI_wd, wrI_wd, rdJ_wd, wrJ_wd, wd_31, hc, wd_le, wd_lt, wd_inj, wd_eqm, wd_eqm', wd_ltm, wd_lem, wd_ltm2, wd_lem2, wd_bit0', wd_bit1', wd_shl, wd_or, wd_dif, r_manOf, r_isIn, i01_0]
    grind [ssum_s, wts]
  · intro n
    simp (disch := omega) only [f_X12_weightOf_l4, f_X12_weightOf_b4, wd_lit, wd_of, wd_add, wd_mul, wd_neg, Option.bind_some, bnd, rdI_wd, wrI_wd, rdJ_wd, wrJ_wd, wd_31, hc, wd_le, wd_lt, wd_inj, wd_eqm, wd_eqm', wd_ltm, wd_lem, wd_ltm2, wd_lem2, wd_bit0', wd_bit1', wd_shl, wd_or, wd_dif, r_manOf, r_isIn, i01_0]
    grind [ssum_s, wts]
def cry (at_ : Nat → Int32) (c S : Nat) : Bool := !decide (wd 100 * wts at_ S c ≤ at_ 2 * wts at_ (mask (alv at_) c) c)
theorem r_doCarry {S : Nat} (hS : S < 2147483648) (hc : at_ 0 = wd c) (h8 : c ≤ 8) (hf : 1000 ≤ fu) : f_X12_doCarry fu at_ (wd S) = some (i01 (cry at_ c S)) := by
  have h256 := mask_256 (alv at_) h8
  simp (disch := omega) only [f_X12_doCarry, wd_lit, wd_of, wd_add, wd_mul, wd_neg, Option.bind_some, bnd, rdI_wd, wrI_wd, rdJ_wd, wrJ_wd, wd_31, r_weightOf hS hc h8 hf, r_living hc h8 hf, r_weightOf (show mask (alv at_) c < 2147483648 by omega) hc h8 hf]
  exact ie_i01 (α := Nat)
/-! votes -/
def vbt (at_ : Nat → Int32) (v i : Nat) : Option Nat → Bool
  | none => true
  | some b => !decide (mn at_ v (6 + i) ≤ mn at_ v (6 + b))
theorem vbt_n (at_ : Nat → Int32) (v i : Nat) : vbt at_ v i none = true := rfl
theorem vbt_s (at_ : Nat → Int32) (v i b : Nat) : vbt at_ v i (some b) = !decide (mn at_ v (6 + i) ≤ mn at_ v (6 + b)) := rfl
def vby (at_ : Nat → Int32) (v S : Nat) : Nat → Option Nat
  | 0 => none
  | i + 1 => if i ≠ v ∧ S.testBit i = true ∧ vbt at_ v i (vby at_ v S i) = true then some i else vby at_ v S i
theorem vby_s (at_ : Nat → Int32) (v S i : Nat) : vby at_ v S (i + 1) = if i ≠ v ∧ S.testBit i = true ∧ vbt at_ v i (vby at_ v S i) = true then some i else vby at_ v S i := rfl
theorem vby_lt (at_ : Nat → Int32) (v S : Nat) : ∀ i b, vby at_ v S i = some b → b < i := by
  intro i
  induction i with
  | zero => intro b h; cases h
  | succ i ih =>
    intro b h
    rw [vby] at h
    split at h
    · injection h with h; omega
    · have := ih b h; omega
theorem oe_s (k : Nat) : oe (some k) = wd k := rfl
theorem oe_n : oe none = nn := rfl
theorem r_voteBy {v S : Nat} (hv : v < 8) (hS : S < 2147483648) (hc : at_ 0 = wd c) (h8 : c ≤ 8) (hf : 1000 ≤ fu) : f_X12_voteBy fu at_ (wd v) (wd S) = some (oe (vby at_ v S c)) := by
  unfold f_X12_voteBy
  refine loop_seq (fun n i (x : Int32) => f_X12_voteBy_l5 fu at_ (wd v) (wd S) n x (wd i)) (fun i => oe (vby at_ v S i)) c _ ?_ ?_ 0 fu (by omega) (by omega)
  · intro n i hi
    have hb := vby_lt at_ v S i
    rw [vby_s]
    cases hx : vby at_ v S i with
    | none =>
      simp (disch := omega) only [f_X12_voteBy_l5, f_X12_voteBy_b5, wd_lit, wd_of, wd_add, wd_mul, wd_neg, Option.bind_some, bnd, rdI_wd, wrI_wd, rdJ_wd, wrJ_wd, wd_31, hc, wd_le, wd_lt, wd_inj, wd_eqm, wd_eqm', wd_ltm, wd_lem, wd_ltm2, wd_lem2, wd_bit0', wd_bit1', wd_shl, wd_or, wd_dif, r_isIn, i01_0, oe_n, r_likesOf]
      grind [oe_s, oe_n, vbt_n, vbt_s]
    | some b =>
      have := hb b hx
      simp (disch := omega) only [f_X12_voteBy_l5, f_X12_voteBy_b5, wd_lit, wd_of, wd_add, wd_mul, wd_neg, Option.bind_some, bnd, rdI_wd, wrI_wd, rdJ_wd, wrJ_wd, wd_31, hc, wd_le, wd_lt, wd_inj, wd_eqm, wd_eqm', wd_ltm, wd_lem, wd_ltm2, wd_lem2, wd_bit0', wd_bit1', wd_shl, wd_or, wd_dif, r_isIn, i01_0, oe_s, r_likesOf]
      grind [oe_s, oe_n, vbt_n, vbt_s]
  · intro n
    simp (disch := omega) only [f_X12_voteBy_l5, f_X12_voteBy_b5, wd_lit, wd_of, wd_add, wd_mul, wd_neg, Option.bind_some, bnd, rdI_wd, wrI_wd, rdJ_wd, wrJ_wd, wd_31, hc, wd_le, wd_lt, wd_inj, wd_eqm, wd_eqm', wd_ltm, wd_lem, wd_ltm2, wd_lem2, wd_bit0', wd_bit1', wd_shl, wd_or, wd_dif]
    grind
def vts (at_ : Nat → Int32) (c S k i : Nat) : Int32 := ssum (fun v => if alv at_ v = true ∧ vby at_ v S c = some k then mn at_ v 1 else wd 0) i
theorem vby_wd (at_ : Nat → Int32) {v S c k : Nat} (h8 : c ≤ 8) (hk : k < 8) : (oe (vby at_ v S c) = wd k) = (vby at_ v S c = some k) := by
  have hb := vby_lt at_ v S c
  cases hx : vby at_ v S c with
  | none => simp (disch := omega) only [oe_n, wd_le, wd_lt, wd_inj, wd_eqm, wd_eqm', wd_ltm, wd_lem, wd_ltm2, wd_lem2, wd_bit0', wd_bit1', wd_shl, wd_or, wd_dif]; simp
  | some b =>
    have := hb b hx
    simp (disch := omega) only [oe_s, wd_le, wd_lt, wd_inj, wd_eqm, wd_eqm', wd_ltm, wd_lem, wd_ltm2, wd_lem2, wd_bit0', wd_bit1', wd_shl, wd_or, wd_dif]; simp
theorem r_votesFor {k S : Nat} (hk : k < 8) (hS : S < 2147483648) (hc : at_ 0 = wd c) (h8 : c ≤ 8) (hf : 1000 ≤ fu) : f_X12_votesFor fu at_ (wd k) (wd S) = some (vts at_ c S k c) := by
  unfold f_X12_votesFor
  refine loop_seq (fun n i (x : Int32) => f_X12_votesFor_l5 fu at_ (wd k) (wd S) n x (wd i)) (fun i => vts at_ c S k i) c _ ?_ ?_ 0 fu (by omega) (by omega)
  · intro n i hi
    simp (disch := omega) only [f_X12_votesFor_l5, f_X12_votesFor_b5, wd_lit, wd_of, wd_add, wd_mul, wd_neg, Option.bind_some, bnd, rdI_wd, wrI_wd, rdJ_wd, wrJ_wd, wd_31, hc, wd_le, wd_lt, wd_inj, wd_eqm, wd_eqm', wd_ltm, wd_lem, wd_ltm2, wd_lem2, wd_bit0', wd_bit1', wd_shl, wd_or, wd_dif, r_manOf, r_isAlive, r_voteBy (c := c), h8, hf, hS, vby_wd, i01_0]
    grind [ssum_s, vts]
  · intro n
    simp (disch := omega) only [f_X12_votesFor_l5, f_X12_votesFor_b5, wd_lit, wd_of, wd_add, wd_mul, wd_neg, Option.bind_some, bnd, rdI_wd, wrI_wd, rdJ_wd, wrJ_wd, wd_31, hc, wd_le, wd_lt, wd_inj, wd_eqm, wd_eqm', wd_ltm, wd_lem, wd_ltm2, wd_lem2, wd_bit0', wd_bit1', wd_shl, wd_or, wd_dif, r_manOf, r_isAlive, r_voteBy (c := c), h8, hf, hS, vby_wd, i01_0]
    grind [ssum_s, vts]
def wnr (at_ : Nat → Int32) (c S : Nat) : Nat → Option Nat × Int32
  | 0 => (none, nn)
  | i + 1 => if S.testBit i = true ∧ (wnr at_ c S i).2 < vts at_ c S i c then (some i, vts at_ c S i c) else wnr at_ c S i
theorem wnr_s (at_ : Nat → Int32) (c S i : Nat) : wnr at_ c S (i + 1) = if S.testBit i = true ∧ (wnr at_ c S i).2 < vts at_ c S i c then (some i, vts at_ c S i c) else wnr at_ c S i := rfl
def win (at_ : Nat → Int32) (c S : Nat) : Option Nat := (wnr at_ c S c).1
theorem wnr_lt (at_ : Nat → Int32) (c S : Nat) : ∀ i b, (wnr at_ c S i).1 = some b → b < i ∧ S.testBit b = true := by
  intro i
  induction i with
  | zero => intro b h; cases h
  | succ i ih =>
    intro b h
    rw [wnr_s] at h
    split at h
    · rename_i h1
      injection h with h; subst h; exact ⟨by omega, h1.1⟩
    · have := ih b h; exact ⟨by omega, this.2⟩
theorem win_lt {at_ : Nat → Int32} {c S b : Nat} (h : win at_ c S = some b) : b < c ∧ S.testBit b = true := wnr_lt at_ c S c b h
def cnd (at_ : Nat → Int32) (c m : Nat) (s : Int32) : Nat := mask (fun o => decide (o ≠ m) && rns at_ s o) c
theorem r_winner {m : Nat} {s : Int32} (hm : m < 8) (hc : at_ 0 = wd c) (h8 : c ≤ 8) (hf : 1000 ≤ fu) : f_X12_winner fu at_ (wd m) s = some (oe (win at_ c (cnd at_ c m s))) := by
  have h256 : cnd at_ c m s < 256 := mask_256 _ h8
  unfold f_X12_winner win
  rw [r_candidatesOf hc h8 hm (by omega)]
  show f_X12_winner_l16 fu at_ (wd m) s fu (wd (cnd at_ c m s)) (-1) (-1) 0 = _
  generalize cnd at_ c m s = S at h256
  refine loop_seq (fun n i (x : Option Nat × Int32) => f_X12_winner_l16 fu at_ (wd m) s n (wd S) (oe x.1) x.2 (wd i)) (fun i => wnr at_ c S i) c _ ?_ ?_ 0 fu (by omega) (by omega)
  · intro n i hi
    simp (disch := omega) only [f_X12_winner_l16, f_X12_winner_b16, wd_lit, wd_of, wd_add, wd_mul, wd_neg, Option.bind_some, bnd, rdI_wd, wrI_wd, rdJ_wd, wrJ_wd, wd_31, hc, wd_le, wd_lt, wd_inj, wd_eqm, wd_eqm', wd_ltm, wd_lem, wd_ltm2, wd_lem2, wd_bit0', wd_bit1', wd_shl, wd_or, wd_dif, r_isIn, r_votesFor (c := c), h8, hf, i01_0]
    grind [wnr_s, oe_s]
  · intro n
    simp (disch := omega) only [f_X12_winner_l16, f_X12_winner_b16, wd_lit, wd_of, wd_add, wd_mul, wd_neg, Option.bind_some, bnd, rdI_wd, wrI_wd, rdJ_wd, wrJ_wd, wd_31, hc, wd_le, wd_lt, wd_inj, wd_eqm, wd_eqm', wd_ltm, wd_lem, wd_ltm2, wd_lem2, wd_bit0', wd_bit1', wd_shl, wd_or, wd_dif]
    grind
end
