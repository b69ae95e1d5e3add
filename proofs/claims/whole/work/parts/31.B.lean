def mn (at_ : Nat → Int32) (m j : Nat) : Int32 := at_ (8 + 14 * m + j)
def alv (at_ : Nat → Int32) (m : Nat) : Bool := decide (mn at_ m 5 = wd 0)
def bmin (v : Int32) : Int32 := if v < wd 99 then v else wd 99
def brv (at_ : Nat → Int32) (m : Nat) : Int32 := bmin (mn at_ m 0 + at_ 1 * mn at_ m 2)
def rns (at_ : Nat → Int32) (s : Int32) (o : Nat) : Bool := alv at_ o && decide (brv at_ o < s)
def i01 (b : Bool) : Int32 := if b then wd 1 else wd 0
theorem i01_0 (b : Bool) : (i01 b = wd 0) = (b = false) := by
  cases b
  · exact propext ⟨fun _ => rfl, fun _ => rfl⟩
  · exact propext ⟨fun h => absurd h (by decide), fun h => by cases h⟩
theorem i01_1 (b : Bool) : (i01 b = wd 1) = (b = true) := by
  cases b
  · exact propext ⟨fun h => absurd h (by decide), fun h => by cases h⟩
  · exact propext ⟨fun _ => rfl, fun _ => rfl⟩
theorem i01_bz (b : Bool) : bz (i01 b) = some (i01 b) := by cases b <;> rfl
theorem it_i01 {c : Prop} [Decidable c] {α : Type} : (if c then (some (wd 1) : Option Int32) else some (wd 0)) = some (i01 (decide c)) := by
  by_cases h : c <;> simp [h, i01]
theorem ie_i01 {c : Prop} [Decidable c] {α : Type} : (if c then (some (wd 0) : Option Int32) else some (wd 1)) = some (i01 (!decide c)) := by
  by_cases h : c <;> simp [h, i01]
section
variable {fu c : Nat} {at_ : Nat → Int32}
theorem r_manRow {m : Nat} : f_X12_manRow fu (wd m) = some (wd (8 + 14 * m)) := by
  simp only [f_X12_manRow, wd_lit, wd_of, wd_add, wd_mul, wd_neg, Option.bind_some, bnd, rdI_wd, wrI_wd, rdJ_wd, wrJ_wd, wd_31]
theorem r_manOf {m j : Nat} (h : m < 8) (hj : j < 14) : f_X12_manOf fu at_ (wd m) (wd j) = some (mn at_ m j) := by
  simp (disch := omega) only [f_X12_manOf, r_manRow, wd_lit, wd_of, wd_add, wd_mul, wd_neg, Option.bind_some, bnd, rdI_wd, wrI_wd, rdJ_wd, wrJ_wd, wd_31, mn]
theorem r_isAlive {m : Nat} (h : m < 8) : f_X12_isAlive fu at_ (wd m) = some (i01 (alv at_ m)) := by
  simp (disch := omega) only [f_X12_isAlive, wd_lit, wd_of, wd_add, wd_mul, wd_neg, Option.bind_some, bnd, rdI_wd, wrI_wd, rdJ_wd, wrJ_wd, wd_31, r_manOf, alv]
  exact it_i01 (α := Nat)
theorem r_likesOf {a b : Nat} (h : a < 8) (hb : b < 8) : f_X12_likesOf fu at_ (wd a) (wd b) = some (mn at_ a (6 + b)) := by
  simp (disch := omega) only [f_X12_likesOf, wd_lit, wd_of, wd_add, wd_mul, wd_neg, Option.bind_some, bnd, rdI_wd, wrI_wd, rdJ_wd, wrJ_wd, wd_31, r_manOf]
theorem r_braveOf {m : Nat} (h : m < 8) : f_X12_braveOf fu at_ (wd m) = some (brv at_ m) := by
  simp (disch := omega) only [f_X12_braveOf, wd_lit, wd_of, wd_add, wd_mul, wd_neg, Option.bind_some, bnd, rdI_wd, wrI_wd, rdJ_wd, wrJ_wd, wd_31, r_manOf, brv, bmin]
theorem r_stands {m : Nat} {s : Int32} (h : m < 8) : f_X12_stands fu at_ (wd m) s = some (i01 (!decide (brv at_ m < s))) := by
  simp (disch := omega) only [f_X12_stands, wd_lit, wd_of, wd_add, wd_mul, wd_neg, Option.bind_some, bnd, rdI_wd, wrI_wd, rdJ_wd, wrJ_wd, wd_31, r_braveOf]
  exact ie_i01 (α := Nat)
theorem r_isIn {x k : Nat} (h : k < 32) (hx : x < 2147483648) : f_X12_isIn fu (wd x) (wd k) = some (i01 (x.testBit k)) := by
  unfold f_X12_isIn
  simp only [wd_lit]
  by_cases h1 : x.testBit k = true
  · rw [if_pos (by rw [wd_bit1 hx h]; exact h1), h1]; rfl
  · rw [if_neg (by rw [wd_bit1 hx h]; exact h1), Bool.eq_false_iff.2 h1]; rfl
theorem r_candidatesOf {m : Nat} {s : Int32} (hc : at_ 0 = wd c) (h8 : c ≤ 8) (hm : m < 8) (hf : 100 ≤ fu) : f_X12_candidatesOf fu at_ (wd m) s = some (wd (mask (fun o => decide (o ≠ m) && rns at_ s o) c)) := by
  unfold f_X12_candidatesOf
  refine loop_seq (fun n i (x : Int32) => f_X12_candidatesOf_l5 fu at_ (wd m) s n x (wd i)) (fun i => wd (mask (fun o => decide (o ≠ m) && rns at_ s o) i)) c _ ?_ ?_ 0 fu (by omega) (by omega)
  · intro n i hi
    show f_X12_candidatesOf_b5 fu at_ (wd m) s (f_X12_candidatesOf_l5 fu at_ (wd m) s n) _ _ = _
    simp (disch := omega) only [f_X12_candidatesOf_b5, wd_lit, wd_of, wd_add, wd_mul, wd_neg, Option.bind_some, bnd, rdI_wd, wrI_wd, rdJ_wd, wrJ_wd, wd_31, hc, wd_le, wd_lt, wd_inj, wd_eqm, wd_eqm', wd_ltm, wd_lem, wd_ltm2, wd_lem2, wd_bit0', wd_bit1', wd_shl, wd_or, wd_dif, r_isAlive, r_stands, i01_0]
    rw [if_neg (by omega)]
    simp only [mask, rns]
    by_cases h1 : i = m
    · simp [h1]
    · by_cases h2 : alv at_ i = true
      · by_cases h3 : brv at_ i < s
        · simp [h1, h2, h3]
        · simp [h1, h2, h3]
      · simp [h1, h2]
  · intro n
    show f_X12_candidatesOf_b5 fu at_ (wd m) s (f_X12_candidatesOf_l5 fu at_ (wd m) s n) _ _ = _
    simp (disch := omega) only [f_X12_candidatesOf_b5, wd_lit, wd_of, wd_add, wd_mul, wd_neg, Option.bind_some, bnd, rdI_wd, wrI_wd, rdJ_wd, wrJ_wd, wd_31, hc, wd_le, wd_lt, wd_inj, wd_eqm, wd_eqm', wd_ltm, wd_lem, wd_ltm2, wd_lem2, wd_bit0', wd_bit1', wd_shl, wd_or, wd_dif]
    rw [if_pos (by omega)]
end
