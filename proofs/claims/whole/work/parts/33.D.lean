section
variable {fu c : Nat} {at_ cou wei med sto fle lik vot : Nat → Int32}
theorem mask_in {p : Nat → Bool} {i c : Nat} (h : i < c) : (mask p c).testBit i = p i := by rw [mask_bit]; simp [h]
theorem c_isMan {m : Nat} (hm : m < 2147483648) (h8 : c ≤ 8) : f_X0_isMan fu (wd c) (wd m) = some (i01 (decide (m < c))) := by
  simp (disch := omega) only [f_X0_isMan, wd_lit, wd_of, wd_add, wd_mul, wd_neg, Option.bind_some, bnd, rdI_wd, wrI_wd, rdJ_wd, wrJ_wd, wd_31, wd_le, wd_lt, wd_inj, wd_eqm, wd_eqm', wd_ltm, wd_lem, wd_ltm2, wd_lem2, wd_bit0', wd_bit1', wd_shl, wd_or, wd_dif]
  grind [i01]
theorem c_isMan_ex {x : Int32} (h8 : c ≤ 8) : f_X0_isMan fu (wd c) x = some (wd 0) ∨ ∃ m, m < c ∧ x = wd m ∧ f_X0_isMan fu (wd c) x = some (wd 1) := by
  by_cases h : x < wd 0
  · left; simp only [f_X0_isMan, wd_lit, if_pos h]
  · obtain ⟨n, hn, rfl⟩ := wd_ex h
    rw [c_isMan hn h8]
    by_cases h1 : n < c
    · right; exact ⟨n, h1, rfl, by simp [h1, i01]⟩
    · left; simp [h1, i01]
theorem c_lives {m : Nat} (hm : m < c) (h8 : c ≤ 8) : f_X0_lives fu (wd c) (wd (mask (alv at_) c)) (wd m) = some (i01 (alv at_ m)) := by
  have hb := mask_in (p := alv at_) hm
  have := mask_256 (alv at_) h8
  simp (disch := omega) only [f_X0_lives, c_isMan, wd_lit, wd_of, wd_add, wd_mul, wd_neg, Option.bind_some, bnd, rdI_wd, wrI_wd, rdJ_wd, wrJ_wd, wd_31, wd_le, wd_lt, wd_inj, wd_eqm, wd_eqm', wd_ltm, wd_lem, wd_ltm2, wd_lem2, wd_bit0', wd_bit1', wd_shl, wd_or, wd_dif, i01_0, hb]
  grind [i01]
theorem c_liking {m o : Nat} (hm : m < c) (ho : o < c) (h8 : c ≤ 8) : f_X0_liking fu lik (wd c) (wd m) (wd o) = some (lik (m * 8 + o)) := by
  simp (disch := omega) only [f_X0_liking, c_isMan, wd_lit, wd_of, wd_add, wd_mul, wd_neg, Option.bind_some, bnd, rdI_wd, wrI_wd, rdJ_wd, wrJ_wd, wd_31, wd_le, wd_lt, wd_inj, wd_eqm, wd_eqm', wd_ltm, wd_lem, wd_ltm2, wd_lem2, wd_bit0', wd_bit1', wd_shl, wd_or, wd_dif, i01_0]
  grind
theorem c_setLiking {m o : Nat} {x : Int32} (hm : m < c) (ho : o < c) (h8 : c ≤ 8) : f_X0_setLiking fu lik (wd c) (wd m) (wd o) x = some (upd lik (m * 8 + o) x) := by
  simp (disch := omega) only [f_X0_setLiking, c_isMan, wd_lit, wd_of, wd_add, wd_mul, wd_neg, Option.bind_some, bnd, rdI_wd, wrI_wd, rdJ_wd, wrJ_wd, wd_31, wd_le, wd_lt, wd_inj, wd_eqm, wd_eqm', wd_ltm, wd_lem, wd_ltm2, wd_lem2, wd_bit0', wd_bit1', wd_shl, wd_or, wd_dif, i01_0]
  grind
theorem c_bw {p x y : Int32} : f_X0_braveryWith fu p x y = some (bmin (x + p * y)) := by
  simp only [f_X0_braveryWith, wd_lit, wd_of, wd_add, wd_mul, wd_neg, Option.bind_some, bnd, rdI_wd, wrI_wd, rdJ_wd, wrJ_wd, wd_31, bmin]
  generalize x + p * y = v
  by_cases h : v < wd 99
  · rw [if_pos h, if_pos (Int32.le_of_lt h)]
  · rw [if_neg h]
    by_cases h2 : v ≤ wd 99
    · rw [if_pos h2]
      have : v = wd 99 := Int32.le_antisymm h2 (Int32.not_lt.1 h)
      rw [this]
    · rw [if_neg h2]
theorem c_bravery {m : Nat} (hm : m < c) (h8 : c ≤ 8) (h1 : cou m = mn at_ m 0) (h2 : med m = mn at_ m 2) : f_X0_bravery fu cou med (wd c) (at_ 1) (wd m) = some (brv at_ m) := by
  simp (disch := omega) only [f_X0_bravery, c_isMan, wd_lit, wd_of, wd_add, wd_mul, wd_neg, Option.bind_some, bnd, rdI_wd, wrI_wd, rdJ_wd, wrJ_wd, wd_31, wd_le, wd_lt, wd_inj, wd_eqm, wd_eqm', wd_ltm, wd_lem, wd_ltm2, wd_lem2, wd_bit0', wd_bit1', wd_shl, wd_or, wd_dif, i01_0, c_bw, h1, h2]
  grind [brv]
theorem c_stands {m : Nat} {s : Int32} (hm : m < c) (h8 : c ≤ 8) (h1 : cou m = mn at_ m 0) (h2 : med m = mn at_ m 2) : f_X0_stands fu cou med (wd c) (at_ 1) (wd m) s = some (i01 (!decide (brv at_ m < s))) := by
  simp only [f_X0_stands, c_bravery hm h8 h1 h2, wd_lit, wd_of, wd_add, wd_mul, wd_neg, Option.bind_some, bnd, rdI_wd, wrI_wd, rdJ_wd, wrJ_wd, wd_31]
  exact ie_i01 (α := Nat)
theorem c_runners {s : Int32} (h8 : c ≤ 8) (hf : 1000 ≤ fu) (h1 : ∀ m, m < c → cou m = mn at_ m 0) (h2 : ∀ m, m < c → med m = mn at_ m 2) : f_X0_runners fu cou med (wd c) (wd (mask (alv at_) c)) (at_ 1) s = some (wd (mask (rns at_ s) c)) := by
  have h256 := mask_256 (alv at_) h8
  unfold f_X0_runners
  refine loop_seq (fun n i (x : Int32) => f_X0_runners_l4 fu cou med (wd c) (wd (mask (alv at_) c)) (at_ 1) s n x (wd i)) (fun i => wd (mask (rns at_ s) i)) c _ ?_ ?_ 0 fu (by omega) (by omega)
  · intro n i hi
    simp (disch := omega) only [f_X0_runners_l4, f_X0_runners_b4, wd_lit, wd_of, wd_add, wd_mul, wd_neg, Option.bind_some, bnd, rdI_wd, wrI_wd, rdJ_wd, wrJ_wd, wd_31, h8, wd_le, wd_lt, wd_inj, wd_eqm, wd_eqm', wd_ltm, wd_lem, wd_ltm2, wd_lem2, wd_bit0', wd_bit1', wd_shl, wd_or, wd_dif, c_bw]
    rw [mask_in hi, h1 i hi, h2 i hi]
    grind [mask_s, rns, brv, Int32.not_lt]
  · intro n
    simp (disch := omega) only [f_X0_runners_l4, f_X0_runners_b4, wd_lit, wd_of, wd_add, wd_mul, wd_neg, Option.bind_some, bnd, rdI_wd, wrI_wd, rdJ_wd, wrJ_wd, wd_31, h8, wd_le, wd_lt, wd_inj, wd_eqm, wd_eqm', wd_ltm, wd_lem, wd_ltm2, wd_lem2, wd_bit0', wd_bit1', wd_shl, wd_or, wd_dif, c_bw]
    grind
theorem c_others {m : Nat} {s : Int32} (hm : m < c) (h8 : c ≤ 8) (hf : 1000 ≤ fu) (h1 : ∀ m, m < c → cou m = mn at_ m 0) (h2 : ∀ m, m < c → med m = mn at_ m 2) : f_X0_othersWhoRun fu cou med (wd c) (wd (mask (alv at_) c)) (at_ 1) (wd m) s = some (wd (cnd at_ c m s)) := by
  simp (disch := omega) only [f_X0_othersWhoRun, c_isMan, wd_lit, wd_of, wd_add, wd_mul, wd_neg, Option.bind_some, bnd, rdI_wd, wrI_wd, rdJ_wd, wrJ_wd, wd_31, c_runners h8 hf h1 h2, wd_le, wd_lt, wd_inj, wd_eqm, wd_eqm', wd_ltm, wd_lem, wd_ltm2, wd_lem2, wd_bit0', wd_bit1', wd_shl, wd_or, wd_dif, i01_0]
  rw [if_neg (by simp [hm])]
  congr 2
  apply Nat.eq_of_testBit_eq
  intro k
  have := mask_256 (rns at_ s) h8
  rw [sdf_bit (by omega), mask_bit, cnd, mask_bit, Nat.one_shiftLeft, Nat.testBit_two_pow]
  by_cases hk : k = m
  · subst hk; simp
  · have : ¬ m = k := fun h => hk h.symm
    simp [hk, this]
def clk (lik : Nat → Int32) (v : Nat) : Option Nat → Int32
  | none => nn
  | some b => lik (v * 8 + b)
theorem clk_n (lik : Nat → Int32) (v : Nat) : clk lik v none = nn := rfl
theorem clk_s (lik : Nat → Int32) (v b : Nat) : clk lik v (some b) = lik (v * 8 + b) := rfl
theorem c_choiceOf {v S : Nat} (hv : v < c) (hS : S < 2147483648) (h8 : c ≤ 8) (hf : 1000 ≤ fu) (hl : ∀ m o, m < c → o < c → lik (m * 8 + o) = mn at_ m (6 + o)) (hn : ∀ m o, m < c → o < c → nn < mn at_ m (6 + o)) : f_X0_choiceOf fu lik (wd c) (wd v) (wd S) = some (oe (vby at_ v S c)) := by
  unfold f_X0_choiceOf
  simp (disch := omega) only [wd_lit, wd_of, wd_add, wd_mul, wd_neg, Option.bind_some, bnd, rdI_wd, wrI_wd, rdJ_wd, wrJ_wd, wd_31, wd_le, wd_lt, wd_inj, wd_eqm, wd_eqm', wd_ltm, wd_lem, wd_ltm2, wd_lem2, wd_bit0', wd_bit1', wd_shl, wd_or, wd_dif]
  rw [if_neg (by omega), if_pos hv]
  refine loop_seq (fun n i (x : Option Nat) => f_X0_choiceOf_l22 fu lik (wd c) (wd v) (wd S) n (oe x) (clk lik v x) (wd i)) (fun i => vby at_ v S i) c _ ?_ ?_ 0 fu (by omega) (by omega)
  · intro n i hi
    have hb := vby_lt at_ v S i
    have hl1 := hl v i hv hi
    have hn1 := hn v i hv hi
    rw [vby_s]
    cases hx : vby at_ v S i with
    | none =>
      simp (disch := omega) only [f_X0_choiceOf_l22, f_X0_choiceOf_b22, wd_lit, wd_of, wd_add, wd_mul, wd_neg, Option.bind_some, bnd, rdI_wd, wrI_wd, rdJ_wd, wrJ_wd, wd_31, wd_le, wd_lt, wd_inj, wd_eqm, wd_eqm', wd_ltm, wd_lem, wd_ltm2, wd_lem2, wd_bit0', wd_bit1', wd_shl, wd_or, wd_dif, oe_n, clk_n, hl1]
      have h9 : ¬ mn at_ v (6 + i) ≤ nn := Int32.not_le.2 hn1
      grind [oe_s, oe_n, vbt_n, vbt_s, clk_s, clk_n]
    | some b =>
      have := hb b hx
      have hl2 := hl v b hv (by omega)
      simp (disch := omega) only [f_X0_choiceOf_l22, f_X0_choiceOf_b22, wd_lit, wd_of, wd_add, wd_mul, wd_neg, Option.bind_some, bnd, rdI_wd, wrI_wd, rdJ_wd, wrJ_wd, wd_31, wd_le, wd_lt, wd_inj, wd_eqm, wd_eqm', wd_ltm, wd_lem, wd_ltm2, wd_lem2, wd_bit0', wd_bit1', wd_shl, wd_or, wd_dif, oe_s, clk_s, hl1, hl2]
      grind [oe_s, oe_n, vbt_n, vbt_s, clk_s, clk_n]
  · intro n
    simp (disch := omega) only [f_X0_choiceOf_l22, f_X0_choiceOf_b22, wd_lit, wd_of, wd_add, wd_mul, wd_neg, Option.bind_some, bnd, rdI_wd, wrI_wd, rdJ_wd, wrJ_wd, wd_31, wd_le, wd_lt, wd_inj, wd_eqm, wd_eqm', wd_ltm, wd_lem, wd_ltm2, wd_lem2, wd_bit0', wd_bit1', wd_shl, wd_or, wd_dif]
    grind
theorem c_votesFor {k S : Nat} (hk : k < 8) (hS : S < 2147483648) (h8 : c ≤ 8) (hf : 1000 ≤ fu) (hw : ∀ m, m < c → wei m = mn at_ m 1) (hl : ∀ m o, m < c → o < c → lik (m * 8 + o) = mn at_ m (6 + o)) (hn : ∀ m o, m < c → o < c → nn < mn at_ m (6 + o)) : f_X0_votesFor fu wei lik (wd c) (wd (mask (alv at_) c)) (wd k) (wd S) = some (vts at_ c S k c) := by
  have h256 := mask_256 (alv at_) h8
  unfold f_X0_votesFor
  refine loop_seq (fun n i (x : Int32) => f_X0_votesFor_l5 fu wei lik (wd c) (wd (mask (alv at_) c)) (wd k) (wd S) n x (wd i)) (fun i => vts at_ c S k i) c _ ?_ ?_ 0 fu (by omega) (by omega)
  · intro n i hi
    simp (disch := omega) only [f_X0_votesFor_l5, f_X0_votesFor_b5, wd_lit, wd_of, wd_add, wd_mul, wd_neg, Option.bind_some, bnd, rdI_wd, wrI_wd, rdJ_wd, wrJ_wd, wd_31, h8, wd_le, wd_lt, wd_inj, wd_eqm, wd_eqm', wd_ltm, wd_lem, wd_ltm2, wd_lem2, wd_bit0', wd_bit1', wd_shl, wd_or, wd_dif, c_choiceOf hi hS h8 hf hl hn, vby_wd, i01_0]
    rw [mask_in hi, hw i hi]
    grind [ssum_s, vts, wd_a0]
  · intro n
    simp (disch := omega) only [f_X0_votesFor_l5, f_X0_votesFor_b5, wd_lit, wd_of, wd_add, wd_mul, wd_neg, Option.bind_some, bnd, rdI_wd, wrI_wd, rdJ_wd, wrJ_wd, wd_31, h8, wd_le, wd_lt, wd_inj, wd_eqm, wd_eqm', wd_ltm, wd_lem, wd_ltm2, wd_lem2, wd_bit0', wd_bit1', wd_shl, wd_or, wd_dif, vby_wd]
    grind
theorem c_fill {N : Nat} {row : Nat → Int32} {x1 : Int32} (hN : N < 1000) (hf : 1000 ≤ fu) : f_J7_fill_53178 fu N row x1 = some (fun k => if k < N then x1 else row k) := by
  unfold f_J7_fill_53178
  refine loop_seq (fun n i (x : Nat → Int32) => f_J7_fill_53178_l5 fu N x1 n x (wd i) (wd N)) (fun i => fun k => if k < i then x1 else row k) N _ ?_ ?_ 0 fu (by omega) (by omega)
  · intro n i hi
    simp (disch := omega) only [f_J7_fill_53178_l5, f_J7_fill_53178_b5, wd_lit, wd_of, wd_add, wd_mul, wd_neg, Option.bind_some, bnd, rdI_wd, wrI_wd, rdJ_wd, wrJ_wd, wd_31, hN, wd_le, wd_lt, wd_inj, wd_eqm, wd_eqm', wd_ltm, wd_lem, wd_ltm2, wd_lem2, wd_bit0', wd_bit1', wd_shl, wd_or, wd_dif]
    rw [if_neg (by omega)]
    congr 1
    funext k
    grind [upd]
  · intro n
    simp (disch := omega) only [f_J7_fill_53178_l5, f_J7_fill_53178_b5, wd_lit, wd_of, wd_add, wd_mul, wd_neg, Option.bind_some, bnd, rdI_wd, wrI_wd, rdJ_wd, wrJ_wd, wd_31, hN, wd_le, wd_lt, wd_inj, wd_eqm, wd_eqm', wd_ltm, wd_lem, wd_ltm2, wd_lem2, wd_bit0', wd_bit1', wd_shl, wd_or, wd_dif]
    rw [if_pos (by omega)]
theorem c_fillJ {N : Nat} {row : Nat → Int64} {x1 : Int64} (hN : N < 1000) (hf : 1000 ≤ fu) : f_J7_fill_d0a16 fu N row x1 = some (fun k => if k < N then x1 else row k) := by
  unfold f_J7_fill_d0a16
  refine loop_seq (fun n i (x : Nat → Int64) => f_J7_fill_d0a16_l6 fu N x1 n x (wd i) (wd N)) (fun i => fun k => if k < i then x1 else row k) N _ ?_ ?_ 0 fu (by omega) (by omega)
  · intro n i hi
    simp (disch := omega) only [f_J7_fill_d0a16_l6, f_J7_fill_d0a16_b6, wd_lit, wd_of, wd_add, wd_mul, wd_neg, Option.bind_some, bnd, rdI_wd, wrI_wd, rdJ_wd, wrJ_wd, wd_31, hN, wd_le, wd_lt, wd_inj, wd_eqm, wd_eqm', wd_ltm, wd_lem, wd_ltm2, wd_lem2, wd_bit0', wd_bit1', wd_shl, wd_or, wd_dif]
    rw [if_neg (by omega)]
    congr 1
    funext k
    grind [vp_updL]
  · intro n
    simp (disch := omega) only [f_J7_fill_d0a16_l6, f_J7_fill_d0a16_b6, wd_lit, wd_of, wd_add, wd_mul, wd_neg, Option.bind_some, bnd, rdI_wd, wrI_wd, rdJ_wd, wrJ_wd, wd_31, hN, wd_le, wd_lt, wd_inj, wd_eqm, wd_eqm', wd_ltm, wd_lem, wd_ltm2, wd_lem2, wd_bit0', wd_bit1', wd_shl, wd_or, wd_dif]
    rw [if_pos (by omega)]
def vrow (at_ : Nat → Int32) (c S : Nat) (vot : Nat → Int32) (i k : Nat) : Int32 := if k < 8 then vts at_ c S k i else vot k
theorem c_winnerOf {S : Nat} (hS : S < 2147483648) (h8 : c ≤ 8) (hf : 1000 ≤ fu) (hw : ∀ m, m < c → wei m = mn at_ m 1) (hl : ∀ m o, m < c → o < c → lik (m * 8 + o) = mn at_ m (6 + o)) (hn : ∀ m o, m < c → o < c → nn < mn at_ m (6 + o)) : f_X0_winnerOf fu wei lik vot (wd c) (wd (mask (alv at_) c)) (wd S) = some (oe (win at_ c S), vrow at_ c S vot c) := by
  have h256 := mask_256 (alv at_) h8
  unfold f_X0_winnerOf
  rw [c_fill (by omega) hf]
  have e0 : (fun k => if k < 8 then (0 : Int32) else vot k) = vrow at_ c S vot 0 := rfl
  rw [e0]
  refine loop_seq (fun n i (x : Nat → Int32) => f_X0_winnerOf_l10 fu wei lik (wd c) (wd (mask (alv at_) c)) (wd S) n x (wd i)) (fun i => vrow at_ c S vot i) c _ ?_ ?_ 0 fu (by omega) (by omega)
  · intro n i hi
    simp (disch := omega) only [f_X0_winnerOf_l10, f_X0_winnerOf_b10, f_X0_winnerOf_j39, wd_lit, wd_of, wd_add, wd_mul, wd_neg, Option.bind_some, bnd, rdI_wd, wrI_wd, rdJ_wd, wrJ_wd, wd_31, wd_le, wd_lt, wd_inj, wd_eqm, wd_eqm', wd_ltm, wd_lem, wd_ltm2, wd_lem2, wd_bit0', wd_bit1', wd_shl, wd_or, wd_dif, c_choiceOf hi hS h8 hf hl hn, hw i hi]
    rw [if_neg (by omega), mask_in hi]
    by_cases ha : alv at_ i = true
    · rw [if_neg (by simp [ha])]
      have hb := vby_lt at_ i S c
      cases hx : vby at_ i S c with
      | none =>
        rw [oe_n, if_pos rfl]
        congr 1
        funext k
        grind [vrow, vts, ssum_s, wd_a0]
      | some b =>
        have := hb b hx
        simp (disch := omega) only [oe_s, wd_lit, wd_of, wd_add, wd_mul, wd_neg, Option.bind_some, bnd, rdI_wd, wrI_wd, rdJ_wd, wrJ_wd, wd_31, wd_le, wd_lt, wd_inj, wd_eqm, wd_eqm', wd_ltm, wd_lem, wd_ltm2, wd_lem2, wd_bit0', wd_bit1', wd_shl, wd_or, wd_dif, if_false]
        congr 1
        funext k
        grind [vrow, vts, ssum_s, wd_a0, upd]
    · rw [if_pos (by simpa using ha)]
      simp only [if_true]
      congr 1
      funext k
      grind [vrow, vts, ssum_s, wd_a0]
  · intro n
    simp (disch := omega) only [f_X0_winnerOf_l10, f_X0_winnerOf_b10, wd_lit, wd_of, wd_add, wd_mul, wd_neg, Option.bind_some, bnd, rdI_wd, wrI_wd, rdJ_wd, wrJ_wd, wd_31, wd_le, wd_lt, wd_inj, wd_eqm, wd_eqm', wd_ltm, wd_lem, wd_ltm2, wd_lem2, wd_bit0', wd_bit1', wd_shl, wd_or, wd_dif]
    rw [if_pos (by omega)]
    unfold win
    refine loop_seq (fun n i (x : Option Nat × Int32) => f_X0_winnerOf_l73 fu wei lik (wd c) (wd (mask (alv at_) c)) (wd S) n (vrow at_ c S vot c) (oe x.1) x.2 (wd i)) (fun i => wnr at_ c S i) c _ ?_ ?_ 0 fu (by omega) (by omega)
    · intro n i hi
      have e1 : vrow at_ c S vot c i = vts at_ c S i c := if_pos (by omega)
      simp (disch := omega) only [f_X0_winnerOf_l73, f_X0_winnerOf_b73, wd_lit, wd_of, wd_add, wd_mul, wd_neg, Option.bind_some, bnd, rdI_wd, wrI_wd, rdJ_wd, wrJ_wd, wd_31, wd_le, wd_lt, wd_inj, wd_eqm, wd_eqm', wd_ltm, wd_lem, wd_ltm2, wd_lem2, wd_bit0', wd_bit1', wd_shl, wd_or, wd_dif, e1]
      grind [wnr_s, oe_s, Int32.not_lt]
    · intro n
      simp (disch := omega) only [f_X0_winnerOf_l73, f_X0_winnerOf_b73, wd_lit, wd_of, wd_add, wd_mul, wd_neg, Option.bind_some, bnd, rdI_wd, wrI_wd, rdJ_wd, wrJ_wd, wd_31, wd_le, wd_lt, wd_inj, wd_eqm, wd_eqm', wd_ltm, wd_lem, wd_ltm2, wd_lem2, wd_bit0', wd_bit1', wd_shl, wd_or, wd_dif]
      grind
theorem c_weightOf {S : Nat} (hS : S < 2147483648) (h8 : c ≤ 8) (hf : 1000 ≤ fu) (hw : ∀ m, m < c → wei m = mn at_ m 1) : f_X0_weightOf fu wei (wd c) (wd S) = some (wts at_ S c) := by
  unfold f_X0_weightOf
  refine loop_seq (fun n i (x : Int32) => f_X0_weightOf_l4 fu wei (wd c) (wd S) n x (wd i)) (fun i => wts at_ S i) c _ ?_ ?_ 0 fu (by omega) (by omega)
  · intro n i hi
    simp (disch := omega) only [f_X0_weightOf_l4, f_X0_weightOf_b4, wd_lit, wd_of, wd_add, wd_mul, wd_neg, Option.bind_some, bnd, rdI_wd, wrI_wd, rdJ_wd, wrJ_wd, wd_31, h8, wd_le, wd_lt, wd_inj, wd_eqm, wd_eqm', wd_ltm, wd_lem, wd_ltm2, wd_lem2, wd_bit0', wd_bit1', wd_shl, wd_or, wd_dif]
    rw [hw i hi]
    grind [ssum_s, wts, wd_a0]
  · intro n
    simp (disch := omega) only [f_X0_weightOf_l4, f_X0_weightOf_b4, wd_lit, wd_of, wd_add, wd_mul, wd_neg, Option.bind_some, bnd, rdI_wd, wrI_wd, rdJ_wd, wrJ_wd, wd_31, h8, wd_le, wd_lt, wd_inj, wd_eqm, wd_eqm', wd_ltm, wd_lem, wd_ltm2, wd_lem2, wd_bit0', wd_bit1', wd_shl, wd_or, wd_dif]
    grind
theorem c_carried {S : Nat} (hS : S < 2147483648) (h8 : c ≤ 8) (hf : 1000 ≤ fu) (hw : ∀ m, m < c → wei m = mn at_ m 1) : f_X0_isCarriedBy fu wei (wd c) (wd (mask (alv at_) c)) (at_ 2) (wd S) = some (i01 (cry at_ c S)) := by
  have h256 := mask_256 (alv at_) h8
  simp (disch := omega) only [f_X0_isCarriedBy, c_weightOf hS h8 hf hw, c_weightOf (show mask (alv at_) c < 2147483648 by omega) h8 hf hw, wd_lit, wd_of, wd_add, wd_mul, wd_neg, Option.bind_some, bnd, rdI_wd, wrI_wd, rdJ_wd, wrJ_wd, wd_31, Int32.mul_comm (wts at_ S c)]
  exact ie_i01 (α := Nat)
theorem c_decorated (h8 : c ≤ 8) (hf : 1000 ≤ fu) (h2 : ∀ m, m < c → med m = mn at_ m 2) : f_X0_decorated fu med (wd c) = some (wd (mask (dec at_) c)) := by
  unfold f_X0_decorated
  refine loop_seq (fun n i (x : Int32) => f_X0_decorated_l4 fu med (wd c) n x (wd i)) (fun i => wd (mask (dec at_) i)) c _ ?_ ?_ 0 fu (by omega) (by omega)
  · intro n i hi
    simp (disch := omega) only [f_X0_decorated_l4, f_X0_decorated_b4, wd_lit, wd_of, wd_add, wd_mul, wd_neg, Option.bind_some, bnd, rdI_wd, wrI_wd, rdJ_wd, wrJ_wd, wd_31, h8, wd_le, wd_lt, wd_inj, wd_eqm, wd_eqm', wd_ltm, wd_lem, wd_ltm2, wd_lem2, wd_bit0', wd_bit1', wd_shl, wd_or, wd_dif]
    rw [h2 i hi]
    grind [mask_s, dec]
  · intro n
    simp (disch := omega) only [f_X0_decorated_l4, f_X0_decorated_b4, wd_lit, wd_of, wd_add, wd_mul, wd_neg, Option.bind_some, bnd, rdI_wd, wrI_wd, rdJ_wd, wrJ_wd, wd_31, h8, wd_le, wd_lt, wd_inj, wd_eqm, wd_eqm', wd_ltm, wd_lem, wd_ltm2, wd_lem2, wd_bit0', wd_bit1', wd_shl, wd_or, wd_dif]
    grind
theorem c_sum8 {row : Nat → Int32} (hf : 1000 ≤ fu) : f_X11_sumOf fu 8 row = some (ssum row 8) := by
  unfold f_X11_sumOf
  refine loop_seq (fun n i (x : Int32) => f_X11_sumOf_l10 fu 8 row n x (wd 8) (wd i)) (fun i => ssum row i) 8 _ ?_ ?_ 0 fu (by omega) (by omega)
  · intro n i hi
    simp (disch := omega) only [f_X11_sumOf_l10, f_X11_sumOf_b10, wd_lit, wd_of, wd_add, wd_mul, wd_neg, Option.bind_some, bnd, rdI_wd, wrI_wd, rdJ_wd, wrJ_wd, wd_31, hf, wd_le, wd_lt, wd_inj, wd_eqm, wd_eqm', wd_ltm, wd_lem, wd_ltm2, wd_lem2, wd_bit0', wd_bit1', wd_shl, wd_or, wd_dif]
    grind [ssum_s]
  · intro n
    simp (disch := omega) only [f_X11_sumOf_l10, f_X11_sumOf_b10, wd_lit, wd_of, wd_add, wd_mul, wd_neg, Option.bind_some, bnd, rdI_wd, wrI_wd, rdJ_wd, wrJ_wd, wd_31, hf, wd_le, wd_lt, wd_inj, wd_eqm, wd_eqm', wd_ltm, wd_lem, wd_ltm2, wd_lem2, wd_bit0', wd_bit1', wd_shl, wd_or, wd_dif]
    grind [ssum_s]
theorem ssum_8 {f g : Nat → Int32} (h8 : c ≤ 8) (h1 : ∀ m, m < c → f m = g m) (h2 : ∀ m, c ≤ m → m < 8 → f m = wd 0) : ssum f 8 = ssum g c := by
  have key : ∀ d, c + d ≤ 8 → ssum f (c + d) = ssum g c := by
    intro d
    induction d with
    | zero => intro _; exact ssum_congr h1
    | succ d ih =>
      intro h
      rw [← Nat.add_assoc, ssum_s, ih (by omega), h2 (c + d) (by omega) (by omega), wd_a0]
  have := key (8 - c) (by omega)
  rwa [show c + (8 - c) = 8 by omega] at this
end
