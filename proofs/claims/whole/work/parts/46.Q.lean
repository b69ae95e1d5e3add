section
variable {fu c : Nat} {at_ cou wei med sto fle lik vot : Nat → Int32} {cnt liv pri quo mel los st st' : Int32}
def pwt (at_ : Nat → Int32) (c m i : Nat) : Nat := if sdf i (sdf (mask (alv at_) c) (1 <<< m)) = 0 ∧ cry at_ c i = false ∧ cry at_ c (i ||| 1 <<< m) = true then fac (pc 8 i) * fac (pc 8 (sdf (mask (alv at_) c) (1 <<< m)) - pc 8 i) else 0
def pws (at_ : Nat → Int32) (c m : Nat) : Nat → Nat
  | 0 => 0
  | i + 1 => pws at_ c m i + pwt at_ c m i
theorem pws_s (at_ : Nat → Int32) (c m i : Nat) : pws at_ c m (i + 1) = pws at_ c m i + pwt at_ c m i := rfl
theorem pwt_le (at_ : Nat → Int32) (c m i : Nat) : pwt at_ c m i ≤ 40320 := by
  unfold pwt
  split
  · have h1 := pc_le i 8
    have h2 := pc_le (sdf (mask (alv at_) c) (1 <<< m)) 8
    exact fac_8 _ h1 _ (by omega)
  · omega
theorem pws_le (at_ : Nat → Int32) (c m : Nat) : ∀ i, pws at_ c m i ≤ 40320 * i := by
  intro i
  induction i with
  | zero => exact Nat.le_refl 0
  | succ i ih => have := pwt_le at_ c m i; rw [pws_s]; omega
def pwr (at_ : Nat → Int32) (c m : Nat) : Nat := pws at_ c m (sdf (mask (alv at_) c) (1 <<< m) + 1)
theorem sh_lt {m : Nat} (h : m < 8) : 1 <<< m < 256 := by
  rw [Nat.one_shiftLeft]
  exact Nat.lt_of_lt_of_le (Nat.pow_lt_pow_right (by omega) h) (by decide)
theorem or_lt {a b : Nat} (ha : a < 256) (hb : b < 256) : a ||| b < 256 := Nat.or_lt_two_pow (n := 8) ha hb
theorem pwr_le {m : Nat} (h8 : c ≤ 8) : pwr at_ c m ≤ 10321920 := by
  have h256 := mask_256 (alv at_) h8
  have hs := sdf_le (mask (alv at_) c) (1 <<< m)
  have := pws_le at_ c m (sdf (mask (alv at_) c) (1 <<< m) + 1)
  unfold pwr
  omega
theorem c_powerOf {m : Nat} (hm : m < 8) (h8 : c ≤ 8) (hf : 1000 ≤ fu) (hw : ∀ m, m < c → wei m = mn at_ m 1) : f_X3_ordersCarriedBy fu wei (wd c) (wd (mask (alv at_) c)) (at_ 2) (wd m) = some (wd (pwr at_ c m)) := by
  have h256 := mask_256 (alv at_) h8
  have hs := sdf_le (mask (alv at_) c) (1 <<< m)
  have hsh := sh_lt hm
  unfold f_X3_ordersCarriedBy
  simp (disch := omega) only [wd_lit, wd_of, wd_add, wd_mul, wd_neg, Option.bind_some, bnd, rdI_wd, wrI_wd, rdJ_wd, wrJ_wd, wd_31, wd_le, wd_lt, wd_inj, wd_eqm, wd_eqm', wd_ltm, wd_lem, wd_ltm2, wd_lem2, wd_bit0', wd_bit1', wd_shl, wd_or, wd_dif, c_bc]
  refine loop_seq (fun n i (x : Nat) => f_X3_ordersCarriedBy_l22 fu wei (wd c) (wd (mask (alv at_) c)) (at_ 2) (wd m) n (wd (sdf (mask (alv at_) c) (1 <<< m))) (wd (pc 8 (sdf (mask (alv at_) c) (1 <<< m)))) (wd x) (wd i)) (fun i => pws at_ c m i) (sdf (mask (alv at_) c) (1 <<< m) + 1) _ ?_ ?_ 0 fu (by omega) (by omega)
  · intro n i hi
    have ho := or_lt (show i < 256 by omega) hsh
    have hs2 := sdf_le i (sdf (mask (alv at_) c) (1 <<< m))
    have hp := pc_le i 8
    have hp2 := pc_le (sdf (mask (alv at_) c) (1 <<< m)) 8
    rw [pws_s]
    unfold pwt
    simp (disch := omega) only [f_X3_ordersCarriedBy_l22, f_X3_ordersCarriedBy_b22, f_X3_ordersCarriedBy_j42, wd_lit, wd_of, wd_add, wd_mul, wd_neg, Option.bind_some, bnd, rdI_wd, wrI_wd, rdJ_wd, wrJ_wd, wd_31, wd_le, wd_lt, wd_inj, wd_eqm, wd_eqm', wd_ltm, wd_lem, wd_ltm2, wd_lem2, wd_bit0', wd_bit1', wd_shl, wd_or, wd_dif, c_bc, c_carried (show i < 2147483648 by omega) h8 hf hw, c_carried (show i ||| 1 <<< m < 2147483648 by omega) h8 hf hw, i01_0, c_orders]
    rw [if_neg (by omega)]
    by_cases q1 : sdf i (sdf (mask (alv at_) c) (1 <<< m)) = 0
    · have hps := pc_sub (sdf0 (by omega) q1) 8
      rw [if_pos q1, if_neg (by omega), wd_sub hps]
      simp (disch := omega) only [c_orders, Option.bind_some, wd_mul, wd_add]
      cases q2 : cry at_ c i
      · cases q3 : cry at_ c (i ||| 1 <<< m)
        · simp
        · simp [q1]
      · simp
    · rw [if_neg q1, if_pos True.intro, if_neg (fun h => q1 h.1)]; rfl
  · intro n
    simp (disch := omega) only [f_X3_ordersCarriedBy_l22, f_X3_ordersCarriedBy_b22, wd_lit, wd_of, wd_add, wd_mul, wd_neg, Option.bind_some, bnd, rdI_wd, wrI_wd, rdJ_wd, wrJ_wd, wd_31, wd_le, wd_lt, wd_inj, wd_eqm, wd_eqm', wd_ltm, wd_lem, wd_ltm2, wd_lem2, wd_bit0', wd_bit1', wd_shl, wd_or, wd_dif]
    rw [if_pos (by omega)]
    rfl
theorem r_powerOf {m : Nat} (hm : m < 8) (hc : at_ 0 = wd c) (h8 : c ≤ 8) (hf : 1000 ≤ fu) : f_X12_powerOf fu at_ (wd m) = some (wd (pwr at_ c m)) := by
  have h256 := mask_256 (alv at_) h8
  have hs := sdf_le (mask (alv at_) c) (1 <<< m)
  have hsh := sh_lt hm
  unfold f_X12_powerOf
  simp (disch := omega) only [wd_lit, wd_of, wd_add, wd_mul, wd_neg, Option.bind_some, bnd, rdI_wd, wrI_wd, rdJ_wd, wrJ_wd, wd_31, wd_le, wd_lt, wd_inj, wd_eqm, wd_eqm', wd_ltm, wd_lem, wd_ltm2, wd_lem2, wd_bit0', wd_bit1', wd_shl, wd_or, wd_dif, r_living hc h8 hf, r_bits (show sdf (mask (alv at_) c) (1 <<< m) < 256 by omega) hf]
  refine loop_seq (fun n i (x : Nat) => f_X12_powerOf_l22 fu at_ (wd m) n (wd (sdf (mask (alv at_) c) (1 <<< m))) (wd (pc 8 (sdf (mask (alv at_) c) (1 <<< m)))) (wd x) (wd i)) (fun i => pws at_ c m i) (sdf (mask (alv at_) c) (1 <<< m) + 1) _ ?_ ?_ 0 fu (by omega) (by omega)
  · intro n i hi
    have ho := or_lt (show i < 256 by omega) hsh
    have hs2 := sdf_le i (sdf (mask (alv at_) c) (1 <<< m))
    have hp := pc_le i 8
    have hp2 := pc_le (sdf (mask (alv at_) c) (1 <<< m)) 8
    rw [pws_s]
    unfold pwt
    simp (disch := omega) only [f_X12_powerOf_l22, f_X12_powerOf_b22, wd_lit, wd_of, wd_add, wd_mul, wd_neg, Option.bind_some, bnd, rdI_wd, wrI_wd, rdJ_wd, wrJ_wd, wd_31, wd_le, wd_lt, wd_inj, wd_eqm, wd_eqm', wd_ltm, wd_lem, wd_ltm2, wd_lem2, wd_bit0', wd_bit1', wd_shl, wd_or, wd_dif, r_bits (show i < 256 by omega) hf, r_doCarry (show i < 2147483648 by omega) hc h8 hf, r_doCarry (show i ||| 1 <<< m < 2147483648 by omega) hc h8 hf, i01_0, r_orders hp hf]
    rw [if_neg (by omega)]
    by_cases q1 : sdf i (sdf (mask (alv at_) c) (1 <<< m)) = 0
    · have hps := pc_sub (sdf0 (by omega) q1) 8
      rw [if_pos q1, wd_sub hps]
      simp (disch := omega) only [r_orders (show pc 8 (sdf (mask (alv at_) c) (1 <<< m)) - pc 8 i ≤ 8 by omega) hf, Option.bind_some, wd_mul, wd_add]
      cases q2 : cry at_ c i
      · cases q3 : cry at_ c (i ||| 1 <<< m)
        · simp
        · simp [q1]
      · simp
    · rw [if_neg q1, if_neg (fun h => q1 h.1)]; rfl
  · intro n
    simp (disch := omega) only [f_X12_powerOf_l22, f_X12_powerOf_b22, wd_lit, wd_of, wd_add, wd_mul, wd_neg, Option.bind_some, bnd, rdI_wd, wrI_wd, rdJ_wd, wrJ_wd, wd_31, wd_le, wd_lt, wd_inj, wd_eqm, wd_eqm', wd_ltm, wd_lem, wd_ltm2, wd_lem2, wd_bit0', wd_bit1', wd_shl, wd_or, wd_dif]
    rw [if_pos (by omega)]
    rfl
def mgb (at_ : Nat → Int32) (c i : Nat) : Option Nat → Bool
  | none => true
  | some b => decide (pwr at_ c b < pwr at_ c i)
theorem mgb_n (at_ : Nat → Int32) (c i : Nat) : mgb at_ c i none = true := rfl
theorem mgb_s (at_ : Nat → Int32) (c i b : Nat) : mgb at_ c i (some b) = decide (pwr at_ c b < pwr at_ c i) := rfl
def mgt (at_ : Nat → Int32) (c : Nat) : Nat → Option Nat
  | 0 => none
  | i + 1 => if alv at_ i && mgb at_ c i (mgt at_ c i) then some i else mgt at_ c i
theorem mgt_s (at_ : Nat → Int32) (c i : Nat) : mgt at_ c (i + 1) = if alv at_ i && mgb at_ c i (mgt at_ c i) then some i else mgt at_ c i := rfl
theorem mgt_lt (at_ : Nat → Int32) (c : Nat) : ∀ i b, mgt at_ c i = some b → b < i := by
  intro i
  induction i with
  | zero => intro b h; cases h
  | succ i ih =>
    intro b h
    rw [mgt_s] at h
    split at h
    · injection h with h; omega
    · have := ih b h; omega
def mgv (at_ : Nat → Int32) (c : Nat) : Option Nat → Int32
  | none => nn
  | some b => wd (pwr at_ c b)
theorem c_mightiest (h8 : c ≤ 8) (hf : 1000 ≤ fu) (hw : ∀ m, m < c → wei m = mn at_ m 1) : f_X3_mightiestOf fu wei (wd c) (wd (mask (alv at_) c)) (at_ 2) = some (oe (mgt at_ c c)) := by
  unfold f_X3_mightiestOf
  refine loop_seq (fun n i (x : Option Nat) => f_X3_mightiestOf_l6 fu wei (wd c) (wd (mask (alv at_) c)) (at_ 2) n (oe x) (mgv at_ c x) (wd i)) (fun i => mgt at_ c i) c _ ?_ ?_ 0 fu (by omega) (by omega)
  · intro n i hi
    have hl := pwr_le (at_ := at_) (m := i) h8
    rw [mgt_s]
    simp (disch := omega) only [f_X3_mightiestOf_l6, f_X3_mightiestOf_b6, f_X3_mightiestOf_j31, wd_lit, wd_of, wd_add, wd_mul, wd_neg, Option.bind_some, bnd, rdI_wd, wrI_wd, rdJ_wd, wrJ_wd, wd_31, wd_le, wd_lt, wd_inj, wd_eqm, wd_eqm', wd_ltm, wd_lem, wd_ltm2, wd_lem2, wd_bit0', wd_bit1', wd_shl, wd_or, wd_dif, c_lives hi h8, c_powerOf (show i < 8 by omega) h8 hf hw, i01_0]
    rw [if_neg (by omega)]
    cases hx : mgt at_ c i with
    | none =>
      simp (disch := omega) only [mgv, oe_n, wd_le, wd_lt, wd_inj, wd_eqm, wd_eqm', wd_ltm, wd_lem, wd_ltm2, wd_lem2, wd_bit0', wd_bit1', wd_shl, wd_or, wd_dif]
      cases q : alv at_ i
      · simp [mgb_n, mgb_s, mgv, oe_n, show nn ≤ nn from by decide]
      · simp [mgb_n, mgb_s, mgv, oe_s]
    | some b =>
      have hb := mgt_lt at_ c i b hx
      have hl2 := pwr_le (at_ := at_) (m := b) h8
      simp (disch := omega) only [mgv, oe_s, wd_le, wd_lt, wd_inj, wd_eqm, wd_eqm', wd_ltm, wd_lem, wd_ltm2, wd_lem2, wd_bit0', wd_bit1', wd_shl, wd_or, wd_dif]
      cases q : alv at_ i
      · simp [mgb_n, mgb_s, mgv, oe_s]
      · by_cases q2 : pwr at_ c i ≤ pwr at_ c b
        · have : ¬ pwr at_ c b < pwr at_ c i := by omega
          simp [mgb_n, mgb_s, mgv, oe_s, q2, this]
        · have : pwr at_ c b < pwr at_ c i := by omega
          simp [mgb_n, mgb_s, mgv, oe_s, q2, this]
  · intro n
    simp (disch := omega) only [f_X3_mightiestOf_l6, f_X3_mightiestOf_b6, wd_lit, wd_of, wd_add, wd_mul, wd_neg, Option.bind_some, bnd, rdI_wd, wrI_wd, rdJ_wd, wrJ_wd, wd_31, wd_le, wd_lt, wd_inj, wd_eqm, wd_eqm', wd_ltm, wd_lem, wd_ltm2, wd_lem2, wd_bit0', wd_bit1', wd_shl, wd_or, wd_dif]
    rw [if_pos (by omega)]
theorem r_mightiest (hc : at_ 0 = wd c) (h8 : c ≤ 8) (hf : 1000 ≤ fu) : f_X12_mightiest fu at_ st' = f_X12_orNone fu st' (oe (mgt at_ c c)) := by
  unfold f_X12_mightiest
  refine loop_seq (fun n i (x : Option Nat) => f_X12_mightiest_l4 fu at_ n st' (oe x) (wd i)) (fun i => mgt at_ c i) c _ ?_ ?_ 0 fu (by omega) (by omega)
  · intro n i hi
    have hl := pwr_le (at_ := at_) (m := i) h8
    rw [mgt_s]
    cases hx : mgt at_ c i with
    | none =>
      simp (disch := omega) only [f_X12_mightiest_l4, f_X12_mightiest_b4, wd_lit, wd_of, wd_add, wd_mul, wd_neg, Option.bind_some, bnd, rdI_wd, wrI_wd, rdJ_wd, wrJ_wd, wd_31, wd_le, wd_lt, wd_inj, wd_eqm, wd_eqm', wd_ltm, wd_lem, wd_ltm2, wd_lem2, wd_bit0', wd_bit1', wd_shl, wd_or, wd_dif, hc, r_isAlive, i01_0, oe_n]
      rw [if_neg (by omega)]
      cases q : alv at_ i
      · simp [mgb_n, mgb_s, oe_n]
      · simp [mgb_n, mgb_s, oe_s]
    | some b =>
      have hb := mgt_lt at_ c i b hx
      have hl2 := pwr_le (at_ := at_) (m := b) h8
      simp (disch := omega) only [f_X12_mightiest_l4, f_X12_mightiest_b4, wd_lit, wd_of, wd_add, wd_mul, wd_neg, Option.bind_some, bnd, rdI_wd, wrI_wd, rdJ_wd, wrJ_wd, wd_31, wd_le, wd_lt, wd_inj, wd_eqm, wd_eqm', wd_ltm, wd_lem, wd_ltm2, wd_lem2, wd_bit0', wd_bit1', wd_shl, wd_or, wd_dif, hc, r_isAlive, i01_0, oe_s, r_powerOf (show i < 8 by omega) hc h8 hf, r_powerOf (show b < 8 by omega) hc h8 hf]
      rw [if_neg (by omega)]
      cases q : alv at_ i
      · simp [mgb_n, mgb_s, oe_s]
      · by_cases q2 : pwr at_ c i ≤ pwr at_ c b
        · have : ¬ pwr at_ c b < pwr at_ c i := by omega
          simp [mgb_n, mgb_s, oe_s, q2, this]
        · have : pwr at_ c b < pwr at_ c i := by omega
          simp [mgb_n, mgb_s, oe_s, q2, this]
  · intro n
    simp (disch := omega) only [f_X12_mightiest_l4, f_X12_mightiest_b4, wd_lit, wd_of, wd_add, wd_mul, wd_neg, Option.bind_some, bnd, rdI_wd, wrI_wd, rdJ_wd, wrJ_wd, wd_31, wd_le, wd_lt, wd_inj, wd_eqm, wd_eqm', wd_ltm, wd_lem, wd_ltm2, wd_lem2, wd_bit0', wd_bit1', wd_shl, wd_or, wd_dif, hc]
    rw [if_pos (by omega)]
    cases f_X12_orNone fu st' (oe (mgt at_ c c)) <;> rfl
end
theorem t_mightiest {fu c : Nat} {at_ cou wei med sto fle lik vot : Nat → Int32} {cnt liv pri quo mel los st st' : Int32} (hW : WF at_ c) (hR : RA at_ c cou wei med sto fle lik cnt liv pri quo mel los) (hf : 1000 ≤ fu) : ∃ z, f_X11_mightiest fu st wei cnt liv quo = some z ∧ f_X12_mightiest fu at_ st' = some z := by
  obtain ⟨hV, rfl, rfl, rfl, rfl, rfl, rfl, h3, h4, h0⟩ := hR
  have h8 := hW.1
  have hc := hW.2.1
  rw [r_mightiest hc h8 hf]
  cases hx : mgt at_ c c with
  | none => apply two <;> simp (disch := omega) only [f_X11_mightiest, f_X12_orNone, c_mightiest h8 hf hV.2.1, hx, oe_n, wd_lit, wd_of, wd_add, wd_mul, wd_neg, Option.bind_some, bnd, rdI_wd, wrI_wd, rdJ_wd, wrJ_wd, wd_31, wd_le, wd_lt, wd_inj, wd_eqm, wd_eqm', wd_ltm, wd_lem, wd_ltm2, wd_lem2, wd_bit0', wd_bit1', wd_shl, wd_or, wd_dif, i01_t, i01_f, jd_lit, i01_bz, bz_1, bz_0, f_X11_refuse, f_X11_answer, f_X11_allow, f_X11_deny, f_X12_refuse, f_X12_gives, f_X12_is, Option.some.injEq, exists_eq', if_true, if_false, ↓reduceIte, Nat.reduceEqDiff, Nat.reduceLT, Nat.reduceAdd]
  | some b =>
    have := mgt_lt at_ c _ b hx
    apply two <;> simp (disch := omega) only [f_X11_mightiest, f_X12_orNone, c_mightiest h8 hf hV.2.1, hx, oe_s, wd_lit, wd_of, wd_add, wd_mul, wd_neg, Option.bind_some, bnd, rdI_wd, wrI_wd, rdJ_wd, wrJ_wd, wd_31, wd_le, wd_lt, wd_inj, wd_eqm, wd_eqm', wd_ltm, wd_lem, wd_ltm2, wd_lem2, wd_bit0', wd_bit1', wd_shl, wd_or, wd_dif, i01_t, i01_f, jd_lit, i01_bz, bz_1, bz_0, f_X11_refuse, f_X11_answer, f_X11_allow, f_X11_deny, f_X12_refuse, f_X12_gives, f_X12_is, Option.some.injEq, exists_eq', if_true, if_false, ↓reduceIte, Nat.reduceEqDiff, Nat.reduceLT, Nat.reduceAdd]
theorem Q1_mightiest {fu : Nat} (hf : 1000 ≤ fu) : Q_mightiest fu RR := by
  intro S M h
  obtain ⟨c, hW, hA, hN, hWr⟩ := h.2.2.1
  obtain ⟨z, e1, e2⟩ := t_mightiest (st := vX11_latestStatus (S_b S)) (st' := vX12_status M) (vot := vX0_votes (S_a S)) hW hA hf
  exact q_of (bind_e e1) (bind_e e2) ⟨⟨rfl, h.1.2⟩, h.2⟩
theorem t_power {fu c : Nat} {at_ cou wei med sto fle lik vot : Nat → Int32} {cnt liv pri quo mel los st st' : Int32} {x1 : Int32} {t0 b0 : Int64} (hW : WF at_ c) (hR : RA at_ c cou wei med sto fle lik cnt liv pri quo mel los) (hf : 1000 ≤ fu) : ∃ z, f_X11_power fu st t0 b0 wei cnt liv quo x1 = some z ∧ f_X12_power fu at_ st' t0 b0 x1 = some z := by
  obtain ⟨hV, rfl, rfl, rfl, rfl, rfl, rfl, h3, h4, h0⟩ := hR
  have h8 := hW.1
  have hc := hW.2.1
  cases q0 : imn c x1
  · apply two <;> simp (disch := omega) only [f_X11_power, f_X12_power, q0, c_isM, r_isM hc, wd_lit, wd_of, wd_add, wd_mul, wd_neg, Option.bind_some, bnd, rdI_wd, wrI_wd, rdJ_wd, wrJ_wd, wd_31, wd_le, wd_lt, wd_inj, wd_eqm, wd_eqm', wd_ltm, wd_lem, wd_ltm2, wd_lem2, wd_bit0', wd_bit1', wd_shl, wd_or, wd_dif, i01_t, i01_f, jd_lit, i01_bz, bz_1, bz_0, f_X11_refuse, f_X11_answer, f_X11_allow, f_X11_deny, f_X12_refuse, f_X12_gives, f_X12_is, Option.some.injEq, exists_eq', if_true, if_false, ↓reduceIte, Nat.reduceEqDiff, Nat.reduceLT, Nat.reduceAdd]
  · obtain ⟨m, hm, rfl⟩ := imn_ex (by omega) q0
    cases q1 : alv at_ m
    · apply two <;> simp (disch := omega) only [f_X11_power, f_X12_power, q0, q1, c_isM, r_isM hc, c_lives hm h8, r_isAlive, wd_lit, wd_of, wd_add, wd_mul, wd_neg, Option.bind_some, bnd, rdI_wd, wrI_wd, rdJ_wd, wrJ_wd, wd_31, wd_le, wd_lt, wd_inj, wd_eqm, wd_eqm', wd_ltm, wd_lem, wd_ltm2, wd_lem2, wd_bit0', wd_bit1', wd_shl, wd_or, wd_dif, i01_t, i01_f, jd_lit, i01_bz, bz_1, bz_0, f_X11_refuse, f_X11_answer, f_X11_allow, f_X11_deny, f_X12_refuse, f_X12_gives, f_X12_is, Option.some.injEq, exists_eq', if_true, if_false, ↓reduceIte, Nat.reduceEqDiff, Nat.reduceLT, Nat.reduceAdd]
    · have h256 := mask_256 (alv at_) h8
      have hp := pc_le (mask (alv at_) c) 8
      have hpw := pwr_le (at_ := at_) (m := m) h8
      have hfa := fac_1 _ hp
      obtain ⟨p, q, e1, e2⟩ := t_tell (fu := fu) (a := pwr at_ c m) (b := fac (pc 8 (mask (alv at_) c))) (t0 := t0) (b0 := b0) (t1 := t0) (b1 := b0) (st := st') (by omega) (by omega) (by omega) hf
      refine ⟨(wd 1, wd 0, p, q), ?_, ?_⟩
      · simp (disch := omega) only [f_X11_power, q0, q1, c_isM, c_lives hm h8, c_powerOf (show m < 8 by omega) h8 hf hV.2.1, c_bc, c_orders, wd_64, e1, wd_lit, wd_of, wd_add, wd_mul, wd_neg, Option.bind_some, bnd, rdI_wd, wrI_wd, rdJ_wd, wrJ_wd, wd_31, wd_le, wd_lt, wd_inj, wd_eqm, wd_eqm', wd_ltm, wd_lem, wd_ltm2, wd_lem2, wd_bit0', wd_bit1', wd_shl, wd_or, wd_dif, i01_t, i01_f, jd_lit, i01_bz, bz_1, bz_0, f_X11_refuse, f_X11_answer, f_X11_allow, f_X11_deny, f_X12_refuse, f_X12_gives, f_X12_is, Option.some.injEq, exists_eq', if_true, if_false, ↓reduceIte, Nat.reduceEqDiff, Nat.reduceLT, Nat.reduceAdd]
      · simp (disch := omega) only [f_X12_power, q0, q1, r_isM hc, r_isAlive, r_powerOf (show m < 8 by omega) hc h8 hf, r_living hc h8 hf, r_bits h256 hf, r_orders hp hf, wd_64, e2, wd_lit, wd_of, wd_add, wd_mul, wd_neg, Option.bind_some, bnd, rdI_wd, wrI_wd, rdJ_wd, wrJ_wd, wd_31, wd_le, wd_lt, wd_inj, wd_eqm, wd_eqm', wd_ltm, wd_lem, wd_ltm2, wd_lem2, wd_bit0', wd_bit1', wd_shl, wd_or, wd_dif, i01_t, i01_f, jd_lit, i01_bz, bz_1, bz_0, f_X11_refuse, f_X11_answer, f_X11_allow, f_X11_deny, f_X12_refuse, f_X12_gives, f_X12_is, Option.some.injEq, exists_eq', if_true, if_false, ↓reduceIte, Nat.reduceEqDiff, Nat.reduceLT, Nat.reduceAdd]
theorem Q1_power {fu : Nat} (hf : 1000 ≤ fu) : Q_power fu RR := by
  intro S M x1 h
  obtain ⟨c, hW, hA, hN, hWr⟩ := h.2.2.1
  obtain ⟨z, e1, e2⟩ := t_power (vot := vX0_votes (S_a S)) (st := vX11_latestStatus (S_b S)) (st' := vX12_status M) (x1 := x1) (t0 := vX11_fractionTop (S_b S)) (b0 := vX11_fractionBottom (S_b S)) hW hA hf
  have e3 : f_X12_power fu (vX12_at M) (vX12_status M) (vX12_top M) (vX12_bottom M) x1 = some z := by rw [← h.1.2.1, ← h.1.2.2]; exact e2
  exact q_of (bind_e e1) (bind_e e3) ⟨⟨rfl, rfl, rfl⟩, h.2⟩
