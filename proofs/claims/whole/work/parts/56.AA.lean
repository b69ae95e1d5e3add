/-! armies that a board can't tell apart -/
def ME (a b : Nat → Int32) : Prop := b 0 = a 0 ∧ b 1 = a 1 ∧ ∀ m j, m < 8 → j < 14 → j ≠ 3 → j ≠ 4 → mn b m j = mn a m j
theorem ME.rf {a : Nat → Int32} : ME a a := ⟨rfl, rfl, fun _ _ _ _ _ _ => rfl⟩
theorem ME.tr {a b d : Nat → Int32} (h1 : ME a b) (h2 : ME b d) : ME a d := ⟨h2.1.trans h1.1, h2.2.1.trans h1.2.1, fun m j h3 h4 h5 h6 => (h2.2.2 m j h3 h4 h5 h6).trans (h1.2.2 m j h3 h4 h5 h6)⟩
section
variable {c : Nat} {a b : Nat → Int32}
theorem ME_nalv (h : ME a b) {m : Nat} (hm : m < 8) : alv b m = alv a m := by unfold alv; rw [h.2.2 m 5 hm (by omega) (by omega) (by omega)]
theorem ME_nbrv (h : ME a b) {m : Nat} (hm : m < 8) : brv b m = brv a m := by unfold brv; rw [h.2.1, h.2.2 m 0 hm (by omega) (by omega) (by omega), h.2.2 m 2 hm (by omega) (by omega) (by omega)]
theorem ME_nrns (h : ME a b) {s : Int32} {m : Nat} (hm : m < 8) : rns b s m = rns a s m := by unfold rns; rw [ME_nalv h hm, ME_nbrv h hm]
theorem ME_nmrns (h : ME a b) {s : Int32} (h8 : c ≤ 8) : mask (rns b s) c = mask (rns a s) c := mask_congr fun k hk => ME_nrns h (by omega)
theorem ME_nvby (h : ME a b) {v S : Nat} (hv : v < 8) : ∀ i, i ≤ 8 → vby b v S i = vby a v S i := by
  intro i
  induction i with
  | zero => intro _; rfl
  | succ i ih =>
    intro hi
    rw [vby_s, vby_s, ih (by omega)]
    have e : vbt b v i (vby a v S i) = vbt a v i (vby a v S i) := by
      cases hx : vby a v S i with
      | none => rfl
      | some k =>
        have := vby_lt a v S i k hx
        rw [vbt_s, vbt_s, h.2.2 v (6 + i) hv (by omega) (by omega) (by omega), h.2.2 v (6 + k) hv (by omega) (by omega) (by omega)]
    rw [e]
theorem ME_nvts (h : ME a b) {S k : Nat} (h8 : c ≤ 8) : vts b c S k c = vts a c S k c := by
  unfold vts
  apply ssum_congr
  intro v hv
  rw [ME_nalv h (by omega), ME_nvby h (by omega) c h8, h.2.2 v 1 (by omega) (by omega) (by omega) (by omega)]
theorem ME_nwnr (h : ME a b) {S : Nat} (h8 : c ≤ 8) : ∀ i, wnr b c S i = wnr a c S i := by
  intro i
  induction i with
  | zero => rfl
  | succ i ih => rw [wnr_s, wnr_s, ih, ME_nvts h h8]
theorem ME_nwin (h : ME a b) {S : Nat} (h8 : c ≤ 8) : win b c S = win a c S := by unfold win; rw [ME_nwnr h h8]
/-- somebody stood a danger: the medal -/
def pn (at_ : Nat → Int32) (c : Nat) (s : Int32) : Nat → Int32 := match win at_ c (mask (rns at_ s) c) with
  | none => at_
  | some w => pinA at_ w
theorem ME_pinA {w : Nat} (h : ME a b) (hw : w < 8) : ME (pinA a w) (pinA b w) := by
  refine ⟨?_, ?_, fun m j hm hj h3 h4 => ?_⟩
  · unfold pinA; rw [upd_ne (by omega), upd_ne (by omega), upd_ne (by omega), upd_ne (by omega)]; exact h.1
  · unfold pinA; rw [upd_ne (by omega), upd_ne (by omega), upd_ne (by omega), upd_ne (by omega)]; exact h.2.1
  · rw [mn_pinA hj, mn_pinA hj, h.2.2 m j hm hj h3 h4, h.2.2 w 2 hw (by omega) (by omega) (by omega)]
theorem ME_pn {s : Int32} (h : ME a b) (h8 : c ≤ 8) : ME (pn a c s) (pn b c s) := by
  unfold pn
  rw [ME_nmrns h h8, ME_nwin h h8]
  cases hx : win a c (mask (rns a s) c) with
  | none => exact h
  | some w => exact ME_pinA h (by have := win_lt hx; omega)
theorem ME_u {m j : Nat} {x : Int32} (hm : m < 8) (hj : j < 14) (h3 : j = 3 ∨ j = 4) : ME a (upd a (8 + 14 * m + j) x) := by
  refine ⟨upd_ne (by omega), upd_ne (by omega), fun m' j' hm' hj' h3' h4' => ?_⟩
  rw [mn_upd hj hj', if_neg (by omega)]
theorem ME_u8 {k : Nat} {x : Int32} (hk : k < 8) (h2 : 2 ≤ k) : ME a (upd a k x) := ⟨upd_ne (by omega), upd_ne (by omega), fun m' j' hm' hj' h3' h4' => by rw [mn_upd8 hk]⟩
/-- what the reference does when one stood -/
theorem ME_pins {m : Nat} {s : Int32} (h : ME a b) (h8 : c ≤ 8) (hm : m < 8) (hs : ¬ brv a m < s) : ME (pn a c s) (pinsA b c m s).2 := by
  have hs' : ¬ brv b m < s := by rw [ME_nbrv h hm]; exact hs
  unfold pinsA pn
  rw [cnd_runs hs', ME_nmrns h h8, ME_nwin h h8]
  cases hx : win a c (mask (rns a s) c) with
  | none => exact ME.tr h (ME.tr (ME_u hm (by omega) (Or.inl rfl)) (ME_u8 (by omega) (by omega)))
  | some w => exact ME_pinA (ME.tr h (ME_u hm (by omega) (Or.inl rfl))) (by have := win_lt hx; omega)
theorem FR_pins {m : Nat} {s : Int32} (h8 : c ≤ 8) (hm : m < 8) : FR a (pinsA a c m s).2 := by
  unfold pinsA
  cases hx : win a c (cnd a c m s) with
  | none => exact FR.tr (FR_u3 hm (by omega)) (FR_u8 (by omega) (by omega))
  | some w => exact FR.tr (FR_u3 hm (by omega)) (FR_pinA (by have := win_lt hx; omega))
theorem FR_faces {m : Nat} {s : Int32} (h8 : c ≤ 8) (hm : m < 8) : FR a (facesA a c m s).2 := by
  unfold facesA
  split
  · exact FR_u3 hm (by omega)
  · exact FR_pins h8 hm
/-- what the reference does when one faces -/
theorem ME_faces {m : Nat} {s : Int32} (h : ME a b) (h8 : c ≤ 8) (hm : m < 8) : ME (if brv a m < s then a else pn a c s) (facesA b c m s).2 := by
  unfold facesA
  rw [ME_nbrv h hm]
  by_cases hs : brv a m < s
  · rw [if_pos hs, if_pos hs]; exact ME.tr h (ME_u hm (by omega) (Or.inr rfl))
  · rw [if_neg hs, if_neg hs]; exact ME_pins h h8 hm hs
theorem WF_pn {s : Int32} (h : WF a c) : WF (pn a c s) c := by
  unfold pn
  cases hx : win a c (mask (rns a s) c) with
  | none => exact h
  | some w => exact WF_pinA h (win_lt hx).1
theorem alv_pn {s : Int32} : alv (pn a c s) = alv a := by
  unfold pn
  cases hx : win a c (mask (rns a s) c) with
  | none => rfl
  | some w => exact alv_pinA
theorem pn_1 {s : Int32} : (pn a c s) 1 = a 1 := by
  unfold pn
  cases hx : win a c (mask (rns a s) c) with
  | none => rfl
  | some w => show pinA a w 1 = a 1; unfold pinA; rw [upd_ne (by omega), upd_ne (by omega)]
end
/-! a part of the reference kept, and back -/
def AG (at_ at' : Nat → Int32) : Prop := ∀ i, i < 1952 → at' i = at_ i
theorem RR_ag {S : SX} {M : tX12} {at' : Nat → Int32} (h : AG (vX12_at M) at') (hH : RHW (vX12_at M) (vX12_names M) (S_a S) (S_w S)) (hM : RMk (vX11_marks (S_b S)) (vX12_marks M) (vX12_at M) (vX12_names M) (S_o0 S) (S_o1 S) (S_o2 S) (S_u0 S) (S_u1 S) (S_u2 S)) : RHW at' (vX12_names M) (S_a S) (S_w S) ∧ RMk (vX11_marks (S_b S)) (vX12_marks M) at' (vX12_names M) (S_o0 S) (S_o1 S) (S_o2 S) (S_u0 S) (S_u1 S) (S_u2 S) := by
  refine ⟨RHW_e hH (fun k hk => h k (by omega)) (fun _ _ => rfl), ?_⟩
  obtain ⟨k, hk, e1, e2, h0, h1, h2⟩ := hM
  exact ⟨k, hk, e1, e2, fun hh => RHW_e (h0 hh) (fun j hj => h _ (by omega)) (fun _ _ => rfl), fun hh => RHW_e (h1 hh) (fun j hj => h _ (by omega)) (fun _ _ => rfl), fun hh => RHW_e (h2 hh) (fun j hj => h _ (by omega)) (fun _ _ => rfl)⟩
section
variable {fu : Nat} {at_ : Nat → Int32}
theorem r_keeps {b : Nat} (hb : 120 ≤ b) (hb2 : b + 120 ≤ 3648) (hf : 1000 ≤ fu) : f_X12_keeps fu at_ (wd b) = some (va_cpy at_ at_ 0 b 120) := by
  unfold f_X12_keeps
  have key := loop_seq (fun n i (x : Nat → Int32) => f_X12_keeps_l2 fu (wd b) n x (wd i)) (fun i => va_cpy at_ at_ 0 b i) 120 (some (va_cpy at_ at_ 0 b 120)) ?_ ?_ 0 fu (by omega) (by omega)
  · rw [show va_cpy at_ at_ 0 b 0 = at_ from by funext j; unfold va_cpy; rw [if_neg (by omega)]] at key; exact key
  · intro n i hi
    have e1 : va_cpy at_ at_ 0 b i i = at_ i := if_neg (by omega)
    simp (disch := omega) only [f_X12_keeps_l2, f_X12_keeps_b2, wd_lit, wd_of, wd_add, wd_mul, wd_neg, Option.bind_some, bnd, rdI_wd, wrI_wd, rdJ_wd, wrJ_wd, wd_31, wd_le, wd_lt, wd_inj, wd_eqm, wd_eqm', wd_ltm, wd_lem, wd_ltm2, wd_lem2, wd_bit0', wd_bit1', wd_shl, wd_or, wd_dif, e1]
    rw [if_neg (by omega)]
    congr 1
    funext j
    unfold upd va_cpy
    by_cases h : j = b + i
    · rw [if_pos h, if_pos (by omega)]; congr 1; omega
    · rw [if_neg h]
      by_cases h3 : b ≤ j ∧ j < b + i
      · rw [if_pos h3, if_pos (by omega)]
      · rw [if_neg h3, if_neg (by omega)]
  · intro n
    simp (disch := omega) only [f_X12_keeps_l2, f_X12_keeps_b2, wd_lit, wd_of, wd_add, wd_mul, wd_neg, Option.bind_some, bnd, rdI_wd, wrI_wd, rdJ_wd, wrJ_wd, wd_31, wd_le, wd_lt, wd_inj, wd_eqm, wd_eqm', wd_ltm, wd_lem, wd_ltm2, wd_lem2, wd_bit0', wd_bit1', wd_shl, wd_or, wd_dif]
    rw [if_pos (by omega)]
theorem r_restores {b : Nat} (hb : 120 ≤ b) (hb2 : b + 120 ≤ 3648) (hf : 1000 ≤ fu) : f_X12_restores fu at_ (wd b) = some (va_cpy at_ at_ b 0 120) := by
  unfold f_X12_restores
  have key := loop_seq (fun n i (x : Nat → Int32) => f_X12_restores_l2 fu (wd b) n x (wd i)) (fun i => va_cpy at_ at_ b 0 i) 120 (some (va_cpy at_ at_ b 0 120)) ?_ ?_ 0 fu (by omega) (by omega)
  · rw [show va_cpy at_ at_ b 0 0 = at_ from by funext j; unfold va_cpy; rw [if_neg (by omega)]] at key; exact key
  · intro n i hi
    have e1 : va_cpy at_ at_ b 0 i (b + i) = at_ (b + i) := if_neg (by omega)
    simp (disch := omega) only [f_X12_restores_l2, f_X12_restores_b2, wd_lit, wd_of, wd_add, wd_mul, wd_neg, Option.bind_some, bnd, rdI_wd, wrI_wd, rdJ_wd, wrJ_wd, wd_31, wd_le, wd_lt, wd_inj, wd_eqm, wd_eqm', wd_ltm, wd_lem, wd_ltm2, wd_lem2, wd_bit0', wd_bit1', wd_shl, wd_or, wd_dif, e1]
    rw [if_neg (by omega)]
    congr 1
    funext j
    unfold upd va_cpy
    by_cases h : j = i
    · rw [if_pos h, if_pos (by omega)]; congr 1; omega
    · rw [if_neg h]
      by_cases h3 : 0 ≤ j ∧ j < 0 + i
      · rw [if_pos h3, if_pos (by omega)]
      · rw [if_neg h3, if_neg (by omega)]
  · intro n
    simp (disch := omega) only [f_X12_restores_l2, f_X12_restores_b2, wd_lit, wd_of, wd_add, wd_mul, wd_neg, Option.bind_some, bnd, rdI_wd, wrI_wd, rdJ_wd, wrJ_wd, wd_31, wd_le, wd_lt, wd_inj, wd_eqm, wd_eqm', wd_ltm, wd_lem, wd_ltm2, wd_lem2, wd_bit0', wd_bit1', wd_shl, wd_or, wd_dif]
    rw [if_pos (by omega)]
/-- the sizes in a tray, on both sides -/
def wsz (n k : Nat) (tr : Nat → Int64) : Nat := if k ≤ n then (if alb (fun i => osz (tr i)) k then 0 else 5) else 3
theorem c_wsz {row : Nat → Int64} {n k : Nat} (hn : n ≤ 60) (hk : k ≤ 4) (hf : 1000 ≤ fu) : f_X8_sizesRefusal fu row (wd 0) (wd n) (wd k) (wd 1) = some (wd (wsz n k row)) := by
  rw [c_sizes hn (by omega) (by omega) (by omega) hf]
  unfold wsz
  simp only [Nat.mul_one]
  by_cases h1 : k ≤ n
  · rw [if_pos h1, if_pos h1]; cases alb (fun i => osz (row i)) k <;> rfl
  · rw [if_neg h1, if_neg h1]
theorem r_wsz {tm : Nat → Int32} {tr : Nat → Int64} {n k t lo : Nat} {x3 : Int32} (ht : t < 4) (hn : n ≤ 60) (hk : k ≤ 4) (hlo : lo ≤ k) (hx3 : x3 = wd lo) (htm : tm t = wd n) (hf : 1000 ≤ fu) : f_X12_wrongSizes fu tm tr (wd t) (wd k) x3 = some (wd (wsz n k (shJ (60 * t) tr))) := by
  subst hx3
  have qt := imn_wd (c := 4) (by omega) ht
  have q1 : wn lo 4 (wd k) = true := by rw [wn_wd (by omega) (by omega) (by omega)]; simp; omega
  unfold f_X12_wrongSizes wsz
  simp (disch := omega) only [r_isTray, qt, jd_lit, wd_64 (show lo < 2147483648 by omega), ← wd_64 (show k < 2147483648 by omega), r_from, q1, htm, wd_lit, wd_of, wd_add, wd_mul, wd_neg, Option.bind_some, bnd, rdI_wd, wrI_wd, rdJ_wd, wrJ_wd, wd_31, wd_le, wd_lt, wd_inj, wd_eqm, wd_eqm', wd_ltm, wd_lem, wd_ltm2, wd_lem2, wd_bit0', wd_bit1', wd_shl, wd_or, wd_dif, i01_t, Nat.reduceEqDiff, if_false]
  by_cases h1 : k ≤ n
  · rw [if_pos h1, if_pos h1]
    have key := loop_inv2 (fun m' i (_ : Unit) => f_X12_wrongSizes_l49 fu tm tr (wd t) (wd k) (wd lo) m' (wd i)) (fun i _ => alb (fun i => osz (shJ (60 * t) tr i)) i = true) (fun r => r = wd (if alb (fun i => osz (shJ (60 * t) tr i)) k then 0 else 5)) k ?_ ?_ 0 fu () (by omega) (by omega) rfl
    · obtain ⟨r, e, rfl⟩ := key
      exact e
    · intro m' i _ hi hI
      have e1 : tr (60 * t + i) = shJ (60 * t) tr i := rfl
      cases hs : osz (shJ (60 * t) tr i)
      · right
        refine ⟨wd 5, ?_, by rw [alb_f hi hs]; rfl⟩
        simp (disch := omega) only [f_X12_wrongSizes_l49, f_X12_wrongSizes_b49, r_isSizeJ, e1, hs, wd_lit, wd_of, wd_add, wd_mul, wd_neg, Option.bind_some, bnd, rdI_wd, wrI_wd, rdJ_wd, wrJ_wd, wd_31, wd_le, wd_lt, wd_inj, wd_eqm, wd_eqm', wd_ltm, wd_lem, wd_ltm2, wd_lem2, wd_bit0', wd_bit1', wd_shl, wd_or, wd_dif, i01_t, i01_f, jd_lit, i01_bz, bz_1, bz_0, f_X11_refuse, f_X11_answer, f_X11_allow, f_X11_deny, f_X12_refuse, f_X12_gives, f_X12_is, Option.some.injEq, exists_eq', if_true, if_false, ↓reduceIte, Nat.reduceEqDiff, Nat.reduceLT, Nat.reduceAdd]
        rw [if_neg (by omega)]
      · left
        refine ⟨(), ?_, by rw [alb_s, hI, hs]; rfl⟩
        simp (disch := omega) only [f_X12_wrongSizes_l49, f_X12_wrongSizes_b49, r_isSizeJ, e1, hs, wd_lit, wd_of, wd_add, wd_mul, wd_neg, Option.bind_some, bnd, rdI_wd, wrI_wd, rdJ_wd, wrJ_wd, wd_31, wd_le, wd_lt, wd_inj, wd_eqm, wd_eqm', wd_ltm, wd_lem, wd_ltm2, wd_lem2, wd_bit0', wd_bit1', wd_shl, wd_or, wd_dif, i01_t, i01_f, jd_lit, i01_bz, bz_1, bz_0, f_X11_refuse, f_X11_answer, f_X11_allow, f_X11_deny, f_X12_refuse, f_X12_gives, f_X12_is, Option.some.injEq, exists_eq', if_true, if_false, ↓reduceIte, Nat.reduceEqDiff, Nat.reduceLT, Nat.reduceAdd]
        rw [if_neg (by omega)]
    · intro m' _ hI
      refine ⟨wd 0, ?_, by rw [hI]; rfl⟩
      simp (disch := omega) only [f_X12_wrongSizes_l49, f_X12_wrongSizes_b49, wd_lit, wd_of, wd_add, wd_mul, wd_neg, Option.bind_some, bnd, rdI_wd, wrI_wd, rdJ_wd, wrJ_wd, wd_31, wd_le, wd_lt, wd_inj, wd_eqm, wd_eqm', wd_ltm, wd_lem, wd_ltm2, wd_lem2, wd_bit0', wd_bit1', wd_shl, wd_or, wd_dif]
      rw [if_pos (by omega)]
  · rw [if_neg h1, if_neg h1]
end
