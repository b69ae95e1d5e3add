/-! the danger that tells most -/
def stg (p : Nat → Bool) (P : Int32) (z x : Nat) : Bool := p x && !decide (bmin (wd x + P) < wd z)
def sto' (p : Nat → Bool) (P : Int32) (z : Nat) : Nat := ctb (stg p P z) 21
def grt (p : Nat → Bool) (P : Int32) (z : Nat) : Nat := if sto' p P z < ctb p 21 - sto' p P z then ctb p 21 - sto' p P z else sto' p P z
theorem sto_le (p : Nat → Bool) (P : Int32) (z : Nat) : sto' p P z ≤ ctb p 21 := by
  apply ctb_sub
  intro i h
  unfold stg at h
  rw [Bool.and_eq_true] at h
  exact h.1
theorem grt_le (p : Nat → Bool) (P : Int32) (z : Nat) : grt p P z ≤ ctb p 21 := by
  have := sto_le p P z
  unfold grt
  split <;> omega
def tls (p : Nat → Bool) (P : Int32) : Nat → Nat × Nat
  | 0 => (1, ctb p 21 + 1)
  | i + 1 => if grt p P (i + 1) < (tls p P i).2 then (i + 1, grt p P (i + 1)) else tls p P i
theorem tls_s (p : Nat → Bool) (P : Int32) (i : Nat) : tls p P (i + 1) = if grt p P (i + 1) < (tls p P i).2 then (i + 1, grt p P (i + 1)) else tls p P i := rfl
theorem tls_le (p : Nat → Bool) (P : Int32) : ∀ i, (tls p P i).1 ≤ i + 1 ∧ (tls p P i).2 ≤ 22 := by
  intro i
  have h21 := ctb_le p 21
  induction i with
  | zero => exact ⟨Nat.le_refl 1, by show ctb p 21 + 1 ≤ 22; omega⟩
  | succ i ih =>
    have := grt_le p P (i + 1)
    rw [tls_s]
    split
    · exact ⟨by show i + 1 ≤ _; omega, by show grt p P (i + 1) ≤ 22; omega⟩
    · exact ⟨by omega, ih.2⟩
theorem tls_1 (p : Nat → Bool) (P : Int32) : tls p P 1 = (1, grt p P 1) := by
  rw [tls_s, if_pos]
  have := grt_le p P 1
  show grt p P 1 < ctb p 21 + 1
  omega
section
variable {fu c : Nat} {at_ cou wei med sto fle lik vot : Nat → Int32} {cnt liv pri quo mel los st st' : Int32}
theorem mx_e {a b : Nat} (ha : a ≤ 100) (hb : b ≤ a) : (if wd b < wd a - wd b then wd a - wd b else wd b) = wd (if b < a - b then a - b else b) := by
  rw [wd_sub hb]
  simp (disch := omega) only [wd_lt]
  split <;> rfl
theorem c_telling {p : Nat → Bool} {q y : Int32} (hbc : f_J6_bitCount_0f7a4 fu (wd (mask p 21)) = some (wd (ctb p 21))) (hf : 1000 ≤ fu) : f_X11_tellingSize fu q y (wd (mask p 21)) = some (wd (tls p (q * y) 99).1) := by
  have hl := m21_lt p
  have h21 := ctb_le p 21
  unfold f_X11_tellingSize
  rw [hbc]
  have key := loop_seq (fun m i (x : Nat × Nat) => f_X11_tellingSize_l17 fu q y (wd (mask p 21)) m (wd x.1) (wd (ctb p 21)) (wd x.2) (wd (i + 1))) (fun i => tls p (q * y) i) 99 (some (wd (tls p (q * y) 99).1)) ?_ ?_ 0 fu (by omega) (by omega)
  · simp only [Option.bind_some, bnd, wd_lit, wd_add]
    exact key
  · intro m i hi
    have hle := tls_le p (q * y) i
    have hsl := sto_le p (q * y) (i + 1)
    have hgl := grt_le p (q * y) (i + 1)
    have ni : ¬ 99 < i + 1 := by omega
    rw [tls_s]
    rw [f_X11_tellingSize_l17, f_X11_tellingSize_b17]
    simp (disch := omega) only [wd_lit, wd_lt, ni, if_false]
    generalize hT : tls p (q * y) i = T at hle ⊢
    have key := loop_seq (fun mm j (x : Nat) => f_X11_tellingSize_l30 fu q y (wd (mask p 21)) (f_X11_tellingSize_l17 fu q y (wd (mask p 21)) m) mm (wd T.1) (wd (ctb p 21)) (wd T.2) (wd (i + 1)) (wd x) (wd j)) (fun j => ctb (stg p (q * y) (i + 1)) j) 21 (f_X11_tellingSize_l17 fu q y (wd (mask p 21)) m (wd (if grt p (q * y) (i + 1) < T.2 then (i + 1, grt p (q * y) (i + 1)) else T).1) (wd (ctb p 21)) (wd (if grt p (q * y) (i + 1) < T.2 then (i + 1, grt p (q * y) (i + 1)) else T).2) (wd (i + 1 + 1))) ?_ ?_ 0 fu (by omega) (by omega)
    · exact key
    · intro mm j hj
      have nj : ¬ 20 < j := by omega
      have es : stg p (q * y) (i + 1) j = (p j && !decide (bmin (wd j + q * y) < wd (i + 1))) := rfl
      rw [ctb_s (stg p (q * y) (i + 1)) j, es]
      simp (disch := omega) only [f_X11_tellingSize_l30, f_X11_tellingSize_b30, nj, c_holds30, mask_in hj, c_bw, i01_0, wd_lit, wd_of, wd_add, wd_mul, wd_neg, Option.bind_some, bnd, rdI_wd, wrI_wd, rdJ_wd, wrJ_wd, wd_31, wd_le, wd_lt, wd_inj, wd_eqm, wd_eqm', wd_ltm, wd_lem, wd_ltm2, wd_lem2, wd_bit0', wd_bit1', wd_shl, wd_or, wd_dif, i01_t, i01_f, jd_lit, i01_bz, bz_1, bz_0, f_X11_refuse, f_X11_answer, f_X11_allow, f_X11_deny, f_X12_refuse, f_X12_gives, f_X12_is, Option.some.injEq, exists_eq', if_true, if_false, ↓reduceIte, Nat.reduceEqDiff, Nat.reduceLT, Nat.reduceAdd]
      cases h1 : p j
      · simp
      · by_cases h2 : bmin (wd j + q * y) < wd (i + 1)
        · simp [h2]
        · simp [h2]
    · intro mm
      have e0 : ctb (stg p (q * y) (i + 1)) 21 = sto' p (q * y) (i + 1) := rfl
      rw [e0]
      rw [f_X11_tellingSize_l30, f_X11_tellingSize_b30]
      rw [if_pos (by decide)]
      have e1 : (if wd (sto' p (q * y) (i + 1)) < wd (ctb p 21) - wd (sto' p (q * y) (i + 1)) then wd (ctb p 21) - wd (sto' p (q * y) (i + 1)) else wd (sto' p (q * y) (i + 1))) = wd (grt p (q * y) (i + 1)) := mx_e (by omega) hsl
      rw [e1]
      simp (disch := omega) only [bnd, wd_lit, wd_le, wd_add]
      by_cases h1 : grt p (q * y) (i + 1) < T.2
      · rw [if_pos h1, if_neg (by omega)]
      · rw [if_neg h1, if_pos (by omega)]
  · intro m
    simp (disch := omega) only [f_X11_tellingSize_l17, f_X11_tellingSize_b17, wd_lit, wd_of, wd_add, wd_mul, wd_neg, Option.bind_some, bnd, rdI_wd, wrI_wd, rdJ_wd, wrJ_wd, wd_31, wd_le, wd_lt, wd_inj, wd_eqm, wd_eqm', wd_ltm, wd_lem, wd_ltm2, wd_lem2, wd_bit0', wd_bit1', wd_shl, wd_or, wd_dif, i01_t, i01_f, jd_lit, i01_bz, bz_1, bz_0, f_X11_refuse, f_X11_answer, f_X11_allow, f_X11_deny, f_X12_refuse, f_X12_gives, f_X12_is, Option.some.injEq, exists_eq', if_true, if_false, ↓reduceIte, Nat.reduceEqDiff, Nat.reduceLT, Nat.reduceAdd]
def akg (p : Nat → Bool) (P : Int32) (i : Nat) : Int32 × Int32 := if i = 0 then (nn, wd 1000000) else (wd (tls p P i).1, wd (tls p P i).2)
theorem r_askL {tm : Nat → Int32} {tr : Nat → Int64} {k m t : Nat} {p : Nat → Bool} (hm : m < 8) (ht : t < 4) (hk : k ≤ 20) (hv : ∀ i, i < k → osz (shJ (60 * t) tr (2 * i)) = true) (hp : ∀ x, x < 21 → p x = fit (shJ (60 * t) tr) (at_ 1 * mn at_ m 2) k x) (hf : 1000 ≤ fu) : f_X12_ask_l55 fu at_ tm tr (wd m) (wd t) (wd k) fu st' (wd (ctb p 21)) (-1) 1000000 1 = some (wd (tls p (at_ 1 * mn at_ m 2) 99).1, wd 0) := by
  rw [show (1000000 : Int32) = wd 1000000 from wd_lit 1000000]
  have h21 := ctb_le p 21
  have key := loop_seq (fun mm i (x : Int32 × Int32) => f_X12_ask_l55 fu at_ tm tr (wd m) (wd t) (wd k) mm st' (wd (ctb p 21)) x.1 x.2 (wd (i + 1))) (fun i => akg p (at_ 1 * mn at_ m 2) i) 99 (some (wd (tls p (at_ 1 * mn at_ m 2) 99).1, wd 0)) ?_ ?_ 0 fu (by omega) (by omega)
  · exact key
  · intro mm i hi
    have hle := tls_le p (at_ 1 * mn at_ m 2) i
    have hsl := sto_le p (at_ 1 * mn at_ m 2) (i + 1)
    have hgl := grt_le p (at_ 1 * mn at_ m 2) (i + 1)
    have ni : ¬ 99 < i + 1 := by omega
    have e0 : f_X12_fitting fu at_ tr (wd m) (wd t) (wd k) (wd (i + 1)) = some (wd (sto' p (at_ 1 * mn at_ m 2) (i + 1))) := by
      rw [r_fitting hm ht hk hv hf]
      congr 2
      apply ctb_congr
      intro x hx
      unfold stg
      rw [hp x hx]
    have e1 : (if wd (sto' p (at_ 1 * mn at_ m 2) (i + 1)) < wd (ctb p 21) - wd (sto' p (at_ 1 * mn at_ m 2) (i + 1)) then wd (ctb p 21) - wd (sto' p (at_ 1 * mn at_ m 2) (i + 1)) else wd (sto' p (at_ 1 * mn at_ m 2) (i + 1))) = wd (grt p (at_ 1 * mn at_ m 2) (i + 1)) := mx_e (by omega) hsl
    rw [f_X12_ask_l55, f_X12_ask_b55]
    simp (disch := omega) only [wd_lit, wd_lt, ni, if_false]
    rw [e0]
    simp only [Option.bind_some, bnd]
    rw [e1]
    have e2 : akg p (at_ 1 * mn at_ m 2) (i + 1) = (wd (tls p (at_ 1 * mn at_ m 2) (i + 1)).1, wd (tls p (at_ 1 * mn at_ m 2) (i + 1)).2) := if_neg (by omega)
    rw [e2]
    by_cases hi0 : i = 0
    · subst hi0
      have e3 : akg p (at_ 1 * mn at_ m 2) 0 = (nn, wd 1000000) := rfl
      rw [e3, tls_1, if_pos (by simp (disch := omega) only [wd_lt]; omega)]
      rfl
    · have e3 : akg p (at_ 1 * mn at_ m 2) i = (wd (tls p (at_ 1 * mn at_ m 2) i).1, wd (tls p (at_ 1 * mn at_ m 2) i).2) := if_neg hi0
      rw [e3, tls_s]
      simp (disch := omega) only [wd_lt, wd_add]
      by_cases h1 : grt p (at_ 1 * mn at_ m 2) (i + 1) < (tls p (at_ 1 * mn at_ m 2) i).2
      · rw [if_pos h1, if_pos h1]
      · rw [if_neg h1, if_neg h1]
  · intro mm
    have e2 : akg p (at_ 1 * mn at_ m 2) 99 = (wd (tls p (at_ 1 * mn at_ m 2) 99).1, wd (tls p (at_ 1 * mn at_ m 2) 99).2) := if_neg (by omega)
    rw [e2]
    simp (disch := omega) only [f_X12_ask_l55, f_X12_ask_b55, wd_lit, wd_of, wd_add, wd_mul, wd_neg, Option.bind_some, bnd, rdI_wd, wrI_wd, rdJ_wd, wrJ_wd, wd_31, wd_le, wd_lt, wd_inj, wd_eqm, wd_eqm', wd_ltm, wd_lem, wd_ltm2, wd_lem2, wd_bit0', wd_bit1', wd_shl, wd_or, wd_dif, i01_t, i01_f, jd_lit, i01_bz, bz_1, bz_0, f_X11_refuse, f_X11_answer, f_X11_allow, f_X11_deny, f_X12_refuse, f_X12_gives, f_X12_is, Option.some.injEq, exists_eq', if_true, if_false, ↓reduceIte, Nat.reduceEqDiff, Nat.reduceLT, Nat.reduceAdd]
def askG (fu : Nat) (st : Int32) (row : Nat → Int64) (mis man : Int32) (med : Nat → Int32) (cnt pri x1 x3 : Int32) : Option (Int32 × Int32) := (f_X11_seenRefusal fu row mis man cnt x1 x3).bind fun z_56 => (if z_56 = 0 then (f_X11_fittingCourages fu row man med cnt pri x1 x3).bind fun z_58 => (f_J6_bitCount_0f7a4 fu z_58).bind fun z_59 => (if 2 ≤ z_59 then (rdI med 8 x1).bind fun y_61 => (f_X11_tellingSize fu pri y_61 z_58).bind fun z_62 => (f_X11_answer fu st z_62).bind fun z_63 => some (z_63.1, z_63.2) else (f_X11_refuse fu st 6).bind fun z_64 => some (z_64.1, z_64.2)) else (f_X11_refuse fu st z_56).bind fun z_65 => some (z_65.1, z_65.2))
theorem t_ask {t : Nat} {y : tX8} {srt tm : Nat → Int32} {tr : Nat → Int64} {x1 x3 : Int32} (hW : WF at_ c) (hR : RA at_ c cou wei med sto fle lik cnt liv pri quo mel los) (ht : t < 4) (hy : RY y (srt t) (tm t) (shJ (60 * t) tr)) (hf : 1000 ≤ fu) : ∃ z, askG fu st (vX8_row y) (vX8_missing y) (vX8_many y) med cnt pri x1 x3 = some z ∧ f_X12_ask fu at_ st' tm tr x1 (wd t) x3 = some z := by
  obtain ⟨hV, rfl, rfl, rfl, rfl, rfl, rfl, h3, h4, h0⟩ := hR
  have h8 := hW.1
  have hc := hW.2.1
  obtain ⟨j, hj, e1, e2, e3⟩ := t_seenRef (x1 := x1) (x3 := x3) hc h8 ht hy hf
  by_cases hj0 : j = 0
  · subst hj0
    obtain ⟨m, k, n, hm, rfl, hk, rfl, hn, hkn, en, hv, hr⟩ := e3 rfl
    rw [en] at e1 ⊢
    obtain ⟨f1, f2⟩ := c_fitb (fu := fu) hW hm (hV.2.2.1 m hm) hn hkn hv hr hf
    have f3 := r_all (fu := fu) hW hm ht hk hv hf
    have hl := m21_lt (fit20 (shJ (60 * t) tr) (at_ 1 * mn at_ m 2) k)
    have h21 := ctb_le (fit20 (shJ (60 * t) tr) (at_ 1 * mn at_ m 2) k) 21
    have f5 := c_telling (q := at_ 1) (y := mn at_ m 2) f2 hf
    have f6 := r_askL (fu := fu) (tm := tm) (at_ := at_) (st' := st') (show m < 8 by omega) ht hk hv (fun x hx => fit20_e hx) hf
    generalize (tls (fit20 (shJ (60 * t) tr) (at_ 1 * mn at_ m 2) k) (at_ 1 * mn at_ m 2) 99).1 = B at f5 f6
    generalize ctb (fit20 (shJ (60 * t) tr) (at_ 1 * mn at_ m 2) k) 21 = al at f2 f3 f6 h21
    generalize mask (fit20 (shJ (60 * t) tr) (at_ 1 * mn at_ m 2) k) 21 = ms at f1 f2 f5 hl
    by_cases h2 : 2 ≤ al
    · skip
      refine ⟨(wd B, wd 0), ?_, ?_⟩
      · unfold askG
        rw [bind_e e1, if_pos (show wd 0 = 0 from rfl), bind_e f1, bind_e f2, if_pos (show (2 : Int32) ≤ wd al from by rw [wd_lit, wd_le (by omega) (by omega)]; exact h2), bind_e (rdI_wd (show m < 8 by omega) (by omega)), hV.2.2.1 m hm, bind_e f5]
        rfl
      · unfold f_X12_ask
        rw [e2]
        simp only [Option.bind_some]
        rw [if_pos (show wd 0 ≤ 0 from by decide), show f_X12_fitting fu at_ tr (wd m) (wd t) (wd k) 0 = some (wd (al)) from f3]
        simp only [Option.bind_some]
        rw [if_pos (show (2 : Int32) ≤ wd (al) from by rw [wd_lit, wd_le (by omega) (by omega)]; exact h2)]
        exact f6
    · refine ⟨(nn, wd 6), ?_, ?_⟩
      · unfold askG
        rw [bind_e e1, if_pos (show wd 0 = 0 from rfl), bind_e f1, bind_e f2, if_neg (show ¬ (2 : Int32) ≤ wd al from by rw [wd_lit, wd_le (by omega) (by omega)]; exact h2)]
        rfl
      · unfold f_X12_ask
        rw [e2]
        simp only [Option.bind_some]
        rw [if_pos (show wd 0 ≤ 0 from by decide), show f_X12_fitting fu at_ tr (wd m) (wd t) (wd k) 0 = some (wd (al)) from f3]
        simp only [Option.bind_some]
        rw [if_neg (show ¬ (2 : Int32) ≤ wd (al) from by rw [wd_lit, wd_le (by omega) (by omega)]; exact h2)]
        rfl
  · have hj0' : ¬ j ≤ 0 := by omega
    refine ⟨(nn, wd j), ?_, ?_⟩
    · simp (disch := omega) only [askG, e1, hj0, wd_lit, wd_of, wd_add, wd_mul, wd_neg, Option.bind_some, bnd, rdI_wd, wrI_wd, rdJ_wd, wrJ_wd, wd_31, wd_le, wd_lt, wd_inj, wd_eqm, wd_eqm', wd_ltm, wd_lem, wd_ltm2, wd_lem2, wd_bit0', wd_bit1', wd_shl, wd_or, wd_dif, i01_t, i01_f, jd_lit, i01_bz, bz_1, bz_0, f_X11_refuse, f_X11_answer, f_X11_allow, f_X11_deny, f_X12_refuse, f_X12_gives, f_X12_is, Option.some.injEq, exists_eq', if_true, if_false, ↓reduceIte, Nat.reduceEqDiff, Nat.reduceLT, Nat.reduceAdd]
    · unfold f_X12_ask
      rw [bind_e e2, if_neg (show ¬ wd j ≤ 0 from by rw [show (0 : Int32) = wd 0 from rfl, wd_le (by omega) (by omega)]; exact hj0')]
      rfl
theorem r_askn {tm : Nat → Int32} {tr : Nat → Int64} {x1 x2 x3 : Int32} (hc : at_ 0 = wd c) (q : imn 4 x2 = false) : f_X12_ask fu at_ st' tm tr x1 x2 x3 = some (nn, wd 1) := by
  unfold f_X12_ask
  rw [bind_e (r_seenRefn hc q), if_neg (show ¬ wd 1 ≤ 0 from by decide)]
  rfl
end
theorem ask_0 {fu : Nat} {m0 n0 m1 n1 m2 n2 m3 n3 st cnt pri x1 x3 : Int32} {r0 r1 r2 r3 : Nat → Int64} {med : Nat → Int32} : f_X11_ask fu st r0 m0 n0 r1 m1 n1 r2 m2 n2 r3 m3 n3 med cnt pri x1 (wd 0) x3 = askG fu st r0 m0 n0 med cnt pri x1 x3 := by
  unfold f_X11_ask askG
  rw [if_pos (show wd 0 = 0 by decide)]
theorem ask_1 {fu : Nat} {m0 n0 m1 n1 m2 n2 m3 n3 st cnt pri x1 x3 : Int32} {r0 r1 r2 r3 : Nat → Int64} {med : Nat → Int32} : f_X11_ask fu st r0 m0 n0 r1 m1 n1 r2 m2 n2 r3 m3 n3 med cnt pri x1 (wd 1) x3 = askG fu st r1 m1 n1 med cnt pri x1 x3 := by
  unfold f_X11_ask askG
  rw [if_neg (show ¬ wd 1 = 0 by decide), if_pos (show wd 1 = 1 by decide)]
theorem ask_2 {fu : Nat} {m0 n0 m1 n1 m2 n2 m3 n3 st cnt pri x1 x3 : Int32} {r0 r1 r2 r3 : Nat → Int64} {med : Nat → Int32} : f_X11_ask fu st r0 m0 n0 r1 m1 n1 r2 m2 n2 r3 m3 n3 med cnt pri x1 (wd 2) x3 = askG fu st r2 m2 n2 med cnt pri x1 x3 := by
  unfold f_X11_ask askG
  rw [if_neg (show ¬ wd 2 = 0 by decide), if_neg (show ¬ wd 2 = 1 by decide), if_pos (show wd 2 = 2 by decide)]
theorem ask_3 {fu : Nat} {m0 n0 m1 n1 m2 n2 m3 n3 st cnt pri x1 x3 : Int32} {r0 r1 r2 r3 : Nat → Int64} {med : Nat → Int32} : f_X11_ask fu st r0 m0 n0 r1 m1 n1 r2 m2 n2 r3 m3 n3 med cnt pri x1 (wd 3) x3 = askG fu st r3 m3 n3 med cnt pri x1 x3 := by
  unfold f_X11_ask askG
  rw [if_neg (show ¬ wd 3 = 0 by decide), if_neg (show ¬ wd 3 = 1 by decide), if_neg (show ¬ wd 3 = 2 by decide), if_pos (show wd 3 = 3 by decide)]
theorem ask_n {fu c : Nat} {m0 n0 m1 n1 m2 n2 m3 n3 st pri x1 x3 : Int32} {r0 r1 r2 r3 : Nat → Int64} {med : Nat → Int32} {x2 : Int32} (h : ¬ x2 = wd 0 ∧ ¬ x2 = wd 1 ∧ ¬ x2 = wd 2 ∧ ¬ x2 = wd 3) : f_X11_ask fu st r0 m0 n0 r1 m1 n1 r2 m2 n2 r3 m3 n3 med (wd c) pri x1 x2 x3 = some (nn, wd 1) := by
  unfold f_X11_ask
  rw [if_neg (show ¬ x2 = 0 from h.1), if_neg (show ¬ x2 = 1 from h.2.1), if_neg (show ¬ x2 = 2 from h.2.2.1), if_neg (show ¬ x2 = 3 from h.2.2.2), seenRef_n]
  rfl
theorem Q1_ask {fu : Nat} (hf : 1000 ≤ fu) : Q_ask fu RR := by
  intro S M x1 x2 x3 h
  have hy := h.2.1
  obtain ⟨c, hW, hA, hN, hWr⟩ := h.2.2.1
  cases q0 : imn 4 x2
  · exact q_of (bind_e (by rw [hA.2.1]; exact ask_n (imn4 q0))) (bind_e (r_askn hW.2.1 q0)) ⟨⟨rfl, h.1.2⟩, h.2⟩
  · obtain ⟨t, ht, rfl⟩ := imn_ex (by omega) q0
    obtain rfl | rfl | rfl | rfl : t = 0 ∨ t = 1 ∨ t = 2 ∨ t = 3 := by omega
    · obtain ⟨z, e1, e2⟩ := t_ask (st := vX11_latestStatus (S_b S)) (st' := vX12_status M) (x1 := x1) (x3 := x3) hW hA (show 0 < 4 by omega) hy.1 hf
      exact q_of (bind_e (ask_0.trans e1)) (bind_e e2) ⟨⟨rfl, h.1.2⟩, h.2⟩
    · obtain ⟨z, e1, e2⟩ := t_ask (st := vX11_latestStatus (S_b S)) (st' := vX12_status M) (x1 := x1) (x3 := x3) hW hA (show 1 < 4 by omega) hy.2.1 hf
      exact q_of (bind_e (ask_1.trans e1)) (bind_e e2) ⟨⟨rfl, h.1.2⟩, h.2⟩
    · obtain ⟨z, e1, e2⟩ := t_ask (st := vX11_latestStatus (S_b S)) (st' := vX12_status M) (x1 := x1) (x3 := x3) hW hA (show 2 < 4 by omega) hy.2.2.1 hf
      exact q_of (bind_e (ask_2.trans e1)) (bind_e e2) ⟨⟨rfl, h.1.2⟩, h.2⟩
    · obtain ⟨z, e1, e2⟩ := t_ask (st := vX11_latestStatus (S_b S)) (st' := vX12_status M) (x1 := x1) (x3 := x3) hW hA (show 3 < 4 by omega) hy.2.2.2 hf
      exact q_of (bind_e (ask_3.trans e1)) (bind_e e2) ⟨⟨rfl, h.1.2⟩, h.2⟩
