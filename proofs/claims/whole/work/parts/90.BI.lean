section
variable {fu : Nat} {at_ : Nat → Int32} {names : Nat → Int64}
/-- a row of likes, as it is at the start -/
def rfl8 (base m : Nat) (A : Nat → Int32) (i : Nat) : Nat → Int32 := fun k => if base + 8 + 14 * m + 6 ≤ k ∧ k < base + 8 + 14 * m + 6 + i then (if k = base + 8 + 14 * m + 6 + m then wd 0 else wd 5) else A k
def PRw (base : Nat) (A : Nat → Int32) : Nat → (Nat → Int32)
  | 0 => A
  | m + 1 => rfl8 base m (PRw base A m) 8
theorem PRw_s (base : Nat) (A : Nat → Int32) (m : Nat) : PRw base A (m + 1) = rfl8 base m (PRw base A m) 8 := rfl
theorem PRw_v (base : Nat) (A : Nat → Int32) : ∀ M, (∀ m o, m < M → o < 8 → M ≤ 8 → PRw base A M (base + 8 + 14 * m + 6 + o) = if m = o then wd 0 else wd 5) ∧ ∀ k, (∀ m o, m < M → o < 8 → k ≠ base + 8 + 14 * m + 6 + o) → PRw base A M k = A k := by
  intro M
  induction M with
  | zero => exact ⟨fun m o h => absurd h (by omega), fun k _ => rfl⟩
  | succ M ih =>
    constructor
    · intro m o hm ho hM
      rw [PRw_s]
      unfold rfl8
      by_cases hmM : m = M
      · subst hmM
        rw [if_pos (by omega)]
        by_cases hmo : m = o
        · rw [if_pos (by omega), if_pos hmo]
        · rw [if_neg (by omega), if_neg hmo]
      · rw [if_neg (by omega)]
        exact ih.1 m o (by omega) ho (by omega)
    · intro k hk
      rw [PRw_s]
      unfold rfl8
      rw [if_neg]
      · exact ih.2 k (fun m o hm ho => hk m o (by omega) ho)
      · intro hh
        exact hk M (k - (base + 8 + 14 * M + 6)) (by omega) (by omega) (by omega)
theorem r_plain {base : Nat} (hb : base + 488 ≤ 3648) (hf : 1000 ≤ fu) : ∃ at', f_X12_plain fu at_ (wd base) = some at' ∧ (∀ k, k < base ∨ base + 488 ≤ k → at' k = at_ k) ∧ at' base = wd 0 ∧ at' (base + 1) = wd 1 ∧ at' (base + 2) = wd 50 ∧ at' (base + 3) = wd 0 ∧ at' (base + 4) = wd 0 ∧ at' (base + 5) = nn ∧ (∀ m j, m < 8 → j < 6 → at' (base + (8 + 14 * m + j)) = wd 0) ∧ (∀ m o, m < 8 → o < 8 → at' (base + (8 + 14 * m + (6 + o))) = if m = o then wd 0 else wd 5) := by
  generalize hZ : (fun k => if base ≤ k ∧ k < base + 488 then wd 0 else at_ k) = Z
  have hZv : ∀ k, base ≤ k → k < base + 488 → Z k = wd 0 := by
    intro k h1 h2
    rw [← hZ]
    exact if_pos ⟨h1, h2⟩
  have hZo : ∀ k, k < base ∨ base + 488 ≤ k → Z k = at_ k := by
    intro k h1
    rw [← hZ]
    exact if_neg (by omega)
  generalize hA : upd (upd (upd Z (base + 1) (wd 1)) (base + 2) (wd 50)) (base + 5) nn = A
  have hin : ∀ (K : (Nat → Int32) → Int32 → Option (Nat → Int32)) (x : Nat → Int32) (m : Nat), m < 8 → f_X12_plain_l62 fu (wd base) K fu x (wd m) (wd 0) = K (rfl8 base m x 8) (wd (m + 1)) := by
    intro K x m hm
    have key := loop_seq (fun N i (s : Nat → Int32) => f_X12_plain_l62 fu (wd base) K N s (wd m) (wd i)) (fun i => rfl8 base m x i) 8 (K (rfl8 base m x 8) (wd (m + 1))) ?_ ?_ 0 fu (by omega) (by omega)
    · have e0 : rfl8 base m x 0 = x := by
        funext k
        unfold rfl8
        rw [if_neg (by omega)]
      have key : f_X12_plain_l62 fu (wd base) K fu (rfl8 base m x 0) (wd m) (wd 0) = _ := key
      rw [e0] at key
      exact key
    · intro N i hi
      show f_X12_plain_l62 fu (wd base) K (N + 1) (rfl8 base m x i) (wd m) (wd i) = f_X12_plain_l62 fu (wd base) K N (rfl8 base m x (i + 1)) (wd m) (wd (i + 1))
      have hix : ((wd base + wd (8 + 14 * m)) + 6) + wd i = wd (base + 8 + 14 * m + 6 + i) := by
        rw [wd_add, show (6 : Int32) = wd 6 from rfl, wd_add, wd_add]
        congr 1
        omega
      have hfn : ∀ v : Int32, v = (if m = i then wd 0 else wd 5) → upd (rfl8 base m x i) (base + 8 + 14 * m + 6 + i) v = rfl8 base m x (i + 1) := by
        intro v hv
        funext k
        unfold upd rfl8
        by_cases hk : k = base + 8 + 14 * m + 6 + i
        · rw [if_pos hk, if_pos (by omega), hv]
          by_cases hmi : m = i
          · rw [if_pos hmi, if_pos (by omega)]
          · rw [if_neg hmi, if_neg (by omega)]
        · rw [if_neg hk]
          by_cases hk2 : base + 8 + 14 * m + 6 ≤ k ∧ k < base + 8 + 14 * m + 6 + i
          · rw [if_pos hk2, if_pos (show base + 8 + 14 * m + 6 ≤ k ∧ k < base + 8 + 14 * m + 6 + (i + 1) by omega)]
          · rw [if_neg hk2, if_neg (by omega)]
      rw [f_X12_plain_l62, f_X12_plain_b62, show (8 : Int32) = wd 8 from rfl, if_neg (by rw [wd_le (by omega) (by omega)]; omega), bind_e r_manRow, hix, bind_e (wrI_wd (by omega) (by omega)), bind_e (wrI_wd (by omega) (by omega))]
      simp only [bnd]
      rw [show wd i + 1 = wd (i + 1) from wd_add i 1]
      by_cases hmi : m = i
      · rw [if_pos (show wd m = wd i by rw [hmi]), hfn _ (by rw [if_pos hmi]; rfl)]
      · rw [if_neg (show ¬ wd m = wd i by rw [wd_inj (by omega) (by omega)]; exact hmi), hfn _ (by rw [if_neg hmi]; rfl)]
    · intro N
      show f_X12_plain_l62 fu (wd base) K (N + 1) (rfl8 base m x 8) (wd m) (wd 8) = _
      rw [f_X12_plain_l62, f_X12_plain_b62, show (8 : Int32) = wd 8 from rfl, if_pos (by rw [wd_le (by omega) (by omega)]; omega)]
      simp only [bnd]
      rw [show wd m + 1 = wd (m + 1) from wd_add m 1]
  have hout : f_X12_plain_l54 fu (wd base) fu A (wd 0) = some (PRw base A 8) := by
    refine loop_seq (fun N i (s : Nat → Int32) => f_X12_plain_l54 fu (wd base) N s (wd i)) (fun i => PRw base A i) 8 _ ?_ ?_ 0 fu (by omega) (by omega)
    · intro N i hi
      show f_X12_plain_l54 fu (wd base) (N + 1) (PRw base A i) (wd i) = f_X12_plain_l54 fu (wd base) N (PRw base A (i + 1)) (wd (i + 1))
      rw [f_X12_plain_l54, f_X12_plain_b54, show (8 : Int32) = wd 8 from rfl, if_neg (by rw [wd_le (by omega) (by omega)]; omega)]
      exact hin _ _ i hi
    · intro N
      show f_X12_plain_l54 fu (wd base) (N + 1) (PRw base A 8) (wd 8) = _
      rw [f_X12_plain_l54, f_X12_plain_b54, show (8 : Int32) = wd 8 from rfl, if_pos (by rw [wd_le (by omega) (by omega)]; omega)]
  obtain ⟨v1, v2⟩ := PRw_v base A 8
  have hAv : ∀ k, k ≠ base + 1 → k ≠ base + 2 → k ≠ base + 5 → A k = Z k := by
    intro k h1 h2 h3
    rw [← hA, upd_ne h3, upd_ne h2, upd_ne h1]
  refine ⟨PRw base A 8, ?_, ?_, ?_, ?_, ?_, ?_, ?_, ?_, ?_, ?_⟩
  · unfold f_X12_plain
    have key := loop_seq (fun N i (s : Nat → Int32) => f_X12_plain_l2 fu (wd base) N s (wd i)) (fun i => fun k => if base ≤ k ∧ k < base + i then wd 0 else at_ k) 488 (some (PRw base A 8)) ?_ ?_ 0 fu (by omega) (by omega)
    · have key : f_X12_plain_l2 fu (wd base) fu (fun k => if base ≤ k ∧ k < base + 0 then wd 0 else at_ k) (wd 0) = _ := key
      rw [show (fun k => if base ≤ k ∧ k < base + 0 then wd 0 else at_ k) = at_ from by
        funext k
        rw [if_neg (by omega)]] at key
      exact key
    · intro N i hi
      show f_X12_plain_l2 fu (wd base) (N + 1) (fun k => if base ≤ k ∧ k < base + i then wd 0 else at_ k) (wd i) = f_X12_plain_l2 fu (wd base) N (fun k => if base ≤ k ∧ k < base + (i + 1) then wd 0 else at_ k) (wd (i + 1))
      rw [f_X12_plain_l2, f_X12_plain_b2, show (488 : Int32) = wd 488 from wd_lit 488, if_neg (by rw [wd_le (by omega) (by omega)]; omega), wd_add base i, bind_e (wrI_wd (by omega) (by omega))]
      simp only [bnd]
      rw [show wd i + 1 = wd (i + 1) from wd_add i 1]
      congr 1
      funext k
      unfold upd
      by_cases hk : k = base + i
      · rw [if_pos hk, if_pos (by omega)]; rfl
      · rw [if_neg hk]
        show (if base ≤ k ∧ k < base + i then wd 0 else at_ k) = _
        by_cases hk2 : base ≤ k ∧ k < base + i
        · rw [if_pos hk2, if_pos (by omega)]
        · rw [if_neg hk2, if_neg (by omega)]
    · intro N
      show f_X12_plain_l2 fu (wd base) (N + 1) (fun k => if base ≤ k ∧ k < base + 488 then wd 0 else at_ k) (wd 488) = _
      rw [hZ, f_X12_plain_l2, f_X12_plain_b2, show (488 : Int32) = wd 488 from wd_lit 488, if_pos (by rw [wd_le (by omega) (by omega)]; omega), show wd base + 1 = wd (base + 1) from wd_add base 1, show wd base + 2 = wd (base + 2) from wd_add base 2, show wd base + 5 = wd (base + 5) from wd_add base 5, bind_e (wrI_wd (by omega) (by omega)), bind_e (wrI_wd (by omega) (by omega)), bind_e (wrI_wd (by omega) (by omega))]
      rw [← hout, ← hA]
      rfl
  · intro k hk
    rw [v2 k (fun m o hm ho => by omega), hAv k (by omega) (by omega) (by omega), hZo k hk]
  · rw [v2 base (fun m o hm ho => by omega), hAv base (by omega) (by omega) (by omega), hZv base (by omega) (by omega)]
  · rw [v2 _ (fun m o hm ho => by omega), ← hA, upd_ne (by omega), upd_ne (by omega), upd_eq]
  · rw [v2 _ (fun m o hm ho => by omega), ← hA, upd_ne (by omega), upd_eq]
  · rw [v2 _ (fun m o hm ho => by omega), hAv _ (by omega) (by omega) (by omega), hZv _ (by omega) (by omega)]
  · rw [v2 _ (fun m o hm ho => by omega), hAv _ (by omega) (by omega) (by omega), hZv _ (by omega) (by omega)]
  · rw [v2 _ (fun m o hm ho => by omega), ← hA, upd_eq]
  · intro m j hm hj
    rw [v2 _ (fun m' o hm' ho => by omega), hAv _ (by omega) (by omega) (by omega), hZv _ (by omega) (by omega)]
  · intro m o hm ho
    rw [show base + (8 + 14 * m + (6 + o)) = base + 8 + 14 * m + 6 + o from by omega]
    exact v1 m o hm ho (by omega)
theorem RMk_e {mk mk' : Int32} {at' : Nat → Int32} {names' : Nat → Int64} {o0 o1 o2 : tX0} {u0 u1 u2 : tX9} (hM : RMk mk mk' at_ names o0 o1 o2 u0 u1 u2) (h : ∀ i, 488 ≤ i → i < 1952 → at' i = at_ i) (hn : ∀ i, 8 ≤ i → i < 32 → names' i = names i) : RMk mk mk' at' names' o0 o1 o2 u0 u1 u2 := by
  obtain ⟨k, hk, e1, e2, h0, h1, h2⟩ := hM
  exact ⟨k, hk, e1, e2, fun hh => RHW_e (h0 hh) (fun j hj => h _ (by omega) (by omega)) (fun j hj => hn _ (by omega) (by omega)), fun hh => RHW_e (h1 hh) (fun j hj => h _ (by omega) (by omega)) (fun j hj => hn _ (by omega) (by omega)), fun hh => RHW_e (h2 hh) (fun j hj => h _ (by omega) (by omega)) (fun j hj => hn _ (by omega) (by omega))⟩
end
section
variable {fu : Nat} {nam : Nat → Int64} {cou wei med sto fle lik : Nat → Int32} {cnt liv pri quo mel los : Int32}
theorem c_clear (hf : 1000 ≤ fu) : ∃ nam' cou' wei' med' sto' fle', f_X0_clear fu nam cou wei med sto fle cnt liv pri quo mel los = some (nam', cou', wei', med', sto', fle', wd 0, wd 0, wd 1, wd 50, wd 0, wd 0) ∧ ∀ m, m < 8 → med' m = wd 0 ∧ sto' m = wd 0 ∧ fle' m = wd 0 := by
  refine ⟨_, _, _, _, _, _, by
    unfold f_X0_clear
    rw [bind_e (c_fillJ (by omega) hf), bind_e (c_fill (by omega) hf), bind_e (c_fill (by omega) hf), bind_e (c_fill (by omega) hf), bind_e (c_fill (by omega) hf), bind_e (c_fill (by omega) hf)]
    rfl, fun m hm => ⟨if_pos hm, if_pos hm, if_pos hm⟩⟩
end
