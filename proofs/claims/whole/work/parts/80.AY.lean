section
variable {fu n f e t N : Nat} {b : Nat → Nat} {by_ text : Nat → Int32} {K : Int32 → Int32 → Option Int32}
theorem r_byte {k : Nat} (hT : TXT b n by_ text) (hk : k < n) : f_X12_byteAt fu text (wd n) (wd k) = some (wd (b k)) := by
  obtain ⟨h9, hb⟩ := hT
  obtain ⟨b1, b2, b3⟩ := hb k hk
  unfold f_X12_byteAt
  rw [if_neg (by rw [wd_le (by omega) (by omega)]; omega), bind_e (rdI_wd (by omega) (by omega)), b3, sb_an _ b1]
theorem r_byteN (hT : TXT b n by_ text) : f_X12_byteAt fu text (wd n) (wd n) = some nn := by
  have h9 := hT.1
  unfold f_X12_byteAt
  rw [if_pos (by rw [wd_le (by omega) (by omega)]; omega)]
  rfl
/-- the letters here are word t -/
def wmt (b : Nat → Nat) (f e t : Nat) : Bool := decide (e - f = kl t) && decide (lts b f (e - f) = lts kc (kp t) (kl t))
theorem iw_68 (hT : TXT b n by_ text) (hfe : f < e) (hen : e ≤ n) (hl : ∀ i, f ≤ i → i < e → tx_l (b i) = true) (ht : t < 19) (hf : 1000 ≤ fu) : (if (wd (kp t + kl t) - wd (kp t)) = (wd e - wd f) then f_X12_inWords_l68 fu 1 text (wd n) (wd 2) (wd f) (wd e) K fu (wd t) (wd (kp t)) (wd (kp t + kl t)) 1 (wd (kp t)) else f_X12_inWords_l68 fu 1 text (wd n) (wd 2) (wd f) (wd e) K fu (wd t) (wd (kp t)) (wd (kp t + kl t)) 0 (wd (kp t))) = if wmt b f e t = true then some (wd t) else K (wd (t + 1)) (wd (kp (t + 1))) := by
  obtain ⟨k1, k2, k3, k4, k5⟩ := kp_s t ht
  have kpl := kp_l t ht
  have h9 := hT.1
  have hj0 : f_X12_inWords_j115 fu 1 text (wd n) (wd 2) (wd f) (wd e) K (wd t) (wd (kp t + kl t)) (wd 0) = K (wd (t + 1)) (wd (kp (t + 1))) := by
    unfold f_X12_inWords_j115
    rw [if_pos (show wd 0 = 0 from rfl)]
    simp only [bnd]
    rw [show wd t + 1 = wd (t + 1) from wd_add t 1, show wd (kp t + kl t) + 1 = wd (kp t + kl t + 1) from wd_add _ 1, k1]
  have hj1 : f_X12_inWords_j115 fu 1 text (wd n) (wd 2) (wd f) (wd e) K (wd t) (wd (kp t + kl t)) (wd 1) = some (wd t) := by
    unfold f_X12_inWords_j115
    rw [if_neg (show ¬ wd 1 = 0 by decide)]
  rw [wd_sub (show kp t ≤ kp t + kl t by omega), wd_sub (show f ≤ e by omega), show kp t + kl t - kp t = kl t from by omega]
  by_cases hL : e - f = kl t
  · rw [if_pos (show wd (kl t) = wd (e - f) by rw [hL])]
    obtain ⟨q, q1, q2, q3, q4⟩ := run_ex (fun i => decide (kc i = b (f + i - kp t))) (kp t + kl t) (kl t) (kp t) (by omega)
    have hstep : ∀ N i, kp t ≤ i → i < kp t + kl t → f_X12_inWords_l68 fu 1 text (wd n) (wd 2) (wd f) (wd e) K (N + 1) (wd t) (wd (kp t)) (wd (kp t + kl t)) (wd 1) (wd i) = if kc i = b (f + i - kp t) then f_X12_inWords_l68 fu 1 text (wd n) (wd 2) (wd f) (wd e) K N (wd t) (wd (kp t)) (wd (kp t + kl t)) (wd 1) (wd (i + 1)) else f_X12_inWords_l68 fu 1 text (wd n) (wd 2) (wd f) (wd e) K N (wd t) (wd (kp t)) (wd (kp t + kl t)) (wd 0) (wd (i + 1)) := by
      intro N i h1 h2
      have hb := (hT.2 (f + i - kp t) (by omega)).1
      have hk := kc_lt i (by omega)
      rw [f_X12_inWords_l68, f_X12_inWords_b68, if_neg (by rw [wd_le (by omega) (by omega)]; omega), if_neg (show ¬ wd 1 = 0 by decide), bind_e (ch_at (by omega)), wd_add f i, wd_sub (show kp t ≤ f + i by omega), bind_e (r_byte hT (by omega))]
      simp only [bnd]
      rw [show wd i + 1 = wd (i + 1) from wd_add i 1]
      by_cases hk3 : kc i = b (f + i - kp t)
      · rw [if_pos (show wd (kc i) = wd (b (f + i - kp t)) by rw [hk3]), if_pos hk3]; rfl
      · rw [if_neg (show ¬ wd (kc i) = wd (b (f + i - kp t)) by rw [wd_inj (by omega) (by omega)]; exact hk3), if_neg hk3]; rfl
    by_cases hq : q = kp t + kl t
    · subst hq
      have hm : wmt b f e t = true := by
        unfold wmt
        rw [decide_eq_true hL, Bool.true_and, decide_eq_true_eq, hL]
        apply lts_eq
        intro i hi
        have := q3 (kp t + i) (by omega) (by omega)
        simp only [decide_eq_true_eq] at this
        rw [this]; congr 1; omega
      rw [if_pos hm]
      refine loop_run (fun N i (_ : Unit) => f_X12_inWords_l68 fu 1 text (wd n) (wd 2) (wd f) (wd e) K N (wd t) (wd (kp t)) (wd (kp t + kl t)) (wd 1) (wd i)) (fun _ => ()) (kp t) (kp t + kl t) _ ?_ ?_ (by omega) fu (by omega)
      · intro N i h1 h2
        have := q3 i h1 h2
        simp only [decide_eq_true_eq] at this
        show f_X12_inWords_l68 fu 1 text (wd n) (wd 2) (wd f) (wd e) K (N + 1) (wd t) (wd (kp t)) (wd (kp t + kl t)) (wd 1) (wd i) = _
        rw [hstep N i h1 h2, if_pos this]
      · intro N
        show f_X12_inWords_l68 fu 1 text (wd n) (wd 2) (wd f) (wd e) K (N + 1) (wd t) (wd (kp t)) (wd (kp t + kl t)) (wd 1) (wd (kp t + kl t)) = _
        rw [f_X12_inWords_l68, f_X12_inWords_b68, if_pos (by rw [wd_le (by omega) (by omega)]; omega), hj1]
    · have hq4 := q4 (by omega)
      simp only [decide_eq_false_iff_not] at hq4
      have hm : ¬ wmt b f e t = true := by
        intro h
        unfold wmt at h
        rw [Bool.and_eq_true, decide_eq_true_eq, decide_eq_true_eq, hL] at h
        have := lts_in _ h.2 (q - kp t) (by omega)
        have h1 := kpl (q - kp t) (by omega)
        have h2 := hl (f + (q - kp t)) (by omega) (by omega)
        rw [show kp t + (q - kp t) = q from by omega] at this h1
        simp only [tx_l, decide_eq_true_eq] at h1 h2
        rw [show f + q - kp t = f + (q - kp t) from by omega] at hq4
        omega
      rw [if_neg hm]
      obtain ⟨g, hg⟩ : ∃ g, fu = g + 2 + (q - kp t) := ⟨fu - 2 - (q - kp t), by omega⟩
      have key := loop_run (fun N i (_ : Unit) => f_X12_inWords_l68 fu 1 text (wd n) (wd 2) (wd f) (wd e) K (N + 1) (wd t) (wd (kp t)) (wd (kp t + kl t)) (wd 1) (wd i)) (fun _ => ()) (kp t) q (K (wd (t + 1)) (wd (kp (t + 1)))) (by
        intro N i h1 h2
        have := q3 i h1 h2
        simp only [decide_eq_true_eq] at this
        show f_X12_inWords_l68 fu 1 text (wd n) (wd 2) (wd f) (wd e) K (N + 1 + 1) (wd t) (wd (kp t)) (wd (kp t + kl t)) (wd 1) (wd i) = _
        rw [hstep (N + 1) i h1 (by omega), if_pos this]) (by
        intro N
        show f_X12_inWords_l68 fu 1 text (wd n) (wd 2) (wd f) (wd e) K (N + 1 + 1) (wd t) (wd (kp t)) (wd (kp t + kl t)) (wd 1) (wd q) = _
        rw [hstep (N + 1) q q1 (by omega), if_neg hq4, f_X12_inWords_l68, f_X12_inWords_b68]
        by_cases hz : kp t + kl t ≤ q + 1
        · rw [if_pos (by rw [wd_le (by omega) (by omega)]; exact hz), hj0]
        · rw [if_neg (by rw [wd_le (by omega) (by omega)]; exact hz), if_pos (show wd 0 = 0 from rfl), hj0]) q1 (fu - 1) (by omega)
      have key : f_X12_inWords_l68 fu 1 text (wd n) (wd 2) (wd f) (wd e) K (fu - 1 + 1) (wd t) (wd (kp t)) (wd (kp t + kl t)) (wd 1) (wd (kp t)) = _ := key
      rw [show fu - 1 + 1 = fu from by omega] at key
      exact key
  · rw [if_neg (show ¬ wd (kl t) = wd (e - f) by rw [wd_inj (by omega) (by omega)]; omega)]
    have hm : ¬ wmt b f e t = true := by
      intro h
      unfold wmt at h
      rw [Bool.and_eq_true, decide_eq_true_eq] at h
      exact hL h.1
    rw [if_neg hm]
    obtain ⟨g, rfl⟩ : ∃ g, fu = g + 1 := ⟨fu - 1, by omega⟩
    rw [f_X12_inWords_l68, f_X12_inWords_b68, if_neg (by rw [wd_le (by omega) (by omega)]; omega), if_pos (show (0 : Int32) = 0 from rfl)]
    exact hj0
theorem iw_step (hT : TXT b n by_ text) (hfe : f < e) (hen : e ≤ n) (hl : ∀ i, f ≤ i → i < e → tx_l (b i) = true) (ht : t < 19) (hf : 1000 ≤ fu) : f_X12_inWords_l14 fu 1 text (wd n) (wd 2) (wd f) (wd e) (N + 1) (wd t) (wd (kp t)) = if wmt b f e t = true then some (wd t) else f_X12_inWords_l14 fu 1 text (wd n) (wd 2) (wd f) (wd e) N (wd (t + 1)) (wd (kp (t + 1))) := by
  obtain ⟨k1, k2, k3, k4, k5⟩ := kp_s t ht
  have kpl := kp_l t ht
  rw [f_X12_inWords_l14, f_X12_inWords_b14, bind_e ch_len, if_neg (by rw [wd_le (by omega) (by omega)]; omega)]
  refine loop_run (fun M i (_ : Unit) => f_X12_inWords_l25 fu 1 text (wd n) (wd 2) (wd f) (wd e) (f_X12_inWords_l14 fu 1 text (wd n) (wd 2) (wd f) (wd e) N) M (wd t) (wd (kp t)) (wd i)) (fun _ => ()) (kp t) (kp t + kl t) _ ?_ ?_ (by omega) fu (by omega)
  · intro M i h1 h2
    show f_X12_inWords_l25 fu 1 text (wd n) (wd 2) (wd f) (wd e) (f_X12_inWords_l14 fu 1 text (wd n) (wd 2) (wd f) (wd e) N) (M + 1) (wd t) (wd (kp t)) (wd i) = _
    have h3 := kpl (i - kp t) (by omega)
    rw [show kp t + (i - kp t) = i from by omega] at h3
    simp only [tx_l, decide_eq_true_eq] at h3
    rw [f_X12_inWords_l25, f_X12_inWords_b25, bind_e (ch_at (by omega)), show (32 : Int32) = wd 32 from rfl, if_neg (by rw [wd_inj (by omega) (by omega)]; omega)]
    simp only [bnd]
    rw [show wd i + 1 = wd (i + 1) from wd_add i 1]
  · intro M
    show f_X12_inWords_l25 fu 1 text (wd n) (wd 2) (wd f) (wd e) (f_X12_inWords_l14 fu 1 text (wd n) (wd 2) (wd f) (wd e) N) (M + 1) (wd t) (wd (kp t)) (wd (kp t + kl t)) = _
    rw [f_X12_inWords_l25, f_X12_inWords_b25, bind_e (ch_at (by omega)), k5, if_pos (show wd 32 = 32 from rfl)]
    exact iw_68 hT hfe hen hl ht hf
theorem r_iw1 (hT : TXT b n by_ text) (hfe : f < e) (hen : e ≤ n) (hl : ∀ i, f ≤ i → i < e → tx_l (b i) = true) (ht : t < 19) (hm : wmt b f e t = true) (hf : 1000 ≤ fu) : f_X12_inWords fu 1 text (wd n) (wd 2) (wd f) (wd e) = some (wd t) := by
  unfold f_X12_inWords
  rw [if_pos (show wd 2 = 2 from rfl)]
  refine loop_run (fun N i (_ : Unit) => f_X12_inWords_l14 fu 1 text (wd n) (wd 2) (wd f) (wd e) N (wd i) (wd (kp i))) (fun _ => ()) 0 t _ ?_ ?_ (by omega) fu (by omega)
  · intro N i _ h2
    show f_X12_inWords_l14 fu 1 text (wd n) (wd 2) (wd f) (wd e) (N + 1) (wd i) (wd (kp i)) = _
    rw [iw_step hT hfe hen hl (by omega) hf, if_neg]
    intro h
    unfold wmt at h hm
    rw [Bool.and_eq_true, decide_eq_true_eq, decide_eq_true_eq] at h hm
    have := kw_d t ht i (by omega) (hm.2.symm.trans h.2)
    omega
  · intro N
    show f_X12_inWords_l14 fu 1 text (wd n) (wd 2) (wd f) (wd e) (N + 1) (wd t) (wd (kp t)) = _
    rw [iw_step hT hfe hen hl ht hf, if_pos hm]
theorem r_iw0 (hT : TXT b n by_ text) (hfe : f < e) (hen : e ≤ n) (hl : ∀ i, f ≤ i → i < e → tx_l (b i) = true) (hm : ∀ t, t < 19 → wmt b f e t = false) (hf : 1000 ≤ fu) : f_X12_inWords fu 1 text (wd n) (wd 2) (wd f) (wd e) = some nn := by
  unfold f_X12_inWords
  rw [if_pos (show wd 2 = 2 from rfl)]
  refine loop_run (fun N i (_ : Unit) => f_X12_inWords_l14 fu 1 text (wd n) (wd 2) (wd f) (wd e) N (wd i) (wd (kp i))) (fun _ => ()) 0 19 _ ?_ ?_ (by omega) fu (by omega)
  · intro N i _ h2
    show f_X12_inWords_l14 fu 1 text (wd n) (wd 2) (wd f) (wd e) (N + 1) (wd i) (wd (kp i)) = _
    rw [iw_step hT hfe hen hl h2 hf, if_neg (by rw [hm i h2]; decide)]
  · intro N
    show f_X12_inWords_l14 fu 1 text (wd n) (wd 2) (wd f) (wd e) (N + 1) (wd 19) (wd (kp 19)) = _
    rw [kp_19, f_X12_inWords_l14, f_X12_inWords_b14, bind_e ch_len, if_pos (by rw [wd_le (by omega) (by omega)]; omega)]
    rfl
theorem jd_shl8 {x a : Nat} (ha : a < 256) : (Int64.ofNat x <<< (Int32.toInt64 8 &&& 63)) ||| (Int32.toInt64 (wd a)) = Int64.ofNat (x * 256 + a) := by
  rw [wd_64 (by omega)]
  apply Int64.toBitVec_inj.1
  rw [Int64.toBitVec_or]
  show ((Int64.ofNat x).toBitVec <<< ((Int32.toInt64 8 &&& 63).toBitVec.smod 64)) ||| (Int64.ofNat a).toBitVec = (Int64.ofNat (x * 256 + a)).toBitVec
  rw [show (Int32.toInt64 8 &&& 63).toBitVec.smod 64 = BitVec.ofNat 64 8 from by decide]
  simp only [Int64.toBitVec_ofNat']
  apply BitVec.eq_of_toNat_eq
  rw [BitVec.toNat_or]
  show ((BitVec.ofNat 64 x) <<< (BitVec.ofNat 64 8).toNat).toNat ||| _ = _
  rw [BitVec.toNat_shiftLeft]
  simp only [BitVec.toNat_ofNat, Nat.reducePow, Nat.reduceMod]
  rw [Nat.mod_eq_of_lt (show a < 18446744073709551616 by omega), Nat.shiftLeft_eq, Nat.mod_mul_mod]
  simp only [Nat.reducePow]
  have h1 : x * 256 % 18446744073709551616 = (x % 72057594037927936) * 256 := by omega
  rw [h1, Nat.mul_comm, ← Nat.two_pow_add_eq_or_of_lt (i := 8) (show a < 2 ^ 8 by omega)]
  simp only [Nat.reducePow]
  omega
theorem r_name (hT : TXT b n by_ text) (hfe : f ≤ e) (hen : e ≤ n) (hl : ∀ i, f ≤ i → i < e → tx_l (b i) = true) (hf : 1000 ≤ fu) : f_X12_nameHere fu text (wd n) (wd f) (wd e) = some (Int64.ofNat (c256 (lts b f (e - f)) 0)) := by
  have h9 := hT.1
  unfold f_X12_nameHere
  have key := loop_run (fun N i (s : Int64) => f_X12_nameHere_l7 fu text (wd n) (wd f) (wd e) N s (wd i)) (fun i => Int64.ofNat (c256 (lts b f (i - f)) 0)) f e (some (Int64.ofNat (c256 (lts b f (e - f)) 0))) ?_ ?_ hfe fu (by omega)
  · have key : f_X12_nameHere_l7 fu text (wd n) (wd f) (wd e) fu (Int64.ofNat (c256 (lts b f (f - f)) 0)) (wd f) = _ := key
    rw [Nat.sub_self] at key
    exact key
  · intro N i h1 h2
    show f_X12_nameHere_l7 fu text (wd n) (wd f) (wd e) (N + 1) (Int64.ofNat (c256 (lts b f (i - f)) 0)) (wd i) = _
    have hb := (hT.2 i (by omega)).1
    have hli := hl i h1 h2
    simp only [tx_l, decide_eq_true_eq] at hli
    rw [f_X12_nameHere_l7, f_X12_nameHere_b7, if_neg (by rw [wd_le (by omega) (by omega)]; omega), bind_e (r_byte hT (by omega))]
    simp only [bnd]
    rw [jd_shl8 hb, show wd i + 1 = wd (i + 1) from wd_add i 1, show i + 1 - f = (i - f) + 1 from by omega, lts_s, c256_a, show f + (i - f) = i from by omega, show b i - 96 + 96 = b i from by omega]
  · intro N
    show f_X12_nameHere_l7 fu text (wd n) (wd f) (wd e) (N + 1) (Int64.ofNat (c256 (lts b f (e - f)) 0)) (wd e) = _
    rw [f_X12_nameHere_l7, f_X12_nameHere_b7, if_pos (by rw [wd_le (by omega) (by omega)]; omega)]
end
