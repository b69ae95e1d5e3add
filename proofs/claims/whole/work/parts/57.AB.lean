theorem md2 : ∀ k, k ≤ 8 → wd k - wd k / wd 2 * wd 2 = wd (k % 2) := by decide +kernel
theorem imn_nn {c : Nat} : imn c nn = false := by
  unfold imn
  rw [decide_eq_false_iff_not]
  intro h
  exact h.1 (by decide)
def cmb (k : Nat) (r s : Int32) : Int32 := if k % 2 = 0 then (if r < s then s else r) else (if s < r then s else r)
def gvl (c a b : Nat) (sz : Nat → Int32) : Nat → Nat → (Nat → Int32) → Int32
  | 0, _, at_ => mn at_ a 2 - mn at_ b 2
  | d + 1, k, at_ => if brv at_ (if k % 2 = 0 then a else b) < sz k then gvl c a b sz d (k + 1) at_ else cmb k (gvl c a b sz d (k + 1) at_) (gvl c a b sz d (k + 1) (pn at_ c (sz k)))
theorem gvl_s (c a b : Nat) (sz : Nat → Int32) (d k : Nat) (at_ : Nat → Int32) : gvl c a b sz (d + 1) k at_ = if brv at_ (if k % 2 = 0 then a else b) < sz k then gvl c a b sz d (k + 1) at_ else cmb k (gvl c a b sz d (k + 1) at_) (gvl c a b sz d (k + 1) (pn at_ c (sz k))) := rfl
section
variable {fu c : Nat} {at_ cou wei med sto fle lik vot : Nat → Int32} {cnt liv pri quo mel los st st' : Int32}
theorem c_pinn : f_X0_pin fu med (wd c) nn = some (wd 0, med) := by
  simp (disch := omega) only [f_X0_pin, c_isM, imn_nn, wd_lit, wd_of, wd_add, wd_mul, wd_neg, Option.bind_some, bnd, rdI_wd, wrI_wd, rdJ_wd, wrJ_wd, wd_31, wd_le, wd_lt, wd_inj, wd_eqm, wd_eqm', wd_ltm, wd_lem, wd_ltm2, wd_lem2, wd_bit0', wd_bit1', wd_shl, wd_or, wd_dif, i01_t, i01_f, jd_lit, i01_bz, bz_1, bz_0, f_X11_refuse, f_X11_answer, f_X11_allow, f_X11_deny, f_X12_refuse, f_X12_gives, f_X12_is, Option.some.injEq, exists_eq', if_true, if_false, ↓reduceIte, Nat.reduceEqDiff, Nat.reduceLT, Nat.reduceAdd]
theorem c_unpin {w k : Nat} (hw : w < c) (h8 : c ≤ 8) (hk : k < 99) (hm : med w = wd k) : f_X0_unpin fu (upd med w (wd (k + 1))) (wd c) (wd w) = some med := by
  have q := imn_wd (c := c) (by omega) hw
  have n0 : ¬ k + 1 ≤ 0 := by omega
  have e1 : upd med w (wd (k + 1)) w = wd (k + 1) := upd_eq
  simp (disch := omega) only [f_X0_unpin, c_isM, q, e1, n0, wd_sub (show 1 ≤ k + 1 by omega), Nat.add_sub_cancel, wd_lit, wd_of, wd_add, wd_mul, wd_neg, Option.bind_some, bnd, rdI_wd, wrI_wd, rdJ_wd, wrJ_wd, wd_31, wd_le, wd_lt, wd_inj, wd_eqm, wd_eqm', wd_ltm, wd_lem, wd_ltm2, wd_lem2, wd_bit0', wd_bit1', wd_shl, wd_or, wd_dif, i01_t, i01_f, jd_lit, i01_bz, bz_1, bz_0, f_X11_refuse, f_X11_answer, f_X11_allow, f_X11_deny, f_X12_refuse, f_X12_gives, f_X12_is, Option.some.injEq, exists_eq', if_true, if_false, ↓reduceIte, Nat.reduceEqDiff, Nat.reduceLT, Nat.reduceAdd]
  congr 1
  funext j
  unfold upd
  by_cases h : j = w
  · rw [if_pos h, h, hm]
  · rw [if_neg h, if_neg h]
/-- one stood: the medal is pinned, something is asked, and it is taken off again -/
theorem c_stood {α : Type} {V : (Nat → Int32) → Int32} {rec : (Nat → Int32) → (Nat → Int32) → Option (Int32 × (Nat → Int32) × (Nat → Int32))} {s : Int32} (hW : WF at_ c) (hV : RV at_ c cou wei med lik) (hf : 1000 ≤ fu) (hrec : ∀ at' med vot, WF at' c → RV at' c cou wei med lik → alv at' = alv at_ → at' 1 = at_ 1 → ∃ vot', rec med vot = some (V at', med, vot')) : ∃ vot', ((f_X0_runners fu cou med (wd c) (wd (mask (alv at_) c)) (at_ 1) s).bind fun z_9 => (f_X0_winnerOf fu wei lik vot (wd c) (wd (mask (alv at_) c)) z_9).bind fun z_10 => (f_X0_pin fu med (wd c) z_10.1).bind fun z_11 => (rec z_11.2 z_10.2).bind fun z_12 => (if z_11.1 = 0 then some (z_12.1, z_12.2.1, z_12.2.2) else (f_X0_unpin fu z_12.2.1 (wd c) z_10.1).bind fun z_14 => some (z_12.1, z_14, z_12.2.2))) = some (V (pn at_ c s), med, vot') := by
  have h8 := hW.1
  have h256 := mask_256 (rns at_ s) h8
  rw [bind_e (c_runners h8 hf hV.1 hV.2.2.1), bind_e (c_winnerOf (show mask (rns at_ s) c < 2147483648 by omega) h8 hf hV.2.1 hV.2.2.2 hW.nn)]
  unfold pn
  cases hx : win at_ c (mask (rns at_ s) c) with
  | none =>
    obtain ⟨vot', e⟩ := hrec at_ med (vrow at_ c (mask (rns at_ s) c) vot c) hW hV rfl rfl
    refine ⟨vot', ?_⟩
    rw [oe_n, bind_e c_pinn, bind_e e]
    exact if_pos rfl
  | some w =>
    have hw := win_lt hx
    obtain ⟨k, hk, ek⟩ := (hW.2.2.2.2 w hw.1).2.2.1
    obtain ⟨vot', e⟩ := hrec (pinA at_ w) (upd med w (bmin (mn at_ w 2 + wd 1))) (vrow at_ c (mask (rns at_ s) c) vot c) (WF_pinA hW hw.1) (RV_pinA hV hw.1 h8) alv_pinA (by unfold pinA; rw [upd_ne (by omega), upd_ne (by omega)])
    refine ⟨vot', ?_⟩
    rw [oe_s, bind_e (c_pin hw.1 h8 (hV.2.2.1 w hw.1) ⟨k, hk, ek⟩), bind_e e]
    by_cases h9 : mn at_ w 2 = wd 99
    · rw [h9, show bmin (wd 99 + wd 1) = wd 99 from by decide, show upd med w (wd 99) = med from by
        funext j
        unfold upd
        split
        · rename_i h; rw [h, hV.2.2.1 w hw.1, h9]
        · rfl]
      simp only [decide_true, Bool.not_true]
      exact if_pos rfl
    · have hk9 : k < 99 := by
        rw [ek, wd_inj (by omega) (by omega)] at h9
        omega
      have e1 : bmin (mn at_ w 2 + wd 1) = wd (k + 1) := by rw [ek, bmin_s hk9, wd_add]
      rw [e1]
      simp only [h9, decide_false, Bool.not_false]
      rw [if_neg (by decide), bind_e (c_unpin hw.1 h8 hk9 ((hV.2.2.1 w hw.1).trans ek))]
theorem c_value {a b n : Nat} {szs sz : Nat → Int32} (ha : a < c) (hb : b < c) (hn : n ≤ 4) (hsz : ∀ k, k < n → szs k = sz k) (hf : 1000 ≤ fu) : ∀ d k D at_ med vot, k + d = n → d < D → WF at_ c → RV at_ c cou wei med lik → ∃ vot', f_X4_valueFrom fu D szs (wd n) cou wei med lik vot (wd c) (wd (mask (alv at_) c)) (at_ 1) (wd a) (wd b) (wd k) = some (gvl c a b sz d k at_, med, vot') := by
  intro d
  induction d with
  | zero =>
    intro k D at_ med vot hk hD hW hV
    have h8 := hW.1
    obtain ⟨D, rfl⟩ : ∃ z, D = z + 1 := ⟨D - 1, by omega⟩
    refine ⟨vot, ?_⟩
    rw [f_X4_valueFrom, f_X4_valueFrom_B]
    rw [if_neg (by rw [wd_lt (by omega) (by omega)]; omega), bind_e (rdI_wd (show a < 8 by omega) (by omega)), bind_e (rdI_wd (show b < 8 by omega) (by omega)), hV.2.2.1 a ha, hV.2.2.1 b hb]
    rfl
  | succ d ih =>
    intro k D at_ med vot hk hD hW hV
    have h8 := hW.1
    obtain ⟨D, rfl⟩ : ∃ z, D = z + 1 := ⟨D - 1, by omega⟩
    obtain ⟨vot1, e1⟩ := ih (k + 1) D at_ med vot (by omega) (by omega) hW hV
    have hs := c_stood (α := Nat) (V := gvl c a b sz d (k + 1)) (rec := fun med vot => f_X4_valueFrom fu D szs (wd n) cou wei med lik vot (wd c) (wd (mask (alv at_) c)) (at_ 1) (wd a) (wd b) (wd (k + 1))) (vot := vot1) (s := sz k) hW hV hf (fun at' med vot h1 h2 h3 h4 => by
      obtain ⟨vot', e⟩ := ih (k + 1) D at' med vot (by omega) (by omega) h1 h2
      rw [h3, h4] at e
      exact ⟨vot', e⟩)
    obtain ⟨vot2, e2⟩ := hs
    have e3 : f_X4_valueIfStood fu (f_X4_valueFrom fu D) szs (wd n) cou wei med lik vot1 (wd c) (wd (mask (alv at_) c)) (at_ 1) (wd a) (wd b) (wd k) = some (gvl c a b sz d (k + 1) (pn at_ c (sz k)), med, vot2) := by
      unfold f_X4_valueIfStood
      rw [bind_e (rdI_wd (show k < 4 by omega) (by omega)), hsz k (by omega), show (1 : Int32) = wd 1 from rfl, wd_add]
      exact e2
    rw [f_X4_valueFrom, f_X4_valueFrom_B, gvl_s]
    rw [if_pos (by rw [wd_lt (by omega) (by omega)]; omega), show (2 : Int32) = wd 2 from rfl, md2 k (by omega)]
    by_cases hk2 : k % 2 = 0
    · rw [if_pos (show wd (k % 2) = 0 by rw [hk2]; rfl)]
      unfold f_X4_valueFrom_B_j39
      rw [show (1 : Int32) = wd 1 from rfl, wd_add, bind_e e1, if_neg (show ¬ wd 1 = 0 by decide)]
      unfold f_X4_valueFrom_B_j66
      rw [bind_e (rdI_wd (show k < 4 by omega) (by omega)), hsz k (by omega), bind_e (c_stands ha h8 (hV.1 a ha) (hV.2.2.1 a ha)), bind_e e3, if_pos hk2]
      by_cases hb1 : brv at_ a < sz k
      · rw [if_pos hb1, if_pos (show i01 (!decide (brv at_ a < sz k)) = 0 by simp [hb1]; rfl)]
        exact ⟨vot1, rfl⟩
      · rw [if_neg hb1, if_neg (show ¬ i01 (!decide (brv at_ a < sz k)) = 0 by simp [hb1]; decide)]
        exact ⟨vot2, by unfold cmb; rw [if_pos hk2, if_neg (show ¬ wd 1 = 0 by decide)]⟩
    · have hk1 : k % 2 = 1 := by omega
      rw [if_neg (show ¬ wd (k % 2) = 0 by rw [hk1]; decide)]
      unfold f_X4_valueFrom_B_j39
      rw [show (1 : Int32) = wd 1 from rfl, wd_add, bind_e e1, if_pos (show (0 : Int32) = 0 from rfl)]
      unfold f_X4_valueFrom_B_j66
      rw [bind_e (rdI_wd (show k < 4 by omega) (by omega)), hsz k (by omega), bind_e (c_stands hb h8 (hV.1 b hb) (hV.2.2.1 b hb)), bind_e e3, if_neg hk2]
      by_cases hb1 : brv at_ b < sz k
      · rw [if_pos hb1, if_pos (show i01 (!decide (brv at_ b < sz k)) = 0 by simp [hb1]; rfl)]
        exact ⟨vot1, rfl⟩
      · rw [if_neg hb1, if_neg (show ¬ i01 (!decide (brv at_ b < sz k)) = 0 by simp [hb1]; decide)]
        exact ⟨vot2, by unfold cmb; rw [if_neg hk2, if_pos (show (0 : Int32) = 0 from rfl)]⟩
end
