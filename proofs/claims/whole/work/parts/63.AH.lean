/-! who should face what -/
theorem fsx_min {p : Nat → Bool} : ∀ n i, i < n → p i = true → ∃ a, fsx p n = some a ∧ a ≤ i := by
  intro n i hi hp
  cases hx : fsx p n with
  | none => have := fsx_none n hx i hi; rw [hp] at this; cases this
  | some a =>
    refine ⟨a, rfl, ?_⟩
    apply Classical.byContradiction
    intro h
    have hia : i < a := by omega
    cases h1 : fsx p i with
    | none =>
      have := fsx_f h1 hp (n - i - 1)
      rw [show i + 1 + (n - i - 1) = n from by omega, hx] at this
      injection this with this
      omega
    | some b =>
      have hb := fsx_some i b h1
      have : ∀ d, fsx p (i + d) = some b := by
        intro d
        induction d with
        | zero => exact h1
        | succ d ih =>
          show (match fsx p (i + d) with | some a => some a | none => if p (i + d) then some (i + d) else none) = some b
          rw [ih]
      have := this (n - i)
      rw [show i + (n - i) = n from by omega, hx] at this
      injection this with this
      omega
def mdn (at_ : Nat → Int32) (m : Nat) : Nat := (mn at_ m 2).toNatClampNeg
theorem mdn_e {at_ : Nat → Int32} {c m : Nat} (hW : WF at_ c) (hm : m < c) : mn at_ m 2 = wd (mdn at_ m) ∧ mdn at_ m ≤ 99 := by
  obtain ⟨k, hk, e⟩ := (hW.2.2.2.2 m hm).2.2.1
  unfold mdn
  rw [e, wd_nat (by omega)]
  exact ⟨rfl, hk⟩
def nx (at_ : Nat → Int32) (c w : Nat) (s : Int32) : Nat → Int32 := if brv at_ w < s then at_ else pn at_ c s
theorem nx_WF {at_ : Nat → Int32} {c w : Nat} {s : Int32} (h : WF at_ c) : WF (nx at_ c w s) c := by
  unfold nx
  split
  · exact h
  · exact WF_pn h
theorem nx_alv {at_ : Nat → Int32} {c w : Nat} {s : Int32} : alv (nx at_ c w s) = alv at_ := by
  unfold nx
  split
  · rfl
  · exact alv_pn
def ev (c m : Nat) (sz : Nat → Int32) : Nat → Nat → (Nat → Int32) → Nat → Option Nat
  | 0, _, at_, _ => some (mdn at_ m)
  | d + 1, k, at_, o => if o / 8 ^ d % 8 < c ∧ alv at_ (o / 8 ^ d % 8) = true then ev c m sz d (k + 1) (nx at_ c (o / 8 ^ d % 8) (sz k)) o else none
theorem ev_s (c m : Nat) (sz : Nat → Int32) (d k : Nat) (at_ : Nat → Int32) (o : Nat) : ev c m sz (d + 1) k at_ o = if o / 8 ^ d % 8 < c ∧ alv at_ (o / 8 ^ d % 8) = true then ev c m sz d (k + 1) (nx at_ c (o / 8 ^ d % 8) (sz k)) o else none := rfl
def mvl (c m : Nat) (sz : Nat → Int32) : Nat → Nat → (Nat → Int32) → Nat
  | 0, _, at_ => mdn at_ m
  | d + 1, k, at_ => max (if mask (rns at_ (sz k)) c = 0 then 0 else mvl c m sz d (k + 1) at_) (if mask (rns at_ (sz k)) c = mask (alv at_) c then 0 else mvl c m sz d (k + 1) (pn at_ c (sz k)))
theorem mvl_s (c m : Nat) (sz : Nat → Int32) (d k : Nat) (at_ : Nat → Int32) : mvl c m sz (d + 1) k at_ = max (if mask (rns at_ (sz k)) c = 0 then 0 else mvl c m sz d (k + 1) at_) (if mask (rns at_ (sz k)) c = mask (alv at_) c then 0 else mvl c m sz d (k + 1) (pn at_ c (sz k))) := rfl
def frn (at_ : Nat → Int32) (c : Nat) (s : Int32) : Option Nat := fsx (fun x => decide (x < c) && rns at_ s x) 21
def fsn (at_ : Nat → Int32) (c : Nat) (s : Int32) : Option Nat := fsx (fun x => decide (x < c) && stn at_ s x) 21
def fbw (r s : Option Nat) (f g : Nat) : Nat := match r, s with
  | none, none => 0
  | none, some s => s
  | some r, none => r
  | some r, some s => if f = g then (if s < r then s else r) else if f ≤ g then s else r
def fb (c m : Nat) (sz : Nat → Int32) (d k : Nat) (at_ : Nat → Int32) : Nat := fbw (frn at_ c (sz k)) (fsn at_ c (sz k)) (mvl c m sz d (k + 1) at_) (mvl c m sz d (k + 1) (pn at_ c (sz k)))
def bo (c m : Nat) (sz : Nat → Int32) : Nat → Nat → (Nat → Int32) → Nat
  | 0, _, _ => 0
  | d + 1, k, at_ => fb c m sz d k at_ * 8 ^ d + bo c m sz d (k + 1) (nx at_ c (fb c m sz d k at_) (sz k))
theorem bo_s (c m : Nat) (sz : Nat → Int32) (d k : Nat) (at_ : Nat → Int32) : bo c m sz (d + 1) k at_ = fb c m sz d k at_ * 8 ^ d + bo c m sz d (k + 1) (nx at_ c (fb c m sz d k at_) (sz k)) := rfl
section
variable {c m : Nat} {sz at_ : Nat → Int32}
theorem mvl_le (hm : m < c) : ∀ d k at_, WF at_ c → mvl c m sz d k at_ ≤ 99 := by
  intro d
  induction d with
  | zero => intro k at_ hW; exact (mdn_e hW hm).2
  | succ d ih =>
    intro k at_ hW
    have h1 := ih (k + 1) at_ hW
    have h2 := ih (k + 1) (pn at_ c (sz k)) (WF_pn hW)
    rw [mvl_s]
    apply Nat.max_le.2
    constructor <;> (split <;> omega)
theorem frn_some {s : Int32} {r : Nat} (h : frn at_ c s = some r) : r < c ∧ alv at_ r = true ∧ brv at_ r < s := by
  have := (fsx_some 21 r h).2
  simp only [Bool.and_eq_true, decide_eq_true_eq, rns] at this
  exact ⟨this.1, this.2.1, this.2.2⟩
theorem fsn_some {s : Int32} {r : Nat} (h : fsn at_ c s = some r) : r < c ∧ alv at_ r = true ∧ ¬ brv at_ r < s := by
  have := (fsx_some 21 r h).2
  simp only [Bool.and_eq_true, decide_eq_true_eq, stn, Bool.not_eq_true', decide_eq_false_iff_not] at this
  exact ⟨this.1, this.2.1, this.2.2⟩
theorem frn_min {s : Int32} {w : Nat} (h8 : c ≤ 8) (hw : w < c) (ha : alv at_ w = true) (hb : brv at_ w < s) : ∃ r, frn at_ c s = some r ∧ r ≤ w := fsx_min 21 w (by omega) (by simp [hw, rns, ha, hb])
theorem fsn_min {s : Int32} {w : Nat} (h8 : c ≤ 8) (hw : w < c) (ha : alv at_ w = true) (hb : ¬ brv at_ w < s) : ∃ r, fsn at_ c s = some r ∧ r ≤ w := fsx_min 21 w (by omega) (by simp [hw, stn, ha, hb])
theorem R_ne0 {s : Int32} {w : Nat} (hw : w < c) (ha : alv at_ w = true) (hb : brv at_ w < s) : ¬ mask (rns at_ s) c = 0 := mask_n0 hw (by simp [rns, ha, hb])
theorem R_neL {s : Int32} {w : Nat} (hw : w < c) (ha : alv at_ w = true) (hb : ¬ brv at_ w < s) : ¬ mask (rns at_ s) c = mask (alv at_) c := by
  intro h
  have h1 := mask_in (p := rns at_ s) hw
  rw [h, mask_in hw, ha] at h1
  simp [rns, hb] at h1
theorem R_0 {s : Int32} (h8 : c ≤ 8) (h : frn at_ c s = none) : mask (rns at_ s) c = 0 := by
  apply mask_0
  intro i hi
  have := fsx_none 21 h i (by omega)
  simpa [hi] using this
theorem R_L {s : Int32} (h8 : c ≤ 8) (h : fsn at_ c s = none) : mask (rns at_ s) c = mask (alv at_) c := by
  apply mask_congr
  intro i hi
  have := fsx_none 21 h i (by omega)
  simp only [hi, decide_true, Bool.true_and, stn] at this
  unfold rns
  cases h1 : alv at_ i
  · rfl
  · rw [h1] at this
    simpa using this
/-- the first of the best is one of them, and best -/
theorem fb_ok {d k : Nat} (h8 : c ≤ 8) (hal : ∃ w, w < c ∧ alv at_ w = true) : fb c m sz d k at_ < c ∧ alv at_ (fb c m sz d k at_) = true ∧ mvl c m sz d (k + 1) (nx at_ c (fb c m sz d k at_) (sz k)) = mvl c m sz (d + 1) k at_ := by
  unfold fb
  rw [mvl_s]
  generalize hf : mvl c m sz d (k + 1) at_ = f
  generalize hg : mvl c m sz d (k + 1) (pn at_ c (sz k)) = g
  have en : ∀ w, brv at_ w < sz k → mvl c m sz d (k + 1) (nx at_ c w (sz k)) = f := fun w h => by unfold nx; rw [if_pos h, hf]
  have ep : ∀ w, ¬ brv at_ w < sz k → mvl c m sz d (k + 1) (nx at_ c w (sz k)) = g := fun w h => by unfold nx; rw [if_neg h, hg]
  cases h1 : frn at_ c (sz k) with
  | none =>
    have r0 := R_0 h8 h1
    cases h2 : fsn at_ c (sz k) with
    | none =>
      exfalso
      obtain ⟨w, hw, ha⟩ := hal
      have rl := R_L h8 h2
      rw [r0] at rl
      exact mask_n0 hw ha rl.symm
    | some s =>
      obtain ⟨a1, a2, a3⟩ := fsn_some h2
      refine ⟨a1, a2, ?_⟩
      show mvl c m sz d (k + 1) (nx at_ c s (sz k)) = _
      rw [ep s a3, if_pos r0, if_neg (R_neL a1 a2 a3)]
      omega
  | some r =>
    obtain ⟨b1, b2, b3⟩ := frn_some h1
    cases h2 : fsn at_ c (sz k) with
    | none =>
      refine ⟨b1, b2, ?_⟩
      show mvl c m sz d (k + 1) (nx at_ c r (sz k)) = _
      rw [en r b3, if_neg (R_ne0 b1 b2 b3), if_pos (R_L h8 h2)]
      omega
    | some s =>
      obtain ⟨a1, a2, a3⟩ := fsn_some h2
      rw [if_neg (R_ne0 b1 b2 b3), if_neg (R_neL a1 a2 a3)]
      show (if f = g then (if s < r then s else r) else if f ≤ g then s else r) < c ∧ alv at_ (if f = g then (if s < r then s else r) else if f ≤ g then s else r) = true ∧ mvl c m sz d (k + 1) (nx at_ c (if f = g then (if s < r then s else r) else if f ≤ g then s else r) (sz k)) = max f g
      by_cases hfg : f = g
      · rw [if_pos hfg]
        by_cases hsr : s < r
        · rw [if_pos hsr]; exact ⟨a1, a2, by rw [ep s a3]; omega⟩
        · rw [if_neg hsr]; exact ⟨b1, b2, by rw [en r b3]; omega⟩
      · rw [if_neg hfg]
        by_cases hle : f ≤ g
        · rw [if_pos hle]; exact ⟨a1, a2, by rw [ep s a3]; omega⟩
        · rw [if_neg hle]; exact ⟨b1, b2, by rw [en r b3]; omega⟩
theorem ev_le : ∀ d k at_ o v, ev c m sz d k at_ o = some v → v ≤ mvl c m sz d k at_ := by
  intro d
  induction d with
  | zero => intro k at_ o v h; injection h with h; exact Nat.le_of_eq h.symm
  | succ d ih =>
    intro k at_ o v h
    rw [ev_s] at h
    by_cases hv : o / 8 ^ d % 8 < c ∧ alv at_ (o / 8 ^ d % 8) = true
    · rw [if_pos hv] at h
      have := ih _ _ _ _ h
      rw [mvl_s]
      unfold nx at this
      by_cases hb : brv at_ (o / 8 ^ d % 8) < sz k
      · rw [if_pos hb] at this
        rw [if_neg (R_ne0 hv.1 hv.2 hb)]
        omega
      · rw [if_neg hb] at this
        rw [if_neg (R_neL hv.1 hv.2 hb)]
        omega
    · rw [if_neg hv] at h; cases h
theorem ev_mod : ∀ d k at_ o o', o % 8 ^ d = o' % 8 ^ d → ev c m sz d k at_ o = ev c m sz d k at_ o' := by
  intro d
  induction d with
  | zero => intro k at_ o o' h; rfl
  | succ d ih =>
    intro k at_ o o' h
    have e1 : ∀ o : Nat, o / 8 ^ d % 8 = o % 8 ^ (d + 1) / 8 ^ d := by
      intro o
      rw [Nat.pow_succ, Nat.mod_mul_right_div_self]
    have e2 : ∀ o : Nat, o % 8 ^ d = o % 8 ^ (d + 1) % 8 ^ d := by
      intro o
      rw [Nat.mod_mod_of_dvd]
      rw [Nat.pow_succ]
      exact Nat.dvd_mul_right _ _
    rw [ev_s, ev_s, e1 o, e1 o', h]
    rw [ih (k + 1) _ o o' (by rw [e2 o, e2 o', h])]
theorem bo_lt (h8 : c ≤ 8) : ∀ d k at_, (∃ w, w < c ∧ alv at_ w = true) → bo c m sz d k at_ < 8 ^ d := by
  intro d
  induction d with
  | zero => intro k at_ _; exact Nat.zero_lt_one
  | succ d ih =>
    intro k at_ hal
    have hfb := fb_ok (m := m) (sz := sz) (d := d) (k := k) h8 hal
    have := ih (k + 1) (nx at_ c (fb c m sz d k at_) (sz k)) (by rw [nx_alv]; exact hal)
    rw [bo_s, Nat.pow_succ]
    have h7 : fb c m sz d k at_ * 8 ^ d ≤ 7 * 8 ^ d := Nat.mul_le_mul (by omega) (Nat.le_refl _)
    omega
theorem dv8 {a r p : Nat} (h : r < p) : (a * p + r) / p = a ∧ (a * p + r) % p = r := by
  constructor
  · rw [Nat.mul_comm, Nat.mul_add_div (by omega), Nat.div_eq_of_lt h]; rfl
  · rw [Nat.mul_comm, Nat.mul_add_mod, Nat.mod_eq_of_lt h]
theorem ev_bo (h8 : c ≤ 8) : ∀ d k at_, (∃ w, w < c ∧ alv at_ w = true) → ev c m sz d k at_ (bo c m sz d k at_) = some (mvl c m sz d k at_) := by
  intro d
  induction d with
  | zero => intro k at_ _; rfl
  | succ d ih =>
    intro k at_ hal
    have hfb := fb_ok (m := m) (sz := sz) (d := d) (k := k) h8 hal
    have hal' : ∃ w, w < c ∧ alv (nx at_ c (fb c m sz d k at_) (sz k)) w = true := by rw [nx_alv]; exact hal
    have hlt := bo_lt (m := m) (sz := sz) h8 d (k + 1) _ hal'
    have hd := dv8 (a := fb c m sz d k at_) hlt
    have h1 := ih (k + 1) _ hal'
    rw [ev_s, bo_s, hd.1, Nat.mod_eq_of_lt (show fb c m sz d k at_ < 8 by omega), if_pos ⟨hfb.1, hfb.2.1⟩]
    rw [ev_mod d (k + 1) _ _ (bo c m sz d (k + 1) (nx at_ c (fb c m sz d k at_) (sz k))) (by rw [hd.2, Nat.mod_eq_of_lt hlt]), h1, hfb.2.2]
theorem ev_first (h8 : c ≤ 8) : ∀ d k at_ o v, (∃ w, w < c ∧ alv at_ w = true) → o < bo c m sz d k at_ → ev c m sz d k at_ o = some v → v < mvl c m sz d k at_ := by
  intro d
  induction d with
  | zero => intro k at_ o v _ h; exact absurd h (by show ¬ o < 0; omega)
  | succ d ih =>
    intro k at_ o v hal ho hev
    have hfb := fb_ok (m := m) (sz := sz) (d := d) (k := k) h8 hal
    have hal' : ∃ w, w < c ∧ alv (nx at_ c (fb c m sz d k at_) (sz k)) w = true := by rw [nx_alv]; exact hal
    have hlt := bo_lt (m := m) (sz := sz) h8 d (k + 1) _ hal'
    rw [bo_s] at ho
    have hp : 0 < 8 ^ d := Nat.pow_pos (by omega)
    have hw : o / 8 ^ d ≤ fb c m sz d k at_ := by
      apply Nat.le_of_lt_succ
      apply Nat.div_lt_of_lt_mul
      rw [Nat.mul_comm, Nat.succ_mul]
      omega
    have hw8 : o / 8 ^ d % 8 = o / 8 ^ d := Nat.mod_eq_of_lt (by omega)
    rw [ev_s, hw8] at hev
    by_cases hv : o / 8 ^ d < c ∧ alv at_ (o / 8 ^ d) = true
    · rw [if_pos hv] at hev
      by_cases heq : o / 8 ^ d = fb c m sz d k at_
      · rw [heq] at hev
        have hmod : o % 8 ^ d < bo c m sz d (k + 1) (nx at_ c (fb c m sz d k at_) (sz k)) := by
          have := Nat.div_add_mod o (8 ^ d)
          rw [heq, Nat.mul_comm] at this
          omega
        rw [ev_mod d (k + 1) _ o (o % 8 ^ d) (by rw [Nat.mod_mod])] at hev
        have := ih (k + 1) _ _ v hal' hmod hev
        rwa [hfb.2.2] at this
      · have hwlt : o / 8 ^ d < fb c m sz d k at_ := by omega
        have hle := ev_le _ _ _ _ _ hev
        generalize o / 8 ^ d = w at *
        rw [mvl_s]
        unfold fb at hwlt
        unfold nx at hle
        by_cases hb : brv at_ w < sz k
        · rw [if_pos hb] at hle
          obtain ⟨r, hr1, hr2⟩ := frn_min h8 hv.1 hv.2 hb
          rw [hr1] at hwlt
          rw [if_neg (R_ne0 hv.1 hv.2 hb)]
          cases h2 : fsn at_ c (sz k) with
          | none =>
            rw [h2] at hwlt
            exact absurd hwlt (by show ¬ w < r; omega)
          | some s =>
            obtain ⟨a1, a2, a3⟩ := fsn_some h2
            rw [if_neg (R_neL a1 a2 a3)]
            rw [h2] at hwlt
            have hwlt : w < (if mvl c m sz d (k + 1) at_ = mvl c m sz d (k + 1) (pn at_ c (sz k)) then (if s < r then s else r) else if mvl c m sz d (k + 1) at_ ≤ mvl c m sz d (k + 1) (pn at_ c (sz k)) then s else r) := hwlt
            split at hwlt
            · split at hwlt <;> omega
            · split at hwlt <;> omega
        · rw [if_neg hb] at hle
          obtain ⟨s, hs1, hs2⟩ := fsn_min h8 hv.1 hv.2 hb
          rw [hs1] at hwlt
          rw [if_neg (R_neL hv.1 hv.2 hb)]
          cases h2 : frn at_ c (sz k) with
          | none =>
            rw [h2] at hwlt
            exact absurd hwlt (by show ¬ w < s; omega)
          | some r =>
            obtain ⟨a1, a2, a3⟩ := frn_some h2
            rw [if_neg (R_ne0 a1 a2 a3)]
            rw [h2] at hwlt
            have hwlt : w < (if mvl c m sz d (k + 1) at_ = mvl c m sz d (k + 1) (pn at_ c (sz k)) then (if s < r then s else r) else if mvl c m sz d (k + 1) at_ ≤ mvl c m sz d (k + 1) (pn at_ c (sz k)) then s else r) := hwlt
            split at hwlt
            · split at hwlt <;> omega
            · split at hwlt <;> omega
    · rw [if_neg hv] at hev; cases hev
def dgt (c m : Nat) (sz : Nat → Int32) : Nat → Nat → (Nat → Int32) → Nat → Nat
  | 0, _, _, _ => 0
  | d + 1, k, at_, 0 => fb c m sz d k at_
  | d + 1, k, at_, j + 1 => dgt c m sz d (k + 1) (nx at_ c (fb c m sz d k at_) (sz k)) j
theorem bo_dgt (h8 : c ≤ 8) : ∀ d k at_ j, (∃ w, w < c ∧ alv at_ w = true) → j < d → bo c m sz d k at_ / 8 ^ (d - 1 - j) % 8 = dgt c m sz d k at_ j := by
  intro d
  induction d with
  | zero => intro k at_ j _ hj; omega
  | succ d ih =>
    intro k at_ j hal hj
    have hfb := fb_ok (m := m) (sz := sz) (d := d) (k := k) h8 hal
    have hal' : ∃ w, w < c ∧ alv (nx at_ c (fb c m sz d k at_) (sz k)) w = true := by rw [nx_alv]; exact hal
    have hlt := bo_lt (m := m) (sz := sz) h8 d (k + 1) _ hal'
    rw [bo_s]
    cases j with
    | zero =>
      rw [show d + 1 - 1 - 0 = d from by omega, (dv8 hlt).1, Nat.mod_eq_of_lt (by omega)]
      rfl
    | succ j =>
      have := ih (k + 1) _ j hal' (by omega)
      show _ = dgt c m sz d (k + 1) (nx at_ c (fb c m sz d k at_) (sz k)) j
      rw [← this, show d + 1 - 1 - (j + 1) = d - 1 - j from by omega]
      generalize bo c m sz d (k + 1) (nx at_ c (fb c m sz d k at_) (sz k)) = r
      generalize fb c m sz d k at_ = a
      obtain ⟨e, he⟩ : ∃ e, d = e + 1 + (d - 1 - j) := ⟨j, by omega⟩
      generalize d - 1 - j = i at he
      subst he
      have e1 : a * 8 ^ (e + 1 + i) + r = 8 ^ i * (a * 8 ^ (e + 1)) + r := by rw [Nat.pow_add, Nat.mul_comm (8 ^ i), Nat.mul_assoc]
      rw [e1, Nat.mul_add_div (Nat.pow_pos (by omega)), Nat.pow_succ, ← Nat.mul_assoc, Nat.mul_comm (a * 8 ^ e) 8, Nat.mul_add_mod]
end
