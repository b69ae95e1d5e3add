/-! the relation -/
def shI (b : Nat) (f : Nat → Int32) : Nat → Int32 := fun k => f (b + k)
def shJ (b : Nat) (f : Nat → Int64) : Nat → Int64 := fun k => f (b + k)
def c32 : List Nat → Nat → Nat
  | [], v => v
  | a :: l, v => c32 l (v * 32 + a)
def c256 : List Nat → Nat → Nat
  | [], v => v
  | a :: l, v => c256 l (v * 256 + (a + 96))
def NC (x y : Int64) : Prop := ∃ l : List Nat, l.length ≤ 8 ∧ (∀ a, a ∈ l → 1 ≤ a ∧ a ≤ 26) ∧ x = Int64.ofNat (c32 l 0) ∧ y = Int64.ofNat (c256 l 0)
def RN (names nam : Nat → Int64) (c : Nat) : Prop := ∀ m, m < c → NC (nam m) (names m)
/-- one row of a war: k of n, among c men -/
def RRow (p : Nat → Int32) (w : tX9) (n c k : Nat) : Prop :=
  (p (6 * k) = wd 7 ∧ vX9_deed w k = wd 7 ∧ (∃ m, m < c ∧ p (6 * k + 1) = wd m ∧ vX9_man w k = wd m) ∧ vX9_number w k = p (6 * k + 2)) ∨
  (p (6 * k) = wd 8 ∧ vX9_deed w k = wd 8 ∧ (∃ m, m < c ∧ p (6 * k + 1) = wd m ∧ vX9_man w k = wd m) ∧ (∃ m, m < c ∧ p (6 * k + 2) = wd m ∧ vX9_other w k = wd m)) ∨
  (p (6 * k) = wd 9 ∧ vX9_deed w k = wd 9 ∧ (∃ m, m < c ∧ p (6 * k + 1) = wd m ∧ vX9_man w k = wd m)) ∨
  (p (6 * k) = wd 10 ∧ vX9_deed w k = wd 10 ∧ (∃ m, m < c ∧ p (6 * k + 1) = wd m ∧ vX9_man w k = wd m)) ∨
  (p (6 * k) = wd 11 ∧ vX9_deed w k = wd 11) ∨
  (p (6 * k) = wd 15 ∧ vX9_deed w k = wd 18) ∨
  (p (6 * k) = wd 14 ∧ vX9_deed w k = wd 17 ∧ ∃ q, q < k ∧ p (6 * k + 4) = wd q ∧ vX9_mate w k = wd q ∧ p (6 * q + 4) = wd k ∧ (p (6 * q) = wd 13 ∨ ∃ t, t < 3 ∧ p (6 * q) = wd (1216 + t))) ∨
  (p (6 * k) = wd 13 ∧ vX9_deed w k = wd 16 ∧ (∃ x, 1 ≤ x ∧ x ≤ 99 ∧ p (6 * k + 1) = wd x ∧ vX9_number w k = wd x) ∧ ∃ q, k < q ∧ q < n ∧ p (6 * k + 4) = wd q ∧ vX9_mate w k = wd q ∧ p (6 * q) = wd 14) ∨
  (∃ t, t < 3 ∧ p (6 * k) = wd (1216 + t) ∧ vX9_deed w k = wd 12 ∧ vX9_other w k = wd (13 + t) ∧ (∃ m, m < c ∧ p (6 * k + 1) = wd m ∧ vX9_man w k = wd m) ∧ vX9_number w k = p (6 * k + 2) ∧ vX9_sign w k = p (6 * k + 5) ∧ ∃ q, k < q ∧ q < n ∧ p (6 * k + 4) = wd q ∧ vX9_mate w k = wd q ∧ p (6 * q) = wd 14)
/-- k holds others, up to q -/
def opn (p : Nat → Int32) (k q : Nat) : Prop := (p (6 * k) = wd 13 ∨ ∃ t, t < 3 ∧ p (6 * k) = wd (1216 + t)) ∧ p (6 * k + 4) = wd q
def RWs (p : Nat → Int32) (w : tX9) (n c : Nat) : Prop := n ≤ 60 ∧ (∀ k, k < n → RRow p w n c k) ∧ ∀ a q a' q', a < n → a' < n → q < n → q' < n → opn p a q → opn p a' q' → a < a' → a' < q → q' < q
def RWr (n0 : Int32) (p : Nat → Int32) (w : tX9) (c : Nat) : Prop := (n0 = nn ∧ vX9_there w = wd 0) ∨ ∃ n, n0 = wd n ∧ vX9_there w = wd 1 ∧ vX9_rows w = wd n ∧ RWs p w n c
def RHW (at_ : Nat → Int32) (names : Nat → Int64) (a : tX0) (w : tX9) : Prop := ∃ c, WF at_ c ∧ RA at_ c (vX0_courage a) (vX0_weight a) (vX0_medals a) (vX0_stood a) (vX0_fled a) (vX0_liked a) (vX0_count a) (vX0_living a) (vX0_pride a) (vX0_quota a) (vX0_melted a) (vX0_lost a) ∧ RN names (vX0_name a) c ∧ RWr (at_ 5) (shI 120 at_) w c
def RY (y : tX8) (so ma : Int32) (tr : Nat → Int64) : Prop := (vX8_missing y = wd 1 ∧ ma = nn) ∨ (vX8_missing y = wd 0 ∧ ∃ n s, n ≤ 60 ∧ s ≤ 3 ∧ ma = wd n ∧ vX8_many y = wd n ∧ so = wd s ∧ vX8_sort y = wd s ∧ ∀ k, k < n → vX8_row y k = tr k)
def RMk (mk mk' : Int32) (at_ : Nat → Int32) (names : Nat → Int64) (o0 o1 o2 : tX0) (u0 u1 u2 : tX9) : Prop := ∃ k, k ≤ 3 ∧ mk = wd k ∧ mk' = wd k ∧ (0 < k → RHW (shI 488 at_) (shJ 8 names) o0 u0) ∧ (1 < k → RHW (shI 976 at_) (shJ 16 names) o1 u1) ∧ (2 < k → RHW (shI 1464 at_) (shJ 24 names) o2 u2)
/-- a byte as it is kept -/
def sb (j : Nat) : Int32 := if j < 128 then wd j else wd j - wd 256
def RTp (by_ tape : Nat → Int32) (ln tn : Int32) : Prop := ∃ n, n ≤ 900 ∧ ln = wd n ∧ tn = wd n ∧ ∀ k, k < n → by_ k = tape k ∧ ∃ j, j < 256 ∧ tape k = sb j
def RTd (l : tX2) (told1 : Nat → Int32) (isTold : Int32) : Prop := (vX2_fought l = wd 0 ∧ isTold = wd 0) ∨ (vX2_fought l = wd 1 ∧ isTold = wd 1 ∧ vX2_missed l = told1 0 ∧ vX2_stood l = told1 1 ∧ vX2_fled l = told1 2 ∧ vX2_pinned l = told1 3 ∧ vX2_left l = told1 4)
def wcodes : List Nat := [17376389, 18529921, 13358, 3747153125, 777297172, 441582995, 12889267, 197733, 239301, 409189, 198028, 1497, 762030, 2688709, 769614, 209060, 409072, 5572, 643568]
def RWc (wc : Nat → Int64) : Prop := ∀ k, k < 19 → wc k = Int64.ofNat (wcodes.getD k 0)
def RR (S : SX) (M : tX12) : Prop := (vX11_latestStatus (S_b S) = vX12_status M ∧ vX11_fractionTop (S_b S) = vX12_top M ∧ vX11_fractionBottom (S_b S) = vX12_bottom M) ∧
  (RY (S_y0 S) (vX12_sort M 0) (vX12_trayMany M 0) (shJ 0 (vX12_trays M)) ∧ RY (S_y1 S) (vX12_sort M 1) (vX12_trayMany M 1) (shJ 60 (vX12_trays M)) ∧ RY (S_y2 S) (vX12_sort M 2) (vX12_trayMany M 2) (shJ 120 (vX12_trays M)) ∧ RY (S_y3 S) (vX12_sort M 3) (vX12_trayMany M 3) (shJ 180 (vX12_trays M))) ∧
  RHW (vX12_at M) (vX12_names M) (S_a S) (S_w S) ∧
  RMk (vX11_marks (S_b S)) (vX12_marks M) (vX12_at M) (vX12_names M) (S_o0 S) (S_o1 S) (S_o2 S) (S_u0 S) (S_u1 S) (S_u2 S) ∧
  RTp (vX7_bytes (S_t S)) (vX12_tape M) (vX7_length (S_t S)) (vX12_taped M) ∧
  (vX6_fault (S_r S) = vX12_faultKind M ∧ vX6_place (S_r S) = vX12_faultPlace M) ∧
  RTd (S_l S) (vX12_told1 M) (vX12_isTold M) ∧ RWc (vX7_wordCodes (S_t S))
theorem FR.w {at_ at' : Nat → Int32} (h : FR at_ at') {w : tX9} {c : Nat} (hw : RWr (at_ 5) (shI 120 at_) w c) : RWr (at' 5) (shI 120 at') w c := by
  have e : shI 120 at' = shI 120 at_ := by funext k; exact h.2.2 _ (by omega)
  rw [h.2.1 5 (by omega) (by omega), e]; exact hw
theorem FR.sh {at_ at' : Nat → Int32} (h : FR at_ at') {b : Nat} (hb : 120 ≤ b) : shI b at' = shI b at_ := by funext k; exact h.2.2 _ (by omega)
theorem FR.mk {at_ at' : Nat → Int32} (h : FR at_ at') {mk mk' : Int32} {names : Nat → Int64} {o0 o1 o2 : tX0} {u0 u1 u2 : tX9} (hm : RMk mk mk' at_ names o0 o1 o2 u0 u1 u2) : RMk mk mk' at' names o0 o1 o2 u0 u1 u2 := by
  unfold RMk at hm ⊢
  rw [h.sh (by omega), h.sh (by omega), h.sh (by omega)]
  exact hm
theorem Q1_status {fu : Nat} : Q_status fu RR := by
  intro S M h
  exact ⟨_, _, _, rfl, by unfold G_status f_X12_status; rw [← h.1.1]; rfl, h⟩
theorem Q1_top {fu : Nat} : Q_top fu RR := by
  intro S M h
  exact ⟨_, _, _, rfl, by unfold G_top f_X12_top; rw [← h.1.2.1]; rfl, h⟩
theorem Q1_bottom {fu : Nat} : Q_bottom fu RR := by
  intro S M h
  exact ⟨_, _, _, rfl, by unfold G_bottom f_X12_bottom; rw [← h.1.2.2]; rfl, h⟩
