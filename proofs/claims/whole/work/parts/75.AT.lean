section
variable {fu c n : Nat} {at_ cou wei med sto fle lik vot rl lp : Nat → Int32} {cnt liv pri mel los ms sd fl pi lf dr fg st x1 x2 : Int32} {w : tX9}
/-- the rounds that are left, on both sides, of the loops that one is in -/
def LI (p : Nat → Int32) (n : Nat) (rl lp : Nat → Int32) (k : Nat) : Prop := ∀ o q, o < n → q < n → p (6 * o) = wd 13 → p (6 * o + 4) = wd q → o < k → k ≤ q → ∃ v, v ≤ 98 ∧ lp o = wd v ∧ rl o = wd (v + 1)
theorem deed_of {p : Nat → Int32} {o : Nat} (h : RRow p w n c o) : (p (6 * o) = wd 13 → vX9_deed w o = wd 16) ∧ (∀ t, t < 3 → p (6 * o) = wd (1216 + t) → vX9_deed w o = wd 12) ∧ (p (6 * o) = wd 14 → vX9_deed w o = wd 17) ∧ (¬ p (6 * o) = wd 14 → ¬ vX9_deed w o = wd 17) := by
  rcases h with h | h | h | h | h | h | h | h | h
  · rw [h.1, h.2.1]; exact ⟨fun g => absurd g (by decide), fun t ht g => absurd g (by rw [wd_inj (by omega) (by omega)]; omega), fun g => absurd g (by decide), fun _ => by decide⟩
  · rw [h.1, h.2.1]; exact ⟨fun g => absurd g (by decide), fun t ht g => absurd g (by rw [wd_inj (by omega) (by omega)]; omega), fun g => absurd g (by decide), fun _ => by decide⟩
  · rw [h.1, h.2.1]; exact ⟨fun g => absurd g (by decide), fun t ht g => absurd g (by rw [wd_inj (by omega) (by omega)]; omega), fun g => absurd g (by decide), fun _ => by decide⟩
  · rw [h.1, h.2.1]; exact ⟨fun g => absurd g (by decide), fun t ht g => absurd g (by rw [wd_inj (by omega) (by omega)]; omega), fun g => absurd g (by decide), fun _ => by decide⟩
  · rw [h.1, h.2]; exact ⟨fun g => absurd g (by decide), fun t ht g => absurd g (by rw [wd_inj (by omega) (by omega)]; omega), fun g => absurd g (by decide), fun _ => by decide⟩
  · rw [h.1, h.2]; exact ⟨fun g => absurd g (by decide), fun t ht g => absurd g (by rw [wd_inj (by omega) (by omega)]; omega), fun g => absurd g (by decide), fun _ => by decide⟩
  · rw [h.1, h.2.1]; exact ⟨fun g => absurd g (by decide), fun t ht g => absurd g (by rw [wd_inj (by omega) (by omega)]; omega), fun _ => rfl, fun g => absurd rfl g⟩
  · rw [h.1, h.2.1]; exact ⟨fun _ => rfl, fun t ht g => absurd g (by rw [wd_inj (by omega) (by omega)]; omega), fun g => absurd g (by decide), fun _ => by decide⟩
  · obtain ⟨t, t1, t2, t3, t4⟩ := h
    rw [t2, t3]; exact ⟨fun g => absurd g (by rw [wd_inj (by omega) (by omega)]; omega), fun _ _ _ => rfl, fun g => absurd g (by rw [wd_inj (by omega) (by omega)]; omega), fun _ => by decide⟩
/-- an end, and what it ends -/
theorem end_of {p : Nat → Int32} {k : Nat} (h : RRow p w n c k) (h14 : p (6 * k) = wd 14) : ∃ o, o < k ∧ p (6 * k + 4) = wd o ∧ vX9_mate w k = wd o ∧ p (6 * o + 4) = wd k ∧ (p (6 * o) = wd 13 ∨ ∃ t, t < 3 ∧ p (6 * o) = wd (1216 + t)) := by
  rcases h with h | h | h | h | h | h | h | h | h
  · rw [h.1] at h14; exact absurd h14 (by decide)
  · rw [h.1] at h14; exact absurd h14 (by decide)
  · rw [h.1] at h14; exact absurd h14 (by decide)
  · rw [h.1] at h14; exact absurd h14 (by decide)
  · rw [h.1] at h14; exact absurd h14 (by decide)
  · rw [h.1] at h14; exact absurd h14 (by decide)
  · exact h.2.2
  · rw [h.1] at h14; exact absurd h14 (by decide)
  · obtain ⟨t, t1, t2, t3⟩ := h
    rw [t2, wd_inj (by omega) (by omega)] at h14; omega
theorem opn_ne {p : Nat → Int32} {o : Nat} (h : p (6 * o) = wd 13 ∨ ∃ t, t < 3 ∧ p (6 * o) = wd (1216 + t)) : ¬ p (6 * o) = wd 14 := by
  intro g
  rcases h with h | ⟨t, t1, h⟩
  · rw [h] at g; exact absurd g (by decide)
  · rw [h, wd_inj (by omega) (by omega)] at g; omega
theorem upd_id {f : Nat → Int32} {k : Nat} {x : Int32} (h : f k = x) : upd f k x = f := by
  funext j
  unfold upd
  split
  · rename_i hj; rw [hj, h]
  · rfl
/-- one end on the component's side -/
theorem c_end {k o T M : Nat} (hn : n ≤ 60) (hk : k < n) (ho : o < k) (hT : T < 1000000) (hd : vX9_deed w k = wd 17) (hma : vX9_mate w k = wd o) : f_X2_fight_l9 fu cou wei lik cnt pri (vX9_deed w) (vX9_man w) (vX9_other w) (vX9_sign w) (vX9_number w) (vX9_mate w) (wd n) x1 (M + 1) rl dr fg st ms sd fl pi lf med sto fle vot liv mel los (wd k) (wd T) = if vX9_deed w o = wd 16 then f_X2_fight_l9 fu cou wei lik cnt pri (vX9_deed w) (vX9_man w) (vX9_other w) (vX9_sign w) (vX9_number w) (vX9_mate w) (wd n) x1 M (upd rl o (rl o - wd 1)) dr fg st ms sd fl pi lf med sto fle vot liv mel los (if rl o - wd 1 ≤ wd 0 then wd (k + 1) else wd (o + 1)) (wd (T + 1)) else f_X2_fight_l9 fu cou wei lik cnt pri (vX9_deed w) (vX9_man w) (vX9_other w) (vX9_sign w) (vX9_number w) (vX9_mate w) (wd n) x1 M rl dr fg st ms sd fl pi lf med sto fle vot liv mel los (wd (k + 1)) (wd (T + 1)) := by
  have q1 : wn 0 (n - 1) (wd k) = true := by rw [wn_wd (by omega) (by omega) (by omega)]; simp; omega
  have q2 : wn 0 59 (wd o) = true := by rw [wn_wd (by omega) (by omega) (by omega)]; simp; omega
  have e1 : upd rl o (rl o - wd 1) o = rl o - wd 1 := upd_eq
  have hbe : f_X2_behindEnd fu rl (vX9_deed w) (vX9_mate w) (wd k) = if vX9_deed w o = wd 16 then some (if rl o - wd 1 ≤ wd 0 then wd (k + 1) else wd (o + 1), upd rl o (rl o - wd 1)) else some (wd (k + 1), rl) := by
    unfold f_X2_behindEnd
    rw [bind_e (rdI_wd (show k < 60 by omega) (by omega)), hma, show (0 : Int32) = wd 0 from rfl, show (59 : Int32) = wd 59 from rfl, show (1 : Int32) = wd 1 from rfl, show (16 : Int32) = wd 16 from rfl, bind_e c_within, q2, if_neg (show ¬ i01 true = wd 0 by decide), bind_e (rdI_wd (show o < 60 by omega) (by omega)), bind_e (rdI_wd (show o < 60 by omega) (by omega)), bind_e (wrI_wd (show o < 60 by omega) (by omega)), bind_e (rdI_wd (show o < 60 by omega) (by omega)), e1, wd_add, wd_add]
    by_cases h16 : vX9_deed w o = wd 16
    · rw [if_pos h16, if_pos h16]
      by_cases hl : rl o - wd 1 ≤ wd 0
      · rw [if_pos hl, if_pos hl]
      · rw [if_neg hl, if_neg hl]
    · rw [if_neg h16, if_neg h16]
  rw [f_X2_fight_l9, f_X2_fight_b9, show (1000000 : Int32) = wd 1000000 from wd_lit 1000000, if_neg (by rw [wd_le (by omega) (by omega)]; omega), show (0 : Int32) = wd 0 from rfl, show (1 : Int32) = wd 1 from rfl, wd_sub (show 1 ≤ n by omega), bind_e c_within, q1, if_neg (show ¬ i01 true = wd 0 by decide), bind_e (rdI_wd (show k < 60 by omega) (by omega)), hd, show (17 : Int32) = wd 17 from rfl, if_pos rfl]
  by_cases h16 : vX9_deed w o = wd 16
  · rw [if_pos h16] at hbe ⊢
    rw [bind_e hbe]
    simp only [bnd, wd_add]
  · rw [if_neg h16] at hbe ⊢
    rw [bind_e hbe]
    simp only [bnd, wd_add]
/-- one end on the reference's side -/
theorem r_end {k o M : Nat} (hn : n ≤ 60) (h5 : at_ 5 = wd n) (hk : k < n) (ho : o < k) (h14 : at_ (120 + 6 * k) = wd 14) (hp4 : at_ (120 + 6 * k + 4) = wd o) : f_X12_behindEnds_l2 fu at_ x2 (M + 1) lp (wd k) = if at_ (120 + 6 * o) = wd 13 ∧ ¬ lp o ≤ wd 0 then f_X12_behindEnds_l2 fu at_ x2 M (upd lp o (lp o - wd 1)) (wd (o + 1)) else f_X12_behindEnds_l2 fu at_ x2 M lp (wd (k + 1)) := by
  have hj0 : f_X12_behindEnds_j75 fu at_ x2 (f_X12_behindEnds_l2 fu at_ x2 M) lp (wd k) (wd o) (wd 0) = f_X12_behindEnds_l2 fu at_ x2 M lp (wd (k + 1)) := by
    unfold f_X12_behindEnds_j75
    rw [bind_e (rdI_wd (show o < 80 by omega) (by omega)), if_pos (show wd 0 = 0 from rfl)]
    unfold f_X12_behindEnds_j94
    rw [bind_e (wrI_wd (show o < 80 by omega) (by omega)), if_pos (show wd 0 = 0 from rfl)]
    simp only [bnd]
    rw [show (0 : Int32) = wd 0 from rfl, show lp o - wd 0 = lp o from by show lp o - 0 = lp o; simp, upd_id rfl, show (1 : Int32) = wd 1 from rfl, wd_add]
  have hj1 : f_X12_behindEnds_j75 fu at_ x2 (f_X12_behindEnds_l2 fu at_ x2 M) lp (wd k) (wd o) (wd 1) = f_X12_behindEnds_l2 fu at_ x2 M (upd lp o (lp o - wd 1)) (wd (o + 1)) := by
    unfold f_X12_behindEnds_j75
    rw [bind_e (rdI_wd (show o < 80 by omega) (by omega)), if_neg (show ¬ wd 1 = 0 by decide)]
    unfold f_X12_behindEnds_j94
    rw [bind_e (wrI_wd (show o < 80 by omega) (by omega)), if_neg (show ¬ wd 1 = 0 by decide)]
    simp only [bnd]
    rw [show (1 : Int32) = wd 1 from rfl, wd_add]
  rw [f_X12_behindEnds_l2, f_X12_behindEnds_b2, bind_e (show rdI at_ 3648 5 = some (at_ 5) from rdI_wd (k := 5) (by omega) (by omega)), h5, if_neg (by rw [wd_le (by omega) (by omega)]; omega)]
  rw [show (120 : Int32) = wd 120 from rfl, show (6 : Int32) = wd 6 from rfl, show (4 : Int32) = wd 4 from rfl, wd_mul, wd_add, wd_add, bind_e (rdI_wd (show 120 + 6 * k < 3648 by omega) (by omega)), h14, show (14 : Int32) = wd 14 from rfl, if_pos rfl, bind_e (rdI_wd (show 120 + 6 * k + 4 < 3648 by omega) (by omega)), hp4, wd_mul, wd_add, bind_e (rdI_wd (show 120 + 6 * o < 3648 by omega) (by omega)), show (13 : Int32) = wd 13 from rfl, show (0 : Int32) = wd 0 from rfl, show (1 : Int32) = wd 1 from rfl, bind_e (rdI_wd (show o < 80 by omega) (by omega)), hj0, hj1]
  by_cases h13 : at_ (120 + 6 * o) = wd 13
  · rw [if_pos h13]
    by_cases hl : lp o ≤ wd 0
    · rw [if_pos hl, if_neg (fun h => h.2 hl)]
    · rw [if_neg hl, if_pos ⟨h13, hl⟩]
  · rw [if_neg h13, if_neg (fun h => h13 h.1)]
theorem LI_up {p rl lp : Nat → Int32} {k : Nat} (h : LI p n rl lp k) (h13 : ¬ p (6 * k) = wd 13) : LI p n rl lp (k + 1) := by
  intro o q ho hq g1 g2 g3 g4
  have : o ≠ k := fun e => by subst e; exact h13 g1
  exact h o q ho hq g1 g2 (by omega) (by omega)
theorem e_run1 {e f k : Nat} (hn : n ≤ 60) (h5 : at_ 5 = wd n) (hR : ∀ k, k < n → RRow (shI 120 at_) w n c k) (hN : ∀ a q a' q', a < n → a' < n → q < n → q' < n → opn (shI 120 at_) a q → opn (shI 120 at_) a' q' → a < a' → a' < q → q' < q) (hk : k + (e + 1) = n) (hLI : LI (shI 120 at_) n rl lp k)
    (hself : ∀ o rl' lp' v, o + 1 = k → 0 < v → at_ (120 + 6 * k) = wd 14 → at_ (120 + 6 * k + 4) = wd o → lp o = wd v → (v ≤ 98 ∧ rl' = rl' ∧ lp' o = wd (v - 1) ∧ LI (shI 120 at_) n rl' lp' k) → ∃ m pos rl2 lp2, m ≤ e + f + 1 ∧ pos ≤ n ∧ (pos < n → ¬ at_ (120 + 6 * pos) = wd 14) ∧ LI (shI 120 at_) n rl2 lp2 pos ∧ (∀ T M, T + m < 1000000 → f_X2_fight_l9 fu cou wei lik cnt pri (vX9_deed w) (vX9_man w) (vX9_other w) (vX9_sign w) (vX9_number w) (vX9_mate w) (wd n) x1 (M + m) rl' dr fg st ms sd fl pi lf med sto fle vot liv mel los (wd k) (wd T) = f_X2_fight_l9 fu cou wei lik cnt pri (vX9_deed w) (vX9_man w) (vX9_other w) (vX9_sign w) (vX9_number w) (vX9_mate w) (wd n) x1 M rl2 dr fg st ms sd fl pi lf med sto fle vot liv mel los (wd pos) (wd (T + m))) ∧ ∀ M, f_X12_behindEnds_l2 fu at_ x2 (M + m + 1) lp' (wd k) = some (wd pos, lp2))
    (hup : ∀ rl' lp', LI (shI 120 at_) n rl' lp' (k + 1) → (k + 1 < n → at_ (120 + 6 * (k + 1)) = wd 14 → ¬ at_ (120 + 6 * (k + 1) + 4) = wd (k + 1 - 1)) → ∃ m pos rl2 lp2, m ≤ e + 1 ∧ pos ≤ n ∧ (pos < n → ¬ at_ (120 + 6 * pos) = wd 14) ∧ LI (shI 120 at_) n rl2 lp2 pos ∧ (∀ T M, T + m < 1000000 → f_X2_fight_l9 fu cou wei lik cnt pri (vX9_deed w) (vX9_man w) (vX9_other w) (vX9_sign w) (vX9_number w) (vX9_mate w) (wd n) x1 (M + m) rl' dr fg st ms sd fl pi lf med sto fle vot liv mel los (wd (k + 1)) (wd T) = f_X2_fight_l9 fu cou wei lik cnt pri (vX9_deed w) (vX9_man w) (vX9_other w) (vX9_sign w) (vX9_number w) (vX9_mate w) (wd n) x1 M rl2 dr fg st ms sd fl pi lf med sto fle vot liv mel los (wd pos) (wd (T + m))) ∧ ∀ M, f_X12_behindEnds_l2 fu at_ x2 (M + m + 1) lp' (wd (k + 1)) = some (wd pos, lp2)) : ∃ m pos rl2 lp2, m ≤ e + 1 + f + 1 ∧ pos ≤ n ∧ (pos < n → ¬ at_ (120 + 6 * pos) = wd 14) ∧ LI (shI 120 at_) n rl2 lp2 pos ∧ (∀ T M, T + m < 1000000 → f_X2_fight_l9 fu cou wei lik cnt pri (vX9_deed w) (vX9_man w) (vX9_other w) (vX9_sign w) (vX9_number w) (vX9_mate w) (wd n) x1 (M + m) rl dr fg st ms sd fl pi lf med sto fle vot liv mel los (wd k) (wd T) = f_X2_fight_l9 fu cou wei lik cnt pri (vX9_deed w) (vX9_man w) (vX9_other w) (vX9_sign w) (vX9_number w) (vX9_mate w) (wd n) x1 M rl2 dr fg st ms sd fl pi lf med sto fle vot liv mel los (wd pos) (wd (T + m))) ∧ ∀ M, f_X12_behindEnds_l2 fu at_ x2 (M + m + 1) lp (wd k) = some (wd pos, lp2) := by
  by_cases h14 : at_ (120 + 6 * k) = wd 14
  case neg =>
    refine ⟨0, k, rl, lp, by omega, by omega, fun _ => h14, hLI, fun T M _ => rfl, fun M => ?_⟩
    rw [f_X12_behindEnds_l2, f_X12_behindEnds_b2, bind_e (show rdI at_ 3648 5 = some (at_ 5) from rdI_wd (k := 5) (by omega) (by omega)), h5, if_neg (by rw [wd_le (by omega) (by omega)]; omega), show (120 : Int32) = wd 120 from rfl, show (6 : Int32) = wd 6 from rfl, wd_mul, wd_add, bind_e (rdI_wd (show 120 + 6 * k < 3648 by omega) (by omega)), show (14 : Int32) = wd 14 from rfl, if_neg h14]
  obtain ⟨o, ho, p4, ma, po4, hop⟩ := end_of (hR k (by omega)) h14
  have hdo := deed_of (hR o (by omega))
  have hdk := (deed_of (hR k (by omega))).2.2.1 h14
  have n13 : ¬ shI 120 at_ (6 * k) = wd 13 := by
    intro g
    have g : at_ (120 + 6 * k) = wd 13 := g
    rw [h14] at g; exact absurd g (by decide)
  have hno : k + 1 < n → at_ (120 + 6 * (k + 1)) = wd 14 → ¬ at_ (120 + 6 * (k + 1) + 4) = wd (k + 1 - 1) := by
    intro g1 g2 g3
    obtain ⟨o2, ho2, p42, ma2, po42, hop2⟩ := end_of (hR (k + 1) g1) g2
    have : o2 = k := by
      have g3 : shI 120 at_ (6 * (k + 1) + 4) = wd (k + 1 - 1) := g3
      rw [p42, wd_inj (by omega) (by omega)] at g3
      omega
    subst this
    exact opn_ne hop2 h14
  have hstep := fun (M : Nat) => r_end (fu := fu) (x2 := x2) (lp := lp) (M := M) hn h5 (show k < n by omega) ho h14 p4
  have cstep := fun (T M : Nat) (hT : T < 1000000) => c_end (fu := fu) (cou := cou) (wei := wei) (lik := lik) (cnt := cnt) (pri := pri) (x1 := x1) (dr := dr) (fg := fg) (st := st) (ms := ms) (sd := sd) (fl := fl) (pi := pi) (lf := lf) (med := med) (sto := sto) (fle := fle) (vot := vot) (liv := liv) (mel := mel) (los := los) (rl := rl) (T := T) (M := M) hn (show k < n by omega) ho hT hdk ma
  rcases hop with h13 | ⟨t, ht, hwh⟩
  · -- a loop
    have hd16 := hdo.1 h13
    obtain ⟨v, hv, hlv, hrv⟩ := hLI o k (by omega) (by omega) h13 po4 ho (Nat.le_refl k)
    simp only [if_pos hd16] at cstep
    by_cases hv0 : v = 0
    · subst hv0
      have hL' : LI (shI 120 at_) n (upd rl o (rl o - wd 1)) lp (k + 1) := by
        intro o' q' g1 g2 g3 g4 g5 g6
        have hne : o' ≠ o := fun e => by
          subst e
          rw [po4, wd_inj (by omega) (by omega)] at g4
          omega
        have := LI_up hLI n13 o' q' g1 g2 g3 g4 g5 g6
        rwa [upd_ne hne]
      obtain ⟨m, pos, rl2, lp2, g1, g2, g3, g4, g5, g6⟩ := hup _ _ hL' hno
      refine ⟨m + 1, pos, rl2, lp2, by omega, g2, g3, g4, fun T M hT => ?_, fun M => ?_⟩
      · rw [show M + (m + 1) = M + m + 1 from by omega, cstep T (M + m) (by omega), if_pos (by rw [hrv]; decide), g5 (T + 1) M (by omega), show T + 1 + m = T + (m + 1) from by omega]
      · rw [show M + (m + 1) + 1 = M + m + 1 + 1 from by omega, hstep, if_neg (fun h => h.2 (by rw [hlv]; decide)), g6]
    · have er : rl o - wd 1 = wd v := by rw [hrv, wd_sub (by omega)]; congr 1
      have el : lp o - wd 1 = wd (v - 1) := by rw [hlv, wd_sub (by omega)]
      have hL' : LI (shI 120 at_) n (upd rl o (wd v)) (upd lp o (wd (v - 1))) (o + 1) := by
        intro o' q' g1 g2 g3 g4 g5 g6
        by_cases hoo : o' = o
        · subst hoo
          exact ⟨v - 1, by omega, upd_eq, by rw [upd_eq]; congr 1; omega⟩
        · have hq : o ≠ q' := by
            intro e
            subst e
            have hro := hR o' (by omega)
            have : ¬ shI 120 at_ (6 * o) = wd 14 := opn_ne (Or.inl h13)
            rcases hro with h | h | h | h | h | h | h | h | h
            · rw [h.1] at g3; exact absurd g3 (by decide)
            · rw [h.1] at g3; exact absurd g3 (by decide)
            · rw [h.1] at g3; exact absurd g3 (by decide)
            · rw [h.1] at g3; exact absurd g3 (by decide)
            · rw [h.1] at g3; exact absurd g3 (by decide)
            · rw [h.1] at g3; exact absurd g3 (by decide)
            · rw [h.1] at g3; exact absurd g3 (by decide)
            · obtain ⟨_, _, _, q3, r1, r2, r3, r4, r5⟩ := h
              rw [r3, wd_inj (by omega) (by omega)] at g4
              subst g4
              exact this r5
            · obtain ⟨t, t1, t2, t3⟩ := h
              rw [t2, wd_inj (by omega) (by omega)] at g3; omega
          have hnest := hN o' q' o k g1 (by omega) g2 (by omega) ⟨Or.inl g3, g4⟩ ⟨Or.inl h13, po4⟩ (by omega) (by omega)
          obtain ⟨v', r1, r2, r3⟩ := hLI o' q' g1 g2 g3 g4 (by omega) (by omega)
          exact ⟨v', r1, by rw [upd_ne hoo]; exact r2, by rw [upd_ne hoo]; exact r3⟩
      by_cases hok : o + 1 = k
      · rw [hok] at hL'
        obtain ⟨m, pos, rl2, lp2, g1, g2, g3, g4, g5, g6⟩ := hself o _ _ v hok (by omega) h14 p4 hlv ⟨hv, rfl, upd_eq, hL'⟩
        refine ⟨m + 1, pos, rl2, lp2, by omega, g2, g3, g4, fun T M hT => ?_, fun M => ?_⟩
        · rw [show M + (m + 1) = M + m + 1 from by omega, cstep T (M + m) (by omega), er, if_neg (by rw [wd_le (by omega) (by omega)]; omega), hok, g5 (T + 1) M (by omega), show T + 1 + m = T + (m + 1) from by omega]
        · rw [show M + (m + 1) + 1 = M + m + 1 + 1 from by omega, hstep, if_pos ⟨h13, by rw [hlv, wd_le (by omega) (by omega)]; omega⟩, el, hok, g6]
      · have hne14 : ¬ at_ (120 + 6 * (o + 1)) = wd 14 := by
          intro g
          obtain ⟨o2, ho2, p42, ma2, po42, hop2⟩ := end_of (hR (o + 1) (by omega)) g
          by_cases ho2o : o2 = o
          · subst ho2o
            rw [po4, wd_inj (by omega) (by omega)] at po42
            omega
          · have := hN o2 (o + 1) o k (by omega) (by omega) (by omega) (by omega) ⟨hop2, po42⟩ ⟨Or.inl h13, po4⟩ (by omega) (by omega)
            omega
        refine ⟨1, o + 1, _, _, by omega, by omega, fun _ => hne14, hL', fun T M hT => ?_, fun M => ?_⟩
        · rw [cstep T M (by omega), er, if_neg (by rw [wd_le (by omega) (by omega)]; omega)]
        · rw [hstep, if_pos ⟨h13, by rw [hlv, wd_le (by omega) (by omega)]; omega⟩, el]
          rw [f_X12_behindEnds_l2, f_X12_behindEnds_b2, bind_e (show rdI at_ 3648 5 = some (at_ 5) from rdI_wd (k := 5) (by omega) (by omega)), h5, if_neg (by rw [wd_le (by omega) (by omega)]; omega), show (120 : Int32) = wd 120 from rfl, show (6 : Int32) = wd 6 from rfl, wd_mul, wd_add, bind_e (rdI_wd (show 120 + 6 * (o + 1) < 3648 by omega) (by omega)), show (14 : Int32) = wd 14 from rfl, if_neg hne14]
  · -- a test
    have hd12 := hdo.2.1 t ht hwh
    have n16 : ¬ vX9_deed w o = wd 16 := by rw [hd12]; decide
    simp only [if_neg n16] at cstep
    obtain ⟨m, pos, rl2, lp2, g1, g2, g3, g4, g5, g6⟩ := hup _ _ (LI_up hLI n13) hno
    refine ⟨m + 1, pos, rl2, lp2, by omega, g2, g3, g4, fun T M hT => ?_, fun M => ?_⟩
    · rw [show M + (m + 1) = M + m + 1 from by omega, cstep T (M + m) (by omega), g5 (T + 1) M (by omega), show T + 1 + m = T + (m + 1) from by omega]
    · rw [show M + (m + 1) + 1 = M + m + 1 + 1 from by omega, hstep, if_neg (fun h => by
        have h1 : at_ (120 + 6 * o) = wd (1216 + t) := hwh
        rw [h1, wd_inj (by omega) (by omega)] at h
        omega), g6]
/-- ends, as many as come -/
theorem e_run (hn : n ≤ 60) (h5 : at_ 5 = wd n) (hR : ∀ k, k < n → RRow (shI 120 at_) w n c k) (hN : ∀ a q a' q', a < n → a' < n → q < n → q' < n → opn (shI 120 at_) a q → opn (shI 120 at_) a' q' → a < a' → a' < q → q' < q) : ∀ e f k rl lp, k + e = n → LI (shI 120 at_) n rl lp k → (∀ v, 1 ≤ k → k < n → at_ (120 + 6 * k) = wd 14 → at_ (120 + 6 * k + 4) = wd (k - 1) → lp (k - 1) = wd v → v ≤ 98 → v ≤ f) → ∃ m pos rl' lp', m ≤ e + f + 1 ∧ pos ≤ n ∧ (pos < n → ¬ at_ (120 + 6 * pos) = wd 14) ∧ LI (shI 120 at_) n rl' lp' pos ∧ (∀ T M, T + m < 1000000 → f_X2_fight_l9 fu cou wei lik cnt pri (vX9_deed w) (vX9_man w) (vX9_other w) (vX9_sign w) (vX9_number w) (vX9_mate w) (wd n) x1 (M + m) rl dr fg st ms sd fl pi lf med sto fle vot liv mel los (wd k) (wd T) = f_X2_fight_l9 fu cou wei lik cnt pri (vX9_deed w) (vX9_man w) (vX9_other w) (vX9_sign w) (vX9_number w) (vX9_mate w) (wd n) x1 M rl' dr fg st ms sd fl pi lf med sto fle vot liv mel los (wd pos) (wd (T + m))) ∧ ∀ M, f_X12_behindEnds_l2 fu at_ x2 (M + m + 1) lp (wd k) = some (wd pos, lp') := by
  intro e
  induction e with
  | zero =>
    intro f k rl lp hk hLI hv
    refine ⟨0, k, rl, lp, by omega, by omega, fun h => absurd h (by omega), hLI, fun T M _ => rfl, fun M => ?_⟩
    rw [f_X12_behindEnds_l2, f_X12_behindEnds_b2, bind_e (show rdI at_ 3648 5 = some (at_ 5) from rdI_wd (k := 5) (by omega) (by omega)), h5, if_pos (by rw [wd_le (by omega) (by omega)]; omega)]
  | succ e ihe =>
    intro f
    induction f with
    | zero =>
      intro k rl lp hk hLI hv
      exact e_run1 (f := 0) hn h5 hR hN hk hLI (fun o rl' lp' v h1 h2 h3 h4 h5' h6 => absurd (hv v (by omega) (by omega) h3 (by rw [show k - 1 = o from by omega]; exact h4) (by rw [show k - 1 = o from by omega]; exact h5') h6.1) (by omega)) (fun rl' lp' hL' hno => ihe 0 (k + 1) rl' lp' (by omega) hL' (fun v g1 g2 g3 g4 g5 g6 => absurd g4 (hno g2 g3)))
    | succ f ihf =>
      intro k rl lp hk hLI hv
      exact e_run1 (f := f + 1) hn h5 hR hN hk hLI (fun o rl' lp' v h1 h2 h3 h4 h5' h6 => by
        have hvf := hv v (by omega) (by omega) h3 (by rw [show k - 1 = o from by omega]; exact h4) (by rw [show k - 1 = o from by omega]; exact h5') h6.1
        obtain ⟨m, pos, rl2, lp2, g1, g2⟩ := ihf k rl' lp' (by omega) h6.2.2.2 (fun v' _ _ _ _ g5 g6 => by
          rw [show k - 1 = o from by omega, h6.2.2.1, wd_inj (by omega) (by omega)] at g5
          omega)
        exact ⟨m, pos, rl2, lp2, by omega, g2⟩) (fun rl' lp' hL' hno => by
        obtain ⟨m, pos, rl2, lp2, g1, g2⟩ := ihe 0 (k + 1) rl' lp' (by omega) hL' (fun v g1 g2 g3 g4 g5 g6 => absurd g4 (hno g2 g3))
        exact ⟨m, pos, rl2, lp2, by omega, g2⟩)
end
