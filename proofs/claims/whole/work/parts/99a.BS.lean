/-! the start -/
def cws : List Nat := [112, 114, 105, 100, 101, 32, 113, 117, 111, 116, 97, 32, 109, 97, 110, 32, 99, 111, 117, 114, 97, 103, 101, 32, 119, 101, 105, 103, 104, 116, 32, 109, 101, 100, 97, 108, 115, 32, 108, 105, 107, 101, 115, 32, 102, 97, 99, 101, 32, 103, 105, 118, 101, 32, 108, 111, 115, 101, 32, 102, 97, 108, 108, 32, 97, 110, 121, 32, 119, 104, 101, 110, 32, 98, 114, 97, 118, 101, 32, 119, 111, 114, 110, 32, 102, 108, 101, 100, 32, 108, 111, 111, 112, 32, 101, 110, 100, 32, 115, 116, 111, 112, 32]
def cw (i : Nat) : Nat := cws.getD i 0
theorem cw_at0 : ∀ i, i < 103 → f_J0_charAt_5068e 0 0 (wd i) = some (wd (cw i)) := by decide +kernel
theorem cw_at {fu i : Nat} (h : i < 103) : f_J0_charAt_5068e fu 0 (wd i) = some (wd (cw i)) := cw_at0 i h
theorem cw_len {fu : Nat} : f_J0_length_8abf5 fu 0 = some (wd 103) := by
  show f_J0_length_8abf5 0 0 = some (wd 103)
  decide +kernel
/-- the words' codes, as they are made: so far, this one, its number -/
def cst (i : Nat) (s : (Nat → Int64) × Nat × Nat) : (Nat → Int64) × Nat × Nat := if cw i = 32 then (vp_updL s.1 s.2.2 (Int64.ofNat s.2.1), 0, s.2.2 + 1) else (s.1, s.2.1 * 32 + (cw i - 96), s.2.2)
def csq : Nat → (Nat → Int64) × Nat × Nat
  | 0 => (fun _ => 0, 0, 0)
  | i + 1 => cst i (csq i)
def cno : Nat → Nat
  | 0 => 0
  | i + 1 => if cw i = 32 then cno i + 1 else cno i
theorem csq_no : ∀ i, (csq i).2.2 = cno i := by
  intro i
  induction i with
  | zero => rfl
  | succ i ih =>
    show (cst i (csq i)).2.2 = if cw i = 32 then cno i + 1 else cno i
    unfold cst
    by_cases h : cw i = 32
    · rw [if_pos h, if_pos h, ← ih]
    · rw [if_neg h, if_neg h]; exact ih
theorem cno_19 : ∀ i, i < 103 → cno i < 19 := by decide +kernel
theorem cw_l : ∀ i, i < 103 → cw i = 32 ∨ (97 ≤ cw i ∧ cw i ≤ 122) := by decide +kernel
theorem csq_wc : ∀ k, k < 19 → (csq 103).1 k = Int64.ofNat (wcodes.getD k 0) := by decide +kernel
theorem h_wc {fu : Nat} (hf : 1000 ≤ fu) : f_X7_init fu (fun _ => 0) = some (csq 103).1 := by
  unfold f_X7_init
  refine loop_seq (fun N i (s : (Nat → Int64) × Nat × Nat) => f_X7_init_l68 fu N s.1 (Int64.ofNat s.2.1) (wd s.2.2) (wd i)) csq 103 _ ?_ ?_ 0 fu (by omega) (by omega)
  · intro N i hi
    show f_X7_init_l68 fu (N + 1) (csq i).1 (Int64.ofNat (csq i).2.1) (wd (csq i).2.2) (wd i) = f_X7_init_l68 fu N (cst i (csq i)).1 (Int64.ofNat (cst i (csq i)).2.1) (wd (cst i (csq i)).2.2) (wd (i + 1))
    have hno : (csq i).2.2 < 19 := by rw [csq_no]; exact cno_19 i hi
    have hl := cw_l i hi
    generalize csq i = s at hno ⊢
    obtain ⟨s1, s2, s3⟩ := s
    have hno : s3 < 19 := hno
    rw [f_X7_init_l68, f_X7_init_b68, bind_e cw_len, if_neg (by rw [wd_le (by omega) (by omega)]; omega), bind_e (cw_at hi)]
    unfold cst
    by_cases h : cw i = 32
    · rw [if_pos h, if_pos (show wd (cw i) = 32 from by rw [h]; rfl), if_neg (show ¬ (19 : Int32) ≤ wd s3 from by
        show ¬ wd 19 ≤ wd s3
        rw [wd_le (by omega) (by omega)]; omega), bind_e (wrJ_wd hno (by omega))]
      simp only [bnd]
      rw [show wd s3 + 1 = wd (s3 + 1) from wd_add s3 1, show wd i + 1 = wd (i + 1) from wd_add i 1]
      rfl
    · have h2 : 97 ≤ cw i ∧ cw i ≤ 122 := hl.resolve_left h
      rw [if_neg h, if_neg (show ¬ wd (cw i) = 32 from by
        show ¬ wd (cw i) = wd 32
        rw [wd_inj (by omega) (by omega)]; exact h)]
      simp only [bnd]
      rw [show wd (cw i) - 97 = wd (cw i - 97) from wd_sub (a := cw i) (b := 97) h2.1, show wd (cw i - 97) + 1 = wd (cw i - 97 + 1) from wd_add _ 1, wd_64 (by omega), show cw i - 97 + 1 = cw i - 96 from by omega, show wd i + 1 = wd (i + 1) from wd_add i 1, Int64.ofNat_add, Int64.ofNat_mul]
      rfl
  · intro N
    show f_X7_init_l68 fu (N + 1) (csq 103).1 (Int64.ofNat (csq 103).2.1) (wd (csq 103).2.2) (wd 103) = _
    rw [f_X7_init_l68, f_X7_init_b68, bind_e cw_len, if_pos (by rw [wd_le (by omega) (by omega)]; omega)]
/-- the reference's start -/
def M0 (at0 : Nat → Int32) : tX12 := (at0, ((fun _ => 0)), 0, 0, 1, ((fun _ => 0)), (upd (upd (upd (upd ((fun _ => 0)) 0 (-1)) 1 (-1)) 2 (-1)) 3 (-1)), ((fun _ => 0)), ((fun _ => 0)), ((fun _ => 0)), 0, 0, 0, 0, 0, 0, (-1), (-1), 0, 0, 0, ((fun _ => 0)), 0, 0, 0, ((fun _ => 0)), ((fun _ => 0)), ((fun _ => 0)), 0, 0, 0, ((fun _ => 0)), 0, ((fun _ => 0)), 0, 0, ((fun _ => 0)), ((fun _ => 0)), ((fun _ => 0)), 0, 0)
theorem h_pl {fu : Nat} (hf : 1000 ≤ fu) : ∃ at0, f_X12_plain fu (fun _ => 0) 0 = some at0 ∧ RR (S0 (csq 103).1) (M0 at0) := by
  obtain ⟨at0, e, _, p0, p1, p2, p3, p4, p5, p6, p7⟩ := r_plain (fu := fu) (at_ := fun _ => 0) (base := 0) (by omega) hf
  rw [Nat.zero_add] at p1 p2 p3 p4 p5
  refine ⟨at0, e, ⟨rfl, rfl, rfl⟩, ⟨Or.inl ⟨rfl, rfl⟩, Or.inl ⟨rfl, rfl⟩, Or.inl ⟨rfl, rfl⟩, Or.inl ⟨rfl, rfl⟩⟩, ⟨0, ⟨by omega, p0, ⟨1, by omega, p1⟩, ⟨50, by omega, p2⟩, fun m hm => absurd hm (by omega)⟩, ⟨⟨fun m hm => absurd hm (by omega), fun m hm => absurd hm (by omega), fun m hm => absurd hm (by omega), fun m o hm => absurd hm (by omega)⟩, rfl, rfl, p1.symm, p2.symm, p3.symm, p4.symm, fun m hm => absurd hm (by omega), fun m hm => absurd hm (by omega), fun m _ _ => ⟨rfl, rfl, rfl⟩⟩, fun m hm => absurd hm (by omega), Or.inl ⟨p5, rfl⟩⟩, ⟨0, by omega, rfl, rfl, fun h => absurd h (by omega), fun h => absurd h (by omega), fun h => absurd h (by omega)⟩, ⟨0, by omega, rfl, rfl, fun k hk => absurd hk (by omega)⟩, ⟨rfl, rfl⟩, Or.inl ⟨rfl, rfl⟩, csq_wc⟩
theorem all_Q {fu : Nat} (hf : 1000000000 ≤ fu) : AllQ fu RR := ⟨Q1_status, Q1_top, Q1_bottom, Q1_tray (by omega), Q1_write (by omega), Q1_read (by omega), Q1_pour (by omega), Q1_feed (by omega), Q1_army (by omega), Q1_war (by omega), Q1_fault, Q1_told (by omega), Q1_man (by omega), Q1_likes (by omega), Q1_face (by omega), Q1_give (by omega), Q1_lose (by omega), Q1_fall (by omega), Q1_enlist (by omega), Q1_train (by omega), Q1_weigh (by omega), Q1_charm (by omega), Q1_rule (by omega), Q1_brave (by omega), Q1_limit (by omega), Q1_candidates (by omega), Q1_voteOf (by omega), Q1_votes (by omega), Q1_goesTo (by omega), Q1_carries (by omega), Q1_fewest (by omega), Q1_fewestSet (by omega), Q1_power (by omega), Q1_mightiest (by omega), Q1_veto (by omega), Q1_most (by omega), Q1_facesAt (by omega), Q1_seen (by omega), Q1_seenAt (by omega), Q1_ask (by omega), Q1_couples (by omega), Q1_fondness (by omega), Q1_partner (by omega), Q1_game (by omega), Q1_moveOf (by omega), Q1_chance (by omega), Q1_luck (by omega), Q1_hopeful (by omega), Q1_copyMedals (by omega), Q1_live (by omega), Q1_lived (by omega), Q1_mean (by omega), Q1_mark (by omega), Q1_undo (by omega)⟩
