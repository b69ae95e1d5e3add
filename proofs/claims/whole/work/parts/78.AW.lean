section
variable {fu c n m x y : Nat} {nam : Nat → Int64} {at_ cou wei med sto fle lik vot : Nat → Int32} {cnt liv pri quo mel los st st' : Int32} {tp bt tp' bt' : Int64} {w : tX9}
theorem RA_cpy {n1 n2 n3 n4 n5 n6 : Nat → Int32} (h8 : c ≤ 8) (h : RA at_ c cou wei med sto fle lik cnt liv pri quo mel los) : RA at_ c (va_cpy cou n1 0 0 8) (va_cpy wei n2 0 0 8) (va_cpy med n3 0 0 8) (va_cpy sto n4 0 0 8) (va_cpy fle n5 0 0 8) (va_cpy lik n6 0 0 64) cnt liv pri quo mel los := by
  obtain ⟨hV, e1, e2, e3, e4, e5, e6, h3, h4, h0⟩ := h
  refine ⟨RV_cpy h8 hV, e1, e2, e3, e4, e5, e6, fun m hm => (cpy0 (by omega)).trans (h3 m hm), fun m hm => (cpy0 (by omega)).trans (h4 m hm), fun m hm hm8 => ?_⟩
  rw [cpy0 hm8, cpy0 hm8, cpy0 hm8]
  exact h0 m hm hm8
theorem c_become {n_name a_name : Nat → Int64} {n1 n2 n3 n4 n5 n6 : Nat → Int32} {m1 m2 m3 m4 m5 m6 : Int32} : f_X0_become fu n_name n1 n2 n3 n4 n5 n6 m1 m2 m3 m4 m5 m6 a_name cou wei med sto fle lik cnt liv pri quo mel los = some (va_cpy a_name n_name 0 0 8, va_cpy cou n1 0 0 8, va_cpy wei n2 0 0 8, va_cpy med n3 0 0 8, va_cpy sto n4 0 0 8, va_cpy fle n5 0 0 8, va_cpy lik n6 0 0 64, cnt, liv, pri, quo, mel, los) := by
  unfold f_X0_become
  simp (disch := omega) only [wd_lit, wd_of, wd_add, wd_mul, wd_neg, Option.bind_some, bnd, rdI_wd, wrI_wd, rdJ_wd, wrJ_wd, wd_31, cpJ_wd, cpI_wd]
/-- the wars of a mean, one after the other -/
theorem t_meanL (hm : m < c) (hy : 1 ≤ y) (hy2 : y ≤ 20) (hx : x + y ≤ 10000) (hW : WF at_ c) (hR : RA at_ c cou wei med sto fle lik cnt liv pri quo mel los) (h5 : at_ 5 = wd n) (hth : vX9_there w = wd 1) (hro : vX9_rows w = wd n) (hw : RWs (shI 120 at_) w n c) (hf : 1000000 ≤ fu) : ∀ d i, i + d = y → ∀ (N1 N2 sm : Nat) (d_name : Nat → Int64) (d_courage d_weight d_medals d_stood d_fled d_liked d_votes i_roundsLeft : Nat → Int32) (d_count d_living d_pride d_quota d_melted d_lost i_drawn i_fought i_steps i_missed i_stood i_fled i_pinned i_left : Int32) (s lp ran : Nat → Int32) (dr rs : Int32), d < N1 → d < N2 → sm ≤ 99 * i → (∀ j, j < 120 → s j = at_ j) → (∀ j, j < 120 → s (2440 + j) = at_ j) → (∀ j, 120 ≤ j → j < 2440 ∨ 2560 ≤ j → s j = at_ j) → ∃ z s' dr' rs' lp' ran', f_X11_mean_l63 fu nam cou wei med sto fle lik cnt liv pri quo mel los (vX9_deed w) (vX9_man w) (vX9_other w) (vX9_sign w) (vX9_number w) (vX9_mate w) (wd 1) (wd n) (wd m) (wd x) (wd y) N1 st tp bt d_name d_courage d_weight d_medals d_stood d_fled d_liked d_votes d_count d_living d_pride d_quota d_melted d_lost i_roundsLeft i_drawn i_fought i_steps i_missed i_stood i_fled i_pinned i_left (jd sm) (wd i) = some z ∧ f_X12_mean_l79 fu (wd m) (wd x) (wd y) N2 s st' tp' bt' dr rs lp ran (jd sm) (wd i) = some (z.1, s', z.2.1, z.2.2.1, z.2.2.2.1, dr', rs', lp', ran') ∧ AG at_ s' := by
  have h8 := hW.1
  intro d
  induction d with
  | zero =>
    intro i hi N1 N2 sm d_name d_courage d_weight d_medals d_stood d_fled d_liked d_votes i_roundsLeft d_count d_living d_pride d_quota d_melted d_lost i_drawn i_fought i_steps i_missed i_stood i_fled i_pinned i_left s lp ran dr rs hN1 hN2 hsm g1 g2 g3
    obtain ⟨M1, rfl⟩ : ∃ k, N1 = k + 1 := ⟨N1 - 1, by omega⟩
    obtain ⟨M2, rfl⟩ : ∃ k, N2 = k + 1 := ⟨N2 - 1, by omega⟩
    obtain rfl : i = y := by omega
    obtain ⟨p, q, e1, e2⟩ := t_tell (fu := fu) (a := sm) (b := i) (t0 := tp) (b0 := bt) (t1 := tp') (b1 := bt') (st := st') (by omega) (by omega) (by omega) (by omega)
    refine ⟨(wd 1, wd 0, p, q, d_name, d_courage, d_weight, d_medals, d_stood, d_fled, d_liked, d_votes, d_count, d_living, d_pride, d_quota, d_melted, d_lost, i_roundsLeft, i_drawn, i_fought, i_steps, i_missed, i_stood, i_fled, i_pinned, i_left), s, dr, rs, lp, ran, ?_, ?_, fun j hj => ?_⟩
    · rw [f_X11_mean_l63, f_X11_mean_b63, if_pos (by rw [wd_le (by omega) (by omega)]; omega), wd_64 (by omega), bind_e e1]
      rfl
    · rw [f_X12_mean_l79, f_X12_mean_b79, if_pos (by rw [wd_le (by omega) (by omega)]; omega), wd_64 (by omega), bind_e e2]
      rfl
    · by_cases hj2 : j < 120
      · exact g1 j hj2
      · exact g3 j (by omega) (by omega)
  | succ d ih =>
    intro i hi N1 N2 sm d_name d_courage d_weight d_medals d_stood d_fled d_liked d_votes i_roundsLeft d_count d_living d_pride d_quota d_melted d_lost i_drawn i_fought i_steps i_missed i_stood i_fled i_pinned i_left s lp ran dr rs hN1 hN2 hsm g1 g2 g3
    obtain ⟨M1, rfl⟩ : ∃ k, N1 = k + 1 := ⟨N1 - 1, by omega⟩
    obtain ⟨M2, rfl⟩ : ∃ k, N2 = k + 1 := ⟨N2 - 1, by omega⟩
    have hWs : WF s c := WF_e hW g1
    have hRs := RA_cpy (n1 := d_courage) (n2 := d_weight) (n3 := d_medals) (n4 := d_stood) (n5 := d_fled) (n6 := d_liked) h8 (RA_e h8 hR g1)
    have h5s : s 5 = wd n := (g1 5 (by omega)).trans h5
    have hws : RWs (shI 120 s) w n c := by
      have hWr : RWr (wd n) (shI 120 s) w c := RWr_e (Or.inr ⟨n, rfl, hth, hro, hw⟩) (fun j hj => g3 _ (by omega) (by omega))
      rcases hWr with ⟨b1, b2⟩ | ⟨n', b1, b2, b3, b4⟩
      · have := hw.1
        rw [wd_eqm (by omega)] at b1; exact b1.elim
      · have h1 := hw.1
        have h2 := b4.1
        rw [wd_inj (by omega) (by omega)] at b1
        subst b1; exact b4
    obtain ⟨rl', med', sto', fle', vot', at', lp', ran', dr', s', ms', sd', fl', pi', lf', liv', mel', los', e1, e2, hW', hR', hF, hC, h4⟩ := t_fight (dr := dr) (rs := rs) (lp := lp) (ran := ran) (vot := d_votes) (rl := i_roundsLeft) (dr0 := i_drawn) (fg0 := i_fought) (st0 := i_steps) (ms0 := i_missed) (sd0 := i_stood) (fl0 := i_fled) (pi0 := i_pinned) (lf0 := i_left) (show x + i ≤ 65535 by omega) hWs hRs h5s hws hf
    obtain ⟨k, hk, ek⟩ := (hW'.2.2.2.2 m hm).2.2.1
    have ek' : med' m = wd k := (hR'.1.2.2.1 m hm).trans ek
    have hrd : rdI med' 8 (wd m) = some (wd k) := by rw [rdI_wd (show m < 8 by omega) (by omega), ek']
    have hsum : jd sm + Int32.toInt64 (wd k) = jd (sm + k) := by rw [wd_64 (by omega)]; exact (Int64.ofNat_add sm k).symm
    have cb := ih (i + 1) (by omega) M1 M2 (sm + k) (va_cpy nam d_name 0 0 8) (va_cpy cou d_courage 0 0 8) (va_cpy wei d_weight 0 0 8) med' sto' fle' (va_cpy lik d_liked 0 0 64) vot' rl' cnt liv' pri quo mel' los' dr' (wd 1) s' ms' sd' fl' pi' lf' (va_cpy at' at' 2440 0 120) lp' ran' dr' s' (by omega) (by omega) (by omega) (fun j hj => by
        unfold va_cpy
        rw [if_pos (by omega), show 2440 + (j - 0) = 2440 + j from by omega, hF.2.2 _ (by omega)]
        exact g2 j hj) (fun j hj => by
        unfold va_cpy
        rw [if_neg (by omega), hF.2.2 _ (by omega)]
        exact g2 j hj) (fun j hj hj2 => by
        unfold va_cpy
        rw [if_neg (by omega), hF.2.2 _ (by omega)]
        exact g3 j hj hj2)
    obtain ⟨z, s2, dr2, rs2, lp2, ran2, f1, f2, f3⟩ := cb
    refine ⟨z, s2, dr2, rs2, lp2, ran2, ?_, ?_, f3⟩
    · rw [f_X11_mean_l63, f_X11_mean_b63, if_neg (by rw [wd_le (by omega) (by omega)]; omega), bind_e c_become, wd_add, bind_e e1]
      dsimp only
      rw [bind_e hrd]
      simp only [bnd]
      rw [hsum, show wd i + 1 = wd (i + 1) from wd_add i 1]
      exact f1
    · rw [f_X12_mean_l79, f_X12_mean_b79, if_neg (by rw [wd_le (by omega) (by omega)]; omega), wd_add, bind_e e2, show (2 : Int32) = wd 2 from rfl, bind_e (r_manOf (by omega) (by omega)), ek, show (2440 : Int32) = wd 2440 from wd_lit 2440]
      simp only [bnd]
      rw [hsum, bind_e (r_restores (by omega) (by omega) (by omega)), show wd i + 1 = wd (i + 1) from wd_add i 1]
      exact f2
def mz (r st : Int32) (p q : Int64) (d_name : Nat → Int64) (d_courage d_weight d_medals d_stood d_fled d_liked d_votes i_roundsLeft : Nat → Int32) (d_count d_living d_pride d_quota d_melted d_lost i_drawn i_fought i_steps i_missed i_stood i_fled i_pinned i_left : Int32) : Int32 × Int32 × Int64 × Int64 × (Nat → Int64) × (Nat → Int32) × (Nat → Int32) × (Nat → Int32) × (Nat → Int32) × (Nat → Int32) × (Nat → Int32) × (Nat → Int32) × Int32 × Int32 × Int32 × Int32 × Int32 × Int32 × (Nat → Int32) × Int32 × Int32 × Int32 × Int32 × Int32 × Int32 × Int32 × Int32 := (r, st, p, q, d_name, d_courage, d_weight, d_medals, d_stood, d_fled, d_liked, d_votes, d_count, d_living, d_pride, d_quota, d_melted, d_lost, i_roundsLeft, i_drawn, i_fought, i_steps, i_missed, i_stood, i_fled, i_pinned, i_left)
theorem t_mean {x1 x2 x3 : Int32} {dr rs : Int32} {lp ran : Nat → Int32} {d_name : Nat → Int64} {d_courage d_weight d_medals d_stood d_fled d_liked d_votes i_roundsLeft : Nat → Int32} {d_count d_living d_pride d_quota d_melted d_lost i_drawn i_fought i_steps i_missed i_stood i_fled i_pinned i_left : Int32} (hW : WF at_ c) (hR : RA at_ c cou wei med sto fle lik cnt liv pri quo mel los) (hWr : RWr (at_ 5) (shI 120 at_) w c) (hp : tp = tp') (hb : bt = bt') (hf : 1000000 ≤ fu) : ∃ z s' dr' rs' lp' ran', f_X11_mean fu st tp bt nam cou wei med sto fle lik cnt liv pri quo mel los (vX9_deed w) (vX9_man w) (vX9_other w) (vX9_sign w) (vX9_number w) (vX9_mate w) (vX9_there w) (vX9_rows w) d_name d_courage d_weight d_medals d_stood d_fled d_liked d_votes d_count d_living d_pride d_quota d_melted d_lost i_roundsLeft i_drawn i_fought i_steps i_missed i_stood i_fled i_pinned i_left x1 x2 x3 = some z ∧ f_X12_mean fu at_ st' tp' bt' dr rs lp ran x1 x2 x3 = some (z.1, s', z.2.1, z.2.2.1, z.2.2.2.1, dr', rs', lp', ran') ∧ AG at_ s' := by
  subst hp; subst hb
  have h8 := hW.1
  have hc := hW.2.1
  have ec := hR.2.1
  cases q0 : imn c x1
  · refine ⟨mz (wd 0) (wd 1) tp bt d_name d_courage d_weight d_medals d_stood d_fled d_liked d_votes i_roundsLeft d_count d_living d_pride d_quota d_melted d_lost i_drawn i_fought i_steps i_missed i_stood i_fled i_pinned i_left, at_, dr, rs, lp, ran, ?_, ?_, fun _ _ => rfl⟩
    · unfold f_X11_mean
      rw [ec, bind_e c_isM, q0, if_pos (show i01 false = 0 from rfl)]
      rfl
    · unfold f_X12_mean
      rw [bind_e (r_isM hc), q0, if_pos (show i01 false = 0 from rfl)]
      rfl
  · obtain ⟨m, hm, rfl⟩ := imn_ex (by omega) q0
    cases q1 : wn 1 20 x3
    · refine ⟨mz (wd 0) (wd 1) tp bt d_name d_courage d_weight d_medals d_stood d_fled d_liked d_votes i_roundsLeft d_count d_living d_pride d_quota d_melted d_lost i_drawn i_fought i_steps i_missed i_stood i_fled i_pinned i_left, at_, dr, rs, lp, ran, ?_, ?_, fun _ _ => rfl⟩
      · unfold f_X11_mean
        rw [ec, bind_e c_isM, q0, if_neg (show ¬ i01 true = 0 by decide), bind_e (show f_X11_within fu x3 1 20 = some (i01 (wn 1 20 x3)) from c_within (a := 1) (b := 20)), q1, if_pos (show i01 false = 0 from rfl)]
        rfl
      · unfold f_X12_mean
        rw [bind_e (r_isM hc), q0, if_neg (show ¬ i01 true = 0 by decide), show (9999 : Int64) = jd 9999 from jd_lit 9999, show (0 : Int64) = jd 0 from rfl, bind_e (r_from (by omega) (by omega)), show (1 : Int64) = jd 1 from rfl, show (20 : Int64) = jd 20 from rfl, bind_e (r_from (by omega) (by omega)), q1]
        cases wn 0 9999 x2 <;> rfl
    · obtain ⟨y, hy, hy2, rfl⟩ := wn_ex (by omega) (by omega) q1
      have e10 : (10000 : Int32) - wd y = wd (10000 - y) := by rw [show (10000 : Int32) = wd 10000 from wd_lit 10000, wd_sub (by omega)]
      cases q2 : wn 0 (10000 - y) x2
      · refine ⟨mz (wd 0) (wd 1) tp bt d_name d_courage d_weight d_medals d_stood d_fled d_liked d_votes i_roundsLeft d_count d_living d_pride d_quota d_melted d_lost i_drawn i_fought i_steps i_missed i_stood i_fled i_pinned i_left, at_, dr, rs, lp, ran, ?_, ?_, fun _ _ => rfl⟩
        · unfold f_X11_mean
          rw [ec, bind_e c_isM, q0, if_neg (show ¬ i01 true = 0 by decide), bind_e (show f_X11_within fu (wd y) 1 20 = some (i01 (wn 1 20 (wd y))) from c_within (a := 1) (b := 20)), q1, if_neg (show ¬ i01 true = 0 by decide), e10, bind_e (show f_X11_within fu x2 0 (wd (10000 - y)) = some (i01 (wn 0 (10000 - y) x2)) from c_within (a := 0)), q2, if_pos (show i01 false = 0 from rfl)]
          rfl
        · unfold f_X12_mean
          rw [bind_e (r_isM hc), q0, if_neg (show ¬ i01 true = 0 by decide), show (9999 : Int64) = jd 9999 from jd_lit 9999, show (0 : Int64) = jd 0 from rfl, bind_e (r_from (by omega) (by omega)), show (1 : Int64) = jd 1 from rfl, show (20 : Int64) = jd 20 from rfl, bind_e (r_from (by omega) (by omega)), q1]
          cases q3 : wn 0 9999 x2
          · rfl
          · obtain ⟨x, _, hx, rfl⟩ := wn_ex (by omega) (by omega) q3
            rw [wn_wd (by omega) (by omega) (by omega), decide_eq_false_iff_not] at q2
            rw [if_neg (show ¬ i01 true = 0 by decide), if_neg (show ¬ i01 true = 0 by decide), wd_add, show wd (x + y) - 1 = wd (x + y - 1) from wd_sub (a := x + y) (b := 1) (show 1 ≤ x + y by omega), show (9999 : Int32) = wd 9999 from wd_lit 9999, if_neg (by rw [wd_le (by omega) (by omega)]; omega)]
            rfl
      · obtain ⟨x, _, hx, rfl⟩ := wn_ex (by omega) (by omega) q2
        have q3 : wn 0 9999 (wd x) = true := by rw [wn_wd (by omega) (by omega) (by omega)]; simp; omega
        have hcm : f_X11_mean fu st tp bt nam cou wei med sto fle lik cnt liv pri quo mel los (vX9_deed w) (vX9_man w) (vX9_other w) (vX9_sign w) (vX9_number w) (vX9_mate w) (vX9_there w) (vX9_rows w) d_name d_courage d_weight d_medals d_stood d_fled d_liked d_votes d_count d_living d_pride d_quota d_melted d_lost i_roundsLeft i_drawn i_fought i_steps i_missed i_stood i_fled i_pinned i_left (wd m) (wd x) (wd y) = if vX9_there w = 0 then some (mz (wd 0) (wd 6) tp bt d_name d_courage d_weight d_medals d_stood d_fled d_liked d_votes i_roundsLeft d_count d_living d_pride d_quota d_melted d_lost i_drawn i_fought i_steps i_missed i_stood i_fled i_pinned i_left) else f_X11_mean_l63 fu nam cou wei med sto fle lik cnt liv pri quo mel los (vX9_deed w) (vX9_man w) (vX9_other w) (vX9_sign w) (vX9_number w) (vX9_mate w) (vX9_there w) (vX9_rows w) (wd m) (wd x) (wd y) fu st tp bt d_name d_courage d_weight d_medals d_stood d_fled d_liked d_votes d_count d_living d_pride d_quota d_melted d_lost i_roundsLeft i_drawn i_fought i_steps i_missed i_stood i_fled i_pinned i_left (jd 0) (wd 0) := by
          unfold f_X11_mean
          rw [ec, bind_e c_isM, q0, if_neg (show ¬ i01 true = 0 by decide), bind_e (show f_X11_within fu (wd y) 1 20 = some (i01 (wn 1 20 (wd y))) from c_within (a := 1) (b := 20)), q1, if_neg (show ¬ i01 true = 0 by decide), e10, bind_e (show f_X11_within fu (wd x) 0 (wd (10000 - y)) = some (i01 (wn 0 (10000 - y) (wd x))) from c_within (a := 0)), q2, if_neg (show ¬ i01 true = 0 by decide)]
          rfl
        have hrm : f_X12_mean fu at_ st' tp bt dr rs lp ran (wd m) (wd x) (wd y) = if at_ 5 = -1 then some (wd 0, at_, wd 6, tp, bt, dr, rs, lp, ran) else f_X12_mean_l79 fu (wd m) (wd x) (wd y) fu (va_cpy at_ at_ 0 2440 120) st' tp bt dr rs lp ran (jd 0) (wd 0) := by
          unfold f_X12_mean
          rw [bind_e (r_isM hc), q0, if_neg (show ¬ i01 true = 0 by decide), show (9999 : Int64) = jd 9999 from jd_lit 9999, show (0 : Int64) = jd 0 from rfl, bind_e (r_from (by omega) (by omega)), q3, if_neg (show ¬ i01 true = 0 by decide), show (1 : Int64) = jd 1 from rfl, show (20 : Int64) = jd 20 from rfl, bind_e (r_from (by omega) (by omega)), q1, if_neg (show ¬ i01 true = 0 by decide), wd_add, show wd (x + y) - 1 = wd (x + y - 1) from wd_sub (a := x + y) (b := 1) (show 1 ≤ x + y by omega), show (9999 : Int32) = wd 9999 from wd_lit 9999, if_pos (by rw [wd_le (by omega) (by omega)]; omega), bind_e (show rdI at_ 3648 5 = some (at_ 5) from rdI_wd (k := 5) (by omega) (by omega)), show (2440 : Int32) = wd 2440 from wd_lit 2440, bind_e (r_keeps (by omega) (by omega) (by omega))]
          rfl
        rw [hcm, hrm]
        rcases hWr with ⟨h5, hth⟩ | ⟨n, h5, hth, hro, hw⟩
        · rw [if_pos (show vX9_there w = 0 from hth), if_pos (show at_ 5 = -1 from h5)]
          exact ⟨mz (wd 0) (wd 6) tp bt d_name d_courage d_weight d_medals d_stood d_fled d_liked d_votes i_roundsLeft d_count d_living d_pride d_quota d_melted d_lost i_drawn i_fought i_steps i_missed i_stood i_fled i_pinned i_left, at_, dr, rs, lp, ran, rfl, rfl, fun _ _ => rfl⟩
        · rw [if_neg (show ¬ vX9_there w = 0 by rw [hth]; decide), if_neg (show ¬ at_ 5 = -1 from by
            have := hw.1
            rw [h5]
            show ¬ wd n = nn
            rw [wd_eqm (by omega)]; exact id)]
          rw [hth, hro]
          exact t_meanL (st := st) (st' := st') (tp := tp) (bt := bt) (tp' := tp) (bt' := bt) (nam := nam) hm hy hy2 (by omega) hW hR h5 hth hro hw hf y 0 (by omega) fu fu 0 d_name d_courage d_weight d_medals d_stood d_fled d_liked d_votes i_roundsLeft d_count d_living d_pride d_quota d_melted d_lost i_drawn i_fought i_steps i_missed i_stood i_fled i_pinned i_left (va_cpy at_ at_ 0 2440 120) lp ran dr rs (by omega) (by omega) (by omega) (fun j hj => by
            unfold va_cpy
            rw [if_neg (by omega)]) (fun j hj => by
            unfold va_cpy
            rw [if_pos (by omega), show 0 + (2440 + j - 2440) = j from by omega]) (fun j hj hj2 => by
            unfold va_cpy
            rw [if_neg (by omega)])
end
theorem Q1_mean {fu : Nat} (hf : 1000000000 ≤ fu) : Q_mean fu RR := by
  intro S M x1 x2 x3 h
  obtain ⟨c, hW, hA, hN, hWr⟩ := h.2.2.1
  obtain ⟨z, s', dr', rs', lp', ran', e1, e2, hag⟩ := t_mean (st := vX11_latestStatus (S_b S)) (st' := vX12_status M) (nam := vX0_name (S_a S)) (dr := vX12_drawn M) (rs := vX12_ranSteps M) (lp := vX12_loops M) (ran := vX12_ran M) (x1 := x1) (x2 := x2) (x3 := x3) (d_name := vX0_name (S_d S)) (d_courage := vX0_courage (S_d S)) (d_weight := vX0_weight (S_d S)) (d_medals := vX0_medals (S_d S)) (d_stood := vX0_stood (S_d S)) (d_fled := vX0_fled (S_d S)) (d_liked := vX0_liked (S_d S)) (d_votes := vX0_votes (S_d S)) (d_count := vX0_count (S_d S)) (d_living := vX0_living (S_d S)) (d_pride := vX0_pride (S_d S)) (d_quota := vX0_quota (S_d S)) (d_melted := vX0_melted (S_d S)) (d_lost := vX0_lost (S_d S)) (i_roundsLeft := vX2_roundsLeft (S_i S)) (i_drawn := vX2_drawn (S_i S)) (i_fought := vX2_fought (S_i S)) (i_steps := vX2_steps (S_i S)) (i_missed := vX2_missed (S_i S)) (i_stood := vX2_stood (S_i S)) (i_fled := vX2_fled (S_i S)) (i_pinned := vX2_pinned (S_i S)) (i_left := vX2_left (S_i S)) hW hA hWr h.1.2.1 h.1.2.2 (show 1000000 ≤ fu by omega)
  have hg := RR_ag hag h.2.2.1 h.2.2.2.1
  exact q_of (bind_e e1) (bind_e e2) ⟨⟨rfl, rfl, rfl⟩, h.2.1, hg.1, hg.2, h.2.2.2.2⟩
