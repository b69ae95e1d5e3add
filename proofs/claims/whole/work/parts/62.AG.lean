section
variable {fu c : Nat} {at_ cou wei med sto fle lik vot cam : Nat → Int32} {cnt liv pri quo mel los st st' ds : Int32}
theorem AG2.ag {a b : Nat → Int32} (h : AG2 a b) : AG a b := fun i hi => h i (by omega)
theorem sza_e {t k : Nat} {tr : Nat → Int64} : sza t tr k = Int64.toInt32 (shJ (60 * t) tr k) := rfl
theorem t_game {t : Nat} {y : tX8} {srt tm : Nat → Int32} {tr : Nat → Int64} {x1 x2 x4 : Int32} {n_name : Nat → Int64} {n_courage : Nat → Int32} {n_weight : Nat → Int32} {n_medals : Nat → Int32} {n_stood : Nat → Int32} {n_fled : Nat → Int32} {n_liked : Nat → Int32} {n_votes : Nat → Int32} {n_count : Int32} {n_living : Int32} {n_pride : Int32} {n_quota : Int32} {n_melted : Int32} {n_lost : Int32} {f_sizes : Nat → Int32} {f_dangers : Int32} {a_name : Nat → Int64} (hW : WF at_ c) (hR : RA at_ c cou wei med sto fle lik cnt liv pri quo mel los) (ht : t < 4) (hy : RY y (srt t) (tm t) (shJ (60 * t) tr)) (hf : 1000 ≤ fu) : ∃ r st1 z2 at2 cam' ds', gameG fu st (vX8_row y) (vX8_missing y) (vX8_many y) a_name cou wei med sto fle lik cnt liv pri quo mel los f_sizes f_dangers n_name n_courage n_weight n_medals n_stood n_fled n_liked n_votes n_count n_living n_pride n_quota n_melted n_lost x1 x2 x4 = some (r, st1, z2) ∧ f_X12_game fu at_ st' tm tr cam ds x1 x2 (wd t) x4 = some (r, at2, st1, cam', ds') ∧ AG at_ at2 := by
  obtain ⟨hV, rfl, rfl, rfl, rfl, rfl, rfl, h3, h4, h0⟩ := hR
  have h8 := hW.1
  have hc := hW.2.1
  obtain ⟨j, w, hj, e1, e2, e3, e4⟩ := t_gref (x1 := x1) (x2 := x2) (x4 := x4) hc h8 ht hy hf
  have hbad : j ≠ 0 → gameG fu st (vX8_row y) (vX8_missing y) (vX8_many y) a_name cou wei med sto fle lik (wd c) (wd (mask (alv at_) c)) (at_ 1) (at_ 2) (at_ 3) (at_ 4) f_sizes f_dangers n_name n_courage n_weight n_medals n_stood n_fled n_liked n_votes n_count n_living n_pride n_quota n_melted n_lost x1 x2 x4 = some (nn, wd j, f_sizes, f_dangers, n_name, n_courage, n_weight, n_medals, n_stood, n_fled, n_liked, n_votes, n_count, n_living, n_pride, n_quota, n_melted, n_lost) := by
    intro hj0
    unfold gameG
    rw [bind_e e1, if_neg (show ¬ wd j = 0 by rw [show (0 : Int32) = wd 0 from rfl, wd_inj (by omega) (by omega)]; exact hj0)]
    rfl
  have href : ∀ v, v ≤ 7 → v ≠ 0 → f_X12_game_j21 fu tm tr x1 x2 (wd t) x4 at_ st' cam ds (wd v) = some (nn, at_, wd v, cam, ds) := by
    intro v hv hv0
    unfold f_X12_game_j21
    rw [if_neg (show ¬ wd v ≤ 0 by rw [show (0 : Int32) = wd 0 from rfl, wd_le (by omega) (by omega)]; omega)]
    rfl
  cases w
  · have hj1 := e3 rfl
    subst hj1
    refine ⟨_, _, _, at_, cam, ds, hbad (by omega), ?_, fun _ _ => rfl⟩
    unfold f_X12_game
    rw [bind_e e2, if_pos (show i01 false = 0 by decide)]
    exact href 1 (by omega) (by omega)
  · obtain ⟨a, b, ha, hb, rfl, rfl, h5⟩ := e4 rfl
    have hgame : ∀ v, f_X12_wrongSizes fu tm tr (wd t) x4 (wd 0) = some (wd v) → f_X12_game fu at_ st' tm tr cam ds (wd a) (wd b) (wd t) x4 = f_X12_game_j21 fu tm tr (wd a) (wd b) (wd t) x4 at_ st' cam ds (wd v) := by
      intro v hv
      unfold f_X12_game
      rw [bind_e e2, if_neg (show ¬ i01 true = 0 by decide)]
      rw [show (0 : Int32) = wd 0 from rfl]
      rw [bind_e hv]
    rcases h5 with ⟨rfl, _, h6⟩ | ⟨k, v, hk, rfl, hv, h6, h7⟩
    · exact ⟨_, _, _, at_, cam, ds, hbad (by omega), (hgame 1 (h6 0 (by omega))).trans (href 1 (by omega) (by omega)), fun _ _ => rfl⟩
    · rcases h7 with ⟨hv0, hv1, rfl⟩ | ⟨rfl, h7⟩
      · exact ⟨_, _, _, at_, cam, ds, hbad hv0, (hgame j (h6 0 (by omega))).trans (href j (by omega) hv0), fun _ _ => rfl⟩
      · have hg0 : f_X12_game fu at_ st' tm tr cam ds (wd a) (wd b) (wd t) (wd k) = if alv at_ a && alv at_ b then (f_X12_playing fu at_ tr cam ds (wd a) (wd b) (wd t) (wd k)).bind fun z_21 => some (z_21.1, z_21.2.1, wd 0, z_21.2.2.1, z_21.2.2.2) else some (nn, at_, wd 7, cam, ds) := by
          rw [hgame 0 (h6 0 (by omega))]
          unfold f_X12_game_j21
          rw [if_pos (show wd 0 ≤ 0 by decide), bind_e (r_isAlive (by omega)), bind_e (r_isAlive (by omega))]
          cases alv at_ a <;> cases alv at_ b <;> rfl
        rcases h7 with ⟨rfl, hal⟩ | ⟨rfl, ha1, hb1, n, hn, hkn, en, hr⟩
        · exact ⟨_, _, _, at_, cam, ds, hbad (by omega), by rw [hg0, hal]; rfl, fun _ _ => rfl⟩
        · obtain ⟨at2, cam', ds', p1, p2, p3⟩ := r_playing (fu := fu) (tr := tr) (cam := cam) (ds := ds) hW ha hb ht hk hf
          rw [en] at e1 ⊢
          obtain ⟨szs', l1, l2⟩ := c_look (fu := fu) (row := vX8_row y) (szs := f_sizes) (dg := f_dangers) (n_name := n_name) (n_courage := n_courage) (n_weight := n_weight) (n_medals := n_medals) (n_stood := n_stood) (n_fled := n_fled) (n_liked := n_liked) (n_count := n_count) (n_living := n_living) (n_pride := n_pride) (n_quota := n_quota) (n_melted := n_melted) (n_lost := n_lost) (a_name := a_name) (a_courage := cou) (a_weight := wei) (a_medals := med) (a_stood := sto) (a_fled := fle) (a_liked := lik) (a_count := wd c) (a_living := wd (mask (alv at_) c)) (a_pride := at_ 1) (a_quota := at_ 2) (a_melted := at_ 3) (a_lost := at_ 4) hn hk hkn hf
          obtain ⟨vot', v1⟩ := c_value (fu := fu) (szs := szs') (sz := sza t tr) ha hb hk (fun i hi => by rw [l2 i hi, hr i hi]; rfl) hf k 0 6 at_ _ n_votes (by omega) (by omega) hW (RV_cpy (n1 := n_courage) (n2 := n_weight) (n3 := n_medals) (n4 := n_liked) h8 hV)
          have q0 := imn_wd (c := c) (by omega) ha
          have q1 := imn_wd (c := c) (by omega) hb
          refine ⟨UV c a b k (sza t tr) at_ 0 0, wd 0, ?_, at2, cam', ds', ?_, ?_, p2.ag⟩
          rotate_left
          · unfold gameG
            rw [bind_e e1, if_pos (show wd 0 = 0 from rfl), bind_e l1]
            unfold f_X4_valueFor
            dsimp only
            rw [bind_e c_isM, q0, if_neg (show ¬ i01 true = 0 by decide), bind_e c_isM, q1, if_neg (show ¬ i01 true = 0 by decide)]
            rw [show (0 : Int32) = wd 0 from rfl, bind_e v1]
            rfl
          · rw [hg0, ha1, hb1]
            show ((f_X12_playing fu at_ tr cam ds (wd a) (wd b) (wd t) (wd k)).bind fun z_21 => some (z_21.1, z_21.2.1, wd 0, z_21.2.2.1, z_21.2.2.2)) = _
            rw [bind_e p1]
theorem t_moveOf {t : Nat} {y : tX8} {srt tm : Nat → Int32} {tr : Nat → Int64} {x1 x2 x4 : Int32} {n_name : Nat → Int64} {n_courage : Nat → Int32} {n_weight : Nat → Int32} {n_medals : Nat → Int32} {n_stood : Nat → Int32} {n_fled : Nat → Int32} {n_liked : Nat → Int32} {n_votes : Nat → Int32} {n_count : Int32} {n_living : Int32} {n_pride : Int32} {n_quota : Int32} {n_melted : Int32} {n_lost : Int32} {f_sizes : Nat → Int32} {f_dangers : Int32} {a_name : Nat → Int64} (hW : WF at_ c) (hR : RA at_ c cou wei med sto fle lik cnt liv pri quo mel los) (ht : t < 4) (hy : RY y (srt t) (tm t) (shJ (60 * t) tr)) (hf : 1000 ≤ fu) : ∃ r st1 z2 at2 cam' ds', moveG fu st (vX8_row y) (vX8_missing y) (vX8_many y) a_name cou wei med sto fle lik cnt liv pri quo mel los f_sizes f_dangers n_name n_courage n_weight n_medals n_stood n_fled n_liked n_votes n_count n_living n_pride n_quota n_melted n_lost x1 x2 x4 = some (r, st1, z2) ∧ f_X12_moveOf fu at_ st' tm tr cam ds x1 x2 (wd t) x4 = some (r, at2, st1, cam', ds') ∧ AG at_ at2 := by
  obtain ⟨hV, rfl, rfl, rfl, rfl, rfl, rfl, h3, h4, h0⟩ := hR
  have h8 := hW.1
  have hc := hW.2.1
  obtain ⟨j, w, hj, e1, e2, e3, e4⟩ := t_gref (x1 := x1) (x2 := x2) (x4 := x4) hc h8 ht hy hf
  have hbad1 : j = 1 ∨ x4 = wd 0 → moveG fu st (vX8_row y) (vX8_missing y) (vX8_many y) a_name cou wei med sto fle lik (wd c) (wd (mask (alv at_) c)) (at_ 1) (at_ 2) (at_ 3) (at_ 4) f_sizes f_dangers n_name n_courage n_weight n_medals n_stood n_fled n_liked n_votes n_count n_living n_pride n_quota n_melted n_lost x1 x2 x4 = some (nn, wd 1, f_sizes, f_dangers, n_name, n_courage, n_weight, n_medals, n_stood, n_fled, n_liked, n_votes, n_count, n_living, n_pride, n_quota, n_melted, n_lost) := by
    intro hj0
    unfold moveG
    rw [bind_e e1]
    by_cases hj1 : j = 1
    · subst hj1; rw [if_pos (show wd 1 = 1 from rfl)]; rfl
    · rw [if_neg (show ¬ wd j = 1 by rw [show (1 : Int32) = wd 1 from rfl, wd_inj (by omega) (by omega)]; exact hj1), if_pos (show x4 = 0 from by rcases hj0 with h | h; exact absurd h hj1; exact h)]
      rfl
  have hbad : j ≠ 0 → j ≠ 1 → ¬ x4 = wd 0 → moveG fu st (vX8_row y) (vX8_missing y) (vX8_many y) a_name cou wei med sto fle lik (wd c) (wd (mask (alv at_) c)) (at_ 1) (at_ 2) (at_ 3) (at_ 4) f_sizes f_dangers n_name n_courage n_weight n_medals n_stood n_fled n_liked n_votes n_count n_living n_pride n_quota n_melted n_lost x1 x2 x4 = some (nn, wd j, f_sizes, f_dangers, n_name, n_courage, n_weight, n_medals, n_stood, n_fled, n_liked, n_votes, n_count, n_living, n_pride, n_quota, n_melted, n_lost) := by
    intro hj0 hj1 hx
    unfold moveG
    rw [bind_e e1, if_neg (show ¬ wd j = 1 by rw [show (1 : Int32) = wd 1 from rfl, wd_inj (by omega) (by omega)]; exact hj1), if_neg (show ¬ x4 = 0 from hx), if_neg (show ¬ wd j = 0 by rw [show (0 : Int32) = wd 0 from rfl, wd_inj (by omega) (by omega)]; exact hj0)]
    rfl
  have href : ∀ v, v ≤ 7 → v ≠ 0 → f_X12_moveOf_j21 fu tm tr x1 x2 (wd t) x4 at_ st' cam ds (wd v) = some (nn, at_, wd v, cam, ds) := by
    intro v hv hv0
    unfold f_X12_moveOf_j21
    rw [if_neg (show ¬ wd v ≤ 0 by rw [show (0 : Int32) = wd 0 from rfl, wd_le (by omega) (by omega)]; omega)]
    rfl
  cases w
  · have hj1 := e3 rfl
    subst hj1
    refine ⟨_, _, _, at_, cam, ds, hbad1 (Or.inl rfl), ?_, fun _ _ => rfl⟩
    unfold f_X12_moveOf
    rw [bind_e e2, if_pos (show i01 false = 0 by decide)]
    exact href 1 (by omega) (by omega)
  · obtain ⟨a, b, ha, hb, rfl, rfl, h5⟩ := e4 rfl
    have hgame : ∀ v, f_X12_wrongSizes fu tm tr (wd t) x4 (wd 1) = some (wd v) → f_X12_moveOf fu at_ st' tm tr cam ds (wd a) (wd b) (wd t) x4 = f_X12_moveOf_j21 fu tm tr (wd a) (wd b) (wd t) x4 at_ st' cam ds (wd v) := by
      intro v hv
      unfold f_X12_moveOf
      rw [bind_e e2, if_neg (show ¬ i01 true = 0 by decide)]
      rw [show (1 : Int32) = wd 1 from rfl]
      rw [bind_e hv]
    rcases h5 with ⟨rfl, hx, h6⟩ | ⟨k, v, hk, rfl, hv, h6, h7⟩
    · exact ⟨_, _, _, at_, cam, ds, hbad1 (Or.inl rfl), (hgame 1 (h6 1 (by omega))).trans (href 1 (by omega) (by omega)), fun _ _ => rfl⟩
    · by_cases hk0 : k = 0
      · subst hk0
        exact ⟨_, _, _, at_, cam, ds, hbad1 (Or.inr rfl), (hgame 1 (r_wsz1 ht (by omega) (by decide))).trans (href 1 (by omega) (by omega)), fun _ _ => rfl⟩
      · have hx0 : ¬ wd k = wd 0 := by rw [wd_inj (by omega) (by omega)]; exact hk0
        rcases h7 with ⟨hv0, hv1, rfl⟩ | ⟨rfl, h7⟩
        · exact ⟨_, _, _, at_, cam, ds, hbad hv0 hv1 hx0, (hgame j (h6 1 (by omega))).trans (href j (by omega) hv0), fun _ _ => rfl⟩
        · have hg0 : f_X12_moveOf fu at_ st' tm tr cam ds (wd a) (wd b) (wd t) (wd k) = if alv at_ a && alv at_ b then (if brv at_ a < sza t tr 0 then some (nn, at_, wd 6, cam, ds) else (f_X12_playing fu at_ tr cam ds (wd a) (wd b) (wd t) (wd k)).bind fun z_29 => (if z_29.2.2.2 = 0 then some (wd 0, z_29.2.1, wd 0, z_29.2.2.1, z_29.2.2.2) else some (wd 1, z_29.2.1, wd 0, z_29.2.2.1, z_29.2.2.2))) else some (nn, at_, wd 7, cam, ds) := by
            rw [hgame 0 (h6 1 (by omega))]
            unfold f_X12_moveOf_j21
            rw [if_pos (show wd 0 ≤ 0 by decide), bind_e (r_isAlive (by omega)), bind_e (r_isAlive (by omega))]
            rw [bind_e (show f_X12_sizeAt fu tr (wd t) 0 = some (sza t tr 0) from r_sizeAt (k := 0) ht (by omega)), bind_e (r_stands (by omega))]
            cases alv at_ a
            · rfl
            · cases alv at_ b
              · rfl
              · by_cases hb1 : brv at_ a < sza t tr 0
                · simp only [hb1, decide_true]; rfl
                · simp only [hb1, decide_false]; rfl
          rcases h7 with ⟨rfl, hal⟩ | ⟨rfl, ha1, hb1, n, hn, hkn, en, hr⟩
          · exact ⟨_, _, _, at_, cam, ds, hbad (by omega) (by omega) hx0, by rw [hg0, hal]; rfl, fun _ _ => rfl⟩
          · rw [en] at e1 ⊢
            obtain ⟨szs', l1, l2⟩ := c_look (fu := fu) (row := vX8_row y) (szs := f_sizes) (dg := f_dangers) (n_name := n_name) (n_courage := n_courage) (n_weight := n_weight) (n_medals := n_medals) (n_stood := n_stood) (n_fled := n_fled) (n_liked := n_liked) (n_count := n_count) (n_living := n_living) (n_pride := n_pride) (n_quota := n_quota) (n_melted := n_melted) (n_lost := n_lost) (a_name := a_name) (a_courage := cou) (a_weight := wei) (a_medals := med) (a_stood := sto) (a_fled := fle) (a_liked := lik) (a_count := wd c) (a_living := wd (mask (alv at_) c)) (a_pride := at_ 1) (a_quota := at_ 2) (a_melted := at_ 3) (a_lost := at_ 4) hn hk hkn hf
            have hVc := RV_cpy (n1 := n_courage) (n2 := n_weight) (n3 := n_medals) (n4 := n_liked) h8 hV
            have hsz : ∀ i, i < k → szs' i = sza t tr i := fun i hi => by rw [l2 i hi, hr i hi]; rfl
            have q0 := imn_wd (c := c) (by omega) ha
            have q1 := imn_wd (c := c) (by omega) hb
            have est := c_stands (fu := fu) (s := szs' 0) ha h8 (hVc.1 a ha) (hVc.2.2.1 a ha)
            have hm0 : moveG fu st (vX8_row y) (vX8_missing y) (wd n) a_name cou wei med sto fle lik (wd c) (wd (mask (alv at_) c)) (at_ 1) (at_ 2) (at_ 3) (at_ 4) f_sizes f_dangers n_name n_courage n_weight n_medals n_stood n_fled n_liked n_votes n_count n_living n_pride n_quota n_melted n_lost (wd a) (wd b) (wd k) = (f_X4_moveFor fu szs' (wd k) (va_cpy cou n_courage 0 0 8) (va_cpy wei n_weight 0 0 8) (va_cpy med n_medals 0 0 8) (va_cpy lik n_liked 0 0 64) n_votes (wd c) (wd (mask (alv at_) c)) (at_ 1) (wd a) (wd b)).bind fun z_72 => (if z_72.1 = nn then some (nn, wd 6, szs', wd k, va_cpy a_name n_name 0 0 8, va_cpy cou n_courage 0 0 8, va_cpy wei n_weight 0 0 8, z_72.2.1, va_cpy sto n_stood 0 0 8, va_cpy fle n_fled 0 0 8, va_cpy lik n_liked 0 0 64, z_72.2.2, wd c, wd (mask (alv at_) c), at_ 1, at_ 2, at_ 3, at_ 4) else some (z_72.1, wd 0, szs', wd k, va_cpy a_name n_name 0 0 8, va_cpy cou n_courage 0 0 8, va_cpy wei n_weight 0 0 8, z_72.2.1, va_cpy sto n_stood 0 0 8, va_cpy fle n_fled 0 0 8, va_cpy lik n_liked 0 0 64, z_72.2.2, wd c, wd (mask (alv at_) c), at_ 1, at_ 2, at_ 3, at_ 4)) := by
              unfold moveG
              rw [bind_e e1, if_neg (show ¬ wd 0 = 1 by decide), if_neg (show ¬ wd k = 0 from hx0), if_pos (show wd 0 = 0 from rfl), bind_e l1]
              rfl
            have hmf : f_X4_moveFor fu szs' (wd k) (va_cpy cou n_courage 0 0 8) (va_cpy wei n_weight 0 0 8) (va_cpy med n_medals 0 0 8) (va_cpy lik n_liked 0 0 64) n_votes (wd c) (wd (mask (alv at_) c)) (at_ 1) (wd a) (wd b) = if brv at_ a < sza t tr 0 then some (nn, va_cpy med n_medals 0 0 8, n_votes) else (f_X4_valueIfStood_C fu szs' (wd k) (va_cpy cou n_courage 0 0 8) (va_cpy wei n_weight 0 0 8) (va_cpy med n_medals 0 0 8) (va_cpy lik n_liked 0 0 64) n_votes (wd c) (wd (mask (alv at_) c)) (at_ 1) (wd a) (wd b) (wd 0)).bind fun z_20 => (f_X4_valueFrom fu 6 szs' (wd k) (va_cpy cou n_courage 0 0 8) (va_cpy wei n_weight 0 0 8) z_20.2.1 (va_cpy lik n_liked 0 0 64) z_20.2.2 (wd c) (wd (mask (alv at_) c)) (at_ 1) (wd a) (wd b) (wd 1)).bind fun z_21 => (if z_20.1 < z_21.1 then some (wd 0, z_21.2.1, z_21.2.2) else some (wd 1, z_21.2.1, z_21.2.2)) := by
              unfold f_X4_moveFor
              rw [if_neg (show ¬ wd k = 0 from hx0), bind_e c_isM, q0, if_neg (show ¬ i01 true = 0 by decide), bind_e c_isM, q1, if_neg (show ¬ i01 true = 0 by decide)]
              rw [bind_e (show rdI szs' 4 0 = some (szs' 0) from rdI_wd (k := 0) (by omega) (by omega)), bind_e est, hsz 0 (by omega)]
              by_cases hb1 : brv at_ a < sza t tr 0
              · simp only [hb1, decide_true]; rfl
              · simp only [hb1, decide_false]; rfl
            by_cases hst : brv at_ a < sza t tr 0
            · refine ⟨nn, wd 6, ?_, at_, cam, ds, ?_, ?_, fun _ _ => rfl⟩
              rotate_left
              · rw [hm0, hmf, if_pos hst]; rfl
              · rw [hg0, ha1, hb1, if_pos hst]; rfl
            · obtain ⟨at2, cam', ds', p1, p2, p3⟩ := r_playing (fu := fu) (tr := tr) (cam := cam) (ds := ds) hW ha hb ht hk hf
              obtain ⟨d, hd⟩ : ∃ d, k = d + 1 := ⟨k - 1, by omega⟩
              obtain ⟨vot2, v2⟩ := c_stood (fu := fu) (α := Nat) (V := gvl c a b (sza t tr) d 1) (rec := fun med vot => f_X4_valueFrom fu 6 szs' (wd k) (va_cpy cou n_courage 0 0 8) (va_cpy wei n_weight 0 0 8) med (va_cpy lik n_liked 0 0 64) vot (wd c) (wd (mask (alv at_) c)) (at_ 1) (wd a) (wd b) (wd 1)) (vot := n_votes) (s := sza t tr 0) hW hVc hf (fun at' med vot g1 g2 g3 g4 => by
                obtain ⟨vot', e⟩ := c_value (fu := fu) (szs := szs') (sz := sza t tr) ha hb hk hsz hf d 1 6 at' med vot (by omega) (by omega) g1 g2
                rw [g3, g4] at e
                exact ⟨vot', e⟩)
              obtain ⟨vot3, v3⟩ := c_value (fu := fu) (szs := szs') (sz := sza t tr) ha hb hk hsz hf d 1 6 at_ _ vot2 (by omega) (by omega) hW hVc
              have v2' : f_X4_valueIfStood_C fu szs' (wd k) (va_cpy cou n_courage 0 0 8) (va_cpy wei n_weight 0 0 8) (va_cpy med n_medals 0 0 8) (va_cpy lik n_liked 0 0 64) n_votes (wd c) (wd (mask (alv at_) c)) (at_ 1) (wd a) (wd b) (wd 0) = some (gvl c a b (sza t tr) d 1 (pn at_ c (sza t tr 0)), va_cpy med n_medals 0 0 8, vot2) := by
                unfold f_X4_valueIfStood_C f_X4_valueIfStood
                rw [bind_e (rdI_wd (show 0 < 4 by omega) (by omega)), hsz 0 (by omega)]
                exact v2
              have u0 : UV c a b k (sza t tr) at_ 1 0 = gvl c a b (sza t tr) d 1 (pn at_ c (sza t tr 0)) := by
                unfold UV
                rw [show k - 1 = d from by omega, PT_s, if_pos ⟨rfl, hst⟩]
                rfl
              have u1 : UV c a b k (sza t tr) at_ 1 1 = gvl c a b (sza t tr) d 1 at_ := by
                unfold UV
                rw [show k - 1 = d from by omega, PT_s, if_neg (fun h => absurd h.1 (by omega))]
                rfl
              have p3 := p3 (by omega)
              rw [u0, u1] at p3
              refine ⟨i01 (!decide (gvl c a b (sza t tr) d 1 (pn at_ c (sza t tr 0)) < gvl c a b (sza t tr) d 1 at_)), wd 0, ?_, at2, cam', ds', ?_, ?_, p2.ag⟩
              rotate_left
              · rw [hm0, hmf, if_neg hst, bind_e v2', bind_e v3]
                by_cases hlt : gvl c a b (sza t tr) d 1 (pn at_ c (sza t tr 0)) < gvl c a b (sza t tr) d 1 at_
                · simp only [hlt, decide_true, if_true, Bool.not_true]
                  rfl
                · simp only [hlt, decide_false, if_false, Bool.not_false]
                  rfl
              · rw [hg0, ha1, hb1, if_neg hst, bind_e p1, p3]
                cases !decide (gvl c a b (sza t tr) d 1 (pn at_ c (sza t tr 0)) < gvl c a b (sza t tr) d 1 at_) <;> rfl
end
theorem r_gamen {fu c : Nat} {at_ cam tm : Nat → Int32} {tr : Nat → Int64} {st' ds x1 x2 x3 x4 : Int32} (hc : at_ 0 = wd c) (q : imn 4 x3 = false) : f_X12_game fu at_ st' tm tr cam ds x1 x2 x3 x4 = some (nn, at_, wd 1, cam, ds) := by
  have e : ∀ lo, f_X12_wrongSizes fu tm tr x3 x4 lo = some (wd 1) := by
    intro lo
    unfold f_X12_wrongSizes
    rw [bind_e r_isTray, q]; rfl
  have hj : f_X12_game_j21 fu tm tr x1 x2 x3 x4 at_ st' cam ds 1 = some (nn, at_, wd 1, cam, ds) := rfl
  unfold f_X12_game f_X12_areTwo
  rw [bind_e (e _), r_isM hc, r_isM hc]
  cases imn c x1
  · exact hj
  · cases imn c x2
    · exact hj
    · show ((if x1 = x2 then some 0 else some 1 : Option Int32).bind fun z => if z = 0 then f_X12_game_j21 fu tm tr x1 x2 x3 x4 at_ st' cam ds 1 else f_X12_game_j21 fu tm tr x1 x2 x3 x4 at_ st' cam ds (wd 1)) = _
      by_cases hx : x1 = x2
      · rw [if_pos hx]; exact hj
      · rw [if_neg hx]; exact hj
theorem Q1_game {fu : Nat} (hf : 1000 ≤ fu) : Q_game fu RR := by
  intro S M x1 x2 x3 x4 h
  have hy := h.2.1
  obtain ⟨c, hW, hA, hN, hWr⟩ := h.2.2.1
  cases q0 : imn 4 x3
  · refine q_of (bind_e (game_n hA.2.1 (imn4 q0))) (bind_e (r_gamen hW.2.1 q0)) ⟨⟨rfl, h.1.2⟩, h.2⟩
  · obtain ⟨t, ht, rfl⟩ := imn_ex (by omega) q0
    obtain rfl | rfl | rfl | rfl : t = 0 ∨ t = 1 ∨ t = 2 ∨ t = 3 := by omega
    · obtain ⟨r, st1, z2, at2, cam', ds', e1, e2, h5⟩ := t_game (st := vX11_latestStatus (S_b S)) (st' := vX12_status M) (x1 := x1) (x2 := x2) (x4 := x4) (cam := vX12_cameTo M) (ds := vX12_doesStandFirst M) (a_name := vX0_name (S_a S)) (f_sizes := vX4_sizes (S_f S)) (f_dangers := vX4_dangers (S_f S)) (n_name := vX0_name (S_n S)) (n_courage := vX0_courage (S_n S)) (n_weight := vX0_weight (S_n S)) (n_medals := vX0_medals (S_n S)) (n_stood := vX0_stood (S_n S)) (n_fled := vX0_fled (S_n S)) (n_liked := vX0_liked (S_n S)) (n_votes := vX0_votes (S_n S)) (n_count := vX0_count (S_n S)) (n_living := vX0_living (S_n S)) (n_pride := vX0_pride (S_n S)) (n_quota := vX0_quota (S_n S)) (n_melted := vX0_melted (S_n S)) (n_lost := vX0_lost (S_n S)) hW hA (show 0 < 4 by omega) hy.1 hf
      have hag := RR_ag h5 h.2.2.1 h.2.2.2.1
      exact q_of (bind_e (game_0.trans e1)) (bind_e e2) ⟨⟨rfl, h.1.2⟩, h.2.1, hag.1, hag.2, h.2.2.2.2⟩
    · obtain ⟨r, st1, z2, at2, cam', ds', e1, e2, h5⟩ := t_game (st := vX11_latestStatus (S_b S)) (st' := vX12_status M) (x1 := x1) (x2 := x2) (x4 := x4) (cam := vX12_cameTo M) (ds := vX12_doesStandFirst M) (a_name := vX0_name (S_a S)) (f_sizes := vX4_sizes (S_f S)) (f_dangers := vX4_dangers (S_f S)) (n_name := vX0_name (S_n S)) (n_courage := vX0_courage (S_n S)) (n_weight := vX0_weight (S_n S)) (n_medals := vX0_medals (S_n S)) (n_stood := vX0_stood (S_n S)) (n_fled := vX0_fled (S_n S)) (n_liked := vX0_liked (S_n S)) (n_votes := vX0_votes (S_n S)) (n_count := vX0_count (S_n S)) (n_living := vX0_living (S_n S)) (n_pride := vX0_pride (S_n S)) (n_quota := vX0_quota (S_n S)) (n_melted := vX0_melted (S_n S)) (n_lost := vX0_lost (S_n S)) hW hA (show 1 < 4 by omega) hy.2.1 hf
      have hag := RR_ag h5 h.2.2.1 h.2.2.2.1
      exact q_of (bind_e (game_1.trans e1)) (bind_e e2) ⟨⟨rfl, h.1.2⟩, h.2.1, hag.1, hag.2, h.2.2.2.2⟩
    · obtain ⟨r, st1, z2, at2, cam', ds', e1, e2, h5⟩ := t_game (st := vX11_latestStatus (S_b S)) (st' := vX12_status M) (x1 := x1) (x2 := x2) (x4 := x4) (cam := vX12_cameTo M) (ds := vX12_doesStandFirst M) (a_name := vX0_name (S_a S)) (f_sizes := vX4_sizes (S_f S)) (f_dangers := vX4_dangers (S_f S)) (n_name := vX0_name (S_n S)) (n_courage := vX0_courage (S_n S)) (n_weight := vX0_weight (S_n S)) (n_medals := vX0_medals (S_n S)) (n_stood := vX0_stood (S_n S)) (n_fled := vX0_fled (S_n S)) (n_liked := vX0_liked (S_n S)) (n_votes := vX0_votes (S_n S)) (n_count := vX0_count (S_n S)) (n_living := vX0_living (S_n S)) (n_pride := vX0_pride (S_n S)) (n_quota := vX0_quota (S_n S)) (n_melted := vX0_melted (S_n S)) (n_lost := vX0_lost (S_n S)) hW hA (show 2 < 4 by omega) hy.2.2.1 hf
      have hag := RR_ag h5 h.2.2.1 h.2.2.2.1
      exact q_of (bind_e (game_2.trans e1)) (bind_e e2) ⟨⟨rfl, h.1.2⟩, h.2.1, hag.1, hag.2, h.2.2.2.2⟩
    · obtain ⟨r, st1, z2, at2, cam', ds', e1, e2, h5⟩ := t_game (st := vX11_latestStatus (S_b S)) (st' := vX12_status M) (x1 := x1) (x2 := x2) (x4 := x4) (cam := vX12_cameTo M) (ds := vX12_doesStandFirst M) (a_name := vX0_name (S_a S)) (f_sizes := vX4_sizes (S_f S)) (f_dangers := vX4_dangers (S_f S)) (n_name := vX0_name (S_n S)) (n_courage := vX0_courage (S_n S)) (n_weight := vX0_weight (S_n S)) (n_medals := vX0_medals (S_n S)) (n_stood := vX0_stood (S_n S)) (n_fled := vX0_fled (S_n S)) (n_liked := vX0_liked (S_n S)) (n_votes := vX0_votes (S_n S)) (n_count := vX0_count (S_n S)) (n_living := vX0_living (S_n S)) (n_pride := vX0_pride (S_n S)) (n_quota := vX0_quota (S_n S)) (n_melted := vX0_melted (S_n S)) (n_lost := vX0_lost (S_n S)) hW hA (show 3 < 4 by omega) hy.2.2.2 hf
      have hag := RR_ag h5 h.2.2.1 h.2.2.2.1
      exact q_of (bind_e (game_3.trans e1)) (bind_e e2) ⟨⟨rfl, h.1.2⟩, h.2.1, hag.1, hag.2, h.2.2.2.2⟩
theorem r_moveOfn {fu c : Nat} {at_ cam tm : Nat → Int32} {tr : Nat → Int64} {st' ds x1 x2 x3 x4 : Int32} (hc : at_ 0 = wd c) (q : imn 4 x3 = false) : f_X12_moveOf fu at_ st' tm tr cam ds x1 x2 x3 x4 = some (nn, at_, wd 1, cam, ds) := by
  have e : ∀ lo, f_X12_wrongSizes fu tm tr x3 x4 lo = some (wd 1) := by
    intro lo
    unfold f_X12_wrongSizes
    rw [bind_e r_isTray, q]; rfl
  have hj : f_X12_moveOf_j21 fu tm tr x1 x2 x3 x4 at_ st' cam ds 1 = some (nn, at_, wd 1, cam, ds) := rfl
  unfold f_X12_moveOf f_X12_areTwo
  rw [bind_e (e _), r_isM hc, r_isM hc]
  cases imn c x1
  · exact hj
  · cases imn c x2
    · exact hj
    · show ((if x1 = x2 then some 0 else some 1 : Option Int32).bind fun z => if z = 0 then f_X12_moveOf_j21 fu tm tr x1 x2 x3 x4 at_ st' cam ds 1 else f_X12_moveOf_j21 fu tm tr x1 x2 x3 x4 at_ st' cam ds (wd 1)) = _
      by_cases hx : x1 = x2
      · rw [if_pos hx]; exact hj
      · rw [if_neg hx]; exact hj
theorem Q1_moveOf {fu : Nat} (hf : 1000 ≤ fu) : Q_moveOf fu RR := by
  intro S M x1 x2 x3 x4 h
  have hy := h.2.1
  obtain ⟨c, hW, hA, hN, hWr⟩ := h.2.2.1
  cases q0 : imn 4 x3
  · refine q_of (bind_e (moveOf_n hA.2.1 (imn4 q0))) (bind_e (r_moveOfn hW.2.1 q0)) ⟨⟨rfl, h.1.2⟩, h.2⟩
  · obtain ⟨t, ht, rfl⟩ := imn_ex (by omega) q0
    obtain rfl | rfl | rfl | rfl : t = 0 ∨ t = 1 ∨ t = 2 ∨ t = 3 := by omega
    · obtain ⟨r, st1, z2, at2, cam', ds', e1, e2, h5⟩ := t_moveOf (st := vX11_latestStatus (S_b S)) (st' := vX12_status M) (x1 := x1) (x2 := x2) (x4 := x4) (cam := vX12_cameTo M) (ds := vX12_doesStandFirst M) (a_name := vX0_name (S_a S)) (f_sizes := vX4_sizes (S_f S)) (f_dangers := vX4_dangers (S_f S)) (n_name := vX0_name (S_n S)) (n_courage := vX0_courage (S_n S)) (n_weight := vX0_weight (S_n S)) (n_medals := vX0_medals (S_n S)) (n_stood := vX0_stood (S_n S)) (n_fled := vX0_fled (S_n S)) (n_liked := vX0_liked (S_n S)) (n_votes := vX0_votes (S_n S)) (n_count := vX0_count (S_n S)) (n_living := vX0_living (S_n S)) (n_pride := vX0_pride (S_n S)) (n_quota := vX0_quota (S_n S)) (n_melted := vX0_melted (S_n S)) (n_lost := vX0_lost (S_n S)) hW hA (show 0 < 4 by omega) hy.1 hf
      have hag := RR_ag h5 h.2.2.1 h.2.2.2.1
      exact q_of (bind_e (moveOf_0.trans e1)) (bind_e e2) ⟨⟨rfl, h.1.2⟩, h.2.1, hag.1, hag.2, h.2.2.2.2⟩
    · obtain ⟨r, st1, z2, at2, cam', ds', e1, e2, h5⟩ := t_moveOf (st := vX11_latestStatus (S_b S)) (st' := vX12_status M) (x1 := x1) (x2 := x2) (x4 := x4) (cam := vX12_cameTo M) (ds := vX12_doesStandFirst M) (a_name := vX0_name (S_a S)) (f_sizes := vX4_sizes (S_f S)) (f_dangers := vX4_dangers (S_f S)) (n_name := vX0_name (S_n S)) (n_courage := vX0_courage (S_n S)) (n_weight := vX0_weight (S_n S)) (n_medals := vX0_medals (S_n S)) (n_stood := vX0_stood (S_n S)) (n_fled := vX0_fled (S_n S)) (n_liked := vX0_liked (S_n S)) (n_votes := vX0_votes (S_n S)) (n_count := vX0_count (S_n S)) (n_living := vX0_living (S_n S)) (n_pride := vX0_pride (S_n S)) (n_quota := vX0_quota (S_n S)) (n_melted := vX0_melted (S_n S)) (n_lost := vX0_lost (S_n S)) hW hA (show 1 < 4 by omega) hy.2.1 hf
      have hag := RR_ag h5 h.2.2.1 h.2.2.2.1
      exact q_of (bind_e (moveOf_1.trans e1)) (bind_e e2) ⟨⟨rfl, h.1.2⟩, h.2.1, hag.1, hag.2, h.2.2.2.2⟩
    · obtain ⟨r, st1, z2, at2, cam', ds', e1, e2, h5⟩ := t_moveOf (st := vX11_latestStatus (S_b S)) (st' := vX12_status M) (x1 := x1) (x2 := x2) (x4 := x4) (cam := vX12_cameTo M) (ds := vX12_doesStandFirst M) (a_name := vX0_name (S_a S)) (f_sizes := vX4_sizes (S_f S)) (f_dangers := vX4_dangers (S_f S)) (n_name := vX0_name (S_n S)) (n_courage := vX0_courage (S_n S)) (n_weight := vX0_weight (S_n S)) (n_medals := vX0_medals (S_n S)) (n_stood := vX0_stood (S_n S)) (n_fled := vX0_fled (S_n S)) (n_liked := vX0_liked (S_n S)) (n_votes := vX0_votes (S_n S)) (n_count := vX0_count (S_n S)) (n_living := vX0_living (S_n S)) (n_pride := vX0_pride (S_n S)) (n_quota := vX0_quota (S_n S)) (n_melted := vX0_melted (S_n S)) (n_lost := vX0_lost (S_n S)) hW hA (show 2 < 4 by omega) hy.2.2.1 hf
      have hag := RR_ag h5 h.2.2.1 h.2.2.2.1
      exact q_of (bind_e (moveOf_2.trans e1)) (bind_e e2) ⟨⟨rfl, h.1.2⟩, h.2.1, hag.1, hag.2, h.2.2.2.2⟩
    · obtain ⟨r, st1, z2, at2, cam', ds', e1, e2, h5⟩ := t_moveOf (st := vX11_latestStatus (S_b S)) (st' := vX12_status M) (x1 := x1) (x2 := x2) (x4 := x4) (cam := vX12_cameTo M) (ds := vX12_doesStandFirst M) (a_name := vX0_name (S_a S)) (f_sizes := vX4_sizes (S_f S)) (f_dangers := vX4_dangers (S_f S)) (n_name := vX0_name (S_n S)) (n_courage := vX0_courage (S_n S)) (n_weight := vX0_weight (S_n S)) (n_medals := vX0_medals (S_n S)) (n_stood := vX0_stood (S_n S)) (n_fled := vX0_fled (S_n S)) (n_liked := vX0_liked (S_n S)) (n_votes := vX0_votes (S_n S)) (n_count := vX0_count (S_n S)) (n_living := vX0_living (S_n S)) (n_pride := vX0_pride (S_n S)) (n_quota := vX0_quota (S_n S)) (n_melted := vX0_melted (S_n S)) (n_lost := vX0_lost (S_n S)) hW hA (show 3 < 4 by omega) hy.2.2.2 hf
      have hag := RR_ag h5 h.2.2.1 h.2.2.2.1
      exact q_of (bind_e (moveOf_3.trans e1)) (bind_e e2) ⟨⟨rfl, h.1.2⟩, h.2.1, hag.1, hag.2, h.2.2.2.2⟩
