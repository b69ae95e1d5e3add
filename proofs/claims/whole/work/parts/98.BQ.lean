section
variable {fu n c : Nat} {b : Nat → Nat} {by_ text : Nat → Int32} {wc nam names : Nat → Int64} {th : Int32}
variable {tape : Nat → Int32} {xx : Int32}
/-- all the steps -/
theorem w_all (hT : TXT b n by_ text) (hWc : RWc wc) (hN : ∀ m, m < c → NC (nam m) (names m)) (h8 : c ≤ 8) (hn3 : n ≤ 300) (hf : 1000 ≤ fu) : ∀ d f, n ≤ f + d → ∀ (p N1 N2 e s nr dp : Nat) (op : Nat → Nat) (ki va wo : Int32) (na : Int64) (vl ft pl fp st tp fkd sn : Int32) (at_ opc opr deed man oth sgn num mate : Nat → Int32), p ≤ f → f ≤ n → d + 2 ≤ N1 → d + 2 ≤ N2 → TOK b n f e ki va wo na vl → at_ 0 = wd c → WSR c s nr dp op at_ opc opr deed man oth sgn num mate → ∃ (g : Bool) (f' e' : Nat) (ki' va' wo' : Int32) (na' : Int64) (vl' ft' pl' fp' fs' dc' dr' ro' st' cn' : Int32) (at' opc' opr' deed' man' oth' sgn' num' mate' : Nat → Int32),
  f_X10_readDraft_l24 fu by_ wc (wd n) nam (wd c) N1 opc (wd dp) ft pl ki (wd f) va wo na (wd e) deed man oth sgn num mate th (wd nr) (wd s) (wd 1) (wd p) = f_X10_readDraft_j105 fu by_ wc (wd n) nam (wd c) opc' dc' ft' pl' ki' (wd f') va' wo' na' (wd e') deed' man' oth' sgn' num' mate' th ro' st' (i01 g) ∧
  f_X12_war_l38 fu names tape xx N2 at_ st text tp (wd n) ki (wd f) (wd e) vl fkd fp (wd 0) sn opr (wd dp) (wd s) (wd 1) = f_X12_war_j57 fu names tape xx at' st text tp (wd n) ki' (wd f') (wd e') vl' fkd fp' fs' sn opr' dr' cn' ∧
  (∀ i, i < 1952 → at' i = at_ i) ∧
  (g = true → ft' = ft ∧ pl' = pl ∧ fp' = fp ∧ fs' = wd 0 ∧ ∃ nr' s' dp' op', ro' = wd nr' ∧ st' = wd s' ∧ cn' = wd s' ∧ dc' = wd dp' ∧ dr' = wd dp' ∧ WSR c s' nr' dp' op' at' opc' opr' deed' man' oth' sgn' num' mate') ∧
  (g = false → ∃ x, 0 < x ∧ x ≤ 9 ∧ ft' = wd x ∧ fs' = wd x ∧ pl' = fp') := by
  have hend : ∀ (f p N1 N2 e s nr dp : Nat) (ki va wo : Int32) (na : Int64) (vl ft pl fp st tp fkd sn : Int32) (at_ opc opr deed man oth sgn num mate : Nat → Int32), p ≤ f → f ≤ n → 1 ≤ N1 → 1 ≤ N2 → ki = wd 0 → f_X10_readDraft_l24 fu by_ wc (wd n) nam (wd c) N1 opc (wd dp) ft pl ki (wd f) va wo na (wd e) deed man oth sgn num mate th (wd nr) (wd s) (wd 1) (wd p) = f_X10_readDraft_j105 fu by_ wc (wd n) nam (wd c) opc (wd dp) ft pl ki (wd f) va wo na (wd e) deed man oth sgn num mate th (wd nr) (wd s) (wd 1) ∧ f_X12_war_l38 fu names tape xx N2 at_ st text tp (wd n) ki (wd f) (wd e) vl fkd fp (wd 0) sn opr (wd dp) (wd s) (wd 1) = f_X12_war_j57 fu names tape xx at_ st text tp (wd n) ki (wd f) (wd e) vl fkd fp (wd 0) sn opr (wd dp) (wd s) := by
    intro f p N1 N2 e s nr dp ki va wo na vl ft pl fp st tp fkd sn at_ opc opr deed man oth sgn num mate h1 h2 h3 h4 h5
    obtain ⟨M1, rfl⟩ : ∃ m, N1 = m + 1 := ⟨N1 - 1, by omega⟩
    obtain ⟨M2, rfl⟩ : ∃ m, N2 = m + 1 := ⟨N2 - 1, by omega⟩
    constructor
    · rw [f_X10_readDraft_l24, f_X10_readDraft_b24, show (300 : Int32) = wd 300 from wd_lit 300, if_neg (by rw [wd_lt (by omega) (by omega)]; omega), if_neg (show ¬ wd 1 = 0 by decide), bind_e (show f_X6_atEnd fu ki = some (wd 1) from by
        unfold f_X6_atEnd
        rw [if_pos (show ki = 0 from h5)]; rfl), if_neg (show ¬ wd 1 = 0 by decide)]
    · rw [f_X12_war_l38, f_X12_war_b38, if_neg (show ¬ wd 1 = 0 by decide), if_pos (show ki = 0 from h5)]
  intro d
  induction d with
  | zero =>
    intro f hfd p N1 N2 e s nr dp op ki va wo na vl ft pl fp st tp fkd sn at_ opc opr deed man oth sgn num mate h1 h2 h3 h4 h5 h7 h6
    have hk := h5.end0 (by omega)
    obtain ⟨c1, c2⟩ := hend f p N1 N2 e s nr dp ki va wo na vl ft pl fp st tp fkd sn at_ opc opr deed man oth sgn num mate h1 h2 (by omega) (by omega) hk
    exact ⟨true, f, e, ki, va, wo, na, vl, ft, pl, fp, wd 0, wd dp, wd dp, wd nr, wd s, wd s, at_, opc, opr, deed, man, oth, sgn, num, mate, c1, c2, fun _ _ => rfl, fun _ => ⟨rfl, rfl, rfl, rfl, nr, s, dp, op, rfl, rfl, rfl, rfl, rfl, h6⟩, fun h => (by cases h)⟩
  | succ d ih =>
    intro f hfd p N1 N2 e s nr dp op ki va wo na vl ft pl fp st tp fkd sn at_ opc opr deed man oth sgn num mate h1 h2 h3 h4 h5 h7 h6
    by_cases hk : ki = wd 0
    · obtain ⟨c1, c2⟩ := hend f p N1 N2 e s nr dp ki va wo na vl ft pl fp st tp fkd sn at_ opc opr deed man oth sgn num mate h1 h2 (by omega) (by omega) hk
      exact ⟨true, f, e, ki, va, wo, na, vl, ft, pl, fp, wd 0, wd dp, wd dp, wd nr, wd s, wd s, at_, opc, opr, deed, man, oth, sgn, num, mate, c1, c2, fun _ _ => rfl, fun _ => ⟨rfl, rfl, rfl, rfl, nr, s, dp, op, rfl, rfl, rfl, rfl, rfl, h6⟩, fun h => (by cases h)⟩
    · have hfe := h5.not0 hk
      have hen := h5.le
      obtain ⟨M1, rfl⟩ : ∃ m, N1 = m + 1 := ⟨N1 - 1, by omega⟩
      obtain ⟨M2, rfl⟩ : ∃ m, N2 = m + 1 := ⟨N2 - 1, by omega⟩
      obtain ⟨g, f', e', ki', va', wo', na', vl', ft', pl', fp', fs', dc', dr', ro', st', cn', at', opc', opr', deed', man', oth', sgn', num', mate', a1, a2, a3, a5, a6⟩ := w_part (ft := ft) (pl := pl) (fp := fp) (th := th) hT hWc h5 hN h8 h7 h6 hf hk
      have hr1 : f_X12_war_l38 fu names tape xx (M2 + 1) at_ st text tp (wd n) ki (wd f) (wd e) vl fkd fp (wd 0) sn opr (wd dp) (wd s) (wd 1) = f_X12_war_l38 fu names tape xx M2 at' st text tp (wd n) ki' (wd f') (wd e') vl' fkd fp' fs' sn opr' dr' cn' (i01 g) := by
        rw [f_X12_war_l38, f_X12_war_b38, if_neg (show ¬ wd 1 = 0 by decide), if_neg (show ¬ ki = 0 from hk), bind_e a2]
      rw [a1 M1 p (by omega), hr1]
      cases g
      · obtain ⟨x, x1, x2, x3, x4, x5⟩ := a6 rfl
        obtain ⟨K1, rfl⟩ : ∃ m, M1 = m + 1 := ⟨M1 - 1, by omega⟩
        obtain ⟨K2, rfl⟩ : ∃ m, M2 = m + 1 := ⟨M2 - 1, by omega⟩
        refine ⟨false, f', e', ki', va', wo', na', vl', ft', pl', fp', fs', dc', dr', ro', st', cn', at', opc', opr', deed', man', oth', sgn', num', mate', ?_, ?_, a3, fun h => (by cases h), fun _ => ⟨x, x1, x2, x3, x4, x5⟩⟩
        · rw [f_X10_readDraft_l24, f_X10_readDraft_b24, show (300 : Int32) = wd 300 from wd_lit 300, if_neg (by rw [wd_lt (by omega) (by omega)]; omega), if_pos (show i01 false = 0 from rfl)]
        · rw [f_X12_war_l38, f_X12_war_b38, if_pos (show i01 false = 0 from rfl)]
      · obtain ⟨t1, t2, t3, t4, t5, t6, nr2, s2, dp2, op2, u1, u2, u3, u4, u5, t7⟩ := a5 rfl
        subst t3; subst t4; subst t5; subst t6; subst u1; subst u2; subst u3; subst u4; subst u5
        obtain ⟨g, f2, e2, ki2, va2, wo2, na2, vl2, ft2, pl2, fp2, fs2, dc2, dr2, ro2, st2, cn2, at2, opc2, opr2, deed2, man2, oth2, sgn2, num2, mate2, b1, b2, b3, b5, b6⟩ := ih f' (by omega) (p + 1) M1 M2 e' s2 nr2 dp2 op2 ki' va' wo' na' vl' ft' pl' fp' st tp fkd sn at' opc' opr' deed' man' oth' sgn' num' mate' (by omega) (by have := t1.le; have := t1.fe; omega) (by omega) (by omega) t1 ((a3 0 (by omega)).trans h7) t7
        exact ⟨g, f2, e2, ki2, va2, wo2, na2, vl2, ft2, pl2, fp2, fs2, dc2, dr2, ro2, st2, cn2, at2, opc2, opr2, deed2, man2, oth2, sgn2, num2, mate2, b1, b2, fun i hi => (b3 i hi).trans (a3 i hi), b5, b6⟩
theorem opn_gt {p : Nat → Int32} {w : tX9} {k q : Nat} (hn : n ≤ 60) (hr : RRow p w n c k) (h : opn p k q) (hq : q < 1000) (hk : k < n) : k < q := by
  obtain ⟨h1, h2⟩ := h
  have no : ∀ v, v < 1200 → v ≠ 13 → ¬ p (6 * k) = wd v := by
    intro v hv hv13 hp
    rw [hp] at h1
    rcases h1 with h1 | ⟨t, ht, h1⟩
    · rw [wd_inj (by omega) (by omega)] at h1; omega
    · rw [wd_inj (by omega) (by omega)] at h1; omega
  rcases hr with h | h | h | h | h | h | h | h | h
  · exact absurd h.1 (no 7 (by omega) (by omega))
  · exact absurd h.1 (no 8 (by omega) (by omega))
  · exact absurd h.1 (no 9 (by omega) (by omega))
  · exact absurd h.1 (no 10 (by omega) (by omega))
  · exact absurd h.1 (no 11 (by omega) (by omega))
  · exact absurd h.1 (no 15 (by omega) (by omega))
  · exact absurd h.1 (no 14 (by omega) (by omega))
  · obtain ⟨g1, g2, g0, q', g3, g4, g5, g6, g7⟩ := h
    rw [g5, wd_inj (by omega) (by omega)] at h2
    omega
  · obtain ⟨t, t1, t2, t3, t4, t5, t6, t7, q', g3, g4, g5, g6, g7⟩ := h
    rw [g5, wd_inj (by omega) (by omega)] at h2
    omega
/-- a war that has been read, as it is kept -/
theorem WIV_ws {s nr : Nat} {op : Nat → Nat} {p p' : Nat → Int32} {w w' : tX9} (h : WIV c s nr 0 op p w) (ep : ∀ j, j < 6 * nr → p' j = p j) (ed : ∀ j, j < nr → vX9_deed w' j = vX9_deed w j ∧ vX9_man w' j = vX9_man w j ∧ vX9_other w' j = vX9_other w j ∧ vX9_sign w' j = vX9_sign w j ∧ vX9_number w' j = vX9_number w j) (em : ∀ j, j < nr → vX9_mate w' j = vX9_mate w j) : RWs p' w' nr c := by
  obtain ⟨h1, h2, h3, h4, h5, h6, h7, h8⟩ := h
  have hn6 : nr ≤ 60 := by omega
  have hold : ∀ k, k < nr → RRow p w nr c k := by
    intro k hk
    rcases h4 k hk with h9 | ⟨j, hj, _⟩
    · exact h9
    · omega
  have hpo : ∀ a q, a < nr → opn p' a q → opn p a q := by
    intro a q ha hop
    obtain ⟨g1, g2⟩ := hop
    rw [ep (6 * a) (by omega)] at g1
    rw [ep (6 * a + 4) (by omega)] at g2
    exact ⟨g1, g2⟩
  refine ⟨hn6, fun k hk => RRow_y (o := nr) (Nat.le_refl nr) hn6 hk (hold k hk) (fun h => absurd h (by omega)) (fun j hj _ => ep j hj) ed (fun j hj _ => em j hj), ?_⟩
  intro a q a' q' g1 g2 g3 g4 g5 g6 g7 g8
  have e1 := hpo a q g1 g5
  have e2 := hpo a' q' g2 g6
  exact h7 a q a' q' (by omega) (opn_gt hn6 (hold a' g2) e2 (by omega) g2) g3 g4 e1 e2 g7 g8
theorem RA_5 {at_ cou wei med sto fle lik : Nat → Int32} {cnt liv pri quo mel los x : Int32} (hR : RA at_ c cou wei med sto fle lik cnt liv pri quo mel los) : RA (upd at_ 5 x) c cou wei med sto fle lik cnt liv pri quo mel los := by
  obtain ⟨hV, e1, e2, e3, e4, e5, e6, h3, h4, h0⟩ := hR
  exact ⟨RV_u8 hV (by omega), e1, by rw [alv_upd8 (by omega)]; exact e2, by rw [upd_ne (by omega)]; exact e3, by rw [upd_ne (by omega)]; exact e4, by rw [upd_ne (by omega)]; exact e5, by rw [upd_ne (by omega)]; exact e6, fun k hk => by rw [mn_upd8 (by omega)]; exact h3 k hk, fun k hk => by rw [mn_upd8 (by omega)]; exact h4 k hk, h0⟩
end
