/-! a war's text, step by step -/
def WSR (c s nr dp : Nat) (op : Nat → Nat) (at_ opc opr deed man oth sgn num mate : Nat → Int32) : Prop := at_ 1957 = wd nr ∧ (∀ j, j < dp → opc j = wd (op j) ∧ opr j = wd (op j)) ∧ WIV c s nr dp op (shI 2072 at_) (deed, man, oth, sgn, num, mate, wd 1, wd nr, wd s)
def WPT (fu n : Nat) (b : Nat → Nat) (by_ text : Nat → Int32) (wc nam names : Nat → Int64) (c s nr dp f e : Nat) (ki va wo : Int32) (na : Int64) (vl ft pl fp th : Int32) (at_ opc opr deed man oth sgn num mate : Nat → Int32) : Prop := ∃ (g : Bool) (f' e' : Nat) (ki' va' wo' : Int32) (na' : Int64) (vl' ft' pl' fp' fs' dc' dr' ro' st' cn' : Int32) (at' opc' opr' deed' man' oth' sgn' num' mate' : Nat → Int32),
  (∀ N p, p ≤ 300 → f_X10_readDraft_l24 fu by_ wc (wd n) nam (wd c) (N + 1) opc (wd dp) ft pl ki (wd f) va wo na (wd e) deed man oth sgn num mate th (wd nr) (wd s) (wd 1) (wd p) = f_X10_readDraft_l24 fu by_ wc (wd n) nam (wd c) N opc' dc' ft' pl' ki' (wd f') va' wo' na' (wd e') deed' man' oth' sgn' num' mate' th ro' st' (i01 g) (wd (p + 1))) ∧
  f_X12_warStep fu at_ names text (wd n) ki (wd f) (wd e) vl fp (wd 0) opr (wd dp) (wd s) = some (i01 g, at', ki', wd f', wd e', vl', fp', fs', opr', dr', cn') ∧
  (∀ i, i < 1952 → at' i = at_ i) ∧
  (g = true → TOK b n f' e' ki' va' wo' na' vl' ∧ e ≤ f' ∧ ft' = ft ∧ pl' = pl ∧ fp' = fp ∧ fs' = wd 0 ∧ ∃ nr' s' dp' op', ro' = wd nr' ∧ st' = wd s' ∧ cn' = wd s' ∧ dc' = wd dp' ∧ dr' = wd dp' ∧ WSR c s' nr' dp' op' at' opc' opr' deed' man' oth' sgn' num' mate') ∧
  (g = false → ∃ x, 0 < x ∧ x ≤ 9 ∧ ft' = wd x ∧ fs' = wd x ∧ pl' = fp')
section
variable {fu n f e c s nr dp i : Nat} {op : Nat → Nat} {b : Nat → Nat} {by_ text at_ : Nat → Int32} {wc nam names : Nat → Int64} {opc opr deed man oth sgn num mate : Nat → Int32} {ki va wo vl ft pl fp th : Int32} {na : Int64}

theorem km_w : ∀ i, i < 19 → (i ∈ [7, 8, 9, 10, 11, 12, 16, 17, 18] → 7 ≤ km i ∧ km i ≤ 15) ∧ (i ∉ [7, 8, 9, 10, 11, 12, 16, 17, 18] → km i < 7 ∨ 15 < km i) := by decide +kernel
/-- no step begins so -/
theorem w_none (hT : TXT b n by_ text) (hWc : RWc wc) (h : TOK b n f e ki va wo na vl) (hN : ∀ m, m < c → NC (nam m) (names m)) (h8 : c ≤ 8) (hc0 : at_ 0 = wd c) (hS : WSR c s nr dp op at_ opc opr deed man oth sgn num mate) (hf : 1000 ≤ fu) (h0 : ¬ ki = wd 0) (hno : ∀ i, i < 19 → wo = wd i → i ∉ [7, 8, 9, 10, 11, 12, 16, 17, 18]) : WPT fu n b by_ text wc nam names c s nr dp f e ki va wo na vl ft pl fp th at_ opc opr deed man oth sgn num mate := by
  refine ⟨false, f, e, ki, va, wo, na, vl, wd (fk ki 2), wd f, wd f, wd (fk ki 2), wd dp, wd dp, wd nr, wd s, wd s, at_, opc, opr, deed, man, oth, sgn, num, mate, ?_, ?_, fun _ _ => rfl, fun h => (by cases h), fun _ => ⟨fk ki 2, fk_0 (by omega), fk_9 (by omega), rfl, rfl, rfl⟩⟩
  · intro N p hp
    have nw : ∀ k, k < 19 → k ∈ [7, 8, 9, 10, 11, 12, 16, 17, 18] → ¬ wo = wd k := fun k hk hm g => hno k hk g hm
    have hw : wn 7 11 wo = false := by
      rcases tok_word hT h hf with ⟨h1, _⟩ | ⟨j, hj, h1, _, _⟩
      · rw [h1]; decide
      · rw [h1, wn_wd (by omega) (by omega) (by omega)]
        apply decide_eq_false
        intro hj2
        refine hno j hj h1 ?_
        have : j = 7 ∨ j = 8 ∨ j = 9 ∨ j = 10 ∨ j = 11 := by omega
        rcases this with rfl | rfl | rfl | rfl | rfl <;> decide
    have hho : f_X10_holdsOthers fu wo = some (wd 0) := by
      unfold f_X10_holdsOthers
      rw [if_neg (show ¬ wo = 12 from nw 12 (by omega) (by decide)), if_neg (show ¬ wo = 16 from nw 16 (by omega) (by decide))]
      rfl
    have hcb : f_X10_takeBegin fu (wd dp) ft pl by_ wc ki (wd f) va wo na (wd n) (wd e) (wd nr) (wd s) wo = some (wd 0, wd (fk ki 2), wd f, ki, wd f, va, wo, na, wd e) := by
      unfold f_X10_takeBegin
      rw [bind_e (show f_X11_within fu wo 7 11 = some (i01 (wn 7 11 wo)) from c_within (a := 7) (b := 11)), hw, if_pos (show i01 false = 0 from rfl), if_neg (show ¬ wo = 18 from nw 18 (by omega) (by decide))]
      unfold f_X10_takeBegin_j22
      rw [if_pos (show (0 : Int32) = 0 from rfl), bind_e hho, if_pos (show wd 0 = 0 from rfl), bind_e (show f_X6_fail fu ft pl ki (wd f) 2 = _ from c_fail (x := 2))]
      rfl
    rw [f_X10_readDraft_l24, f_X10_readDraft_b24, show (300 : Int32) = wd 300 from wd_lit 300, if_neg (by rw [wd_lt (by omega) (by omega)]; omega), if_neg (show ¬ wd 1 = 0 by decide), bind_e (c_atEnd h0), if_pos (show wd 0 = 0 from rfl), if_neg (show ¬ wo = 17 from nw 17 (by omega) (by decide)), bind_e hcb, if_pos (show wd 0 = 0 from rfl)]
    simp only [bnd]
    rw [show wd p + 1 = wd (p + 1) from wd_add p 1]
    rfl
  · have hiw : ∃ v, f_X12_inWords fu 1 text (wd n) ki (wd f) (wd e) = some v ∧ (v = nn ∨ ∃ q, (q < 7 ∨ 15 < q) ∧ q < 19 ∧ v = wd q) := by
      rcases tok_word hT h hf with ⟨_, h2⟩ | ⟨j, hj, h1, _, h2⟩
      · exact ⟨nn, h2, Or.inl rfl⟩
      · exact ⟨_, h2, Or.inr ⟨km j, (km_w j hj).2 (hno j hj h1), (kw_c j hj).2, rfl⟩⟩
    obtain ⟨v, v1, v2⟩ := hiw
    have hj42 : ∀ (x2 x3 s0 : Int32), f_X12_warStep_j42 fu names text (wd n) at_ ki (wd f) (wd e) vl fp (wd 0) opr (wd dp) (wd s) v x2 x3 s0 = some (i01 false, at_, ki, wd f, wd e, vl, wd f, wd (fk ki 2), opr, wd dp, wd s) := by
      intro x2 x3 s0
      unfold f_X12_warStep_j42
      rw [bind_e (show f_X12_fails fu ki (wd f) fp (wd 0) 2 = _ from r_fails (x := 2))]
      rcases v2 with rfl | ⟨q, q1, q2, rfl⟩
      · rw [if_pos (show nn < 7 by decide)]
        rfl
      · by_cases hq : q < 7
        · rw [if_pos (show wd q < 7 from by
            show wd q < wd 7
            rw [wd_lt (by omega) (by omega)]; exact hq)]
          rfl
        · rw [if_neg (show ¬ wd q < 7 from by
            show ¬ wd q < wd 7
            rw [wd_lt (by omega) (by omega)]; exact hq), if_pos (show 15 < wd q from by
            show wd 15 < wd q
            rw [wd_lt (by omega) (by omega)]; omega)]
          rfl
    unfold f_X12_warStep
    rw [bind_e v1, bind_e (show rdI at_ 3648 1957 = some (at_ 1957) from by rw [show (1957 : Int32) = wd 1957 from wd_lit 1957, rdI_wd (by omega) (by omega)])]
    simp only [bnd, hj42, ite_self]
/-- an end, with nothing to end -/
theorem w_end0 (hT : TXT b n by_ text) (hWc : RWc wc) (h : TOK b n f e ki va wo na vl) (hN : ∀ m, m < c → NC (nam m) (names m)) (h8 : c ≤ 8) (hc0 : at_ 0 = wd c) (hS : WSR c s nr dp op at_ opc opr deed man oth sgn num mate) (hf : 1000 ≤ fu) (h0 : ¬ ki = wd 0) (hwo : wo = wd 17) (hd : dp = 0) : WPT fu n b by_ text wc nam names c s nr dp f e ki va wo na vl ft pl fp th at_ opc opr deed man oth sgn num mate := by
  refine ⟨false, f, e, ki, va, wo, na, vl, wd (fk ki 2), wd f, wd f, wd (fk ki 2), wd dp, wd dp, wd nr, wd s, wd s, at_, opc, opr, deed, man, oth, sgn, num, mate, ?_, ?_, fun _ _ => rfl, fun h => (by cases h), fun _ => ⟨fk ki 2, fk_0 (by omega), fk_9 (by omega), rfl, rfl, rfl⟩⟩
  · intro N p hp
    rw [f_X10_readDraft_l24, f_X10_readDraft_b24, show (300 : Int32) = wd 300 from wd_lit 300, if_neg (by rw [wd_lt (by omega) (by omega)]; omega), if_neg (show ¬ wd 1 = 0 by decide), bind_e (c_atEnd h0), if_pos (show wd 0 = 0 from rfl), if_pos (show wo = 17 from hwo)]
    have hce : f_X10_takeEnd fu opc (wd dp) ft pl by_ wc ki (wd f) va wo na (wd n) (wd e) deed mate (wd nr) = some (wd 0, wd dp, wd (fk ki 2), wd f, ki, wd f, va, wo, na, wd e, deed, mate, wd nr) := by
      unfold f_X10_takeEnd
      rw [bind_e (show f_X11_within fu (wd dp) 1 3 = some (wd 0) from by rw [hd]; rfl), if_pos (show wd 0 = 0 from rfl), bind_e (show f_X6_fail fu ft pl ki (wd f) 2 = _ from c_fail (x := 2))]
      rfl
    rw [bind_e hce]
    simp only [bnd]
    rw [show wd p + 1 = wd (p + 1) from wd_add p 1]
    rfl
  · have hiw : f_X12_inWords fu 1 text (wd n) ki (wd f) (wd e) = some (wd 14) := by
      rcases tok_word hT h hf with ⟨g, _⟩ | ⟨j, hj, g, _, h2⟩
      · rw [hwo, wd_eqm (by omega)] at g; exact g.elim
      · rw [hwo, wd_inj (by omega) (by omega)] at g
        subst g
        rw [show km 17 = 14 from by decide +kernel] at h2
        exact h2
    unfold f_X12_warStep
    rw [bind_e hiw, bind_e (show rdI at_ 3648 1957 = some (at_ 1957) from by rw [show (1957 : Int32) = wd 1957 from wd_lit 1957, rdI_wd (by omega) (by omega)])]
    simp only [bnd]
    rw [if_neg (show ¬ wd 14 = 12 by decide), if_neg (show ¬ wd 14 = 13 by decide)]
    unfold f_X12_warStep_j42
    rw [if_neg (show ¬ wd 14 < 7 by decide), if_neg (show ¬ 15 < wd 14 by decide), if_pos (show wd 14 = 14 from rfl), if_pos (show wd dp = 0 from by rw [hd]; rfl), bind_e (show f_X12_fails fu ki (wd f) fp (wd 0) 2 = _ from r_fails (x := 2))]
    rfl
/-- the reference's row, when a step begins -/
def rowI (at_ : Nat → Int32) (nr : Nat) (v : Int32) : Nat → Int32 := upd (fun k => if 2072 + 6 * nr + 1 ≤ k ∧ k < 2072 + 6 * nr + 6 then wd 0 else upd at_ (2072 + 6 * nr) v k) 1957 (wd (nr + 1))
theorem rowI_o {v : Int32} {j : Nat} (h1 : j ≠ 1957) (h2 : j < 2072 + 6 * nr ∨ 2072 + 6 * nr + 6 ≤ j) : rowI at_ nr v j = at_ j := by
  unfold rowI
  rw [upd_ne h1, if_neg (by omega), upd_ne (by omega)]
theorem rowI_0 {v : Int32} : rowI at_ nr v (2072 + 6 * nr) = v := by
  unfold rowI
  rw [upd_ne (by omega), if_neg (by omega), upd_eq]
theorem rowI_4 {v : Int32} : rowI at_ nr v (2072 + 6 * nr + 4) = wd 0 := by
  unfold rowI
  rw [upd_ne (by omega), if_pos (by omega)]
theorem r_init {cn x4 : Int32} {v cs : Nat} (hnr : nr < 60) (h57 : at_ 1957 = wd nr) (hcs : cs ≤ 1) (hf : 1000 ≤ fu) : f_X12_warStep_j133 fu names text (wd n) at_ ki (wd f) (wd e) vl fp (wd 0) opr (wd dp) cn (wd v) (wd nr) (wd (2072 + 6 * nr)) x4 (wd s) (wd cs) = (f_X12_ahead fu text (wd n) ki (wd f) (wd e) vl).bind fun z_61 => (f_X12_warOrder fu (rowI at_ nr (wd v)) names text (wd n) z_61.1 z_61.2.1 z_61.2.2.1 z_61.2.2.2 fp (wd 0) (wd v) (wd (2072 + 6 * nr))).bind fun z_62 => (if z_62.1 = 0 then some (0, z_62.2.1, z_62.2.2.1, z_62.2.2.2.1, z_62.2.2.2.2.1, z_62.2.2.2.2.2.1, z_62.2.2.2.2.2.2.1, z_62.2.2.2.2.2.2.2, opr, wd dp, wd (s + cs)) else (if x4 = 0 then f_X12_warStep_j222 fu names text (wd n) z_62.2.1 z_62.2.2.1 z_62.2.2.2.1 z_62.2.2.2.2.1 z_62.2.2.2.2.2.1 z_62.2.2.2.2.2.2.1 z_62.2.2.2.2.2.2.2 opr (wd dp) (wd (s + cs)) (wd v) (wd nr) (wd (2072 + 6 * nr)) else (wrI opr 3 (wd dp) (wd nr)).bind fun m_opened_65 => bnd (wd dp + 1) fun m_depth_66 => f_X12_warStep_j222 fu names text (wd n) z_62.2.1 z_62.2.2.1 z_62.2.2.2.1 z_62.2.2.2.2.1 z_62.2.2.2.2.2.1 z_62.2.2.2.2.2.2.1 z_62.2.2.2.2.2.2.2 m_opened_65 m_depth_66 (wd (s + cs)) (wd v) (wd nr) (wd (2072 + 6 * nr)))) := by
  unfold f_X12_warStep_j133
  simp only [bnd]
  rw [wd_add s cs, bind_e (wrI_wd (by omega) (by omega))]
  have key := loop_run (fun N k (x : Nat → Int32) => f_X12_warStep_l147 fu names text (wd n) N x ki (wd f) (wd e) vl fp (wd 0) opr (wd dp) (wd (s + cs)) (wd v) (wd nr) (wd (2072 + 6 * nr)) x4 (wd k)) (fun k => fun j => if 2072 + 6 * nr + 1 ≤ j ∧ j < 2072 + 6 * nr + k then wd 0 else upd at_ (2072 + 6 * nr) (wd v) j) 1 6 ((f_X12_ahead fu text (wd n) ki (wd f) (wd e) vl).bind fun z_61 => (f_X12_warOrder fu (rowI at_ nr (wd v)) names text (wd n) z_61.1 z_61.2.1 z_61.2.2.1 z_61.2.2.2 fp (wd 0) (wd v) (wd (2072 + 6 * nr))).bind fun z_62 => (if z_62.1 = 0 then some (0, z_62.2.1, z_62.2.2.1, z_62.2.2.2.1, z_62.2.2.2.2.1, z_62.2.2.2.2.2.1, z_62.2.2.2.2.2.2.1, z_62.2.2.2.2.2.2.2, opr, wd dp, wd (s + cs)) else (if x4 = 0 then f_X12_warStep_j222 fu names text (wd n) z_62.2.1 z_62.2.2.1 z_62.2.2.2.1 z_62.2.2.2.2.1 z_62.2.2.2.2.2.1 z_62.2.2.2.2.2.2.1 z_62.2.2.2.2.2.2.2 opr (wd dp) (wd (s + cs)) (wd v) (wd nr) (wd (2072 + 6 * nr)) else (wrI opr 3 (wd dp) (wd nr)).bind fun m_opened_65 => bnd (wd dp + 1) fun m_depth_66 => f_X12_warStep_j222 fu names text (wd n) z_62.2.1 z_62.2.2.1 z_62.2.2.2.1 z_62.2.2.2.2.1 z_62.2.2.2.2.2.1 z_62.2.2.2.2.2.2.1 z_62.2.2.2.2.2.2.2 m_opened_65 m_depth_66 (wd (s + cs)) (wd v) (wd nr) (wd (2072 + 6 * nr))))) ?_ ?_ (by omega) fu (by omega)
  · have e0 : (fun j => if 2072 + 6 * nr + 1 ≤ j ∧ j < 2072 + 6 * nr + 1 then wd 0 else upd at_ (2072 + 6 * nr) (wd v) j) = upd at_ (2072 + 6 * nr) (wd v) := by
      funext j
      rw [if_neg (by omega)]
    have key : f_X12_warStep_l147 fu names text (wd n) fu (fun j => if 2072 + 6 * nr + 1 ≤ j ∧ j < 2072 + 6 * nr + 1 then wd 0 else upd at_ (2072 + 6 * nr) (wd v) j) ki (wd f) (wd e) vl fp (wd 0) opr (wd dp) (wd (s + cs)) (wd v) (wd nr) (wd (2072 + 6 * nr)) x4 (wd 1) = _ := key
    rw [e0] at key
    exact key
  · intro N k h1 h2
    show f_X12_warStep_l147 fu names text (wd n) (N + 1) (fun j => if 2072 + 6 * nr + 1 ≤ j ∧ j < 2072 + 6 * nr + k then wd 0 else upd at_ (2072 + 6 * nr) (wd v) j) ki (wd f) (wd e) vl fp (wd 0) opr (wd dp) (wd (s + cs)) (wd v) (wd nr) (wd (2072 + 6 * nr)) x4 (wd k) = f_X12_warStep_l147 fu names text (wd n) N (fun j => if 2072 + 6 * nr + 1 ≤ j ∧ j < 2072 + 6 * nr + (k + 1) then wd 0 else upd at_ (2072 + 6 * nr) (wd v) j) ki (wd f) (wd e) vl fp (wd 0) opr (wd dp) (wd (s + cs)) (wd v) (wd nr) (wd (2072 + 6 * nr)) x4 (wd (k + 1))
    rw [f_X12_warStep_l147, f_X12_warStep_b147, show (6 : Int32) = wd 6 from rfl, if_neg (by rw [wd_le (by omega) (by omega)]; omega), wd_add (2072 + 6 * nr) k, bind_e (wrI_wd (by omega) (by omega))]
    simp only [bnd]
    rw [show wd k + 1 = wd (k + 1) from wd_add k 1]
    congr 1
    funext j
    show upd _ _ _ j = _
    by_cases hj : j = 2072 + 6 * nr + k
    · rw [hj, upd_eq, if_pos (by omega)]; rfl
    · rw [upd_ne hj]
      show (if 2072 + 6 * nr + 1 ≤ j ∧ j < 2072 + 6 * nr + k then wd 0 else upd at_ (2072 + 6 * nr) (wd v) j) = _
      by_cases hj2 : 2072 + 6 * nr + 1 ≤ j ∧ j < 2072 + 6 * nr + k
      · rw [if_pos hj2, if_pos (by omega)]
      · rw [if_neg hj2, if_neg (by omega)]
  · intro N
    show f_X12_warStep_l147 fu names text (wd n) (N + 1) (fun j => if 2072 + 6 * nr + 1 ≤ j ∧ j < 2072 + 6 * nr + 6 then wd 0 else upd at_ (2072 + 6 * nr) (wd v) j) ki (wd f) (wd e) vl fp (wd 0) opr (wd dp) (wd (s + cs)) (wd v) (wd nr) (wd (2072 + 6 * nr)) x4 (wd 6) = _
    have h57' : (fun j => if 2072 + 6 * nr + 1 ≤ j ∧ j < 2072 + 6 * nr + 6 then wd 0 else upd at_ (2072 + 6 * nr) (wd v) j) 1957 = wd nr := by
      show (if 2072 + 6 * nr + 1 ≤ 1957 ∧ 1957 < 2072 + 6 * nr + 6 then wd 0 else upd at_ (2072 + 6 * nr) (wd v) 1957) = _
      rw [if_neg (by omega), upd_ne (by omega)]; exact h57
    rw [f_X12_warStep_l147, f_X12_warStep_b147, show (6 : Int32) = wd 6 from rfl, if_pos (by rw [wd_le (by omega) (by omega)]; omega), show (1957 : Int32) = wd 1957 from wd_lit 1957, bind_e ((rdI_wd (show 1957 < 3648 by omega) (by omega)).trans (congrArg some h57')), show wd nr + 1 = wd (nr + 1) from wd_add nr 1, bind_e (wrI_wd (by omega) (by omega))]
    rfl
end
