theorem dX11_feed_0 : decode cX11_feed 0 = .ok (.aload_n 0, 1) := by decide +kernel
theorem dX11_feed_1 : decode cX11_feed 1 = .ok (.getfield 49, 3) := by decide +kernel
theorem dX11_feed_4 : decode cX11_feed 4 = .ok (.getfield 164, 3) := by decide +kernel
theorem dX11_feed_7 : decode cX11_feed 7 = .ok (.iload_n 1, 1) := by decide +kernel
theorem dX11_feed_8 : decode cX11_feed 8 = .ok (.iload_n 2, 1) := by decide +kernel
theorem dX11_feed_9 : decode cX11_feed 9 = .ok (.iload_n 3, 1) := by decide +kernel
theorem dX11_feed_10 : decode cX11_feed 10 = .ok (.iload 4, 2) := by decide +kernel
theorem dX11_feed_12 : decode cX11_feed 12 = .ok (.iload 5, 2) := by decide +kernel
theorem dX11_feed_14 : decode cX11_feed 14 = .ok (.invokevirtual 168, 3) := by decide +kernel
theorem dX11_feed_17 : decode cX11_feed 17 = .ok (.ireturn, 1) := by decide +kernel
theorem mv_X11_feed : MV yX11_feed RX11 cX11_feed 6 (some .int) 5 := ⟨tb_561, tb_559, tb_560, tb_1, by decide +kernel, by decide +kernel, by decide +kernel⟩
def f_X11_feed (fu : Nat) (t_bytes : Nat → Int32) (t_length : Int32) (x1 : Int32) (x2 : Int32) (x3 : Int32) (x4 : Int32) (x5 : Int32) : Option (Int32 × (Nat → Int32) × Int32) := (f_X7_append fu t_bytes t_length x1 x2 x3 x4 x5).bind fun z_2 => some (z_2.1, z_2.2.1, z_2.2.2)
abbrev rm_X11_feed : Room := { frames := 2, cells := 0, slots := 0, locals := 47 }
set_option maxHeartbeats 4000000 in
set_option maxRecDepth 100000 in
theorem c_X11_feed (l : Launch) (D : va_G) (cy : Nat → ClassId) (fu : Nat) (A_b : Nat → Nat) (r_b_trays : Nat) (r_b_army : Nat) (r_b_war : Nat) (r_b_draftArmy : Nat) (r_b_draftWar : Nat) (r_b_armyReader : Nat) (r_b_warReader : Nat) (r_b_markedArmies : Nat) (r_b_markedWars : Nat) (r_b_latest : Nat) (r_b_trial : Nat) (r_b_foresight : Nat) (r_b_pairs : Nat) (b_latestStatus : Int32) (b_fractionTop : Int64) (b_fractionBottom : Int64) (b_marks : Int32) (A_r : Nat → Nat) (r_fault : Int32) (r_place : Int32) (A_t : Nat → Nat) (t_bytes : Nat → Int32) (t_wordCodes : Nat → Int64) (t_length : Int32) (t_kind : Int32) (t_start : Int32) (t_value : Int32) (t_word : Int32) (t_name : Int64) (t_end : Int32) (t_at : Int32) (x1 : Int32) (x2 : Int32) (x3 : Int32) (x4 : Int32) (x5 : Int32) (res : Int32 × (Nat → Int32) × Int32) (h : f_X11_feed fu t_bytes t_length x1 x2 x3 x4 x5 = some res) (A : Nat → Prop) (hA : A = adr [bl_X11 cy A_b r_b_trays r_b_army r_b_war r_b_draftArmy r_b_draftWar (A_r 0) r_b_armyReader r_b_warReader r_b_markedArmies r_b_markedWars r_b_latest r_b_trial r_b_foresight r_b_pairs b_latestStatus b_fractionTop b_fractionBottom b_marks, bl_X6 cy A_r (A_t 0) r_fault r_place, bl_X7 cy A_t t_bytes t_wordCodes t_length t_kind t_start t_value t_word t_name t_end t_at]) (W1 : List va_W) (hW1 : W1 = [bl_X11 cy A_b r_b_trays r_b_army r_b_war r_b_draftArmy r_b_draftWar (A_r 0) r_b_armyReader r_b_warReader r_b_markedArmies r_b_markedWars r_b_latest r_b_trial r_b_foresight r_b_pairs b_latestStatus b_fractionTop b_fractionBottom b_marks, bl_X6 cy A_r (A_t 0) r_fault r_place, bl_X7 cy A_t res.2.1 t_wordCodes res.2.2 t_kind t_start t_value t_word t_name t_end t_at]) : Met l yX11_feed (WW yX11_feed cX11_feed 6 (some .int)) rm_X11_feed (Ed D cy [.ref (A_b 0), .int x1, .int x2, .int x3, .int x4, .int x5] [bl_X11 cy A_b r_b_trays r_b_army r_b_war r_b_draftArmy r_b_draftWar (A_r 0) r_b_armyReader r_b_warReader r_b_markedArmies r_b_markedWars r_b_latest r_b_trial r_b_foresight r_b_pairs b_latestStatus b_fractionTop b_fractionBottom b_marks, bl_X6 cy A_r (A_t 0) r_fault r_place, bl_X7 cy A_t t_bytes t_wordCodes t_length t_kind t_start t_value t_word t_name t_end t_at]) (Qei D res.1 A W1) 0 0 A := by
  refine Met.ofW (cc := cX11_feed) (maxL := 6) (ret := (some .int)) (by decide) rfl ?_
  intro p e s m args below meth c s₁ B hml hv
  obtain ⟨hargs, hP, hX, hD0⟩ := hv
  have hx := B.exec
  have hb := B.bytes
  have hr := B.returns
  have ht : ∀ w ∈ lw_gd, w.before args s = true := fun w hw => atoms_spec (ws := WW yX11_feed cX11_feed 6 (some .int)) B.pre w (List.mem_cons_of_mem _ hw)
  have hown : s.vm.findClass RX11 = some m.cls := findClass_of_methodNamed B.named
  have hlocks := B.notSynchronized
  have hP : PD D A [bl_X11 cy A_b r_b_trays r_b_army r_b_war r_b_draftArmy r_b_draftWar (A_r 0) r_b_armyReader r_b_warReader r_b_markedArmies r_b_markedWars r_b_latest r_b_trial r_b_foresight r_b_pairs b_latestStatus b_fractionTop b_fractionBottom b_marks, bl_X6 cy A_r (A_t 0) r_fault r_place, bl_X7 cy A_t t_bytes t_wordCodes t_length t_kind t_start t_value t_word t_name t_end t_at] s.heap := ⟨hP, by rw [hA]; exact hD0.own⟩
  have hS : va_S A s.heap s.heap [] := va_S.rf
  obtain ⟨ls, hl, hent⟩ := ent (m := m) (n := 6) hargs (Nat.le_of_ble_eq_true rfl) (lv := [(0, .ref (A_b 0)), (1, .int x1), (2, .int x2), (3, .int x3), (4, .int x4), (5, .int x5)]) rfl
  rw [hent]
  clear hent
  unfold f_X11_feed at h
  refine lv_aload_n hx hb dX11_feed_0 rfl (lv_at hl 0 rfl) ?_
  refine xget (i := 0) (j := 0) (k := 8) (T := TX11) hx hb ht tb_iX11 hown hX hP.1 rfl rfl rfl (by decide) tb_437 rfl dX11_feed_1 ?_
  refine xget (i := 1) (j := 0) (k := 0) (T := TX6) hx hb ht tb_iX6 hown hX hP.1 rfl rfl rfl (by decide) tb_263 rfl dX11_feed_4 ?_
  refine lv_iload_n hx hb dX11_feed_7 rfl (lv_at hl 1 rfl) ?_
  refine lv_iload_n hx hb dX11_feed_8 rfl (lv_at hl 2 rfl) ?_
  refine lv_iload_n hx hb dX11_feed_9 rfl (lv_at hl 3 rfl) ?_
  refine lv_iload hx hb dX11_feed_10 (lv_at hl 4 rfl) ?_
  refine lv_iload hx hb dX11_feed_12 (lv_at hl 5 rfl) ?_
  obtain ⟨z_2, e_z_2, h⟩ := bi h
  refine efVi (rest := []) ⟨hx, hb, hml, hown, ht⟩ (c_X7_append l D cy fu A_t t_bytes t_wordCodes t_length t_kind t_start t_value t_word t_name t_end t_at x1 x2 x3 x4 x5 z_2 e_z_2 _ rfl _ rfl) (cV ht mv_X7_append tb_562 rfl rfl ⟨Nat.le_of_ble_eq_true rfl, Nat.le_of_ble_eq_true rfl⟩) hP hS hX [2] rfl rfl rfl rfl rfl rfl hl.1 rfl (Nat.le_of_ble_eq_true rfl) dX11_feed_14 ⟨Nat.le_of_ble_eq_true rfl, Nat.le_of_ble_eq_true rfl⟩ (fun H locs hP hS => ?_)
  have hP : PD D A [bl_X11 cy A_b r_b_trays r_b_army r_b_war r_b_draftArmy r_b_draftWar (A_r 0) r_b_armyReader r_b_warReader r_b_markedArmies r_b_markedWars r_b_latest r_b_trial r_b_foresight r_b_pairs b_latestStatus b_fractionTop b_fractionBottom b_marks, bl_X6 cy A_r (A_t 0) r_fault r_place, bl_X7 cy A_t z_2.2.1 t_wordCodes z_2.2.2 t_kind t_start t_value t_word t_name t_end t_at] H := hP
  cases h
  subst hW1
  exact W.iret hx hb hr (fun _ ht9 _ => ⟨⟨_, (), rfl, rfl, hPt ht9 hP.1⟩, hS.F ht9⟩) hS.2.2 dX11_feed_17
theorem dX11_answer_0 : decode cX11_answer 0 = .ok (.aload_n 0, 1) := by decide +kernel
theorem dX11_answer_1 : decode cX11_answer 1 = .ok (.iconst 0, 1) := by decide +kernel
theorem dX11_answer_2 : decode cX11_answer 2 = .ok (.putfield 9, 3) := by decide +kernel
theorem dX11_answer_5 : decode cX11_answer 5 = .ok (.iload_n 1, 1) := by decide +kernel
theorem dX11_answer_6 : decode cX11_answer 6 = .ok (.ireturn, 1) := by decide +kernel
theorem mv_X11_answer : MV yX11_answer RX11 cX11_answer 2 (some .int) 1 := ⟨tb_699, tb_698, ts_13, tb_1, by decide +kernel, by decide +kernel, by decide +kernel⟩
def f_X11_answer (fu : Nat) (b_latestStatus : Int32) (x1 : Int32) : Option (Int32 × Int32) := some (x1, 0)
abbrev rm_X11_answer : Room := { frames := 0, cells := 0, slots := 0, locals := 0 }
set_option maxHeartbeats 4000000 in
set_option maxRecDepth 100000 in
theorem c_X11_answer (l : Launch) (D : va_G) (cy : Nat → ClassId) (fu : Nat) (A_b : Nat → Nat) (r_b_trays : Nat) (r_b_army : Nat) (r_b_war : Nat) (r_b_draftArmy : Nat) (r_b_draftWar : Nat) (r_b_reader : Nat) (r_b_armyReader : Nat) (r_b_warReader : Nat) (r_b_markedArmies : Nat) (r_b_markedWars : Nat) (r_b_latest : Nat) (r_b_trial : Nat) (r_b_foresight : Nat) (r_b_pairs : Nat) (b_latestStatus : Int32) (b_fractionTop : Int64) (b_fractionBottom : Int64) (b_marks : Int32) (x1 : Int32) (res : Int32 × Int32) (h : f_X11_answer fu b_latestStatus x1 = some res) (A : Nat → Prop) (hA : A = adr [bl_X11 cy A_b r_b_trays r_b_army r_b_war r_b_draftArmy r_b_draftWar r_b_reader r_b_armyReader r_b_warReader r_b_markedArmies r_b_markedWars r_b_latest r_b_trial r_b_foresight r_b_pairs b_latestStatus b_fractionTop b_fractionBottom b_marks]) (W1 : List va_W) (hW1 : W1 = [bl_X11 cy A_b r_b_trays r_b_army r_b_war r_b_draftArmy r_b_draftWar r_b_reader r_b_armyReader r_b_warReader r_b_markedArmies r_b_markedWars r_b_latest r_b_trial r_b_foresight r_b_pairs res.2 b_fractionTop b_fractionBottom b_marks]) : Met l yX11_answer (WW yX11_answer cX11_answer 2 (some .int)) rm_X11_answer (Ed D cy [.ref (A_b 0), .int x1] [bl_X11 cy A_b r_b_trays r_b_army r_b_war r_b_draftArmy r_b_draftWar r_b_reader r_b_armyReader r_b_warReader r_b_markedArmies r_b_markedWars r_b_latest r_b_trial r_b_foresight r_b_pairs b_latestStatus b_fractionTop b_fractionBottom b_marks]) (Qei D res.1 A W1) 0 0 A := by
  refine Met.ofW (cc := cX11_answer) (maxL := 2) (ret := (some .int)) (by decide) rfl ?_
  intro p e s m args below meth c s₁ B hml hv
  obtain ⟨hargs, hP, hX, hD0⟩ := hv
  have hx := B.exec
  have hb := B.bytes
  have hr := B.returns
  have ht : ∀ w ∈ lw_gd, w.before args s = true := fun w hw => atoms_spec (ws := WW yX11_answer cX11_answer 2 (some .int)) B.pre w (List.mem_cons_of_mem _ hw)
  have hown : s.vm.findClass RX11 = some m.cls := findClass_of_methodNamed B.named
  have hlocks := B.notSynchronized
  have hP : PD D A [bl_X11 cy A_b r_b_trays r_b_army r_b_war r_b_draftArmy r_b_draftWar r_b_reader r_b_armyReader r_b_warReader r_b_markedArmies r_b_markedWars r_b_latest r_b_trial r_b_foresight r_b_pairs b_latestStatus b_fractionTop b_fractionBottom b_marks] s.heap := ⟨hP, by rw [hA]; exact hD0.own⟩
  have hS : va_S A s.heap s.heap [] := va_S.rf
  obtain ⟨ls, hl, hent⟩ := ent (m := m) (n := 2) hargs (Nat.le_of_ble_eq_true rfl) (lv := [(0, .ref (A_b 0)), (1, .int x1)]) rfl
  rw [hent]
  clear hent
  unfold f_X11_answer at h
  refine lv_aload_n hx hb dX11_answer_0 rfl (lv_at hl 0 rfl) ?_
  refine lv_iconst (v := 0) hx hb dX11_answer_1 (by decide) ?_
  refine xput (i := 0) (j := 0) (k := 0) (T := TX11) tyX11 tyX11_ok nmX11 hx hb ht tb_iX11 hown hX hP hS rfl rfl rfl (by decide) tb_429 rfl rfl rfl (Nat.le_of_ble_eq_true rfl) dX11_answer_2 (fun H locs hP hS => ?_)
  have hP : PD D A [bl_X11 cy A_b r_b_trays r_b_army r_b_war r_b_draftArmy r_b_draftWar r_b_reader r_b_armyReader r_b_warReader r_b_markedArmies r_b_markedWars r_b_latest r_b_trial r_b_foresight r_b_pairs 0 b_fractionTop b_fractionBottom b_marks] H := hP
  refine lv_iload_n hx hb dX11_answer_5 rfl (lv_at hl 1 rfl) ?_
  cases h
  subst hW1
  exact W.iret hx hb hr (fun _ ht9 _ => ⟨⟨_, (), rfl, rfl, hPt ht9 hP.1⟩, hS.F ht9⟩) hS.2.2 dX11_answer_6
theorem dX11_army_0 : decode cX11_army 0 = .ok (.iload_n 1, 1) := by decide +kernel
theorem dX11_army_1 : decode cX11_army 1 = .ok (.iconst 0, 1) := by decide +kernel
theorem dX11_army_2 : decode cX11_army 2 = .ok (.aload_n 0, 1) := by decide +kernel
theorem dX11_army_3 : decode cX11_army 3 = .ok (.getfield 49, 3) := by decide +kernel
theorem dX11_army_6 : decode cX11_army 6 = .ok (.getfield 164, 3) := by decide +kernel
theorem dX11_army_9 : decode cX11_army 9 = .ok (.getfield 174, 3) := by decide +kernel
theorem dX11_army_12 : decode cX11_army 12 = .ok (.invokestatic 115, 3) := by decide +kernel
theorem dX11_army_15 : decode cX11_army 15 = .ok (.ifCond .ne 9, 3) := by decide +kernel
theorem dX11_army_18 : decode cX11_army 18 = .ok (.aload_n 0, 1) := by decide +kernel
theorem dX11_army_19 : decode cX11_army 19 = .ok (.iconst 1, 1) := by decide +kernel
theorem dX11_army_20 : decode cX11_army 20 = .ok (.invokevirtual 143, 3) := by decide +kernel
theorem dX11_army_23 : decode cX11_army 23 = .ok (.ireturn, 1) := by decide +kernel
theorem dX11_army_24 : decode cX11_army 24 = .ok (.aload_n 0, 1) := by decide +kernel
theorem dX11_army_25 : decode cX11_army 25 = .ok (.getfield 49, 3) := by decide +kernel
theorem dX11_army_28 : decode cX11_army 28 = .ok (.iload_n 1, 1) := by decide +kernel
theorem dX11_army_29 : decode cX11_army 29 = .ok (.invokevirtual 177, 3) := by decide +kernel
theorem dX11_army_32 : decode cX11_army 32 = .ok (.aload_n 0, 1) := by decide +kernel
theorem dX11_army_33 : decode cX11_army 33 = .ok (.getfield 58, 3) := by decide +kernel
theorem dX11_army_36 : decode cX11_army 36 = .ok (.invokevirtual 181, 3) := by decide +kernel
theorem dX11_army_39 : decode cX11_army 39 = .ok (.istore_n 2, 1) := by decide +kernel
theorem dX11_army_40 : decode cX11_army 40 = .ok (.aload_n 0, 1) := by decide +kernel
theorem dX11_army_41 : decode cX11_army 41 = .ok (.getfield 49, 3) := by decide +kernel
theorem dX11_army_44 : decode cX11_army 44 = .ok (.getfield 164, 3) := by decide +kernel
theorem dX11_army_47 : decode cX11_army 47 = .ok (.iconst 0, 1) := by decide +kernel
theorem dX11_army_48 : decode cX11_army 48 = .ok (.putfield 174, 3) := by decide +kernel
theorem dX11_army_51 : decode cX11_army 51 = .ok (.iload_n 2, 1) := by decide +kernel
theorem dX11_army_52 : decode cX11_army 52 = .ok (.ifCond .ne 10, 3) := by decide +kernel
theorem dX11_army_55 : decode cX11_army 55 = .ok (.aload_n 0, 1) := by decide +kernel
theorem dX11_army_56 : decode cX11_army 56 = .ok (.bipush 9, 2) := by decide +kernel
theorem dX11_army_58 : decode cX11_army 58 = .ok (.invokevirtual 143, 3) := by decide +kernel
theorem dX11_army_61 : decode cX11_army 61 = .ok (.ireturn, 1) := by decide +kernel
theorem dX11_army_62 : decode cX11_army 62 = .ok (.aload_n 0, 1) := by decide +kernel
theorem dX11_army_63 : decode cX11_army 63 = .ok (.getfield 29, 3) := by decide +kernel
theorem dX11_army_66 : decode cX11_army 66 = .ok (.aload_n 0, 1) := by decide +kernel
theorem dX11_army_67 : decode cX11_army 67 = .ok (.getfield 40, 3) := by decide +kernel
theorem dX11_army_70 : decode cX11_army 70 = .ok (.invokevirtual 184, 3) := by decide +kernel
theorem dX11_army_73 : decode cX11_army 73 = .ok (.aload_n 0, 1) := by decide +kernel
theorem dX11_army_74 : decode cX11_army 74 = .ok (.getfield 36, 3) := by decide +kernel
theorem dX11_army_77 : decode cX11_army 77 = .ok (.invokevirtual 187, 3) := by decide +kernel
theorem dX11_army_80 : decode cX11_army 80 = .ok (.aload_n 0, 1) := by decide +kernel
theorem dX11_army_81 : decode cX11_army 81 = .ok (.aload_n 0, 1) := by decide +kernel
theorem dX11_army_82 : decode cX11_army 82 = .ok (.getfield 29, 3) := by decide +kernel
theorem dX11_army_85 : decode cX11_army 85 = .ok (.getfield 190, 3) := by decide +kernel
theorem dX11_army_88 : decode cX11_army 88 = .ok (.invokevirtual 193, 3) := by decide +kernel
theorem dX11_army_91 : decode cX11_army 91 = .ok (.ireturn, 1) := by decide +kernel
theorem mv_X11_army : MV yX11_army RX11 cX11_army 3 (some .int) 1 := ⟨tb_573, tb_571, tb_572, tb_1, by decide +kernel, by decide +kernel, by decide +kernel⟩
def f_X11_army (fu : Nat) (b_latestStatus : Int32) (a_name : Nat → Int64) (a_courage : Nat → Int32) (a_weight : Nat → Int32) (a_medals : Nat → Int32) (a_stood : Nat → Int32) (a_fled : Nat → Int32) (a_liked : Nat → Int32) (a_count : Int32) (a_living : Int32) (a_pride : Int32) (a_quota : Int32) (a_melted : Int32) (a_lost : Int32) (w_there : Int32) (w_rows : Int32) (w_steps : Int32) (d_name : Nat → Int64) (d_courage : Nat → Int32) (d_weight : Nat → Int32) (d_medals : Nat → Int32) (d_stood : Nat → Int32) (d_fled : Nat → Int32) (d_liked : Nat → Int32) (d_count : Int32) (d_living : Int32) (d_pride : Int32) (d_quota : Int32) (d_melted : Int32) (d_lost : Int32) (r_fault : Int32) (r_place : Int32) (t_bytes : Nat → Int32) (t_wordCodes : Nat → Int64) (t_length : Int32) (t_kind : Int32) (t_start : Int32) (t_value : Int32) (t_word : Int32) (t_name : Int64) (t_end : Int32) (t_at : Int32) (k_prideTold : Int32) (k_quotaTold : Int32) (x1 : Int32) : Option (Int32 × Int32 × (Nat → Int64) × (Nat → Int32) × (Nat → Int32) × (Nat → Int32) × (Nat → Int32) × (Nat → Int32) × (Nat → Int32) × Int32 × Int32 × Int32 × Int32 × Int32 × Int32 × Int32 × Int32 × Int32 × (Nat → Int64) × (Nat → Int32) × (Nat → Int32) × (Nat → Int32) × (Nat → Int32) × (Nat → Int32) × (Nat → Int32) × Int32 × Int32 × Int32 × Int32 × Int32 × Int32 × Int32 × Int32 × Int32 × Int32 × Int32 × Int32 × Int32 × Int64 × Int32 × Int32 × Int32 × Int32) := (f_X11_within fu x1 0 t_length).bind fun z_11 => (if z_11 = 0 then (f_X11_refuse fu b_latestStatus 1).bind fun z_20 => some (z_20.1, z_20.2, a_name, a_courage, a_weight, a_medals, a_stood, a_fled, a_liked, a_count, a_living, a_pride, a_quota, a_melted, a_lost, w_there, w_rows, w_steps, d_name, d_courage, d_weight, d_medals, d_stood, d_fled, d_liked, d_count, d_living, d_pride, d_quota, d_melted, d_lost, r_fault, r_place, t_length, t_kind, t_start, t_value, t_word, t_name, t_end, t_at, k_prideTold, k_quotaTold) else (f_X6_begin fu r_fault r_place t_bytes t_wordCodes t_kind t_start t_value t_word t_name t_end t_at x1).bind fun z_13 => (f_X1_readDraft fu k_prideTold k_quotaTold z_13.1 z_13.2.1 t_bytes t_wordCodes z_13.2.2.1 z_13.2.2.2.1 z_13.2.2.2.2.1 z_13.2.2.2.2.2.1 z_13.2.2.2.2.2.2.1 z_13.2.2.2.2.2.2.2.1 z_13.2.2.2.2.2.2.2.2 d_name d_courage d_weight d_medals d_stood d_fled d_liked d_count d_living d_pride d_quota d_melted d_lost).bind fun z_14 => (if z_14.1 = 0 then (f_X11_refuse fu b_latestStatus 9).bind fun z_19 => some (z_19.1, z_19.2, a_name, a_courage, a_weight, a_medals, a_stood, a_fled, a_liked, a_count, a_living, a_pride, a_quota, a_melted, a_lost, w_there, w_rows, w_steps, z_14.2.2.2.2.2.2.2.2.2.2.2.1, z_14.2.2.2.2.2.2.2.2.2.2.2.2.1, z_14.2.2.2.2.2.2.2.2.2.2.2.2.2.1, z_14.2.2.2.2.2.2.2.2.2.2.2.2.2.2.1, z_14.2.2.2.2.2.2.2.2.2.2.2.2.2.2.2.1, z_14.2.2.2.2.2.2.2.2.2.2.2.2.2.2.2.2.1, z_14.2.2.2.2.2.2.2.2.2.2.2.2.2.2.2.2.2.1, z_14.2.2.2.2.2.2.2.2.2.2.2.2.2.2.2.2.2.2.1, z_14.2.2.2.2.2.2.2.2.2.2.2.2.2.2.2.2.2.2.2.1, z_14.2.2.2.2.2.2.2.2.2.2.2.2.2.2.2.2.2.2.2.2.1, z_14.2.2.2.2.2.2.2.2.2.2.2.2.2.2.2.2.2.2.2.2.2.1, z_14.2.2.2.2.2.2.2.2.2.2.2.2.2.2.2.2.2.2.2.2.2.2.1, z_14.2.2.2.2.2.2.2.2.2.2.2.2.2.2.2.2.2.2.2.2.2.2.2, z_14.2.2.2.1, z_14.2.2.2.2.1, 0, z_14.2.2.2.2.2.1, z_14.2.2.2.2.2.2.1, z_14.2.2.2.2.2.2.2.1, z_14.2.2.2.2.2.2.2.2.1, z_14.2.2.2.2.2.2.2.2.2.1, z_13.2.2.2.2.2.2.2.1, z_14.2.2.2.2.2.2.2.2.2.2.1, z_14.2.1, z_14.2.2.1) else (f_X0_become fu a_name a_courage a_weight a_medals a_stood a_fled a_liked a_count a_living a_pride a_quota a_melted a_lost z_14.2.2.2.2.2.2.2.2.2.2.2.1 z_14.2.2.2.2.2.2.2.2.2.2.2.2.1 z_14.2.2.2.2.2.2.2.2.2.2.2.2.2.1 z_14.2.2.2.2.2.2.2.2.2.2.2.2.2.2.1 z_14.2.2.2.2.2.2.2.2.2.2.2.2.2.2.2.1 z_14.2.2.2.2.2.2.2.2.2.2.2.2.2.2.2.2.1 z_14.2.2.2.2.2.2.2.2.2.2.2.2.2.2.2.2.2.1 z_14.2.2.2.2.2.2.2.2.2.2.2.2.2.2.2.2.2.2.1 z_14.2.2.2.2.2.2.2.2.2.2.2.2.2.2.2.2.2.2.2.1 z_14.2.2.2.2.2.2.2.2.2.2.2.2.2.2.2.2.2.2.2.2.1 z_14.2.2.2.2.2.2.2.2.2.2.2.2.2.2.2.2.2.2.2.2.2.1 z_14.2.2.2.2.2.2.2.2.2.2.2.2.2.2.2.2.2.2.2.2.2.2.1 z_14.2.2.2.2.2.2.2.2.2.2.2.2.2.2.2.2.2.2.2.2.2.2.2).bind fun z_16 => (f_X9_clear fu w_there w_rows w_steps).bind fun z_17 => (f_X11_answer fu b_latestStatus z_16.2.2.2.2.2.2.2.1).bind fun z_18 => some (z_18.1, z_18.2, z_16.1, z_16.2.1, z_16.2.2.1, z_16.2.2.2.1, z_16.2.2.2.2.1, z_16.2.2.2.2.2.1, z_16.2.2.2.2.2.2.1, z_16.2.2.2.2.2.2.2.1, z_16.2.2.2.2.2.2.2.2.1, z_16.2.2.2.2.2.2.2.2.2.1, z_16.2.2.2.2.2.2.2.2.2.2.1, z_16.2.2.2.2.2.2.2.2.2.2.2.1, z_16.2.2.2.2.2.2.2.2.2.2.2.2, z_17.1, z_17.2.1, z_17.2.2, z_14.2.2.2.2.2.2.2.2.2.2.2.1, z_14.2.2.2.2.2.2.2.2.2.2.2.2.1, z_14.2.2.2.2.2.2.2.2.2.2.2.2.2.1, z_14.2.2.2.2.2.2.2.2.2.2.2.2.2.2.1, z_14.2.2.2.2.2.2.2.2.2.2.2.2.2.2.2.1, z_14.2.2.2.2.2.2.2.2.2.2.2.2.2.2.2.2.1, z_14.2.2.2.2.2.2.2.2.2.2.2.2.2.2.2.2.2.1, z_14.2.2.2.2.2.2.2.2.2.2.2.2.2.2.2.2.2.2.1, z_14.2.2.2.2.2.2.2.2.2.2.2.2.2.2.2.2.2.2.2.1, z_14.2.2.2.2.2.2.2.2.2.2.2.2.2.2.2.2.2.2.2.2.1, z_14.2.2.2.2.2.2.2.2.2.2.2.2.2.2.2.2.2.2.2.2.2.1, z_14.2.2.2.2.2.2.2.2.2.2.2.2.2.2.2.2.2.2.2.2.2.2.1, z_14.2.2.2.2.2.2.2.2.2.2.2.2.2.2.2.2.2.2.2.2.2.2.2, z_14.2.2.2.1, z_14.2.2.2.2.1, 0, z_14.2.2.2.2.2.1, z_14.2.2.2.2.2.2.1, z_14.2.2.2.2.2.2.2.1, z_14.2.2.2.2.2.2.2.2.1, z_14.2.2.2.2.2.2.2.2.2.1, z_13.2.2.2.2.2.2.2.1, z_14.2.2.2.2.2.2.2.2.2.2.1, z_14.2.1, z_14.2.2.1)))
abbrev rm_X11_army : Room := { frames := 6, cells := 0, slots := 0, locals := 137 }
set_option maxHeartbeats 4000000 in
set_option maxRecDepth 100000 in
theorem c_X11_army (l : Launch) (D : va_G) (cy : Nat → ClassId) (fu : Nat) (A_b : Nat → Nat) (r_b_trays : Nat) (r_b_draftWar : Nat) (r_b_warReader : Nat) (r_b_markedArmies : Nat) (r_b_markedWars : Nat) (r_b_latest : Nat) (r_b_trial : Nat) (r_b_foresight : Nat) (r_b_pairs : Nat) (b_latestStatus : Int32) (b_fractionTop : Int64) (b_fractionBottom : Int64) (b_marks : Int32) (A_a : Nat → Nat) (a_name : Nat → Int64) (a_courage : Nat → Int32) (a_weight : Nat → Int32) (a_medals : Nat → Int32) (a_stood : Nat → Int32) (a_fled : Nat → Int32) (a_liked : Nat → Int32) (a_votes : Nat → Int32) (a_count : Int32) (a_living : Int32) (a_pride : Int32) (a_quota : Int32) (a_melted : Int32) (a_lost : Int32) (A_w : Nat → Nat) (w_deed : Nat → Int32) (w_man : Nat → Int32) (w_other : Nat → Int32) (w_sign : Nat → Int32) (w_number : Nat → Int32) (w_mate : Nat → Int32) (w_there : Int32) (w_rows : Int32) (w_steps : Int32) (A_d : Nat → Nat) (d_name : Nat → Int64) (d_courage : Nat → Int32) (d_weight : Nat → Int32) (d_medals : Nat → Int32) (d_stood : Nat → Int32) (d_fled : Nat → Int32) (d_liked : Nat → Int32) (d_votes : Nat → Int32) (d_count : Int32) (d_living : Int32) (d_pride : Int32) (d_quota : Int32) (d_melted : Int32) (d_lost : Int32) (A_r : Nat → Nat) (r_fault : Int32) (r_place : Int32) (A_t : Nat → Nat) (t_bytes : Nat → Int32) (t_wordCodes : Nat → Int64) (t_length : Int32) (t_kind : Int32) (t_start : Int32) (t_value : Int32) (t_word : Int32) (t_name : Int64) (t_end : Int32) (t_at : Int32) (A_k : Nat → Nat) (k_prideTold : Int32) (k_quotaTold : Int32) (x1 : Int32) (res : Int32 × Int32 × (Nat → Int64) × (Nat → Int32) × (Nat → Int32) × (Nat → Int32) × (Nat → Int32) × (Nat → Int32) × (Nat → Int32) × Int32 × Int32 × Int32 × Int32 × Int32 × Int32 × Int32 × Int32 × Int32 × (Nat → Int64) × (Nat → Int32) × (Nat → Int32) × (Nat → Int32) × (Nat → Int32) × (Nat → Int32) × (Nat → Int32) × Int32 × Int32 × Int32 × Int32 × Int32 × Int32 × Int32 × Int32 × Int32 × Int32 × Int32 × Int32 × Int32 × Int64 × Int32 × Int32 × Int32 × Int32) (h : f_X11_army fu b_latestStatus a_name a_courage a_weight a_medals a_stood a_fled a_liked a_count a_living a_pride a_quota a_melted a_lost w_there w_rows w_steps d_name d_courage d_weight d_medals d_stood d_fled d_liked d_count d_living d_pride d_quota d_melted d_lost r_fault r_place t_bytes t_wordCodes t_length t_kind t_start t_value t_word t_name t_end t_at k_prideTold k_quotaTold x1 = some res) (A : Nat → Prop) (hA : A = adr [bl_X11 cy A_b r_b_trays (A_a 0) (A_w 0) (A_d 0) r_b_draftWar (A_r 0) (A_k 0) r_b_warReader r_b_markedArmies r_b_markedWars r_b_latest r_b_trial r_b_foresight r_b_pairs b_latestStatus b_fractionTop b_fractionBottom b_marks, bl_X0 cy A_a a_name a_courage a_weight a_medals a_stood a_fled a_liked a_votes a_count a_living a_pride a_quota a_melted a_lost, bl_X9 cy A_w w_deed w_man w_other w_sign w_number w_mate w_there w_rows w_steps, bl_X0 cy A_d d_name d_courage d_weight d_medals d_stood d_fled d_liked d_votes d_count d_living d_pride d_quota d_melted d_lost, bl_X6 cy A_r (A_t 0) r_fault r_place, bl_X7 cy A_t t_bytes t_wordCodes t_length t_kind t_start t_value t_word t_name t_end t_at, bl_X1 cy A_k (A_r 0) (A_d 0) k_prideTold k_quotaTold]) (W1 : List va_W) (hW1 : W1 = [bl_X11 cy A_b r_b_trays (A_a 0) (A_w 0) (A_d 0) r_b_draftWar (A_r 0) (A_k 0) r_b_warReader r_b_markedArmies r_b_markedWars r_b_latest r_b_trial r_b_foresight r_b_pairs res.2.1 b_fractionTop b_fractionBottom b_marks, bl_X0 cy A_a res.2.2.1 res.2.2.2.1 res.2.2.2.2.1 res.2.2.2.2.2.1 res.2.2.2.2.2.2.1 res.2.2.2.2.2.2.2.1 res.2.2.2.2.2.2.2.2.1 a_votes res.2.2.2.2.2.2.2.2.2.1 res.2.2.2.2.2.2.2.2.2.2.1 res.2.2.2.2.2.2.2.2.2.2.2.1 res.2.2.2.2.2.2.2.2.2.2.2.2.1 res.2.2.2.2.2.2.2.2.2.2.2.2.2.1 res.2.2.2.2.2.2.2.2.2.2.2.2.2.2.1, bl_X9 cy A_w w_deed w_man w_other w_sign w_number w_mate res.2.2.2.2.2.2.2.2.2.2.2.2.2.2.2.1 res.2.2.2.2.2.2.2.2.2.2.2.2.2.2.2.2.1 res.2.2.2.2.2.2.2.2.2.2.2.2.2.2.2.2.2.1, bl_X0 cy A_d res.2.2.2.2.2.2.2.2.2.2.2.2.2.2.2.2.2.2.1 res.2.2.2.2.2.2.2.2.2.2.2.2.2.2.2.2.2.2.2.1 res.2.2.2.2.2.2.2.2.2.2.2.2.2.2.2.2.2.2.2.2.1 res.2.2.2.2.2.2.2.2.2.2.2.2.2.2.2.2.2.2.2.2.2.1 res.2.2.2.2.2.2.2.2.2.2.2.2.2.2.2.2.2.2.2.2.2.2.1 res.2.2.2.2.2.2.2.2.2.2.2.2.2.2.2.2.2.2.2.2.2.2.2.1 res.2.2.2.2.2.2.2.2.2.2.2.2.2.2.2.2.2.2.2.2.2.2.2.2.1 d_votes res.2.2.2.2.2.2.2.2.2.2.2.2.2.2.2.2.2.2.2.2.2.2.2.2.2.1 res.2.2.2.2.2.2.2.2.2.2.2.2.2.2.2.2.2.2.2.2.2.2.2.2.2.2.1 res.2.2.2.2.2.2.2.2.2.2.2.2.2.2.2.2.2.2.2.2.2.2.2.2.2.2.2.1 res.2.2.2.2.2.2.2.2.2.2.2.2.2.2.2.2.2.2.2.2.2.2.2.2.2.2.2.2.1 res.2.2.2.2.2.2.2.2.2.2.2.2.2.2.2.2.2.2.2.2.2.2.2.2.2.2.2.2.2.1 res.2.2.2.2.2.2.2.2.2.2.2.2.2.2.2.2.2.2.2.2.2.2.2.2.2.2.2.2.2.2.1, bl_X6 cy A_r (A_t 0) res.2.2.2.2.2.2.2.2.2.2.2.2.2.2.2.2.2.2.2.2.2.2.2.2.2.2.2.2.2.2.2.1 res.2.2.2.2.2.2.2.2.2.2.2.2.2.2.2.2.2.2.2.2.2.2.2.2.2.2.2.2.2.2.2.2.1, bl_X7 cy A_t t_bytes t_wordCodes res.2.2.2.2.2.2.2.2.2.2.2.2.2.2.2.2.2.2.2.2.2.2.2.2.2.2.2.2.2.2.2.2.2.1 res.2.2.2.2.2.2.2.2.2.2.2.2.2.2.2.2.2.2.2.2.2.2.2.2.2.2.2.2.2.2.2.2.2.2.1 res.2.2.2.2.2.2.2.2.2.2.2.2.2.2.2.2.2.2.2.2.2.2.2.2.2.2.2.2.2.2.2.2.2.2.2.1 res.2.2.2.2.2.2.2.2.2.2.2.2.2.2.2.2.2.2.2.2.2.2.2.2.2.2.2.2.2.2.2.2.2.2.2.2.1 res.2.2.2.2.2.2.2.2.2.2.2.2.2.2.2.2.2.2.2.2.2.2.2.2.2.2.2.2.2.2.2.2.2.2.2.2.2.1 res.2.2.2.2.2.2.2.2.2.2.2.2.2.2.2.2.2.2.2.2.2.2.2.2.2.2.2.2.2.2.2.2.2.2.2.2.2.2.1 res.2.2.2.2.2.2.2.2.2.2.2.2.2.2.2.2.2.2.2.2.2.2.2.2.2.2.2.2.2.2.2.2.2.2.2.2.2.2.2.1 res.2.2.2.2.2.2.2.2.2.2.2.2.2.2.2.2.2.2.2.2.2.2.2.2.2.2.2.2.2.2.2.2.2.2.2.2.2.2.2.2.1, bl_X1 cy A_k (A_r 0) (A_d 0) res.2.2.2.2.2.2.2.2.2.2.2.2.2.2.2.2.2.2.2.2.2.2.2.2.2.2.2.2.2.2.2.2.2.2.2.2.2.2.2.2.2.1 res.2.2.2.2.2.2.2.2.2.2.2.2.2.2.2.2.2.2.2.2.2.2.2.2.2.2.2.2.2.2.2.2.2.2.2.2.2.2.2.2.2.2]) : Met l yX11_army (WW yX11_army cX11_army 3 (some .int)) rm_X11_army (Ed D cy [.ref (A_b 0), .int x1] [bl_X11 cy A_b r_b_trays (A_a 0) (A_w 0) (A_d 0) r_b_draftWar (A_r 0) (A_k 0) r_b_warReader r_b_markedArmies r_b_markedWars r_b_latest r_b_trial r_b_foresight r_b_pairs b_latestStatus b_fractionTop b_fractionBottom b_marks, bl_X0 cy A_a a_name a_courage a_weight a_medals a_stood a_fled a_liked a_votes a_count a_living a_pride a_quota a_melted a_lost, bl_X9 cy A_w w_deed w_man w_other w_sign w_number w_mate w_there w_rows w_steps, bl_X0 cy A_d d_name d_courage d_weight d_medals d_stood d_fled d_liked d_votes d_count d_living d_pride d_quota d_melted d_lost, bl_X6 cy A_r (A_t 0) r_fault r_place, bl_X7 cy A_t t_bytes t_wordCodes t_length t_kind t_start t_value t_word t_name t_end t_at, bl_X1 cy A_k (A_r 0) (A_d 0) k_prideTold k_quotaTold]) (Qei D res.1 A W1) 0 0 A := by
  refine Met.ofW (cc := cX11_army) (maxL := 3) (ret := (some .int)) (by decide) rfl ?_
  intro p e s m args below meth c s₁ B hml hv
  obtain ⟨hargs, hP, hX, hD0⟩ := hv
  have hx := B.exec
  have hb := B.bytes
  have hr := B.returns
  have ht : ∀ w ∈ lw_gd, w.before args s = true := fun w hw => atoms_spec (ws := WW yX11_army cX11_army 3 (some .int)) B.pre w (List.mem_cons_of_mem _ hw)
  have hown : s.vm.findClass RX11 = some m.cls := findClass_of_methodNamed B.named
  have hlocks := B.notSynchronized
  have hP : PD D A [bl_X11 cy A_b r_b_trays (A_a 0) (A_w 0) (A_d 0) r_b_draftWar (A_r 0) (A_k 0) r_b_warReader r_b_markedArmies r_b_markedWars r_b_latest r_b_trial r_b_foresight r_b_pairs b_latestStatus b_fractionTop b_fractionBottom b_marks, bl_X0 cy A_a a_name a_courage a_weight a_medals a_stood a_fled a_liked a_votes a_count a_living a_pride a_quota a_melted a_lost, bl_X9 cy A_w w_deed w_man w_other w_sign w_number w_mate w_there w_rows w_steps, bl_X0 cy A_d d_name d_courage d_weight d_medals d_stood d_fled d_liked d_votes d_count d_living d_pride d_quota d_melted d_lost, bl_X6 cy A_r (A_t 0) r_fault r_place, bl_X7 cy A_t t_bytes t_wordCodes t_length t_kind t_start t_value t_word t_name t_end t_at, bl_X1 cy A_k (A_r 0) (A_d 0) k_prideTold k_quotaTold] s.heap := ⟨hP, by rw [hA]; exact hD0.own⟩
  have hS : va_S A s.heap s.heap [] := va_S.rf
  obtain ⟨ls, hl, hent⟩ := ent (m := m) (n := 3) hargs (Nat.le_of_ble_eq_true rfl) (lv := [(0, .ref (A_b 0)), (1, .int x1)]) rfl
  rw [hent]
  clear hent
  unfold f_X11_army at h
  refine lv_iload_n hx hb dX11_army_0 rfl (lv_at hl 1 rfl) ?_
  refine lv_iconst (v := 0) hx hb dX11_army_1 (by decide) ?_
  refine lv_aload_n hx hb dX11_army_2 rfl (lv_at hl 0 rfl) ?_
  refine xget (i := 0) (j := 0) (k := 8) (T := TX11) hx hb ht tb_iX11 hown hX hP.1 rfl rfl rfl (by decide) tb_437 rfl dX11_army_3 ?_
  refine xget (i := 4) (j := 0) (k := 0) (T := TX6) hx hb ht tb_iX6 hown hX hP.1 rfl rfl rfl (by decide) tb_263 rfl dX11_army_6 ?_
  refine xget (i := 5) (j := 0) (k := 2) (T := TX7) hx hb ht tb_iX7 hown hX hP.1 rfl rfl rfl (by decide) tb_221 rfl dX11_army_9 ?_
  obtain ⟨z_11, e_z_11, h⟩ := bi h
  refine roSi (rest := []) ⟨hx, hb, hml, hown, ht⟩ (c_X11_within l D cy fu  x1 0 t_length z_11 e_z_11) (cS ht ms_X11_within tb_504 rfl rfl ⟨Nat.le_of_ble_eq_true rfl, Nat.le_of_ble_eq_true rfl⟩) (P_sub hP.1 [] rfl) hX rfl hl.1 rfl (Nat.le_of_ble_eq_true rfl) dX11_army_12 ⟨Nat.le_of_ble_eq_true rfl, Nat.le_of_ble_eq_true rfl⟩ ?_
  refine lv_if_ne (tgt := 24) hx hb dX11_army_15 (by decide) (fun c_12 => ?_) (fun c_12 => ?_)
  · have h := ie c_12 h
    refine lv_aload_n hx hb dX11_army_24 rfl (lv_at hl 0 rfl) ?_
    refine xget (i := 0) (j := 0) (k := 8) (T := TX11) hx hb ht tb_iX11 hown hX hP.1 rfl rfl rfl (by decide) tb_437 rfl dX11_army_25 ?_
    refine lv_iload_n hx hb dX11_army_28 rfl (lv_at hl 1 rfl) ?_
    obtain ⟨z_13, e_z_13, h⟩ := bi h
    refine efVv (rest := []) ⟨hx, hb, hml, hown, ht⟩ (c_X6_begin l D cy fu A_r r_fault r_place A_t t_bytes t_wordCodes t_length t_kind t_start t_value t_word t_name t_end t_at x1 z_13 e_z_13 _ rfl _ rfl) (cV ht mv_X6_begin tb_574 rfl rfl ⟨Nat.le_of_ble_eq_true rfl, Nat.le_of_ble_eq_true rfl⟩) hP hS hX [4, 5] rfl rfl rfl rfl rfl rfl hl.1 rfl (Nat.le_of_ble_eq_true rfl) dX11_army_29 ⟨Nat.le_of_ble_eq_true rfl, Nat.le_of_ble_eq_true rfl⟩ (fun H locs hP hS => ?_)
    have hP : PD D A [bl_X11 cy A_b r_b_trays (A_a 0) (A_w 0) (A_d 0) r_b_draftWar (A_r 0) (A_k 0) r_b_warReader r_b_markedArmies r_b_markedWars r_b_latest r_b_trial r_b_foresight r_b_pairs b_latestStatus b_fractionTop b_fractionBottom b_marks, bl_X0 cy A_a a_name a_courage a_weight a_medals a_stood a_fled a_liked a_votes a_count a_living a_pride a_quota a_melted a_lost, bl_X9 cy A_w w_deed w_man w_other w_sign w_number w_mate w_there w_rows w_steps, bl_X0 cy A_d d_name d_courage d_weight d_medals d_stood d_fled d_liked d_votes d_count d_living d_pride d_quota d_melted d_lost, bl_X6 cy A_r (A_t 0) z_13.1 z_13.2.1, bl_X7 cy A_t t_bytes t_wordCodes t_length z_13.2.2.1 z_13.2.2.2.1 z_13.2.2.2.2.1 z_13.2.2.2.2.2.1 z_13.2.2.2.2.2.2.1 z_13.2.2.2.2.2.2.2.1 z_13.2.2.2.2.2.2.2.2, bl_X1 cy A_k (A_r 0) (A_d 0) k_prideTold k_quotaTold] H := hP
    refine lv_aload_n hx hb dX11_army_32 rfl (lv_at hl 0 rfl) ?_
    refine xget (i := 0) (j := 0) (k := 9) (T := TX11) hx hb ht tb_iX11 hown hX hP.1 rfl rfl rfl (by decide) tb_438 rfl dX11_army_33 ?_
    obtain ⟨z_14, e_z_14, h⟩ := bi h
    refine efVi (rest := []) ⟨hx, hb, hml, hown, ht⟩ (c_X1_readDraft l D cy fu A_k k_prideTold k_quotaTold A_r z_13.1 z_13.2.1 A_t t_bytes t_wordCodes t_length z_13.2.2.1 z_13.2.2.2.1 z_13.2.2.2.2.1 z_13.2.2.2.2.2.1 z_13.2.2.2.2.2.2.1 z_13.2.2.2.2.2.2.2.1 z_13.2.2.2.2.2.2.2.2 A_d d_name d_courage d_weight d_medals d_stood d_fled d_liked d_votes d_count d_living d_pride d_quota d_melted d_lost z_14 e_z_14 _ rfl _ rfl) (cV ht mv_X1_readDraft tb_606 rfl rfl ⟨Nat.le_of_ble_eq_true rfl, Nat.le_of_ble_eq_true rfl⟩) hP hS hX [6, 4, 5, 3] rfl rfl rfl rfl rfl rfl hl.1 rfl (Nat.le_of_ble_eq_true rfl) dX11_army_36 ⟨Nat.le_of_ble_eq_true rfl, Nat.le_of_ble_eq_true rfl⟩ (fun H locs hP hS => ?_)
    have hP : PD D A [bl_X11 cy A_b r_b_trays (A_a 0) (A_w 0) (A_d 0) r_b_draftWar (A_r 0) (A_k 0) r_b_warReader r_b_markedArmies r_b_markedWars r_b_latest r_b_trial r_b_foresight r_b_pairs b_latestStatus b_fractionTop b_fractionBottom b_marks, bl_X0 cy A_a a_name a_courage a_weight a_medals a_stood a_fled a_liked a_votes a_count a_living a_pride a_quota a_melted a_lost, bl_X9 cy A_w w_deed w_man w_other w_sign w_number w_mate w_there w_rows w_steps, bl_X0 cy A_d z_14.2.2.2.2.2.2.2.2.2.2.2.1 z_14.2.2.2.2.2.2.2.2.2.2.2.2.1 z_14.2.2.2.2.2.2.2.2.2.2.2.2.2.1 z_14.2.2.2.2.2.2.2.2.2.2.2.2.2.2.1 z_14.2.2.2.2.2.2.2.2.2.2.2.2.2.2.2.1 z_14.2.2.2.2.2.2.2.2.2.2.2.2.2.2.2.2.1 z_14.2.2.2.2.2.2.2.2.2.2.2.2.2.2.2.2.2.1 d_votes z_14.2.2.2.2.2.2.2.2.2.2.2.2.2.2.2.2.2.2.1 z_14.2.2.2.2.2.2.2.2.2.2.2.2.2.2.2.2.2.2.2.1 z_14.2.2.2.2.2.2.2.2.2.2.2.2.2.2.2.2.2.2.2.2.1 z_14.2.2.2.2.2.2.2.2.2.2.2.2.2.2.2.2.2.2.2.2.2.1 z_14.2.2.2.2.2.2.2.2.2.2.2.2.2.2.2.2.2.2.2.2.2.2.1 z_14.2.2.2.2.2.2.2.2.2.2.2.2.2.2.2.2.2.2.2.2.2.2.2, bl_X6 cy A_r (A_t 0) z_14.2.2.2.1 z_14.2.2.2.2.1, bl_X7 cy A_t t_bytes t_wordCodes t_length z_14.2.2.2.2.2.1 z_14.2.2.2.2.2.2.1 z_14.2.2.2.2.2.2.2.1 z_14.2.2.2.2.2.2.2.2.1 z_14.2.2.2.2.2.2.2.2.2.1 z_13.2.2.2.2.2.2.2.1 z_14.2.2.2.2.2.2.2.2.2.2.1, bl_X1 cy A_k (A_r 0) (A_d 0) z_14.2.1 z_14.2.2.1] H := hP
    refine lv_istore_n (lv' := [(2, .int z_14.1), (0, .ref (A_b 0)), (1, .int x1)]) hx hb dX11_army_39 rfl hl (by decide) rfl (fun ls hl => ?_)
    refine lv_aload_n hx hb dX11_army_40 rfl (lv_at hl 1 rfl) ?_
    refine xget (i := 0) (j := 0) (k := 8) (T := TX11) hx hb ht tb_iX11 hown hX hP.1 rfl rfl rfl (by decide) tb_437 rfl dX11_army_41 ?_
    refine xget (i := 4) (j := 0) (k := 0) (T := TX6) hx hb ht tb_iX6 hown hX hP.1 rfl rfl rfl (by decide) tb_263 rfl dX11_army_44 ?_
    refine lv_iconst (v := 0) hx hb dX11_army_47 (by decide) ?_
    refine xput (i := 5) (j := 0) (k := 2) (T := TX7) tyX7 tyX7_ok nmX7 hx hb ht tb_iX7 hown hX hP hS rfl rfl rfl (by decide) tb_221 rfl rfl rfl (Nat.le_of_ble_eq_true rfl) dX11_army_48 (fun H locs hP hS => ?_)
    have hP : PD D A [bl_X11 cy A_b r_b_trays (A_a 0) (A_w 0) (A_d 0) r_b_draftWar (A_r 0) (A_k 0) r_b_warReader r_b_markedArmies r_b_markedWars r_b_latest r_b_trial r_b_foresight r_b_pairs b_latestStatus b_fractionTop b_fractionBottom b_marks, bl_X0 cy A_a a_name a_courage a_weight a_medals a_stood a_fled a_liked a_votes a_count a_living a_pride a_quota a_melted a_lost, bl_X9 cy A_w w_deed w_man w_other w_sign w_number w_mate w_there w_rows w_steps, bl_X0 cy A_d z_14.2.2.2.2.2.2.2.2.2.2.2.1 z_14.2.2.2.2.2.2.2.2.2.2.2.2.1 z_14.2.2.2.2.2.2.2.2.2.2.2.2.2.1 z_14.2.2.2.2.2.2.2.2.2.2.2.2.2.2.1 z_14.2.2.2.2.2.2.2.2.2.2.2.2.2.2.2.1 z_14.2.2.2.2.2.2.2.2.2.2.2.2.2.2.2.2.1 z_14.2.2.2.2.2.2.2.2.2.2.2.2.2.2.2.2.2.1 d_votes z_14.2.2.2.2.2.2.2.2.2.2.2.2.2.2.2.2.2.2.1 z_14.2.2.2.2.2.2.2.2.2.2.2.2.2.2.2.2.2.2.2.1 z_14.2.2.2.2.2.2.2.2.2.2.2.2.2.2.2.2.2.2.2.2.1 z_14.2.2.2.2.2.2.2.2.2.2.2.2.2.2.2.2.2.2.2.2.2.1 z_14.2.2.2.2.2.2.2.2.2.2.2.2.2.2.2.2.2.2.2.2.2.2.1 z_14.2.2.2.2.2.2.2.2.2.2.2.2.2.2.2.2.2.2.2.2.2.2.2, bl_X6 cy A_r (A_t 0) z_14.2.2.2.1 z_14.2.2.2.2.1, bl_X7 cy A_t t_bytes t_wordCodes 0 z_14.2.2.2.2.2.1 z_14.2.2.2.2.2.2.1 z_14.2.2.2.2.2.2.2.1 z_14.2.2.2.2.2.2.2.2.1 z_14.2.2.2.2.2.2.2.2.2.1 z_13.2.2.2.2.2.2.2.1 z_14.2.2.2.2.2.2.2.2.2.2.1, bl_X1 cy A_k (A_r 0) (A_d 0) z_14.2.1 z_14.2.2.1] H := hP
    refine lv_iload_n hx hb dX11_army_51 rfl (lv_at hl 0 rfl) ?_
    refine lv_if_ne (tgt := 62) hx hb dX11_army_52 (by decide) (fun c_15 => ?_) (fun c_15 => ?_)
    · have h := ie c_15 h
      refine lv_aload_n hx hb dX11_army_62 rfl (lv_at hl 1 rfl) ?_
      refine xget (i := 0) (j := 0) (k := 4) (T := TX11) hx hb ht tb_iX11 hown hX hP.1 rfl rfl rfl (by decide) tb_433 rfl dX11_army_63 ?_
      refine lv_aload_n hx hb dX11_army_66 rfl (lv_at hl 1 rfl) ?_
      refine xget (i := 0) (j := 0) (k := 6) (T := TX11) hx hb ht tb_iX11 hown hX hP.1 rfl rfl rfl (by decide) tb_435 rfl dX11_army_67 ?_
      obtain ⟨z_16, e_z_16, h⟩ := bi h
      refine efVv (rest := []) ⟨hx, hb, hml, hown, ht⟩ (c_X0_become l D cy fu A_a a_name a_courage a_weight a_medals a_stood a_fled a_liked a_votes a_count a_living a_pride a_quota a_melted a_lost A_d z_14.2.2.2.2.2.2.2.2.2.2.2.1 z_14.2.2.2.2.2.2.2.2.2.2.2.2.1 z_14.2.2.2.2.2.2.2.2.2.2.2.2.2.1 z_14.2.2.2.2.2.2.2.2.2.2.2.2.2.2.1 z_14.2.2.2.2.2.2.2.2.2.2.2.2.2.2.2.1 z_14.2.2.2.2.2.2.2.2.2.2.2.2.2.2.2.2.1 z_14.2.2.2.2.2.2.2.2.2.2.2.2.2.2.2.2.2.1 d_votes z_14.2.2.2.2.2.2.2.2.2.2.2.2.2.2.2.2.2.2.1 z_14.2.2.2.2.2.2.2.2.2.2.2.2.2.2.2.2.2.2.2.1 z_14.2.2.2.2.2.2.2.2.2.2.2.2.2.2.2.2.2.2.2.2.1 z_14.2.2.2.2.2.2.2.2.2.2.2.2.2.2.2.2.2.2.2.2.2.1 z_14.2.2.2.2.2.2.2.2.2.2.2.2.2.2.2.2.2.2.2.2.2.2.1 z_14.2.2.2.2.2.2.2.2.2.2.2.2.2.2.2.2.2.2.2.2.2.2.2 z_16 e_z_16 _ rfl _ rfl) (cV ht mv_X0_become tb_687 rfl rfl ⟨Nat.le_of_ble_eq_true rfl, Nat.le_of_ble_eq_true rfl⟩) hP hS hX [1, 3] rfl rfl rfl rfl rfl rfl hl.1 rfl (Nat.le_of_ble_eq_true rfl) dX11_army_70 ⟨Nat.le_of_ble_eq_true rfl, Nat.le_of_ble_eq_true rfl⟩ (fun H locs hP hS => ?_)
      have hP : PD D A [bl_X11 cy A_b r_b_trays (A_a 0) (A_w 0) (A_d 0) r_b_draftWar (A_r 0) (A_k 0) r_b_warReader r_b_markedArmies r_b_markedWars r_b_latest r_b_trial r_b_foresight r_b_pairs b_latestStatus b_fractionTop b_fractionBottom b_marks, bl_X0 cy A_a z_16.1 z_16.2.1 z_16.2.2.1 z_16.2.2.2.1 z_16.2.2.2.2.1 z_16.2.2.2.2.2.1 z_16.2.2.2.2.2.2.1 a_votes z_16.2.2.2.2.2.2.2.1 z_16.2.2.2.2.2.2.2.2.1 z_16.2.2.2.2.2.2.2.2.2.1 z_16.2.2.2.2.2.2.2.2.2.2.1 z_16.2.2.2.2.2.2.2.2.2.2.2.1 z_16.2.2.2.2.2.2.2.2.2.2.2.2, bl_X9 cy A_w w_deed w_man w_other w_sign w_number w_mate w_there w_rows w_steps, bl_X0 cy A_d z_14.2.2.2.2.2.2.2.2.2.2.2.1 z_14.2.2.2.2.2.2.2.2.2.2.2.2.1 z_14.2.2.2.2.2.2.2.2.2.2.2.2.2.1 z_14.2.2.2.2.2.2.2.2.2.2.2.2.2.2.1 z_14.2.2.2.2.2.2.2.2.2.2.2.2.2.2.2.1 z_14.2.2.2.2.2.2.2.2.2.2.2.2.2.2.2.2.1 z_14.2.2.2.2.2.2.2.2.2.2.2.2.2.2.2.2.2.1 d_votes z_14.2.2.2.2.2.2.2.2.2.2.2.2.2.2.2.2.2.2.1 z_14.2.2.2.2.2.2.2.2.2.2.2.2.2.2.2.2.2.2.2.1 z_14.2.2.2.2.2.2.2.2.2.2.2.2.2.2.2.2.2.2.2.2.1 z_14.2.2.2.2.2.2.2.2.2.2.2.2.2.2.2.2.2.2.2.2.2.1 z_14.2.2.2.2.2.2.2.2.2.2.2.2.2.2.2.2.2.2.2.2.2.2.1 z_14.2.2.2.2.2.2.2.2.2.2.2.2.2.2.2.2.2.2.2.2.2.2.2, bl_X6 cy A_r (A_t 0) z_14.2.2.2.1 z_14.2.2.2.2.1, bl_X7 cy A_t t_bytes t_wordCodes 0 z_14.2.2.2.2.2.1 z_14.2.2.2.2.2.2.1 z_14.2.2.2.2.2.2.2.1 z_14.2.2.2.2.2.2.2.2.1 z_14.2.2.2.2.2.2.2.2.2.1 z_13.2.2.2.2.2.2.2.1 z_14.2.2.2.2.2.2.2.2.2.2.1, bl_X1 cy A_k (A_r 0) (A_d 0) z_14.2.1 z_14.2.2.1] H := hP
      refine lv_aload_n hx hb dX11_army_73 rfl (lv_at hl 1 rfl) ?_
      refine xget (i := 0) (j := 0) (k := 5) (T := TX11) hx hb ht tb_iX11 hown hX hP.1 rfl rfl rfl (by decide) tb_434 rfl dX11_army_74 ?_
      obtain ⟨z_17, e_z_17, h⟩ := bi h
      refine efVv (rest := []) ⟨hx, hb, hml, hown, ht⟩ (c_X9_clear l D cy fu A_w w_deed w_man w_other w_sign w_number w_mate w_there w_rows w_steps z_17 e_z_17 _ rfl _ rfl) (cV ht mv_X9_clear tb_692 rfl rfl ⟨Nat.le_of_ble_eq_true rfl, Nat.le_of_ble_eq_true rfl⟩) hP hS hX [2] rfl rfl rfl rfl rfl rfl hl.1 rfl (Nat.le_of_ble_eq_true rfl) dX11_army_77 ⟨Nat.le_of_ble_eq_true rfl, Nat.le_of_ble_eq_true rfl⟩ (fun H locs hP hS => ?_)
      have hP : PD D A [bl_X11 cy A_b r_b_trays (A_a 0) (A_w 0) (A_d 0) r_b_draftWar (A_r 0) (A_k 0) r_b_warReader r_b_markedArmies r_b_markedWars r_b_latest r_b_trial r_b_foresight r_b_pairs b_latestStatus b_fractionTop b_fractionBottom b_marks, bl_X0 cy A_a z_16.1 z_16.2.1 z_16.2.2.1 z_16.2.2.2.1 z_16.2.2.2.2.1 z_16.2.2.2.2.2.1 z_16.2.2.2.2.2.2.1 a_votes z_16.2.2.2.2.2.2.2.1 z_16.2.2.2.2.2.2.2.2.1 z_16.2.2.2.2.2.2.2.2.2.1 z_16.2.2.2.2.2.2.2.2.2.2.1 z_16.2.2.2.2.2.2.2.2.2.2.2.1 z_16.2.2.2.2.2.2.2.2.2.2.2.2, bl_X9 cy A_w w_deed w_man w_other w_sign w_number w_mate z_17.1 z_17.2.1 z_17.2.2, bl_X0 cy A_d z_14.2.2.2.2.2.2.2.2.2.2.2.1 z_14.2.2.2.2.2.2.2.2.2.2.2.2.1 z_14.2.2.2.2.2.2.2.2.2.2.2.2.2.1 z_14.2.2.2.2.2.2.2.2.2.2.2.2.2.2.1 z_14.2.2.2.2.2.2.2.2.2.2.2.2.2.2.2.1 z_14.2.2.2.2.2.2.2.2.2.2.2.2.2.2.2.2.1 z_14.2.2.2.2.2.2.2.2.2.2.2.2.2.2.2.2.2.1 d_votes z_14.2.2.2.2.2.2.2.2.2.2.2.2.2.2.2.2.2.2.1 z_14.2.2.2.2.2.2.2.2.2.2.2.2.2.2.2.2.2.2.2.1 z_14.2.2.2.2.2.2.2.2.2.2.2.2.2.2.2.2.2.2.2.2.1 z_14.2.2.2.2.2.2.2.2.2.2.2.2.2.2.2.2.2.2.2.2.2.1 z_14.2.2.2.2.2.2.2.2.2.2.2.2.2.2.2.2.2.2.2.2.2.2.1 z_14.2.2.2.2.2.2.2.2.2.2.2.2.2.2.2.2.2.2.2.2.2.2.2, bl_X6 cy A_r (A_t 0) z_14.2.2.2.1 z_14.2.2.2.2.1, bl_X7 cy A_t t_bytes t_wordCodes 0 z_14.2.2.2.2.2.1 z_14.2.2.2.2.2.2.1 z_14.2.2.2.2.2.2.2.1 z_14.2.2.2.2.2.2.2.2.1 z_14.2.2.2.2.2.2.2.2.2.1 z_13.2.2.2.2.2.2.2.1 z_14.2.2.2.2.2.2.2.2.2.2.1, bl_X1 cy A_k (A_r 0) (A_d 0) z_14.2.1 z_14.2.2.1] H := hP
      refine lv_aload_n hx hb dX11_army_80 rfl (lv_at hl 1 rfl) ?_
      refine lv_aload_n hx hb dX11_army_81 rfl (lv_at hl 1 rfl) ?_
      refine xget (i := 0) (j := 0) (k := 4) (T := TX11) hx hb ht tb_iX11 hown hX hP.1 rfl rfl rfl (by decide) tb_433 rfl dX11_army_82 ?_
      refine xget (i := 1) (j := 0) (k := 8) (T := TX0) hx hb ht tb_iX0 hown hX hP.1 rfl rfl rfl (by decide) tb_60 rfl dX11_army_85 ?_
      obtain ⟨z_18, e_z_18, h⟩ := bi h
      refine efVi (rest := []) ⟨hx, hb, hml, hown, ht⟩ (c_X11_answer l D cy fu A_b r_b_trays (A_a 0) (A_w 0) (A_d 0) r_b_draftWar (A_r 0) (A_k 0) r_b_warReader r_b_markedArmies r_b_markedWars r_b_latest r_b_trial r_b_foresight r_b_pairs b_latestStatus b_fractionTop b_fractionBottom b_marks z_16.2.2.2.2.2.2.2.1 z_18 e_z_18 _ rfl _ rfl) (cV ht mv_X11_answer tb_696 rfl rfl ⟨Nat.le_of_ble_eq_true rfl, Nat.le_of_ble_eq_true rfl⟩) hP hS hX [0] rfl rfl rfl rfl rfl rfl hl.1 rfl (Nat.le_of_ble_eq_true rfl) dX11_army_88 ⟨Nat.le_of_ble_eq_true rfl, Nat.le_of_ble_eq_true rfl⟩ (fun H locs hP hS => ?_)
      have hP : PD D A [bl_X11 cy A_b r_b_trays (A_a 0) (A_w 0) (A_d 0) r_b_draftWar (A_r 0) (A_k 0) r_b_warReader r_b_markedArmies r_b_markedWars r_b_latest r_b_trial r_b_foresight r_b_pairs z_18.2 b_fractionTop b_fractionBottom b_marks, bl_X0 cy A_a z_16.1 z_16.2.1 z_16.2.2.1 z_16.2.2.2.1 z_16.2.2.2.2.1 z_16.2.2.2.2.2.1 z_16.2.2.2.2.2.2.1 a_votes z_16.2.2.2.2.2.2.2.1 z_16.2.2.2.2.2.2.2.2.1 z_16.2.2.2.2.2.2.2.2.2.1 z_16.2.2.2.2.2.2.2.2.2.2.1 z_16.2.2.2.2.2.2.2.2.2.2.2.1 z_16.2.2.2.2.2.2.2.2.2.2.2.2, bl_X9 cy A_w w_deed w_man w_other w_sign w_number w_mate z_17.1 z_17.2.1 z_17.2.2, bl_X0 cy A_d z_14.2.2.2.2.2.2.2.2.2.2.2.1 z_14.2.2.2.2.2.2.2.2.2.2.2.2.1 z_14.2.2.2.2.2.2.2.2.2.2.2.2.2.1 z_14.2.2.2.2.2.2.2.2.2.2.2.2.2.2.1 z_14.2.2.2.2.2.2.2.2.2.2.2.2.2.2.2.1 z_14.2.2.2.2.2.2.2.2.2.2.2.2.2.2.2.2.1 z_14.2.2.2.2.2.2.2.2.2.2.2.2.2.2.2.2.2.1 d_votes z_14.2.2.2.2.2.2.2.2.2.2.2.2.2.2.2.2.2.2.1 z_14.2.2.2.2.2.2.2.2.2.2.2.2.2.2.2.2.2.2.2.1 z_14.2.2.2.2.2.2.2.2.2.2.2.2.2.2.2.2.2.2.2.2.1 z_14.2.2.2.2.2.2.2.2.2.2.2.2.2.2.2.2.2.2.2.2.2.1 z_14.2.2.2.2.2.2.2.2.2.2.2.2.2.2.2.2.2.2.2.2.2.2.1 z_14.2.2.2.2.2.2.2.2.2.2.2.2.2.2.2.2.2.2.2.2.2.2.2, bl_X6 cy A_r (A_t 0) z_14.2.2.2.1 z_14.2.2.2.2.1, bl_X7 cy A_t t_bytes t_wordCodes 0 z_14.2.2.2.2.2.1 z_14.2.2.2.2.2.2.1 z_14.2.2.2.2.2.2.2.1 z_14.2.2.2.2.2.2.2.2.1 z_14.2.2.2.2.2.2.2.2.2.1 z_13.2.2.2.2.2.2.2.1 z_14.2.2.2.2.2.2.2.2.2.2.1, bl_X1 cy A_k (A_r 0) (A_d 0) z_14.2.1 z_14.2.2.1] H := hP
      cases h
      subst hW1
      exact W.iret hx hb hr (fun _ ht9 _ => ⟨⟨_, (), rfl, rfl, hPt ht9 hP.1⟩, hS.F ht9⟩) hS.2.2 dX11_army_91
    · have h := it c_15 h
      refine lv_aload_n hx hb dX11_army_55 rfl (lv_at hl 1 rfl) ?_
      refine lv_bipush (v := 9) hx hb dX11_army_56 (by decide) ?_
      obtain ⟨z_19, e_z_19, h⟩ := bi h
      refine efVi (rest := []) ⟨hx, hb, hml, hown, ht⟩ (c_X11_refuse l D cy fu A_b r_b_trays (A_a 0) (A_w 0) (A_d 0) r_b_draftWar (A_r 0) (A_k 0) r_b_warReader r_b_markedArmies r_b_markedWars r_b_latest r_b_trial r_b_foresight r_b_pairs b_latestStatus b_fractionTop b_fractionBottom b_marks 9 z_19 e_z_19 _ rfl _ rfl) (cV ht mv_X11_refuse tb_543 rfl rfl ⟨Nat.le_of_ble_eq_true rfl, Nat.le_of_ble_eq_true rfl⟩) hP hS hX [0] rfl rfl rfl rfl rfl rfl hl.1 rfl (Nat.le_of_ble_eq_true rfl) dX11_army_58 ⟨Nat.le_of_ble_eq_true rfl, Nat.le_of_ble_eq_true rfl⟩ (fun H locs hP hS => ?_)
      have hP : PD D A [bl_X11 cy A_b r_b_trays (A_a 0) (A_w 0) (A_d 0) r_b_draftWar (A_r 0) (A_k 0) r_b_warReader r_b_markedArmies r_b_markedWars r_b_latest r_b_trial r_b_foresight r_b_pairs z_19.2 b_fractionTop b_fractionBottom b_marks, bl_X0 cy A_a a_name a_courage a_weight a_medals a_stood a_fled a_liked a_votes a_count a_living a_pride a_quota a_melted a_lost, bl_X9 cy A_w w_deed w_man w_other w_sign w_number w_mate w_there w_rows w_steps, bl_X0 cy A_d z_14.2.2.2.2.2.2.2.2.2.2.2.1 z_14.2.2.2.2.2.2.2.2.2.2.2.2.1 z_14.2.2.2.2.2.2.2.2.2.2.2.2.2.1 z_14.2.2.2.2.2.2.2.2.2.2.2.2.2.2.1 z_14.2.2.2.2.2.2.2.2.2.2.2.2.2.2.2.1 z_14.2.2.2.2.2.2.2.2.2.2.2.2.2.2.2.2.1 z_14.2.2.2.2.2.2.2.2.2.2.2.2.2.2.2.2.2.1 d_votes z_14.2.2.2.2.2.2.2.2.2.2.2.2.2.2.2.2.2.2.1 z_14.2.2.2.2.2.2.2.2.2.2.2.2.2.2.2.2.2.2.2.1 z_14.2.2.2.2.2.2.2.2.2.2.2.2.2.2.2.2.2.2.2.2.1 z_14.2.2.2.2.2.2.2.2.2.2.2.2.2.2.2.2.2.2.2.2.2.1 z_14.2.2.2.2.2.2.2.2.2.2.2.2.2.2.2.2.2.2.2.2.2.2.1 z_14.2.2.2.2.2.2.2.2.2.2.2.2.2.2.2.2.2.2.2.2.2.2.2, bl_X6 cy A_r (A_t 0) z_14.2.2.2.1 z_14.2.2.2.2.1, bl_X7 cy A_t t_bytes t_wordCodes 0 z_14.2.2.2.2.2.1 z_14.2.2.2.2.2.2.1 z_14.2.2.2.2.2.2.2.1 z_14.2.2.2.2.2.2.2.2.1 z_14.2.2.2.2.2.2.2.2.2.1 z_13.2.2.2.2.2.2.2.1 z_14.2.2.2.2.2.2.2.2.2.2.1, bl_X1 cy A_k (A_r 0) (A_d 0) z_14.2.1 z_14.2.2.1] H := hP
      cases h
      subst hW1
      exact W.iret hx hb hr (fun _ ht9 _ => ⟨⟨_, (), rfl, rfl, hPt ht9 hP.1⟩, hS.F ht9⟩) hS.2.2 dX11_army_61
  · have h := it c_12 h
    refine lv_aload_n hx hb dX11_army_18 rfl (lv_at hl 0 rfl) ?_
    refine lv_iconst (v := 1) hx hb dX11_army_19 (by decide) ?_
    obtain ⟨z_20, e_z_20, h⟩ := bi h
    refine efVi (rest := []) ⟨hx, hb, hml, hown, ht⟩ (c_X11_refuse l D cy fu A_b r_b_trays (A_a 0) (A_w 0) (A_d 0) r_b_draftWar (A_r 0) (A_k 0) r_b_warReader r_b_markedArmies r_b_markedWars r_b_latest r_b_trial r_b_foresight r_b_pairs b_latestStatus b_fractionTop b_fractionBottom b_marks 1 z_20 e_z_20 _ rfl _ rfl) (cV ht mv_X11_refuse tb_543 rfl rfl ⟨Nat.le_of_ble_eq_true rfl, Nat.le_of_ble_eq_true rfl⟩) hP hS hX [0] rfl rfl rfl rfl rfl rfl hl.1 rfl (Nat.le_of_ble_eq_true rfl) dX11_army_20 ⟨Nat.le_of_ble_eq_true rfl, Nat.le_of_ble_eq_true rfl⟩ (fun H locs hP hS => ?_)
    have hP : PD D A [bl_X11 cy A_b r_b_trays (A_a 0) (A_w 0) (A_d 0) r_b_draftWar (A_r 0) (A_k 0) r_b_warReader r_b_markedArmies r_b_markedWars r_b_latest r_b_trial r_b_foresight r_b_pairs z_20.2 b_fractionTop b_fractionBottom b_marks, bl_X0 cy A_a a_name a_courage a_weight a_medals a_stood a_fled a_liked a_votes a_count a_living a_pride a_quota a_melted a_lost, bl_X9 cy A_w w_deed w_man w_other w_sign w_number w_mate w_there w_rows w_steps, bl_X0 cy A_d d_name d_courage d_weight d_medals d_stood d_fled d_liked d_votes d_count d_living d_pride d_quota d_melted d_lost, bl_X6 cy A_r (A_t 0) r_fault r_place, bl_X7 cy A_t t_bytes t_wordCodes t_length t_kind t_start t_value t_word t_name t_end t_at, bl_X1 cy A_k (A_r 0) (A_d 0) k_prideTold k_quotaTold] H := hP
    cases h
    subst hW1
    exact W.iret hx hb hr (fun _ ht9 _ => ⟨⟨_, (), rfl, rfl, hPt ht9 hP.1⟩, hS.F ht9⟩) hS.2.2 dX11_army_23
theorem dX11_war_0 : decode cX11_war 0 = .ok (.iload_n 1, 1) := by decide +kernel
theorem dX11_war_1 : decode cX11_war 1 = .ok (.iconst 0, 1) := by decide +kernel
theorem dX11_war_2 : decode cX11_war 2 = .ok (.aload_n 0, 1) := by decide +kernel
theorem dX11_war_3 : decode cX11_war 3 = .ok (.getfield 49, 3) := by decide +kernel
theorem dX11_war_6 : decode cX11_war 6 = .ok (.getfield 164, 3) := by decide +kernel
theorem dX11_war_9 : decode cX11_war 9 = .ok (.getfield 174, 3) := by decide +kernel
theorem dX11_war_12 : decode cX11_war 12 = .ok (.sipush 300, 3) := by decide +kernel
theorem dX11_war_15 : decode cX11_war 15 = .ok (.invokestatic 196, 3) := by decide +kernel
theorem dX11_war_18 : decode cX11_war 18 = .ok (.invokestatic 115, 3) := by decide +kernel
theorem dX11_war_21 : decode cX11_war 21 = .ok (.ifCond .ne 9, 3) := by decide +kernel
theorem dX11_war_24 : decode cX11_war 24 = .ok (.aload_n 0, 1) := by decide +kernel
theorem dX11_war_25 : decode cX11_war 25 = .ok (.iconst 1, 1) := by decide +kernel
theorem dX11_war_26 : decode cX11_war 26 = .ok (.invokevirtual 143, 3) := by decide +kernel
theorem dX11_war_29 : decode cX11_war 29 = .ok (.ireturn, 1) := by decide +kernel
theorem dX11_war_30 : decode cX11_war 30 = .ok (.aload_n 0, 1) := by decide +kernel
theorem dX11_war_31 : decode cX11_war 31 = .ok (.getfield 49, 3) := by decide +kernel
theorem dX11_war_34 : decode cX11_war 34 = .ok (.iload_n 1, 1) := by decide +kernel
theorem dX11_war_35 : decode cX11_war 35 = .ok (.invokevirtual 177, 3) := by decide +kernel
theorem dX11_war_38 : decode cX11_war 38 = .ok (.aload_n 0, 1) := by decide +kernel
theorem dX11_war_39 : decode cX11_war 39 = .ok (.getfield 67, 3) := by decide +kernel
theorem dX11_war_42 : decode cX11_war 42 = .ok (.invokevirtual 202, 3) := by decide +kernel
theorem dX11_war_45 : decode cX11_war 45 = .ok (.istore_n 2, 1) := by decide +kernel
theorem dX11_war_46 : decode cX11_war 46 = .ok (.aload_n 0, 1) := by decide +kernel
theorem dX11_war_47 : decode cX11_war 47 = .ok (.getfield 49, 3) := by decide +kernel
theorem dX11_war_50 : decode cX11_war 50 = .ok (.getfield 164, 3) := by decide +kernel
theorem dX11_war_53 : decode cX11_war 53 = .ok (.iconst 0, 1) := by decide +kernel
theorem dX11_war_54 : decode cX11_war 54 = .ok (.putfield 174, 3) := by decide +kernel
theorem dX11_war_57 : decode cX11_war 57 = .ok (.iload_n 2, 1) := by decide +kernel
theorem dX11_war_58 : decode cX11_war 58 = .ok (.ifCond .ne 10, 3) := by decide +kernel
theorem dX11_war_61 : decode cX11_war 61 = .ok (.aload_n 0, 1) := by decide +kernel
theorem dX11_war_62 : decode cX11_war 62 = .ok (.bipush 9, 2) := by decide +kernel
theorem dX11_war_64 : decode cX11_war 64 = .ok (.invokevirtual 143, 3) := by decide +kernel
theorem dX11_war_67 : decode cX11_war 67 = .ok (.ireturn, 1) := by decide +kernel
theorem dX11_war_68 : decode cX11_war 68 = .ok (.aload_n 0, 1) := by decide +kernel
theorem dX11_war_69 : decode cX11_war 69 = .ok (.getfield 36, 3) := by decide +kernel
theorem dX11_war_72 : decode cX11_war 72 = .ok (.aload_n 0, 1) := by decide +kernel
theorem dX11_war_73 : decode cX11_war 73 = .ok (.getfield 43, 3) := by decide +kernel
theorem dX11_war_76 : decode cX11_war 76 = .ok (.invokevirtual 203, 3) := by decide +kernel
theorem dX11_war_79 : decode cX11_war 79 = .ok (.aload_n 0, 1) := by decide +kernel
theorem dX11_war_80 : decode cX11_war 80 = .ok (.aload_n 0, 1) := by decide +kernel
theorem dX11_war_81 : decode cX11_war 81 = .ok (.getfield 36, 3) := by decide +kernel
theorem dX11_war_84 : decode cX11_war 84 = .ok (.getfield 206, 3) := by decide +kernel
theorem dX11_war_87 : decode cX11_war 87 = .ok (.invokevirtual 193, 3) := by decide +kernel
theorem dX11_war_90 : decode cX11_war 90 = .ok (.ireturn, 1) := by decide +kernel
theorem mv_X11_war : MV yX11_war RX11 cX11_war 3 (some .int) 1 := ⟨tb_703, tb_701, tb_702, tb_1, by decide +kernel, by decide +kernel, by decide +kernel⟩
def f_X11_war (fu : Nat) (b_latestStatus : Int32) (a_name : Nat → Int64) (a_count : Int32) (w_deed : Nat → Int32) (w_man : Nat → Int32) (w_other : Nat → Int32) (w_sign : Nat → Int32) (w_number : Nat → Int32) (w_mate : Nat → Int32) (w_there : Int32) (w_rows : Int32) (w_steps : Int32) (e_deed : Nat → Int32) (e_man : Nat → Int32) (e_other : Nat → Int32) (e_sign : Nat → Int32) (e_number : Nat → Int32) (e_mate : Nat → Int32) (e_there : Int32) (e_rows : Int32) (e_steps : Int32) (r_fault : Int32) (r_place : Int32) (t_bytes : Nat → Int32) (t_wordCodes : Nat → Int64) (t_length : Int32) (t_kind : Int32) (t_start : Int32) (t_value : Int32) (t_word : Int32) (t_name : Int64) (t_end : Int32) (t_at : Int32) (g_open : Nat → Int32) (g_depth : Int32) (x1 : Int32) : Option (Int32 × Int32 × (Nat → Int32) × (Nat → Int32) × (Nat → Int32) × (Nat → Int32) × (Nat → Int32) × (Nat → Int32) × Int32 × Int32 × Int32 × (Nat → Int32) × (Nat → Int32) × (Nat → Int32) × (Nat → Int32) × (Nat → Int32) × (Nat → Int32) × Int32 × Int32 × Int32 × Int32 × Int32 × Int32 × Int32 × Int32 × Int32 × Int32 × Int64 × Int32 × Int32 × (Nat → Int32) × Int32) := (f_X11_within fu x1 0 (if 300 < t_length then 300 else t_length)).bind fun z_10 => (if z_10 = 0 then (f_X11_refuse fu b_latestStatus 1).bind fun z_18 => some (z_18.1, z_18.2, w_deed, w_man, w_other, w_sign, w_number, w_mate, w_there, w_rows, w_steps, e_deed, e_man, e_other, e_sign, e_number, e_mate, e_there, e_rows, e_steps, r_fault, r_place, t_length, t_kind, t_start, t_value, t_word, t_name, t_end, t_at, g_open, g_depth) else (f_X6_begin fu r_fault r_place t_bytes t_wordCodes t_kind t_start t_value t_word t_name t_end t_at x1).bind fun z_12 => (f_X10_readDraft fu g_open g_depth z_12.1 z_12.2.1 t_bytes t_wordCodes z_12.2.2.1 z_12.2.2.2.1 z_12.2.2.2.2.1 z_12.2.2.2.2.2.1 z_12.2.2.2.2.2.2.1 z_12.2.2.2.2.2.2.2.1 z_12.2.2.2.2.2.2.2.2 e_deed e_man e_other e_sign e_number e_mate e_there e_rows e_steps a_name a_count).bind fun z_13 => (if z_13.1 = 0 then (f_X11_refuse fu b_latestStatus 9).bind fun z_17 => some (z_17.1, z_17.2, w_deed, w_man, w_other, w_sign, w_number, w_mate, w_there, w_rows, w_steps, z_13.2.2.2.2.2.2.2.2.2.2.2.1, z_13.2.2.2.2.2.2.2.2.2.2.2.2.1, z_13.2.2.2.2.2.2.2.2.2.2.2.2.2.1, z_13.2.2.2.2.2.2.2.2.2.2.2.2.2.2.1, z_13.2.2.2.2.2.2.2.2.2.2.2.2.2.2.2.1, z_13.2.2.2.2.2.2.2.2.2.2.2.2.2.2.2.2.1, z_13.2.2.2.2.2.2.2.2.2.2.2.2.2.2.2.2.2.1, z_13.2.2.2.2.2.2.2.2.2.2.2.2.2.2.2.2.2.2.1, z_13.2.2.2.2.2.2.2.2.2.2.2.2.2.2.2.2.2.2.2, z_13.2.2.2.1, z_13.2.2.2.2.1, 0, z_13.2.2.2.2.2.1, z_13.2.2.2.2.2.2.1, z_13.2.2.2.2.2.2.2.1, z_13.2.2.2.2.2.2.2.2.1, z_13.2.2.2.2.2.2.2.2.2.1, z_12.2.2.2.2.2.2.2.1, z_13.2.2.2.2.2.2.2.2.2.2.1, z_13.2.1, z_13.2.2.1) else (f_X9_become fu w_deed w_man w_other w_sign w_number w_mate w_there w_rows w_steps z_13.2.2.2.2.2.2.2.2.2.2.2.1 z_13.2.2.2.2.2.2.2.2.2.2.2.2.1 z_13.2.2.2.2.2.2.2.2.2.2.2.2.2.1 z_13.2.2.2.2.2.2.2.2.2.2.2.2.2.2.1 z_13.2.2.2.2.2.2.2.2.2.2.2.2.2.2.2.1 z_13.2.2.2.2.2.2.2.2.2.2.2.2.2.2.2.2.1 z_13.2.2.2.2.2.2.2.2.2.2.2.2.2.2.2.2.2.1 z_13.2.2.2.2.2.2.2.2.2.2.2.2.2.2.2.2.2.2.1 z_13.2.2.2.2.2.2.2.2.2.2.2.2.2.2.2.2.2.2.2).bind fun z_15 => (f_X11_answer fu b_latestStatus z_15.2.2.2.2.2.2.2.2).bind fun z_16 => some (z_16.1, z_16.2, z_15.1, z_15.2.1, z_15.2.2.1, z_15.2.2.2.1, z_15.2.2.2.2.1, z_15.2.2.2.2.2.1, z_15.2.2.2.2.2.2.1, z_15.2.2.2.2.2.2.2.1, z_15.2.2.2.2.2.2.2.2, z_13.2.2.2.2.2.2.2.2.2.2.2.1, z_13.2.2.2.2.2.2.2.2.2.2.2.2.1, z_13.2.2.2.2.2.2.2.2.2.2.2.2.2.1, z_13.2.2.2.2.2.2.2.2.2.2.2.2.2.2.1, z_13.2.2.2.2.2.2.2.2.2.2.2.2.2.2.2.1, z_13.2.2.2.2.2.2.2.2.2.2.2.2.2.2.2.2.1, z_13.2.2.2.2.2.2.2.2.2.2.2.2.2.2.2.2.2.1, z_13.2.2.2.2.2.2.2.2.2.2.2.2.2.2.2.2.2.2.1, z_13.2.2.2.2.2.2.2.2.2.2.2.2.2.2.2.2.2.2.2, z_13.2.2.2.1, z_13.2.2.2.2.1, 0, z_13.2.2.2.2.2.1, z_13.2.2.2.2.2.2.1, z_13.2.2.2.2.2.2.2.1, z_13.2.2.2.2.2.2.2.2.1, z_13.2.2.2.2.2.2.2.2.2.1, z_12.2.2.2.2.2.2.2.1, z_13.2.2.2.2.2.2.2.2.2.2.1, z_13.2.1, z_13.2.2.1)))
abbrev rm_X11_war : Room := { frames := 6, cells := 0, slots := 0, locals := 133 }
set_option maxHeartbeats 4000000 in
set_option maxRecDepth 100000 in
theorem c_X11_war (l : Launch) (D : va_G) (cy : Nat → ClassId) (fu : Nat) (A_b : Nat → Nat) (r_b_trays : Nat) (r_b_draftArmy : Nat) (r_b_armyReader : Nat) (r_b_markedArmies : Nat) (r_b_markedWars : Nat) (r_b_latest : Nat) (r_b_trial : Nat) (r_b_foresight : Nat) (r_b_pairs : Nat) (b_latestStatus : Int32) (b_fractionTop : Int64) (b_fractionBottom : Int64) (b_marks : Int32) (A_a : Nat → Nat) (a_name : Nat → Int64) (a_courage : Nat → Int32) (a_weight : Nat → Int32) (a_medals : Nat → Int32) (a_stood : Nat → Int32) (a_fled : Nat → Int32) (a_liked : Nat → Int32) (a_votes : Nat → Int32) (a_count : Int32) (a_living : Int32) (a_pride : Int32) (a_quota : Int32) (a_melted : Int32) (a_lost : Int32) (A_w : Nat → Nat) (w_deed : Nat → Int32) (w_man : Nat → Int32) (w_other : Nat → Int32) (w_sign : Nat → Int32) (w_number : Nat → Int32) (w_mate : Nat → Int32) (w_there : Int32) (w_rows : Int32) (w_steps : Int32) (A_e : Nat → Nat) (e_deed : Nat → Int32) (e_man : Nat → Int32) (e_other : Nat → Int32) (e_sign : Nat → Int32) (e_number : Nat → Int32) (e_mate : Nat → Int32) (e_there : Int32) (e_rows : Int32) (e_steps : Int32) (A_r : Nat → Nat) (r_fault : Int32) (r_place : Int32) (A_t : Nat → Nat) (t_bytes : Nat → Int32) (t_wordCodes : Nat → Int64) (t_length : Int32) (t_kind : Int32) (t_start : Int32) (t_value : Int32) (t_word : Int32) (t_name : Int64) (t_end : Int32) (t_at : Int32) (A_g : Nat → Nat) (g_open : Nat → Int32) (g_depth : Int32) (x1 : Int32) (res : Int32 × Int32 × (Nat → Int32) × (Nat → Int32) × (Nat → Int32) × (Nat → Int32) × (Nat → Int32) × (Nat → Int32) × Int32 × Int32 × Int32 × (Nat → Int32) × (Nat → Int32) × (Nat → Int32) × (Nat → Int32) × (Nat → Int32) × (Nat → Int32) × Int32 × Int32 × Int32 × Int32 × Int32 × Int32 × Int32 × Int32 × Int32 × Int32 × Int64 × Int32 × Int32 × (Nat → Int32) × Int32) (h : f_X11_war fu b_latestStatus a_name a_count w_deed w_man w_other w_sign w_number w_mate w_there w_rows w_steps e_deed e_man e_other e_sign e_number e_mate e_there e_rows e_steps r_fault r_place t_bytes t_wordCodes t_length t_kind t_start t_value t_word t_name t_end t_at g_open g_depth x1 = some res) (A : Nat → Prop) (hA : A = adr [bl_X11 cy A_b r_b_trays (A_a 0) (A_w 0) r_b_draftArmy (A_e 0) (A_r 0) r_b_armyReader (A_g 0) r_b_markedArmies r_b_markedWars r_b_latest r_b_trial r_b_foresight r_b_pairs b_latestStatus b_fractionTop b_fractionBottom b_marks, bl_X0 cy A_a a_name a_courage a_weight a_medals a_stood a_fled a_liked a_votes a_count a_living a_pride a_quota a_melted a_lost, bl_X9 cy A_w w_deed w_man w_other w_sign w_number w_mate w_there w_rows w_steps, bl_X9 cy A_e e_deed e_man e_other e_sign e_number e_mate e_there e_rows e_steps, bl_X6 cy A_r (A_t 0) r_fault r_place, bl_X7 cy A_t t_bytes t_wordCodes t_length t_kind t_start t_value t_word t_name t_end t_at, bl_X10 cy A_g (A_r 0) (A_e 0) (A_a 0) g_open g_depth]) (W1 : List va_W) (hW1 : W1 = [bl_X11 cy A_b r_b_trays (A_a 0) (A_w 0) r_b_draftArmy (A_e 0) (A_r 0) r_b_armyReader (A_g 0) r_b_markedArmies r_b_markedWars r_b_latest r_b_trial r_b_foresight r_b_pairs res.2.1 b_fractionTop b_fractionBottom b_marks, bl_X0 cy A_a a_name a_courage a_weight a_medals a_stood a_fled a_liked a_votes a_count a_living a_pride a_quota a_melted a_lost, bl_X9 cy A_w res.2.2.1 res.2.2.2.1 res.2.2.2.2.1 res.2.2.2.2.2.1 res.2.2.2.2.2.2.1 res.2.2.2.2.2.2.2.1 res.2.2.2.2.2.2.2.2.1 res.2.2.2.2.2.2.2.2.2.1 res.2.2.2.2.2.2.2.2.2.2.1, bl_X9 cy A_e res.2.2.2.2.2.2.2.2.2.2.2.1 res.2.2.2.2.2.2.2.2.2.2.2.2.1 res.2.2.2.2.2.2.2.2.2.2.2.2.2.1 res.2.2.2.2.2.2.2.2.2.2.2.2.2.2.1 res.2.2.2.2.2.2.2.2.2.2.2.2.2.2.2.1 res.2.2.2.2.2.2.2.2.2.2.2.2.2.2.2.2.1 res.2.2.2.2.2.2.2.2.2.2.2.2.2.2.2.2.2.1 res.2.2.2.2.2.2.2.2.2.2.2.2.2.2.2.2.2.2.1 res.2.2.2.2.2.2.2.2.2.2.2.2.2.2.2.2.2.2.2.1, bl_X6 cy A_r (A_t 0) res.2.2.2.2.2.2.2.2.2.2.2.2.2.2.2.2.2.2.2.2.1 res.2.2.2.2.2.2.2.2.2.2.2.2.2.2.2.2.2.2.2.2.2.1, bl_X7 cy A_t t_bytes t_wordCodes res.2.2.2.2.2.2.2.2.2.2.2.2.2.2.2.2.2.2.2.2.2.2.1 res.2.2.2.2.2.2.2.2.2.2.2.2.2.2.2.2.2.2.2.2.2.2.2.1 res.2.2.2.2.2.2.2.2.2.2.2.2.2.2.2.2.2.2.2.2.2.2.2.2.1 res.2.2.2.2.2.2.2.2.2.2.2.2.2.2.2.2.2.2.2.2.2.2.2.2.2.1 res.2.2.2.2.2.2.2.2.2.2.2.2.2.2.2.2.2.2.2.2.2.2.2.2.2.2.1 res.2.2.2.2.2.2.2.2.2.2.2.2.2.2.2.2.2.2.2.2.2.2.2.2.2.2.2.1 res.2.2.2.2.2.2.2.2.2.2.2.2.2.2.2.2.2.2.2.2.2.2.2.2.2.2.2.2.1 res.2.2.2.2.2.2.2.2.2.2.2.2.2.2.2.2.2.2.2.2.2.2.2.2.2.2.2.2.2.1, bl_X10 cy A_g (A_r 0) (A_e 0) (A_a 0) res.2.2.2.2.2.2.2.2.2.2.2.2.2.2.2.2.2.2.2.2.2.2.2.2.2.2.2.2.2.2.1 res.2.2.2.2.2.2.2.2.2.2.2.2.2.2.2.2.2.2.2.2.2.2.2.2.2.2.2.2.2.2.2]) : Met l yX11_war (WW yX11_war cX11_war 3 (some .int)) rm_X11_war (Ed D cy [.ref (A_b 0), .int x1] [bl_X11 cy A_b r_b_trays (A_a 0) (A_w 0) r_b_draftArmy (A_e 0) (A_r 0) r_b_armyReader (A_g 0) r_b_markedArmies r_b_markedWars r_b_latest r_b_trial r_b_foresight r_b_pairs b_latestStatus b_fractionTop b_fractionBottom b_marks, bl_X0 cy A_a a_name a_courage a_weight a_medals a_stood a_fled a_liked a_votes a_count a_living a_pride a_quota a_melted a_lost, bl_X9 cy A_w w_deed w_man w_other w_sign w_number w_mate w_there w_rows w_steps, bl_X9 cy A_e e_deed e_man e_other e_sign e_number e_mate e_there e_rows e_steps, bl_X6 cy A_r (A_t 0) r_fault r_place, bl_X7 cy A_t t_bytes t_wordCodes t_length t_kind t_start t_value t_word t_name t_end t_at, bl_X10 cy A_g (A_r 0) (A_e 0) (A_a 0) g_open g_depth]) (Qei D res.1 A W1) 0 0 A := by
  refine Met.ofW (cc := cX11_war) (maxL := 3) (ret := (some .int)) (by decide) rfl ?_
  intro p e s m args below meth c s₁ B hml hv
  obtain ⟨hargs, hP, hX, hD0⟩ := hv
  have hx := B.exec
  have hb := B.bytes
  have hr := B.returns
  have ht : ∀ w ∈ lw_gd, w.before args s = true := fun w hw => atoms_spec (ws := WW yX11_war cX11_war 3 (some .int)) B.pre w (List.mem_cons_of_mem _ hw)
  have hown : s.vm.findClass RX11 = some m.cls := findClass_of_methodNamed B.named
  have hlocks := B.notSynchronized
  have hP : PD D A [bl_X11 cy A_b r_b_trays (A_a 0) (A_w 0) r_b_draftArmy (A_e 0) (A_r 0) r_b_armyReader (A_g 0) r_b_markedArmies r_b_markedWars r_b_latest r_b_trial r_b_foresight r_b_pairs b_latestStatus b_fractionTop b_fractionBottom b_marks, bl_X0 cy A_a a_name a_courage a_weight a_medals a_stood a_fled a_liked a_votes a_count a_living a_pride a_quota a_melted a_lost, bl_X9 cy A_w w_deed w_man w_other w_sign w_number w_mate w_there w_rows w_steps, bl_X9 cy A_e e_deed e_man e_other e_sign e_number e_mate e_there e_rows e_steps, bl_X6 cy A_r (A_t 0) r_fault r_place, bl_X7 cy A_t t_bytes t_wordCodes t_length t_kind t_start t_value t_word t_name t_end t_at, bl_X10 cy A_g (A_r 0) (A_e 0) (A_a 0) g_open g_depth] s.heap := ⟨hP, by rw [hA]; exact hD0.own⟩
  have hS : va_S A s.heap s.heap [] := va_S.rf
  obtain ⟨ls, hl, hent⟩ := ent (m := m) (n := 3) hargs (Nat.le_of_ble_eq_true rfl) (lv := [(0, .ref (A_b 0)), (1, .int x1)]) rfl
  rw [hent]
  clear hent
  unfold f_X11_war at h
  refine lv_iload_n hx hb dX11_war_0 rfl (lv_at hl 1 rfl) ?_
  refine lv_iconst (v := 0) hx hb dX11_war_1 (by decide) ?_
  refine lv_aload_n hx hb dX11_war_2 rfl (lv_at hl 0 rfl) ?_
  refine xget (i := 0) (j := 0) (k := 8) (T := TX11) hx hb ht tb_iX11 hown hX hP.1 rfl rfl rfl (by decide) tb_437 rfl dX11_war_3 ?_
  refine xget (i := 4) (j := 0) (k := 0) (T := TX6) hx hb ht tb_iX6 hown hX hP.1 rfl rfl rfl (by decide) tb_263 rfl dX11_war_6 ?_
  refine xget (i := 5) (j := 0) (k := 2) (T := TX7) hx hb ht tb_iX7 hown hX hP.1 rfl rfl rfl (by decide) tb_221 rfl dX11_war_9 ?_
  refine lv_sipush (v := 300) hx hb dX11_war_12 (by decide) ?_
  refine va_mmin hx hb (hml.trans hl.1.symm) hown (ht _ tb_704) (ht _ tb_583) (ht _ tb_19) (ht _ tb_584) (Nat.le_of_ble_eq_true rfl) (Nat.le_of_ble_eq_true rfl) (Nat.le_of_ble_eq_true rfl) (Nat.le_of_ble_eq_true rfl) dX11_war_15 ?_
  obtain ⟨z_10, e_z_10, h⟩ := bi h
  refine roSi (rest := []) ⟨hx, hb, hml, hown, ht⟩ (c_X11_within l D cy fu  x1 0 (if 300 < t_length then 300 else t_length) z_10 e_z_10) (cS ht ms_X11_within tb_504 rfl rfl ⟨Nat.le_of_ble_eq_true rfl, Nat.le_of_ble_eq_true rfl⟩) (P_sub hP.1 [] rfl) hX rfl hl.1 rfl (Nat.le_of_ble_eq_true rfl) dX11_war_18 ⟨Nat.le_of_ble_eq_true rfl, Nat.le_of_ble_eq_true rfl⟩ ?_
  refine lv_if_ne (tgt := 30) hx hb dX11_war_21 (by decide) (fun c_11 => ?_) (fun c_11 => ?_)
  · have h := ie c_11 h
    refine lv_aload_n hx hb dX11_war_30 rfl (lv_at hl 0 rfl) ?_
    refine xget (i := 0) (j := 0) (k := 8) (T := TX11) hx hb ht tb_iX11 hown hX hP.1 rfl rfl rfl (by decide) tb_437 rfl dX11_war_31 ?_
    refine lv_iload_n hx hb dX11_war_34 rfl (lv_at hl 1 rfl) ?_
    obtain ⟨z_12, e_z_12, h⟩ := bi h
    refine efVv (rest := []) ⟨hx, hb, hml, hown, ht⟩ (c_X6_begin l D cy fu A_r r_fault r_place A_t t_bytes t_wordCodes t_length t_kind t_start t_value t_word t_name t_end t_at x1 z_12 e_z_12 _ rfl _ rfl) (cV ht mv_X6_begin tb_574 rfl rfl ⟨Nat.le_of_ble_eq_true rfl, Nat.le_of_ble_eq_true rfl⟩) hP hS hX [4, 5] rfl rfl rfl rfl rfl rfl hl.1 rfl (Nat.le_of_ble_eq_true rfl) dX11_war_35 ⟨Nat.le_of_ble_eq_true rfl, Nat.le_of_ble_eq_true rfl⟩ (fun H locs hP hS => ?_)
    have hP : PD D A [bl_X11 cy A_b r_b_trays (A_a 0) (A_w 0) r_b_draftArmy (A_e 0) (A_r 0) r_b_armyReader (A_g 0) r_b_markedArmies r_b_markedWars r_b_latest r_b_trial r_b_foresight r_b_pairs b_latestStatus b_fractionTop b_fractionBottom b_marks, bl_X0 cy A_a a_name a_courage a_weight a_medals a_stood a_fled a_liked a_votes a_count a_living a_pride a_quota a_melted a_lost, bl_X9 cy A_w w_deed w_man w_other w_sign w_number w_mate w_there w_rows w_steps, bl_X9 cy A_e e_deed e_man e_other e_sign e_number e_mate e_there e_rows e_steps, bl_X6 cy A_r (A_t 0) z_12.1 z_12.2.1, bl_X7 cy A_t t_bytes t_wordCodes t_length z_12.2.2.1 z_12.2.2.2.1 z_12.2.2.2.2.1 z_12.2.2.2.2.2.1 z_12.2.2.2.2.2.2.1 z_12.2.2.2.2.2.2.2.1 z_12.2.2.2.2.2.2.2.2, bl_X10 cy A_g (A_r 0) (A_e 0) (A_a 0) g_open g_depth] H := hP
    refine lv_aload_n hx hb dX11_war_38 rfl (lv_at hl 0 rfl) ?_
    refine xget (i := 0) (j := 0) (k := 10) (T := TX11) hx hb ht tb_iX11 hown hX hP.1 rfl rfl rfl (by decide) tb_439 rfl dX11_war_39 ?_
    obtain ⟨z_13, e_z_13, h⟩ := bi h
    refine efVi (rest := []) ⟨hx, hb, hml, hown, ht⟩ (c_X10_readDraft l D cy fu A_g g_open g_depth A_r z_12.1 z_12.2.1 A_t t_bytes t_wordCodes t_length z_12.2.2.1 z_12.2.2.2.1 z_12.2.2.2.2.1 z_12.2.2.2.2.2.1 z_12.2.2.2.2.2.2.1 z_12.2.2.2.2.2.2.2.1 z_12.2.2.2.2.2.2.2.2 A_e e_deed e_man e_other e_sign e_number e_mate e_there e_rows e_steps A_a a_name a_courage a_weight a_medals a_stood a_fled a_liked a_votes a_count a_living a_pride a_quota a_melted a_lost z_13 e_z_13 _ rfl _ rfl) (cV ht mv_X10_readDraft tb_705 rfl rfl ⟨Nat.le_of_ble_eq_true rfl, Nat.le_of_ble_eq_true rfl⟩) hP hS hX [6, 4, 5, 3, 1] rfl rfl rfl rfl rfl rfl hl.1 rfl (Nat.le_of_ble_eq_true rfl) dX11_war_42 ⟨Nat.le_of_ble_eq_true rfl, Nat.le_of_ble_eq_true rfl⟩ (fun H locs hP hS => ?_)
    have hP : PD D A [bl_X11 cy A_b r_b_trays (A_a 0) (A_w 0) r_b_draftArmy (A_e 0) (A_r 0) r_b_armyReader (A_g 0) r_b_markedArmies r_b_markedWars r_b_latest r_b_trial r_b_foresight r_b_pairs b_latestStatus b_fractionTop b_fractionBottom b_marks, bl_X0 cy A_a a_name a_courage a_weight a_medals a_stood a_fled a_liked a_votes a_count a_living a_pride a_quota a_melted a_lost, bl_X9 cy A_w w_deed w_man w_other w_sign w_number w_mate w_there w_rows w_steps, bl_X9 cy A_e z_13.2.2.2.2.2.2.2.2.2.2.2.1 z_13.2.2.2.2.2.2.2.2.2.2.2.2.1 z_13.2.2.2.2.2.2.2.2.2.2.2.2.2.1 z_13.2.2.2.2.2.2.2.2.2.2.2.2.2.2.1 z_13.2.2.2.2.2.2.2.2.2.2.2.2.2.2.2.1 z_13.2.2.2.2.2.2.2.2.2.2.2.2.2.2.2.2.1 z_13.2.2.2.2.2.2.2.2.2.2.2.2.2.2.2.2.2.1 z_13.2.2.2.2.2.2.2.2.2.2.2.2.2.2.2.2.2.2.1 z_13.2.2.2.2.2.2.2.2.2.2.2.2.2.2.2.2.2.2.2, bl_X6 cy A_r (A_t 0) z_13.2.2.2.1 z_13.2.2.2.2.1, bl_X7 cy A_t t_bytes t_wordCodes t_length z_13.2.2.2.2.2.1 z_13.2.2.2.2.2.2.1 z_13.2.2.2.2.2.2.2.1 z_13.2.2.2.2.2.2.2.2.1 z_13.2.2.2.2.2.2.2.2.2.1 z_12.2.2.2.2.2.2.2.1 z_13.2.2.2.2.2.2.2.2.2.2.1, bl_X10 cy A_g (A_r 0) (A_e 0) (A_a 0) z_13.2.1 z_13.2.2.1] H := hP
    refine lv_istore_n (lv' := [(2, .int z_13.1), (0, .ref (A_b 0)), (1, .int x1)]) hx hb dX11_war_45 rfl hl (by decide) rfl (fun ls hl => ?_)
    refine lv_aload_n hx hb dX11_war_46 rfl (lv_at hl 1 rfl) ?_
    refine xget (i := 0) (j := 0) (k := 8) (T := TX11) hx hb ht tb_iX11 hown hX hP.1 rfl rfl rfl (by decide) tb_437 rfl dX11_war_47 ?_
    refine xget (i := 4) (j := 0) (k := 0) (T := TX6) hx hb ht tb_iX6 hown hX hP.1 rfl rfl rfl (by decide) tb_263 rfl dX11_war_50 ?_
    refine lv_iconst (v := 0) hx hb dX11_war_53 (by decide) ?_
    refine xput (i := 5) (j := 0) (k := 2) (T := TX7) tyX7 tyX7_ok nmX7 hx hb ht tb_iX7 hown hX hP hS rfl rfl rfl (by decide) tb_221 rfl rfl rfl (Nat.le_of_ble_eq_true rfl) dX11_war_54 (fun H locs hP hS => ?_)
    have hP : PD D A [bl_X11 cy A_b r_b_trays (A_a 0) (A_w 0) r_b_draftArmy (A_e 0) (A_r 0) r_b_armyReader (A_g 0) r_b_markedArmies r_b_markedWars r_b_latest r_b_trial r_b_foresight r_b_pairs b_latestStatus b_fractionTop b_fractionBottom b_marks, bl_X0 cy A_a a_name a_courage a_weight a_medals a_stood a_fled a_liked a_votes a_count a_living a_pride a_quota a_melted a_lost, bl_X9 cy A_w w_deed w_man w_other w_sign w_number w_mate w_there w_rows w_steps, bl_X9 cy A_e z_13.2.2.2.2.2.2.2.2.2.2.2.1 z_13.2.2.2.2.2.2.2.2.2.2.2.2.1 z_13.2.2.2.2.2.2.2.2.2.2.2.2.2.1 z_13.2.2.2.2.2.2.2.2.2.2.2.2.2.2.1 z_13.2.2.2.2.2.2.2.2.2.2.2.2.2.2.2.1 z_13.2.2.2.2.2.2.2.2.2.2.2.2.2.2.2.2.1 z_13.2.2.2.2.2.2.2.2.2.2.2.2.2.2.2.2.2.1 z_13.2.2.2.2.2.2.2.2.2.2.2.2.2.2.2.2.2.2.1 z_13.2.2.2.2.2.2.2.2.2.2.2.2.2.2.2.2.2.2.2, bl_X6 cy A_r (A_t 0) z_13.2.2.2.1 z_13.2.2.2.2.1, bl_X7 cy A_t t_bytes t_wordCodes 0 z_13.2.2.2.2.2.1 z_13.2.2.2.2.2.2.1 z_13.2.2.2.2.2.2.2.1 z_13.2.2.2.2.2.2.2.2.1 z_13.2.2.2.2.2.2.2.2.2.1 z_12.2.2.2.2.2.2.2.1 z_13.2.2.2.2.2.2.2.2.2.2.1, bl_X10 cy A_g (A_r 0) (A_e 0) (A_a 0) z_13.2.1 z_13.2.2.1] H := hP
    refine lv_iload_n hx hb dX11_war_57 rfl (lv_at hl 0 rfl) ?_
    refine lv_if_ne (tgt := 68) hx hb dX11_war_58 (by decide) (fun c_14 => ?_) (fun c_14 => ?_)
    · have h := ie c_14 h
      refine lv_aload_n hx hb dX11_war_68 rfl (lv_at hl 1 rfl) ?_
      refine xget (i := 0) (j := 0) (k := 5) (T := TX11) hx hb ht tb_iX11 hown hX hP.1 rfl rfl rfl (by decide) tb_434 rfl dX11_war_69 ?_
      refine lv_aload_n hx hb dX11_war_72 rfl (lv_at hl 1 rfl) ?_
      refine xget (i := 0) (j := 0) (k := 7) (T := TX11) hx hb ht tb_iX11 hown hX hP.1 rfl rfl rfl (by decide) tb_436 rfl dX11_war_73 ?_
      obtain ⟨z_15, e_z_15, h⟩ := bi h
      refine efVv (rest := []) ⟨hx, hb, hml, hown, ht⟩ (c_X9_become l D cy fu A_w w_deed w_man w_other w_sign w_number w_mate w_there w_rows w_steps A_e z_13.2.2.2.2.2.2.2.2.2.2.2.1 z_13.2.2.2.2.2.2.2.2.2.2.2.2.1 z_13.2.2.2.2.2.2.2.2.2.2.2.2.2.1 z_13.2.2.2.2.2.2.2.2.2.2.2.2.2.2.1 z_13.2.2.2.2.2.2.2.2.2.2.2.2.2.2.2.1 z_13.2.2.2.2.2.2.2.2.2.2.2.2.2.2.2.2.1 z_13.2.2.2.2.2.2.2.2.2.2.2.2.2.2.2.2.2.1 z_13.2.2.2.2.2.2.2.2.2.2.2.2.2.2.2.2.2.2.1 z_13.2.2.2.2.2.2.2.2.2.2.2.2.2.2.2.2.2.2.2 z_15 e_z_15 _ rfl _ rfl) (cV ht mv_X9_become tb_750 rfl rfl ⟨Nat.le_of_ble_eq_true rfl, Nat.le_of_ble_eq_true rfl⟩) hP hS hX [2, 3] rfl rfl rfl rfl rfl rfl hl.1 rfl (Nat.le_of_ble_eq_true rfl) dX11_war_76 ⟨Nat.le_of_ble_eq_true rfl, Nat.le_of_ble_eq_true rfl⟩ (fun H locs hP hS => ?_)
      have hP : PD D A [bl_X11 cy A_b r_b_trays (A_a 0) (A_w 0) r_b_draftArmy (A_e 0) (A_r 0) r_b_armyReader (A_g 0) r_b_markedArmies r_b_markedWars r_b_latest r_b_trial r_b_foresight r_b_pairs b_latestStatus b_fractionTop b_fractionBottom b_marks, bl_X0 cy A_a a_name a_courage a_weight a_medals a_stood a_fled a_liked a_votes a_count a_living a_pride a_quota a_melted a_lost, bl_X9 cy A_w z_15.1 z_15.2.1 z_15.2.2.1 z_15.2.2.2.1 z_15.2.2.2.2.1 z_15.2.2.2.2.2.1 z_15.2.2.2.2.2.2.1 z_15.2.2.2.2.2.2.2.1 z_15.2.2.2.2.2.2.2.2, bl_X9 cy A_e z_13.2.2.2.2.2.2.2.2.2.2.2.1 z_13.2.2.2.2.2.2.2.2.2.2.2.2.1 z_13.2.2.2.2.2.2.2.2.2.2.2.2.2.1 z_13.2.2.2.2.2.2.2.2.2.2.2.2.2.2.1 z_13.2.2.2.2.2.2.2.2.2.2.2.2.2.2.2.1 z_13.2.2.2.2.2.2.2.2.2.2.2.2.2.2.2.2.1 z_13.2.2.2.2.2.2.2.2.2.2.2.2.2.2.2.2.2.1 z_13.2.2.2.2.2.2.2.2.2.2.2.2.2.2.2.2.2.2.1 z_13.2.2.2.2.2.2.2.2.2.2.2.2.2.2.2.2.2.2.2, bl_X6 cy A_r (A_t 0) z_13.2.2.2.1 z_13.2.2.2.2.1, bl_X7 cy A_t t_bytes t_wordCodes 0 z_13.2.2.2.2.2.1 z_13.2.2.2.2.2.2.1 z_13.2.2.2.2.2.2.2.1 z_13.2.2.2.2.2.2.2.2.1 z_13.2.2.2.2.2.2.2.2.2.1 z_12.2.2.2.2.2.2.2.1 z_13.2.2.2.2.2.2.2.2.2.2.1, bl_X10 cy A_g (A_r 0) (A_e 0) (A_a 0) z_13.2.1 z_13.2.2.1] H := hP
      refine lv_aload_n hx hb dX11_war_79 rfl (lv_at hl 1 rfl) ?_
      refine lv_aload_n hx hb dX11_war_80 rfl (lv_at hl 1 rfl) ?_
      refine xget (i := 0) (j := 0) (k := 5) (T := TX11) hx hb ht tb_iX11 hown hX hP.1 rfl rfl rfl (by decide) tb_434 rfl dX11_war_81 ?_
      refine xget (i := 2) (j := 0) (k := 8) (T := TX9) hx hb ht tb_iX9 hown hX hP.1 rfl rfl rfl (by decide) tb_136 rfl dX11_war_84 ?_
      obtain ⟨z_16, e_z_16, h⟩ := bi h
      refine efVi (rest := []) ⟨hx, hb, hml, hown, ht⟩ (c_X11_answer l D cy fu A_b r_b_trays (A_a 0) (A_w 0) r_b_draftArmy (A_e 0) (A_r 0) r_b_armyReader (A_g 0) r_b_markedArmies r_b_markedWars r_b_latest r_b_trial r_b_foresight r_b_pairs b_latestStatus b_fractionTop b_fractionBottom b_marks z_15.2.2.2.2.2.2.2.2 z_16 e_z_16 _ rfl _ rfl) (cV ht mv_X11_answer tb_696 rfl rfl ⟨Nat.le_of_ble_eq_true rfl, Nat.le_of_ble_eq_true rfl⟩) hP hS hX [0] rfl rfl rfl rfl rfl rfl hl.1 rfl (Nat.le_of_ble_eq_true rfl) dX11_war_87 ⟨Nat.le_of_ble_eq_true rfl, Nat.le_of_ble_eq_true rfl⟩ (fun H locs hP hS => ?_)
      have hP : PD D A [bl_X11 cy A_b r_b_trays (A_a 0) (A_w 0) r_b_draftArmy (A_e 0) (A_r 0) r_b_armyReader (A_g 0) r_b_markedArmies r_b_markedWars r_b_latest r_b_trial r_b_foresight r_b_pairs z_16.2 b_fractionTop b_fractionBottom b_marks, bl_X0 cy A_a a_name a_courage a_weight a_medals a_stood a_fled a_liked a_votes a_count a_living a_pride a_quota a_melted a_lost, bl_X9 cy A_w z_15.1 z_15.2.1 z_15.2.2.1 z_15.2.2.2.1 z_15.2.2.2.2.1 z_15.2.2.2.2.2.1 z_15.2.2.2.2.2.2.1 z_15.2.2.2.2.2.2.2.1 z_15.2.2.2.2.2.2.2.2, bl_X9 cy A_e z_13.2.2.2.2.2.2.2.2.2.2.2.1 z_13.2.2.2.2.2.2.2.2.2.2.2.2.1 z_13.2.2.2.2.2.2.2.2.2.2.2.2.2.1 z_13.2.2.2.2.2.2.2.2.2.2.2.2.2.2.1 z_13.2.2.2.2.2.2.2.2.2.2.2.2.2.2.2.1 z_13.2.2.2.2.2.2.2.2.2.2.2.2.2.2.2.2.1 z_13.2.2.2.2.2.2.2.2.2.2.2.2.2.2.2.2.2.1 z_13.2.2.2.2.2.2.2.2.2.2.2.2.2.2.2.2.2.2.1 z_13.2.2.2.2.2.2.2.2.2.2.2.2.2.2.2.2.2.2.2, bl_X6 cy A_r (A_t 0) z_13.2.2.2.1 z_13.2.2.2.2.1, bl_X7 cy A_t t_bytes t_wordCodes 0 z_13.2.2.2.2.2.1 z_13.2.2.2.2.2.2.1 z_13.2.2.2.2.2.2.2.1 z_13.2.2.2.2.2.2.2.2.1 z_13.2.2.2.2.2.2.2.2.2.1 z_12.2.2.2.2.2.2.2.1 z_13.2.2.2.2.2.2.2.2.2.2.1, bl_X10 cy A_g (A_r 0) (A_e 0) (A_a 0) z_13.2.1 z_13.2.2.1] H := hP
      cases h
      subst hW1
      exact W.iret hx hb hr (fun _ ht9 _ => ⟨⟨_, (), rfl, rfl, hPt ht9 hP.1⟩, hS.F ht9⟩) hS.2.2 dX11_war_90
    · have h := it c_14 h
      refine lv_aload_n hx hb dX11_war_61 rfl (lv_at hl 1 rfl) ?_
      refine lv_bipush (v := 9) hx hb dX11_war_62 (by decide) ?_
      obtain ⟨z_17, e_z_17, h⟩ := bi h
      refine efVi (rest := []) ⟨hx, hb, hml, hown, ht⟩ (c_X11_refuse l D cy fu A_b r_b_trays (A_a 0) (A_w 0) r_b_draftArmy (A_e 0) (A_r 0) r_b_armyReader (A_g 0) r_b_markedArmies r_b_markedWars r_b_latest r_b_trial r_b_foresight r_b_pairs b_latestStatus b_fractionTop b_fractionBottom b_marks 9 z_17 e_z_17 _ rfl _ rfl) (cV ht mv_X11_refuse tb_543 rfl rfl ⟨Nat.le_of_ble_eq_true rfl, Nat.le_of_ble_eq_true rfl⟩) hP hS hX [0] rfl rfl rfl rfl rfl rfl hl.1 rfl (Nat.le_of_ble_eq_true rfl) dX11_war_64 ⟨Nat.le_of_ble_eq_true rfl, Nat.le_of_ble_eq_true rfl⟩ (fun H locs hP hS => ?_)
      have hP : PD D A [bl_X11 cy A_b r_b_trays (A_a 0) (A_w 0) r_b_draftArmy (A_e 0) (A_r 0) r_b_armyReader (A_g 0) r_b_markedArmies r_b_markedWars r_b_latest r_b_trial r_b_foresight r_b_pairs z_17.2 b_fractionTop b_fractionBottom b_marks, bl_X0 cy A_a a_name a_courage a_weight a_medals a_stood a_fled a_liked a_votes a_count a_living a_pride a_quota a_melted a_lost, bl_X9 cy A_w w_deed w_man w_other w_sign w_number w_mate w_there w_rows w_steps, bl_X9 cy A_e z_13.2.2.2.2.2.2.2.2.2.2.2.1 z_13.2.2.2.2.2.2.2.2.2.2.2.2.1 z_13.2.2.2.2.2.2.2.2.2.2.2.2.2.1 z_13.2.2.2.2.2.2.2.2.2.2.2.2.2.2.1 z_13.2.2.2.2.2.2.2.2.2.2.2.2.2.2.2.1 z_13.2.2.2.2.2.2.2.2.2.2.2.2.2.2.2.2.1 z_13.2.2.2.2.2.2.2.2.2.2.2.2.2.2.2.2.2.1 z_13.2.2.2.2.2.2.2.2.2.2.2.2.2.2.2.2.2.2.1 z_13.2.2.2.2.2.2.2.2.2.2.2.2.2.2.2.2.2.2.2, bl_X6 cy A_r (A_t 0) z_13.2.2.2.1 z_13.2.2.2.2.1, bl_X7 cy A_t t_bytes t_wordCodes 0 z_13.2.2.2.2.2.1 z_13.2.2.2.2.2.2.1 z_13.2.2.2.2.2.2.2.1 z_13.2.2.2.2.2.2.2.2.1 z_13.2.2.2.2.2.2.2.2.2.1 z_12.2.2.2.2.2.2.2.1 z_13.2.2.2.2.2.2.2.2.2.2.1, bl_X10 cy A_g (A_r 0) (A_e 0) (A_a 0) z_13.2.1 z_13.2.2.1] H := hP
      cases h
      subst hW1
      exact W.iret hx hb hr (fun _ ht9 _ => ⟨⟨_, (), rfl, rfl, hPt ht9 hP.1⟩, hS.F ht9⟩) hS.2.2 dX11_war_67
  · have h := it c_11 h
    refine lv_aload_n hx hb dX11_war_24 rfl (lv_at hl 0 rfl) ?_
    refine lv_iconst (v := 1) hx hb dX11_war_25 (by decide) ?_
    obtain ⟨z_18, e_z_18, h⟩ := bi h
    refine efVi (rest := []) ⟨hx, hb, hml, hown, ht⟩ (c_X11_refuse l D cy fu A_b r_b_trays (A_a 0) (A_w 0) r_b_draftArmy (A_e 0) (A_r 0) r_b_armyReader (A_g 0) r_b_markedArmies r_b_markedWars r_b_latest r_b_trial r_b_foresight r_b_pairs b_latestStatus b_fractionTop b_fractionBottom b_marks 1 z_18 e_z_18 _ rfl _ rfl) (cV ht mv_X11_refuse tb_543 rfl rfl ⟨Nat.le_of_ble_eq_true rfl, Nat.le_of_ble_eq_true rfl⟩) hP hS hX [0] rfl rfl rfl rfl rfl rfl hl.1 rfl (Nat.le_of_ble_eq_true rfl) dX11_war_26 ⟨Nat.le_of_ble_eq_true rfl, Nat.le_of_ble_eq_true rfl⟩ (fun H locs hP hS => ?_)
    have hP : PD D A [bl_X11 cy A_b r_b_trays (A_a 0) (A_w 0) r_b_draftArmy (A_e 0) (A_r 0) r_b_armyReader (A_g 0) r_b_markedArmies r_b_markedWars r_b_latest r_b_trial r_b_foresight r_b_pairs z_18.2 b_fractionTop b_fractionBottom b_marks, bl_X0 cy A_a a_name a_courage a_weight a_medals a_stood a_fled a_liked a_votes a_count a_living a_pride a_quota a_melted a_lost, bl_X9 cy A_w w_deed w_man w_other w_sign w_number w_mate w_there w_rows w_steps, bl_X9 cy A_e e_deed e_man e_other e_sign e_number e_mate e_there e_rows e_steps, bl_X6 cy A_r (A_t 0) r_fault r_place, bl_X7 cy A_t t_bytes t_wordCodes t_length t_kind t_start t_value t_word t_name t_end t_at, bl_X10 cy A_g (A_r 0) (A_e 0) (A_a 0) g_open g_depth] H := hP
    cases h
    subst hW1
    exact W.iret hx hb hr (fun _ ht9 _ => ⟨⟨_, (), rfl, rfl, hPt ht9 hP.1⟩, hS.F ht9⟩) hS.2.2 dX11_war_29
theorem dX11_fault_0 : decode cX11_fault 0 = .ok (.iload_n 1, 1) := by decide +kernel
theorem dX11_fault_1 : decode cX11_fault 1 = .ok (.ifCond .ne 11, 3) := by decide +kernel
theorem dX11_fault_4 : decode cX11_fault 4 = .ok (.aload_n 0, 1) := by decide +kernel
theorem dX11_fault_5 : decode cX11_fault 5 = .ok (.getfield 49, 3) := by decide +kernel
theorem dX11_fault_8 : decode cX11_fault 8 = .ok (.getfield 209, 3) := by decide +kernel
theorem dX11_fault_11 : decode cX11_fault 11 = .ok (.ireturn, 1) := by decide +kernel
theorem dX11_fault_12 : decode cX11_fault 12 = .ok (.iload_n 1, 1) := by decide +kernel
theorem dX11_fault_13 : decode cX11_fault 13 = .ok (.iconst 1, 1) := by decide +kernel
theorem dX11_fault_14 : decode cX11_fault 14 = .ok (.if_icmp .ne 13, 3) := by decide +kernel
theorem dX11_fault_17 : decode cX11_fault 17 = .ok (.aload_n 0, 1) := by decide +kernel
theorem dX11_fault_18 : decode cX11_fault 18 = .ok (.getfield 49, 3) := by decide +kernel
theorem dX11_fault_21 : decode cX11_fault 21 = .ok (.getfield 212, 3) := by decide +kernel
theorem dX11_fault_24 : decode cX11_fault 24 = .ok (.goto 4, 3) := by decide +kernel
theorem dX11_fault_27 : decode cX11_fault 27 = .ok (.iconst (-1), 1) := by decide +kernel
theorem dX11_fault_28 : decode cX11_fault 28 = .ok (.ireturn, 1) := by decide +kernel
theorem mv_X11_fault : MV yX11_fault RX11 cX11_fault 2 (some .int) 1 := ⟨tb_758, tb_756, tb_757, tb_1, by decide +kernel, by decide +kernel, by decide +kernel⟩
def f_X11_fault (fu : Nat) (r_fault : Int32) (r_place : Int32) (x1 : Int32) : Option (Int32) := (if x1 = 0 then some (r_fault) else (if x1 = 1 then some (r_place) else some ((-1))))
abbrev rm_X11_fault : Room := { frames := 0, cells := 0, slots := 0, locals := 0 }
set_option maxHeartbeats 4000000 in
set_option maxRecDepth 100000 in
theorem c_X11_fault (l : Launch) (D : va_G) (cy : Nat → ClassId) (fu : Nat) (A_b : Nat → Nat) (r_b_trays : Nat) (r_b_army : Nat) (r_b_war : Nat) (r_b_draftArmy : Nat) (r_b_draftWar : Nat) (r_b_armyReader : Nat) (r_b_warReader : Nat) (r_b_markedArmies : Nat) (r_b_markedWars : Nat) (r_b_latest : Nat) (r_b_trial : Nat) (r_b_foresight : Nat) (r_b_pairs : Nat) (b_latestStatus : Int32) (b_fractionTop : Int64) (b_fractionBottom : Int64) (b_marks : Int32) (A_r : Nat → Nat) (r_r_tape : Nat) (r_fault : Int32) (r_place : Int32) (x1 : Int32) (res : Int32) (h : f_X11_fault fu r_fault r_place x1 = some res) : Met l yX11_fault (WW yX11_fault cX11_fault 2 (some .int)) rm_X11_fault (Rd D cy [.ref (A_b 0), .int x1] [bl_X11 cy A_b r_b_trays r_b_army r_b_war r_b_draftArmy r_b_draftWar (A_r 0) r_b_armyReader r_b_warReader r_b_markedArmies r_b_markedWars r_b_latest r_b_trial r_b_foresight r_b_pairs b_latestStatus b_fractionTop b_fractionBottom b_marks, bl_X6 cy A_r r_r_tape r_fault r_place]) (vp_Si (fun v => v = res)) 0 0 (fun _ => False) := by
  refine Met.ofW (cc := cX11_fault) (maxL := 2) (ret := (some .int)) (by decide) rfl ?_
  intro p e s m args below meth c s₁ B hml hv
  obtain ⟨hargs, hP, hX⟩ := hv
  have hx := B.exec
  have hb := B.bytes
  have hr := B.returns
  have ht : ∀ w ∈ lw_gd, w.before args s = true := fun w hw => atoms_spec (ws := WW yX11_fault cX11_fault 2 (some .int)) B.pre w (List.mem_cons_of_mem _ hw)
  have hown : s.vm.findClass RX11 = some m.cls := findClass_of_methodNamed B.named
  have hlocks := B.notSynchronized
  have hP : PB D [bl_X11 cy A_b r_b_trays r_b_army r_b_war r_b_draftArmy r_b_draftWar (A_r 0) r_b_armyReader r_b_warReader r_b_markedArmies r_b_markedWars r_b_latest r_b_trial r_b_foresight r_b_pairs b_latestStatus b_fractionTop b_fractionBottom b_marks, bl_X6 cy A_r r_r_tape r_fault r_place] s.heap := hP
  obtain ⟨ls, hl, hent⟩ := ent (m := m) (n := 2) hargs (Nat.le_of_ble_eq_true rfl) (lv := [(0, .ref (A_b 0)), (1, .int x1)]) rfl
  rw [hent]
  clear hent
  unfold f_X11_fault at h
  refine lv_iload_n hx hb dX11_fault_0 rfl (lv_at hl 1 rfl) ?_
  refine lv_if_ne (tgt := 12) hx hb dX11_fault_1 (by decide) (fun c_3 => ?_) (fun c_3 => ?_)
  · have h := ie c_3 h
    refine lv_iload_n hx hb dX11_fault_12 rfl (lv_at hl 1 rfl) ?_
    refine lv_iconst (v := 1) hx hb dX11_fault_13 (by decide) ?_
    refine lv_icmp_ne (tgt := 27) hx hb dX11_fault_14 (by decide) (fun c_4 => ?_) (fun c_4 => ?_)
    · have h := ie c_4 h
      refine lv_iconst (v := (-1)) hx hb dX11_fault_27 (by decide) ?_
      cases h
      exact W.iret hx hb hr (fun _ ht9 _ => ⟨_, rfl, rfl, ht9⟩) (fun _ hq => by cases hq) dX11_fault_28
    · have h := it c_4 h
      refine lv_aload_n hx hb dX11_fault_17 rfl (lv_at hl 0 rfl) ?_
      refine xget (i := 0) (j := 0) (k := 8) (T := TX11) hx hb ht tb_iX11 hown hX hP rfl rfl rfl (by decide) tb_437 rfl dX11_fault_18 ?_
      refine xget (i := 1) (j := 0) (k := 2) (T := TX6) hx hb ht tb_iX6 hown hX hP rfl rfl rfl (by decide) tb_267 rfl dX11_fault_21 ?_
      refine lv_goto (tgt := 28) hx hb dX11_fault_24 (by decide) ?_
      cases h
      exact W.iret hx hb hr (fun _ ht9 _ => ⟨_, rfl, rfl, ht9⟩) (fun _ hq => by cases hq) dX11_fault_28
  · have h := it c_3 h
    refine lv_aload_n hx hb dX11_fault_4 rfl (lv_at hl 0 rfl) ?_
    refine xget (i := 0) (j := 0) (k := 8) (T := TX11) hx hb ht tb_iX11 hown hX hP rfl rfl rfl (by decide) tb_437 rfl dX11_fault_5 ?_
    refine xget (i := 1) (j := 0) (k := 1) (T := TX6) hx hb ht tb_iX6 hown hX hP rfl rfl rfl (by decide) tb_265 rfl dX11_fault_8 ?_
    cases h
    exact W.iret hx hb hr (fun _ ht9 _ => ⟨_, rfl, rfl, ht9⟩) (fun _ hq => by cases hq) dX11_fault_11
theorem dX11_sumOf_0 : decode cX11_sumOf 0 = .ok (.iconst 0, 1) := by decide +kernel
theorem dX11_sumOf_1 : decode cX11_sumOf 1 = .ok (.istore_n 1, 1) := by decide +kernel
theorem dX11_sumOf_2 : decode cX11_sumOf 2 = .ok (.aload_n 0, 1) := by decide +kernel
theorem dX11_sumOf_3 : decode cX11_sumOf 3 = .ok (.astore_n 2, 1) := by decide +kernel
theorem dX11_sumOf_4 : decode cX11_sumOf 4 = .ok (.aload_n 2, 1) := by decide +kernel
theorem dX11_sumOf_5 : decode cX11_sumOf 5 = .ok (.arraylength, 1) := by decide +kernel
theorem dX11_sumOf_6 : decode cX11_sumOf 6 = .ok (.istore_n 3, 1) := by decide +kernel
theorem dX11_sumOf_7 : decode cX11_sumOf 7 = .ok (.iconst 0, 1) := by decide +kernel
theorem dX11_sumOf_8 : decode cX11_sumOf 8 = .ok (.istore 4, 2) := by decide +kernel
theorem dX11_sumOf_10 : decode cX11_sumOf 10 = .ok (.iload 4, 2) := by decide +kernel
theorem dX11_sumOf_12 : decode cX11_sumOf 12 = .ok (.iload_n 3, 1) := by decide +kernel
theorem dX11_sumOf_13 : decode cX11_sumOf 13 = .ok (.if_icmp .ge 20, 3) := by decide +kernel
theorem dX11_sumOf_16 : decode cX11_sumOf 16 = .ok (.aload_n 2, 1) := by decide +kernel
theorem dX11_sumOf_17 : decode cX11_sumOf 17 = .ok (.iload 4, 2) := by decide +kernel
theorem dX11_sumOf_19 : decode cX11_sumOf 19 = .ok (.iaload, 1) := by decide +kernel
theorem dX11_sumOf_20 : decode cX11_sumOf 20 = .ok (.istore 5, 2) := by decide +kernel
theorem dX11_sumOf_22 : decode cX11_sumOf 22 = .ok (.iload_n 1, 1) := by decide +kernel
theorem dX11_sumOf_23 : decode cX11_sumOf 23 = .ok (.iload 5, 2) := by decide +kernel
theorem dX11_sumOf_25 : decode cX11_sumOf 25 = .ok (.iadd, 1) := by decide +kernel
theorem dX11_sumOf_26 : decode cX11_sumOf 26 = .ok (.istore_n 1, 1) := by decide +kernel
theorem dX11_sumOf_27 : decode cX11_sumOf 27 = .ok (.iinc 4 1, 3) := by decide +kernel
theorem dX11_sumOf_30 : decode cX11_sumOf 30 = .ok (.goto (-20), 3) := by decide +kernel
theorem dX11_sumOf_33 : decode cX11_sumOf 33 = .ok (.iload_n 1, 1) := by decide +kernel
theorem dX11_sumOf_34 : decode cX11_sumOf 34 = .ok (.ireturn, 1) := by decide +kernel
theorem ms_X11_sumOf : MS yX11_sumOf cX11_sumOf 6 (some .int) 1 := ⟨tb_769, tb_768, tb_1, by decide +kernel, by decide +kernel, by decide +kernel⟩
def f_X11_sumOf_b10 (fu : Nat) (N_p0 : Nat) (p0_row : Nat → Int32) (k10 : Int32 → Int32 → Int32 → Option (Int32)) (x1 : Int32) (x3 : Int32) (x4 : Int32) : Option (Int32) := (if x3 ≤ x4 then some (x1) else (rdI p0_row N_p0 x4).bind fun y_7 => bnd (x1 + y_7) fun x1_8 => bnd (x4 + 1) fun x4_9 => k10 x1_8 x3 x4_9)
def f_X11_sumOf_l10 (fu : Nat) (N_p0 : Nat) (p0_row : Nat → Int32) : Nat → Int32 → Int32 → Int32 → Option (Int32)
  | 0, _, _, _ => none
  | n + 1, x1, x3, x4 => f_X11_sumOf_b10 fu N_p0 p0_row (f_X11_sumOf_l10 fu N_p0 p0_row n) x1 x3 x4
def f_X11_sumOf (fu : Nat) (N_p0 : Nat) (p0_row : Nat → Int32) : Option (Int32) := bnd (Int32.ofNat N_p0) fun x3_10 => f_X11_sumOf_l10 fu N_p0 p0_row fu 0 x3_10 0
abbrev rm_X11_sumOf : Room := { frames := 0, cells := 0, slots := 0, locals := 0 }
set_option maxHeartbeats 4000000 in
set_option maxRecDepth 100000 in
theorem c_X11_sumOf (l : Launch) (D : va_G) (cy : Nat → ClassId) (fu : Nat) (A_p0 : Nat) (N_p0 : Nat) (p0_row : Nat → Int32) (res : Int32) (h : f_X11_sumOf fu N_p0 p0_row = some res) : Met l yX11_sumOf (WW yX11_sumOf cX11_sumOf 6 (some .int)) rm_X11_sumOf (Rd D cy [.ref A_p0] [[(A_p0, .inl (cy 0, N_p0, .inl p0_row))]]) (vp_Si (fun v => v = res)) 0 0 (fun _ => False) := by
  refine Met.ofW (cc := cX11_sumOf) (maxL := 6) (ret := (some .int)) (by decide) rfl ?_
  intro p e s m args below meth c s₁ B hml hv
  obtain ⟨hargs, hP, hX⟩ := hv
  have hx := B.exec
  have hb := B.bytes
  have hr := B.returns
  have ht : ∀ w ∈ lw_gd, w.before args s = true := fun w hw => atoms_spec (ws := WW yX11_sumOf cX11_sumOf 6 (some .int)) B.pre w (List.mem_cons_of_mem _ hw)
  have hown : s.vm.findClass RX11 = some m.cls := findClass_of_methodNamed B.named
  have hlocks := B.notSynchronized
  have hP : PB D [[(A_p0, .inl (cy 0, N_p0, .inl p0_row))]] s.heap := hP
  obtain ⟨ls, hl, hent⟩ := ent (m := m) (n := 6) hargs (Nat.le_of_ble_eq_true rfl) (lv := [(0, .ref A_p0)]) rfl
  rw [hent]
  clear hent
  have l10 : ∀ (n10 : Nat) (x1 : Int32) (x3 : Int32) (x4 : Int32) (ls : Array Slot), lv_has ls 6 [(1, .int x1), (2, .ref A_p0), (3, .int x3), (4, .int x4)] → f_X11_sumOf_l10 fu N_p0 p0_row n10 x1 x3 x4 = some res → W p l e (headSpec (WW yX11_sumOf cX11_sumOf 6 (some .int)) rm_X11_sumOf).room s m args below meth c s.heap [] 0 0 (MQ below (vp_Si (fun v => v = res)) args s 0 0 (fun _ => False)) (F0 m 10 ls []) := by
    intro n10
    induction n10 with
    | zero => intro x1 x3 x4 ls hl h; cases h
    | succ n10 ih10 =>
      intro x1 x3 x4 ls hl h
      have h : f_X11_sumOf_b10 fu N_p0 p0_row (f_X11_sumOf_l10 fu N_p0 p0_row n10) x1 x3 x4 = some res := h
      unfold f_X11_sumOf_b10 at h
      refine lv_iload hx hb dX11_sumOf_10 (lv_at hl 3 rfl) ?_
      refine lv_iload_n hx hb dX11_sumOf_12 rfl (lv_at hl 2 rfl) ?_
      refine lv_icmp_ge (tgt := 33) hx hb dX11_sumOf_13 (by decide) (fun c_6 => ?_) (fun c_6 => ?_)
      · have h := it c_6 h
        refine lv_iload_n hx hb dX11_sumOf_33 rfl (lv_at hl 0 rfl) ?_
        cases h
        exact W.iret hx hb hr (fun _ ht9 _ => ⟨_, rfl, rfl, ht9⟩) (fun _ hq => by cases hq) dX11_sumOf_34
      · have h := ie c_6 h
        refine lv_aload_n hx hb dX11_sumOf_16 rfl (lv_at hl 1 rfl) ?_
        refine lv_iload hx hb dX11_sumOf_17 (lv_at hl 3 rfl) ?_
        obtain ⟨y_7, e_y_7, h⟩ := bi h
        refine xiald (i0 := 0) (j0 := 0) hx hb hX hP rfl rfl e_y_7 dX11_sumOf_19 ?_
        refine lv_istore (lv' := [(5, .int y_7), (1, .int x1), (2, .ref A_p0), (3, .int x3), (4, .int x4)]) hx hb dX11_sumOf_20 hl (by decide) rfl (fun ls hl => ?_)
        refine lv_iload_n hx hb dX11_sumOf_22 rfl (lv_at hl 1 rfl) ?_
        refine lv_iload hx hb dX11_sumOf_23 (lv_at hl 0 rfl) ?_
        refine lv_iadd hx hb dX11_sumOf_25 ?_
        refine lv_topi (fun x1_8 e_x1_8 => ?_)
        have h := bn e_x1_8 h
        refine lv_istore_n (lv' := [(1, .int x1_8), (5, .int y_7), (2, .ref A_p0), (3, .int x3), (4, .int x4)]) hx hb dX11_sumOf_26 rfl hl (by decide) rfl (fun ls hl => ?_)
        obtain ⟨x4_9, e_x4_9⟩ : ∃ y : Int32, y = x4 + 1 := ⟨_, rfl⟩
        have h := bn e_x4_9 h
        refine lv_iinc (v := x4_9) (lv' := [(4, .int x4_9), (1, .int x1_8), (5, .int y_7), (2, .ref A_p0), (3, .int x3)]) hx hb dX11_sumOf_27 hl (k := 4) rfl (by rw [e_x4_9]; rfl) (by decide) rfl (fun ls hl => ?_)
        refine lv_goto (tgt := 10) hx hb dX11_sumOf_30 (by decide) ?_
        exact ih10 x1_8 x3 x4_9 ls (lv_sub hl [1, 3, 4, 0] rfl) h
  unfold f_X11_sumOf at h
  refine lv_iconst (v := 0) hx hb dX11_sumOf_0 (by decide) ?_
  refine lv_istore_n (lv' := [(1, .int 0), (0, .ref A_p0)]) hx hb dX11_sumOf_1 rfl hl (by decide) rfl (fun ls hl => ?_)
  refine lv_aload_n hx hb dX11_sumOf_2 rfl (lv_at hl 1 rfl) ?_
  refine lv_astore_n (lv' := [(2, .ref A_p0), (1, .int 0), (0, .ref A_p0)]) hx hb dX11_sumOf_3 rfl hl (by decide) rfl (fun ls hl => ?_)
  refine lv_aload_n hx hb dX11_sumOf_4 rfl (lv_at hl 0 rfl) ?_
  refine xlen (i0 := 0) (j0 := 0) (t0 := 0) (v := Int32.ofNat N_p0) hx hb hX hP rfl rfl rfl rfl dX11_sumOf_5 ?_
  refine lv_topi (fun x3_10 e_x3_10 => ?_)
  have h := bn e_x3_10 h
  refine lv_istore_n (lv' := [(3, .int x3_10), (2, .ref A_p0), (1, .int 0), (0, .ref A_p0)]) hx hb dX11_sumOf_6 rfl hl (by decide) rfl (fun ls hl => ?_)
  refine lv_iconst (v := 0) hx hb dX11_sumOf_7 (by decide) ?_
  refine lv_istore (lv' := [(4, .int 0), (3, .int x3_10), (2, .ref A_p0), (1, .int 0), (0, .ref A_p0)]) hx hb dX11_sumOf_8 hl (by decide) rfl (fun ls hl => ?_)
  exact l10 fu 0 x3_10 0 ls (lv_sub hl [3, 2, 1, 0] rfl) h
theorem dX11_told_0 : decode cX11_told 0 = .ok (.iload_n 1, 1) := by decide +kernel
theorem dX11_told_1 : decode cX11_told 1 = .ok (.tableswitch 184 0 9 #[55, 67, 79, 91, 103, 115, 130, 142, 154, 169], 55) := by decide +kernel
theorem dX11_told_56 : decode cX11_told 56 = .ok (.aload_n 0, 1) := by decide +kernel
theorem dX11_told_57 : decode cX11_told 57 = .ok (.aload_n 0, 1) := by decide +kernel
theorem dX11_told_58 : decode cX11_told 58 = .ok (.getfield 29, 3) := by decide +kernel
theorem dX11_told_61 : decode cX11_told 61 = .ok (.getfield 190, 3) := by decide +kernel
theorem dX11_told_64 : decode cX11_told 64 = .ok (.invokevirtual 193, 3) := by decide +kernel
theorem dX11_told_67 : decode cX11_told 67 = .ok (.ireturn, 1) := by decide +kernel
theorem dX11_told_68 : decode cX11_told 68 = .ok (.aload_n 0, 1) := by decide +kernel
theorem dX11_told_69 : decode cX11_told 69 = .ok (.aload_n 0, 1) := by decide +kernel
theorem dX11_told_70 : decode cX11_told 70 = .ok (.getfield 29, 3) := by decide +kernel
theorem dX11_told_73 : decode cX11_told 73 = .ok (.getfield 215, 3) := by decide +kernel
theorem dX11_told_76 : decode cX11_told 76 = .ok (.invokevirtual 193, 3) := by decide +kernel
theorem dX11_told_79 : decode cX11_told 79 = .ok (.ireturn, 1) := by decide +kernel
theorem dX11_told_80 : decode cX11_told 80 = .ok (.aload_n 0, 1) := by decide +kernel
theorem dX11_told_81 : decode cX11_told 81 = .ok (.aload_n 0, 1) := by decide +kernel
theorem dX11_told_82 : decode cX11_told 82 = .ok (.getfield 29, 3) := by decide +kernel
theorem dX11_told_85 : decode cX11_told 85 = .ok (.getfield 218, 3) := by decide +kernel
theorem dX11_told_88 : decode cX11_told 88 = .ok (.invokevirtual 193, 3) := by decide +kernel
theorem dX11_told_91 : decode cX11_told 91 = .ok (.ireturn, 1) := by decide +kernel
theorem dX11_told_92 : decode cX11_told 92 = .ok (.aload_n 0, 1) := by decide +kernel
theorem dX11_told_93 : decode cX11_told 93 = .ok (.aload_n 0, 1) := by decide +kernel
theorem dX11_told_94 : decode cX11_told 94 = .ok (.getfield 29, 3) := by decide +kernel
theorem dX11_told_97 : decode cX11_told 97 = .ok (.getfield 221, 3) := by decide +kernel
theorem dX11_told_100 : decode cX11_told 100 = .ok (.invokevirtual 193, 3) := by decide +kernel
theorem dX11_told_103 : decode cX11_told 103 = .ok (.ireturn, 1) := by decide +kernel
theorem dX11_told_104 : decode cX11_told 104 = .ok (.aload_n 0, 1) := by decide +kernel
theorem dX11_told_105 : decode cX11_told 105 = .ok (.aload_n 0, 1) := by decide +kernel
theorem dX11_told_106 : decode cX11_told 106 = .ok (.getfield 29, 3) := by decide +kernel
theorem dX11_told_109 : decode cX11_told 109 = .ok (.invokevirtual 224, 3) := by decide +kernel
theorem dX11_told_112 : decode cX11_told 112 = .ok (.invokevirtual 193, 3) := by decide +kernel
theorem dX11_told_115 : decode cX11_told 115 = .ok (.ireturn, 1) := by decide +kernel
theorem dX11_told_116 : decode cX11_told 116 = .ok (.aload_n 0, 1) := by decide +kernel
theorem dX11_told_117 : decode cX11_told 117 = .ok (.aload_n 0, 1) := by decide +kernel
theorem dX11_told_118 : decode cX11_told 118 = .ok (.getfield 29, 3) := by decide +kernel
theorem dX11_told_121 : decode cX11_told 121 = .ok (.getfield 228, 3) := by decide +kernel
theorem dX11_told_124 : decode cX11_told 124 = .ok (.invokestatic 232, 3) := by decide +kernel
theorem dX11_told_127 : decode cX11_told 127 = .ok (.invokevirtual 193, 3) := by decide +kernel
theorem dX11_told_130 : decode cX11_told 130 = .ok (.ireturn, 1) := by decide +kernel
theorem dX11_told_131 : decode cX11_told 131 = .ok (.aload_n 0, 1) := by decide +kernel
theorem dX11_told_132 : decode cX11_told 132 = .ok (.aload_n 0, 1) := by decide +kernel
theorem dX11_told_133 : decode cX11_told 133 = .ok (.getfield 29, 3) := by decide +kernel
theorem dX11_told_136 : decode cX11_told 136 = .ok (.getfield 236, 3) := by decide +kernel
theorem dX11_told_139 : decode cX11_told 139 = .ok (.invokevirtual 193, 3) := by decide +kernel
theorem dX11_told_142 : decode cX11_told 142 = .ok (.ireturn, 1) := by decide +kernel
theorem dX11_told_143 : decode cX11_told 143 = .ok (.aload_n 0, 1) := by decide +kernel
theorem dX11_told_144 : decode cX11_told 144 = .ok (.aload_n 0, 1) := by decide +kernel
theorem dX11_told_145 : decode cX11_told 145 = .ok (.getfield 29, 3) := by decide +kernel
theorem dX11_told_148 : decode cX11_told 148 = .ok (.getfield 239, 3) := by decide +kernel
theorem dX11_told_151 : decode cX11_told 151 = .ok (.invokevirtual 193, 3) := by decide +kernel
theorem dX11_told_154 : decode cX11_told 154 = .ok (.ireturn, 1) := by decide +kernel
theorem dX11_told_155 : decode cX11_told 155 = .ok (.aload_n 0, 1) := by decide +kernel
theorem dX11_told_156 : decode cX11_told 156 = .ok (.aload_n 0, 1) := by decide +kernel
theorem dX11_told_157 : decode cX11_told 157 = .ok (.getfield 29, 3) := by decide +kernel
theorem dX11_told_160 : decode cX11_told 160 = .ok (.getfield 242, 3) := by decide +kernel
theorem dX11_told_163 : decode cX11_told 163 = .ok (.invokestatic 232, 3) := by decide +kernel
theorem dX11_told_166 : decode cX11_told 166 = .ok (.invokevirtual 193, 3) := by decide +kernel
theorem dX11_told_169 : decode cX11_told 169 = .ok (.ireturn, 1) := by decide +kernel
theorem dX11_told_170 : decode cX11_told 170 = .ok (.aload_n 0, 1) := by decide +kernel
theorem dX11_told_171 : decode cX11_told 171 = .ok (.aload_n 0, 1) := by decide +kernel
theorem dX11_told_172 : decode cX11_told 172 = .ok (.getfield 29, 3) := by decide +kernel
theorem dX11_told_175 : decode cX11_told 175 = .ok (.getfield 245, 3) := by decide +kernel
theorem dX11_told_178 : decode cX11_told 178 = .ok (.invokestatic 232, 3) := by decide +kernel
theorem dX11_told_181 : decode cX11_told 181 = .ok (.invokevirtual 193, 3) := by decide +kernel
theorem dX11_told_184 : decode cX11_told 184 = .ok (.ireturn, 1) := by decide +kernel
theorem dX11_told_185 : decode cX11_told 185 = .ok (.aload_n 0, 1) := by decide +kernel
theorem dX11_told_186 : decode cX11_told 186 = .ok (.iconst 1, 1) := by decide +kernel
theorem dX11_told_187 : decode cX11_told 187 = .ok (.invokevirtual 143, 3) := by decide +kernel
theorem dX11_told_190 : decode cX11_told 190 = .ok (.ireturn, 1) := by decide +kernel
theorem mv_X11_told : MV yX11_told RX11 cX11_told 2 (some .int) 1 := ⟨tb_762, tb_760, tb_761, tb_1, by decide +kernel, by decide +kernel, by decide +kernel⟩
def f_X11_told (fu : Nat) (b_latestStatus : Int32) (a_medals : Nat → Int32) (a_stood : Nat → Int32) (a_fled : Nat → Int32) (a_count : Int32) (a_living : Int32) (a_pride : Int32) (a_quota : Int32) (a_melted : Int32) (a_lost : Int32) (x1 : Int32) : Option (Int32 × Int32) := (if x1 = 0 then (f_X11_answer fu b_latestStatus a_count).bind fun z_27 => some (z_27.1, z_27.2) else (if x1 = 1 then (f_X11_answer fu b_latestStatus a_pride).bind fun z_29 => some (z_29.1, z_29.2) else (if x1 = 2 then (f_X11_answer fu b_latestStatus a_quota).bind fun z_31 => some (z_31.1, z_31.2) else (if x1 = 3 then (f_X11_answer fu b_latestStatus a_living).bind fun z_33 => some (z_33.1, z_33.2) else (if x1 = 4 then (f_X0_decorated fu a_medals a_count).bind fun z_35 => (f_X11_answer fu b_latestStatus z_35).bind fun z_36 => some (z_36.1, z_36.2) else (if x1 = 5 then (f_X11_sumOf fu 8 a_medals).bind fun z_38 => (f_X11_answer fu b_latestStatus z_38).bind fun z_39 => some (z_39.1, z_39.2) else (if x1 = 6 then (f_X11_answer fu b_latestStatus a_melted).bind fun z_41 => some (z_41.1, z_41.2) else (if x1 = 7 then (f_X11_answer fu b_latestStatus a_lost).bind fun z_43 => some (z_43.1, z_43.2) else (if x1 = 8 then (f_X11_sumOf fu 8 a_stood).bind fun z_45 => (f_X11_answer fu b_latestStatus z_45).bind fun z_46 => some (z_46.1, z_46.2) else (if x1 = 9 then (f_X11_sumOf fu 8 a_fled).bind fun z_48 => (f_X11_answer fu b_latestStatus z_48).bind fun z_49 => some (z_49.1, z_49.2) else (f_X11_refuse fu b_latestStatus 1).bind fun z_50 => some (z_50.1, z_50.2)))))))))))
abbrev rm_X11_told : Room := { frames := 1, cells := 0, slots := 0, locals := 25 }
set_option maxHeartbeats 4000000 in
set_option maxRecDepth 100000 in
theorem c_X11_told (l : Launch) (D : va_G) (cy : Nat → ClassId) (fu : Nat) (A_b : Nat → Nat) (r_b_trays : Nat) (r_b_war : Nat) (r_b_draftArmy : Nat) (r_b_draftWar : Nat) (r_b_reader : Nat) (r_b_armyReader : Nat) (r_b_warReader : Nat) (r_b_markedArmies : Nat) (r_b_markedWars : Nat) (r_b_latest : Nat) (r_b_trial : Nat) (r_b_foresight : Nat) (r_b_pairs : Nat) (b_latestStatus : Int32) (b_fractionTop : Int64) (b_fractionBottom : Int64) (b_marks : Int32) (A_a : Nat → Nat) (a_name : Nat → Int64) (a_courage : Nat → Int32) (a_weight : Nat → Int32) (a_medals : Nat → Int32) (a_stood : Nat → Int32) (a_fled : Nat → Int32) (a_liked : Nat → Int32) (a_votes : Nat → Int32) (a_count : Int32) (a_living : Int32) (a_pride : Int32) (a_quota : Int32) (a_melted : Int32) (a_lost : Int32) (x1 : Int32) (res : Int32 × Int32) (h : f_X11_told fu b_latestStatus a_medals a_stood a_fled a_count a_living a_pride a_quota a_melted a_lost x1 = some res) (A : Nat → Prop) (hA : A = adr [bl_X11 cy A_b r_b_trays (A_a 0) r_b_war r_b_draftArmy r_b_draftWar r_b_reader r_b_armyReader r_b_warReader r_b_markedArmies r_b_markedWars r_b_latest r_b_trial r_b_foresight r_b_pairs b_latestStatus b_fractionTop b_fractionBottom b_marks, bl_X0 cy A_a a_name a_courage a_weight a_medals a_stood a_fled a_liked a_votes a_count a_living a_pride a_quota a_melted a_lost]) (W1 : List va_W) (hW1 : W1 = [bl_X11 cy A_b r_b_trays (A_a 0) r_b_war r_b_draftArmy r_b_draftWar r_b_reader r_b_armyReader r_b_warReader r_b_markedArmies r_b_markedWars r_b_latest r_b_trial r_b_foresight r_b_pairs res.2 b_fractionTop b_fractionBottom b_marks, bl_X0 cy A_a a_name a_courage a_weight a_medals a_stood a_fled a_liked a_votes a_count a_living a_pride a_quota a_melted a_lost]) : Met l yX11_told (WW yX11_told cX11_told 2 (some .int)) rm_X11_told (Ed D cy [.ref (A_b 0), .int x1] [bl_X11 cy A_b r_b_trays (A_a 0) r_b_war r_b_draftArmy r_b_draftWar r_b_reader r_b_armyReader r_b_warReader r_b_markedArmies r_b_markedWars r_b_latest r_b_trial r_b_foresight r_b_pairs b_latestStatus b_fractionTop b_fractionBottom b_marks, bl_X0 cy A_a a_name a_courage a_weight a_medals a_stood a_fled a_liked a_votes a_count a_living a_pride a_quota a_melted a_lost]) (Qei D res.1 A W1) 0 0 A := by
  refine Met.ofW (cc := cX11_told) (maxL := 2) (ret := (some .int)) (by decide) rfl ?_
  intro p e s m args below meth c s₁ B hml hv
  obtain ⟨hargs, hP, hX, hD0⟩ := hv
  have hx := B.exec
  have hb := B.bytes
  have hr := B.returns
  have ht : ∀ w ∈ lw_gd, w.before args s = true := fun w hw => atoms_spec (ws := WW yX11_told cX11_told 2 (some .int)) B.pre w (List.mem_cons_of_mem _ hw)
  have hown : s.vm.findClass RX11 = some m.cls := findClass_of_methodNamed B.named
  have hlocks := B.notSynchronized
  have hP : PD D A [bl_X11 cy A_b r_b_trays (A_a 0) r_b_war r_b_draftArmy r_b_draftWar r_b_reader r_b_armyReader r_b_warReader r_b_markedArmies r_b_markedWars r_b_latest r_b_trial r_b_foresight r_b_pairs b_latestStatus b_fractionTop b_fractionBottom b_marks, bl_X0 cy A_a a_name a_courage a_weight a_medals a_stood a_fled a_liked a_votes a_count a_living a_pride a_quota a_melted a_lost] s.heap := ⟨hP, by rw [hA]; exact hD0.own⟩
  have hS : va_S A s.heap s.heap [] := va_S.rf
  obtain ⟨ls, hl, hent⟩ := ent (m := m) (n := 2) hargs (Nat.le_of_ble_eq_true rfl) (lv := [(0, .ref (A_b 0)), (1, .int x1)]) rfl
  rw [hent]
  clear hent
  unfold f_X11_told at h
  refine lv_iload_n hx hb dX11_told_0 rfl (lv_at hl 1 rfl) ?_
  by_cases c_26 : x1 = 0
  · have h := it c_26 h
    refine lv_tableIn (tgt := 56) hx hb dX11_told_1 (by rw [c_26]; decide) (by rw [c_26]; decide) (by rw [c_26]; rfl) (by decide) ?_
    refine lv_aload_n hx hb dX11_told_56 rfl (lv_at hl 0 rfl) ?_
    refine lv_aload_n hx hb dX11_told_57 rfl (lv_at hl 0 rfl) ?_
    refine xget (i := 0) (j := 0) (k := 4) (T := TX11) hx hb ht tb_iX11 hown hX hP.1 rfl rfl rfl (by decide) tb_433 rfl dX11_told_58 ?_
    refine xget (i := 1) (j := 0) (k := 8) (T := TX0) hx hb ht tb_iX0 hown hX hP.1 rfl rfl rfl (by decide) tb_60 rfl dX11_told_61 ?_
    obtain ⟨z_27, e_z_27, h⟩ := bi h
    refine efVi (rest := []) ⟨hx, hb, hml, hown, ht⟩ (c_X11_answer l D cy fu A_b r_b_trays (A_a 0) r_b_war r_b_draftArmy r_b_draftWar r_b_reader r_b_armyReader r_b_warReader r_b_markedArmies r_b_markedWars r_b_latest r_b_trial r_b_foresight r_b_pairs b_latestStatus b_fractionTop b_fractionBottom b_marks a_count z_27 e_z_27 _ rfl _ rfl) (cV ht mv_X11_answer tb_696 rfl rfl ⟨Nat.le_of_ble_eq_true rfl, Nat.le_of_ble_eq_true rfl⟩) hP hS hX [0] rfl rfl rfl rfl rfl rfl hl.1 rfl (Nat.le_of_ble_eq_true rfl) dX11_told_64 ⟨Nat.le_of_ble_eq_true rfl, Nat.le_of_ble_eq_true rfl⟩ (fun H locs hP hS => ?_)
    have hP : PD D A [bl_X11 cy A_b r_b_trays (A_a 0) r_b_war r_b_draftArmy r_b_draftWar r_b_reader r_b_armyReader r_b_warReader r_b_markedArmies r_b_markedWars r_b_latest r_b_trial r_b_foresight r_b_pairs z_27.2 b_fractionTop b_fractionBottom b_marks, bl_X0 cy A_a a_name a_courage a_weight a_medals a_stood a_fled a_liked a_votes a_count a_living a_pride a_quota a_melted a_lost] H := hP
    cases h
    subst hW1
    exact W.iret hx hb hr (fun _ ht9 _ => ⟨⟨_, (), rfl, rfl, hPt ht9 hP.1⟩, hS.F ht9⟩) hS.2.2 dX11_told_67
  have h := ie c_26 h
  by_cases c_28 : x1 = 1
  · have h := it c_28 h
    refine lv_tableIn (tgt := 68) hx hb dX11_told_1 (by rw [c_28]; decide) (by rw [c_28]; decide) (by rw [c_28]; rfl) (by decide) ?_
    refine lv_aload_n hx hb dX11_told_68 rfl (lv_at hl 0 rfl) ?_
    refine lv_aload_n hx hb dX11_told_69 rfl (lv_at hl 0 rfl) ?_
    refine xget (i := 0) (j := 0) (k := 4) (T := TX11) hx hb ht tb_iX11 hown hX hP.1 rfl rfl rfl (by decide) tb_433 rfl dX11_told_70 ?_
    refine xget (i := 1) (j := 0) (k := 10) (T := TX0) hx hb ht tb_iX0 hown hX hP.1 rfl rfl rfl (by decide) tb_67 rfl dX11_told_73 ?_
    obtain ⟨z_29, e_z_29, h⟩ := bi h
    refine efVi (rest := []) ⟨hx, hb, hml, hown, ht⟩ (c_X11_answer l D cy fu A_b r_b_trays (A_a 0) r_b_war r_b_draftArmy r_b_draftWar r_b_reader r_b_armyReader r_b_warReader r_b_markedArmies r_b_markedWars r_b_latest r_b_trial r_b_foresight r_b_pairs b_latestStatus b_fractionTop b_fractionBottom b_marks a_pride z_29 e_z_29 _ rfl _ rfl) (cV ht mv_X11_answer tb_696 rfl rfl ⟨Nat.le_of_ble_eq_true rfl, Nat.le_of_ble_eq_true rfl⟩) hP hS hX [0] rfl rfl rfl rfl rfl rfl hl.1 rfl (Nat.le_of_ble_eq_true rfl) dX11_told_76 ⟨Nat.le_of_ble_eq_true rfl, Nat.le_of_ble_eq_true rfl⟩ (fun H locs hP hS => ?_)
    have hP : PD D A [bl_X11 cy A_b r_b_trays (A_a 0) r_b_war r_b_draftArmy r_b_draftWar r_b_reader r_b_armyReader r_b_warReader r_b_markedArmies r_b_markedWars r_b_latest r_b_trial r_b_foresight r_b_pairs z_29.2 b_fractionTop b_fractionBottom b_marks, bl_X0 cy A_a a_name a_courage a_weight a_medals a_stood a_fled a_liked a_votes a_count a_living a_pride a_quota a_melted a_lost] H := hP
    cases h
    subst hW1
    exact W.iret hx hb hr (fun _ ht9 _ => ⟨⟨_, (), rfl, rfl, hPt ht9 hP.1⟩, hS.F ht9⟩) hS.2.2 dX11_told_79
  have h := ie c_28 h
  by_cases c_30 : x1 = 2
  · have h := it c_30 h
    refine lv_tableIn (tgt := 80) hx hb dX11_told_1 (by rw [c_30]; decide) (by rw [c_30]; decide) (by rw [c_30]; rfl) (by decide) ?_
    refine lv_aload_n hx hb dX11_told_80 rfl (lv_at hl 0 rfl) ?_
    refine lv_aload_n hx hb dX11_told_81 rfl (lv_at hl 0 rfl) ?_
    refine xget (i := 0) (j := 0) (k := 4) (T := TX11) hx hb ht tb_iX11 hown hX hP.1 rfl rfl rfl (by decide) tb_433 rfl dX11_told_82 ?_
    refine xget (i := 1) (j := 0) (k := 11) (T := TX0) hx hb ht tb_iX0 hown hX hP.1 rfl rfl rfl (by decide) tb_70 rfl dX11_told_85 ?_
    obtain ⟨z_31, e_z_31, h⟩ := bi h
    refine efVi (rest := []) ⟨hx, hb, hml, hown, ht⟩ (c_X11_answer l D cy fu A_b r_b_trays (A_a 0) r_b_war r_b_draftArmy r_b_draftWar r_b_reader r_b_armyReader r_b_warReader r_b_markedArmies r_b_markedWars r_b_latest r_b_trial r_b_foresight r_b_pairs b_latestStatus b_fractionTop b_fractionBottom b_marks a_quota z_31 e_z_31 _ rfl _ rfl) (cV ht mv_X11_answer tb_696 rfl rfl ⟨Nat.le_of_ble_eq_true rfl, Nat.le_of_ble_eq_true rfl⟩) hP hS hX [0] rfl rfl rfl rfl rfl rfl hl.1 rfl (Nat.le_of_ble_eq_true rfl) dX11_told_88 ⟨Nat.le_of_ble_eq_true rfl, Nat.le_of_ble_eq_true rfl⟩ (fun H locs hP hS => ?_)
    have hP : PD D A [bl_X11 cy A_b r_b_trays (A_a 0) r_b_war r_b_draftArmy r_b_draftWar r_b_reader r_b_armyReader r_b_warReader r_b_markedArmies r_b_markedWars r_b_latest r_b_trial r_b_foresight r_b_pairs z_31.2 b_fractionTop b_fractionBottom b_marks, bl_X0 cy A_a a_name a_courage a_weight a_medals a_stood a_fled a_liked a_votes a_count a_living a_pride a_quota a_melted a_lost] H := hP
    cases h
    subst hW1
    exact W.iret hx hb hr (fun _ ht9 _ => ⟨⟨_, (), rfl, rfl, hPt ht9 hP.1⟩, hS.F ht9⟩) hS.2.2 dX11_told_91
  have h := ie c_30 h
  by_cases c_32 : x1 = 3
  · have h := it c_32 h
    refine lv_tableIn (tgt := 92) hx hb dX11_told_1 (by rw [c_32]; decide) (by rw [c_32]; decide) (by rw [c_32]; rfl) (by decide) ?_
    refine lv_aload_n hx hb dX11_told_92 rfl (lv_at hl 0 rfl) ?_
    refine lv_aload_n hx hb dX11_told_93 rfl (lv_at hl 0 rfl) ?_
    refine xget (i := 0) (j := 0) (k := 4) (T := TX11) hx hb ht tb_iX11 hown hX hP.1 rfl rfl rfl (by decide) tb_433 rfl dX11_told_94 ?_
    refine xget (i := 1) (j := 0) (k := 9) (T := TX0) hx hb ht tb_iX0 hown hX hP.1 rfl rfl rfl (by decide) tb_64 rfl dX11_told_97 ?_
    obtain ⟨z_33, e_z_33, h⟩ := bi h
    refine efVi (rest := []) ⟨hx, hb, hml, hown, ht⟩ (c_X11_answer l D cy fu A_b r_b_trays (A_a 0) r_b_war r_b_draftArmy r_b_draftWar r_b_reader r_b_armyReader r_b_warReader r_b_markedArmies r_b_markedWars r_b_latest r_b_trial r_b_foresight r_b_pairs b_latestStatus b_fractionTop b_fractionBottom b_marks a_living z_33 e_z_33 _ rfl _ rfl) (cV ht mv_X11_answer tb_696 rfl rfl ⟨Nat.le_of_ble_eq_true rfl, Nat.le_of_ble_eq_true rfl⟩) hP hS hX [0] rfl rfl rfl rfl rfl rfl hl.1 rfl (Nat.le_of_ble_eq_true rfl) dX11_told_100 ⟨Nat.le_of_ble_eq_true rfl, Nat.le_of_ble_eq_true rfl⟩ (fun H locs hP hS => ?_)
    have hP : PD D A [bl_X11 cy A_b r_b_trays (A_a 0) r_b_war r_b_draftArmy r_b_draftWar r_b_reader r_b_armyReader r_b_warReader r_b_markedArmies r_b_markedWars r_b_latest r_b_trial r_b_foresight r_b_pairs z_33.2 b_fractionTop b_fractionBottom b_marks, bl_X0 cy A_a a_name a_courage a_weight a_medals a_stood a_fled a_liked a_votes a_count a_living a_pride a_quota a_melted a_lost] H := hP
    cases h
    subst hW1
    exact W.iret hx hb hr (fun _ ht9 _ => ⟨⟨_, (), rfl, rfl, hPt ht9 hP.1⟩, hS.F ht9⟩) hS.2.2 dX11_told_103
  have h := ie c_32 h
  by_cases c_34 : x1 = 4
  · have h := it c_34 h
    refine lv_tableIn (tgt := 104) hx hb dX11_told_1 (by rw [c_34]; decide) (by rw [c_34]; decide) (by rw [c_34]; rfl) (by decide) ?_
    refine lv_aload_n hx hb dX11_told_104 rfl (lv_at hl 0 rfl) ?_
    refine lv_aload_n hx hb dX11_told_105 rfl (lv_at hl 0 rfl) ?_
    refine xget (i := 0) (j := 0) (k := 4) (T := TX11) hx hb ht tb_iX11 hown hX hP.1 rfl rfl rfl (by decide) tb_433 rfl dX11_told_106 ?_
    obtain ⟨z_35, e_z_35, h⟩ := bi h
    refine roVi (rest := [.ref (A_b 0)]) ⟨hx, hb, hml, hown, ht⟩ (c_X0_decorated l D cy fu A_a a_name a_courage a_weight a_medals a_stood a_fled a_liked a_votes a_count a_living a_pride a_quota a_melted a_lost z_35 e_z_35) (cV ht mv_X0_decorated tb_763 rfl rfl ⟨Nat.le_of_ble_eq_true rfl, Nat.le_of_ble_eq_true rfl⟩) (P_sub hP.1 [1] rfl) hX rfl rfl rfl hl.1 rfl (Nat.le_of_ble_eq_true rfl) dX11_told_109 ⟨Nat.le_of_ble_eq_true rfl, Nat.le_of_ble_eq_true rfl⟩ ?_
    obtain ⟨z_36, e_z_36, h⟩ := bi h
    refine efVi (rest := []) ⟨hx, hb, hml, hown, ht⟩ (c_X11_answer l D cy fu A_b r_b_trays (A_a 0) r_b_war r_b_draftArmy r_b_draftWar r_b_reader r_b_armyReader r_b_warReader r_b_markedArmies r_b_markedWars r_b_latest r_b_trial r_b_foresight r_b_pairs b_latestStatus b_fractionTop b_fractionBottom b_marks z_35 z_36 e_z_36 _ rfl _ rfl) (cV ht mv_X11_answer tb_696 rfl rfl ⟨Nat.le_of_ble_eq_true rfl, Nat.le_of_ble_eq_true rfl⟩) hP hS hX [0] rfl rfl rfl rfl rfl rfl hl.1 rfl (Nat.le_of_ble_eq_true rfl) dX11_told_112 ⟨Nat.le_of_ble_eq_true rfl, Nat.le_of_ble_eq_true rfl⟩ (fun H locs hP hS => ?_)
    have hP : PD D A [bl_X11 cy A_b r_b_trays (A_a 0) r_b_war r_b_draftArmy r_b_draftWar r_b_reader r_b_armyReader r_b_warReader r_b_markedArmies r_b_markedWars r_b_latest r_b_trial r_b_foresight r_b_pairs z_36.2 b_fractionTop b_fractionBottom b_marks, bl_X0 cy A_a a_name a_courage a_weight a_medals a_stood a_fled a_liked a_votes a_count a_living a_pride a_quota a_melted a_lost] H := hP
    cases h
    subst hW1
    exact W.iret hx hb hr (fun _ ht9 _ => ⟨⟨_, (), rfl, rfl, hPt ht9 hP.1⟩, hS.F ht9⟩) hS.2.2 dX11_told_115
  have h := ie c_34 h
  by_cases c_37 : x1 = 5
  · have h := it c_37 h
    refine lv_tableIn (tgt := 116) hx hb dX11_told_1 (by rw [c_37]; decide) (by rw [c_37]; decide) (by rw [c_37]; rfl) (by decide) ?_
    refine lv_aload_n hx hb dX11_told_116 rfl (lv_at hl 0 rfl) ?_
    refine lv_aload_n hx hb dX11_told_117 rfl (lv_at hl 0 rfl) ?_
    refine xget (i := 0) (j := 0) (k := 4) (T := TX11) hx hb ht tb_iX11 hown hX hP.1 rfl rfl rfl (by decide) tb_433 rfl dX11_told_118 ?_
    refine xget (i := 1) (j := 0) (k := 3) (T := TX0) hx hb ht tb_iX0 hown hX hP.1 rfl rfl rfl (by decide) tb_47 rfl dX11_told_121 ?_
    obtain ⟨z_38, e_z_38, h⟩ := bi h
    refine roSi (rest := [.ref (A_b 0)]) ⟨hx, hb, hml, hown, ht⟩ (c_X11_sumOf l D cy fu (A_a 4) 8 a_medals z_38 e_z_38) (cS ht ms_X11_sumOf tb_767 rfl rfl ⟨Nat.le_of_ble_eq_true rfl, Nat.le_of_ble_eq_true rfl⟩) (P_one hP.1 (i := 1) (j := 4) rfl rfl) hX rfl hl.1 rfl (Nat.le_of_ble_eq_true rfl) dX11_told_124 ⟨Nat.le_of_ble_eq_true rfl, Nat.le_of_ble_eq_true rfl⟩ ?_
    obtain ⟨z_39, e_z_39, h⟩ := bi h
    refine efVi (rest := []) ⟨hx, hb, hml, hown, ht⟩ (c_X11_answer l D cy fu A_b r_b_trays (A_a 0) r_b_war r_b_draftArmy r_b_draftWar r_b_reader r_b_armyReader r_b_warReader r_b_markedArmies r_b_markedWars r_b_latest r_b_trial r_b_foresight r_b_pairs b_latestStatus b_fractionTop b_fractionBottom b_marks z_38 z_39 e_z_39 _ rfl _ rfl) (cV ht mv_X11_answer tb_696 rfl rfl ⟨Nat.le_of_ble_eq_true rfl, Nat.le_of_ble_eq_true rfl⟩) hP hS hX [0] rfl rfl rfl rfl rfl rfl hl.1 rfl (Nat.le_of_ble_eq_true rfl) dX11_told_127 ⟨Nat.le_of_ble_eq_true rfl, Nat.le_of_ble_eq_true rfl⟩ (fun H locs hP hS => ?_)
    have hP : PD D A [bl_X11 cy A_b r_b_trays (A_a 0) r_b_war r_b_draftArmy r_b_draftWar r_b_reader r_b_armyReader r_b_warReader r_b_markedArmies r_b_markedWars r_b_latest r_b_trial r_b_foresight r_b_pairs z_39.2 b_fractionTop b_fractionBottom b_marks, bl_X0 cy A_a a_name a_courage a_weight a_medals a_stood a_fled a_liked a_votes a_count a_living a_pride a_quota a_melted a_lost] H := hP
    cases h
    subst hW1
    exact W.iret hx hb hr (fun _ ht9 _ => ⟨⟨_, (), rfl, rfl, hPt ht9 hP.1⟩, hS.F ht9⟩) hS.2.2 dX11_told_130
  have h := ie c_37 h
  by_cases c_40 : x1 = 6
  · have h := it c_40 h
    refine lv_tableIn (tgt := 131) hx hb dX11_told_1 (by rw [c_40]; decide) (by rw [c_40]; decide) (by rw [c_40]; rfl) (by decide) ?_
    refine lv_aload_n hx hb dX11_told_131 rfl (lv_at hl 0 rfl) ?_
    refine lv_aload_n hx hb dX11_told_132 rfl (lv_at hl 0 rfl) ?_
    refine xget (i := 0) (j := 0) (k := 4) (T := TX11) hx hb ht tb_iX11 hown hX hP.1 rfl rfl rfl (by decide) tb_433 rfl dX11_told_133 ?_
    refine xget (i := 1) (j := 0) (k := 12) (T := TX0) hx hb ht tb_iX0 hown hX hP.1 rfl rfl rfl (by decide) tb_72 rfl dX11_told_136 ?_
    obtain ⟨z_41, e_z_41, h⟩ := bi h
    refine efVi (rest := []) ⟨hx, hb, hml, hown, ht⟩ (c_X11_answer l D cy fu A_b r_b_trays (A_a 0) r_b_war r_b_draftArmy r_b_draftWar r_b_reader r_b_armyReader r_b_warReader r_b_markedArmies r_b_markedWars r_b_latest r_b_trial r_b_foresight r_b_pairs b_latestStatus b_fractionTop b_fractionBottom b_marks a_melted z_41 e_z_41 _ rfl _ rfl) (cV ht mv_X11_answer tb_696 rfl rfl ⟨Nat.le_of_ble_eq_true rfl, Nat.le_of_ble_eq_true rfl⟩) hP hS hX [0] rfl rfl rfl rfl rfl rfl hl.1 rfl (Nat.le_of_ble_eq_true rfl) dX11_told_139 ⟨Nat.le_of_ble_eq_true rfl, Nat.le_of_ble_eq_true rfl⟩ (fun H locs hP hS => ?_)
    have hP : PD D A [bl_X11 cy A_b r_b_trays (A_a 0) r_b_war r_b_draftArmy r_b_draftWar r_b_reader r_b_armyReader r_b_warReader r_b_markedArmies r_b_markedWars r_b_latest r_b_trial r_b_foresight r_b_pairs z_41.2 b_fractionTop b_fractionBottom b_marks, bl_X0 cy A_a a_name a_courage a_weight a_medals a_stood a_fled a_liked a_votes a_count a_living a_pride a_quota a_melted a_lost] H := hP
    cases h
    subst hW1
    exact W.iret hx hb hr (fun _ ht9 _ => ⟨⟨_, (), rfl, rfl, hPt ht9 hP.1⟩, hS.F ht9⟩) hS.2.2 dX11_told_142
  have h := ie c_40 h
  by_cases c_42 : x1 = 7
  · have h := it c_42 h
    refine lv_tableIn (tgt := 143) hx hb dX11_told_1 (by rw [c_42]; decide) (by rw [c_42]; decide) (by rw [c_42]; rfl) (by decide) ?_
    refine lv_aload_n hx hb dX11_told_143 rfl (lv_at hl 0 rfl) ?_
    refine lv_aload_n hx hb dX11_told_144 rfl (lv_at hl 0 rfl) ?_
    refine xget (i := 0) (j := 0) (k := 4) (T := TX11) hx hb ht tb_iX11 hown hX hP.1 rfl rfl rfl (by decide) tb_433 rfl dX11_told_145 ?_
    refine xget (i := 1) (j := 0) (k := 13) (T := TX0) hx hb ht tb_iX0 hown hX hP.1 rfl rfl rfl (by decide) tb_74 rfl dX11_told_148 ?_
    obtain ⟨z_43, e_z_43, h⟩ := bi h
    refine efVi (rest := []) ⟨hx, hb, hml, hown, ht⟩ (c_X11_answer l D cy fu A_b r_b_trays (A_a 0) r_b_war r_b_draftArmy r_b_draftWar r_b_reader r_b_armyReader r_b_warReader r_b_markedArmies r_b_markedWars r_b_latest r_b_trial r_b_foresight r_b_pairs b_latestStatus b_fractionTop b_fractionBottom b_marks a_lost z_43 e_z_43 _ rfl _ rfl) (cV ht mv_X11_answer tb_696 rfl rfl ⟨Nat.le_of_ble_eq_true rfl, Nat.le_of_ble_eq_true rfl⟩) hP hS hX [0] rfl rfl rfl rfl rfl rfl hl.1 rfl (Nat.le_of_ble_eq_true rfl) dX11_told_151 ⟨Nat.le_of_ble_eq_true rfl, Nat.le_of_ble_eq_true rfl⟩ (fun H locs hP hS => ?_)
    have hP : PD D A [bl_X11 cy A_b r_b_trays (A_a 0) r_b_war r_b_draftArmy r_b_draftWar r_b_reader r_b_armyReader r_b_warReader r_b_markedArmies r_b_markedWars r_b_latest r_b_trial r_b_foresight r_b_pairs z_43.2 b_fractionTop b_fractionBottom b_marks, bl_X0 cy A_a a_name a_courage a_weight a_medals a_stood a_fled a_liked a_votes a_count a_living a_pride a_quota a_melted a_lost] H := hP
    cases h
    subst hW1
    exact W.iret hx hb hr (fun _ ht9 _ => ⟨⟨_, (), rfl, rfl, hPt ht9 hP.1⟩, hS.F ht9⟩) hS.2.2 dX11_told_154
  have h := ie c_42 h
  by_cases c_44 : x1 = 8
  · have h := it c_44 h
    refine lv_tableIn (tgt := 155) hx hb dX11_told_1 (by rw [c_44]; decide) (by rw [c_44]; decide) (by rw [c_44]; rfl) (by decide) ?_
    refine lv_aload_n hx hb dX11_told_155 rfl (lv_at hl 0 rfl) ?_
    refine lv_aload_n hx hb dX11_told_156 rfl (lv_at hl 0 rfl) ?_
    refine xget (i := 0) (j := 0) (k := 4) (T := TX11) hx hb ht tb_iX11 hown hX hP.1 rfl rfl rfl (by decide) tb_433 rfl dX11_told_157 ?_
    refine xget (i := 1) (j := 0) (k := 4) (T := TX0) hx hb ht tb_iX0 hown hX hP.1 rfl rfl rfl (by decide) tb_49 rfl dX11_told_160 ?_
    obtain ⟨z_45, e_z_45, h⟩ := bi h
    refine roSi (rest := [.ref (A_b 0)]) ⟨hx, hb, hml, hown, ht⟩ (c_X11_sumOf l D cy fu (A_a 5) 8 a_stood z_45 e_z_45) (cS ht ms_X11_sumOf tb_767 rfl rfl ⟨Nat.le_of_ble_eq_true rfl, Nat.le_of_ble_eq_true rfl⟩) (P_one hP.1 (i := 1) (j := 5) rfl rfl) hX rfl hl.1 rfl (Nat.le_of_ble_eq_true rfl) dX11_told_163 ⟨Nat.le_of_ble_eq_true rfl, Nat.le_of_ble_eq_true rfl⟩ ?_
    obtain ⟨z_46, e_z_46, h⟩ := bi h
    refine efVi (rest := []) ⟨hx, hb, hml, hown, ht⟩ (c_X11_answer l D cy fu A_b r_b_trays (A_a 0) r_b_war r_b_draftArmy r_b_draftWar r_b_reader r_b_armyReader r_b_warReader r_b_markedArmies r_b_markedWars r_b_latest r_b_trial r_b_foresight r_b_pairs b_latestStatus b_fractionTop b_fractionBottom b_marks z_45 z_46 e_z_46 _ rfl _ rfl) (cV ht mv_X11_answer tb_696 rfl rfl ⟨Nat.le_of_ble_eq_true rfl, Nat.le_of_ble_eq_true rfl⟩) hP hS hX [0] rfl rfl rfl rfl rfl rfl hl.1 rfl (Nat.le_of_ble_eq_true rfl) dX11_told_166 ⟨Nat.le_of_ble_eq_true rfl, Nat.le_of_ble_eq_true rfl⟩ (fun H locs hP hS => ?_)
    have hP : PD D A [bl_X11 cy A_b r_b_trays (A_a 0) r_b_war r_b_draftArmy r_b_draftWar r_b_reader r_b_armyReader r_b_warReader r_b_markedArmies r_b_markedWars r_b_latest r_b_trial r_b_foresight r_b_pairs z_46.2 b_fractionTop b_fractionBottom b_marks, bl_X0 cy A_a a_name a_courage a_weight a_medals a_stood a_fled a_liked a_votes a_count a_living a_pride a_quota a_melted a_lost] H := hP
    cases h
    subst hW1
    exact W.iret hx hb hr (fun _ ht9 _ => ⟨⟨_, (), rfl, rfl, hPt ht9 hP.1⟩, hS.F ht9⟩) hS.2.2 dX11_told_169
  have h := ie c_44 h
  by_cases c_47 : x1 = 9
  · have h := it c_47 h
    refine lv_tableIn (tgt := 170) hx hb dX11_told_1 (by rw [c_47]; decide) (by rw [c_47]; decide) (by rw [c_47]; rfl) (by decide) ?_
    refine lv_aload_n hx hb dX11_told_170 rfl (lv_at hl 0 rfl) ?_
    refine lv_aload_n hx hb dX11_told_171 rfl (lv_at hl 0 rfl) ?_
    refine xget (i := 0) (j := 0) (k := 4) (T := TX11) hx hb ht tb_iX11 hown hX hP.1 rfl rfl rfl (by decide) tb_433 rfl dX11_told_172 ?_
    refine xget (i := 1) (j := 0) (k := 5) (T := TX0) hx hb ht tb_iX0 hown hX hP.1 rfl rfl rfl (by decide) tb_52 rfl dX11_told_175 ?_
    obtain ⟨z_48, e_z_48, h⟩ := bi h
    refine roSi (rest := [.ref (A_b 0)]) ⟨hx, hb, hml, hown, ht⟩ (c_X11_sumOf l D cy fu (A_a 6) 8 a_fled z_48 e_z_48) (cS ht ms_X11_sumOf tb_767 rfl rfl ⟨Nat.le_of_ble_eq_true rfl, Nat.le_of_ble_eq_true rfl⟩) (P_one hP.1 (i := 1) (j := 6) rfl rfl) hX rfl hl.1 rfl (Nat.le_of_ble_eq_true rfl) dX11_told_178 ⟨Nat.le_of_ble_eq_true rfl, Nat.le_of_ble_eq_true rfl⟩ ?_
    obtain ⟨z_49, e_z_49, h⟩ := bi h
    refine efVi (rest := []) ⟨hx, hb, hml, hown, ht⟩ (c_X11_answer l D cy fu A_b r_b_trays (A_a 0) r_b_war r_b_draftArmy r_b_draftWar r_b_reader r_b_armyReader r_b_warReader r_b_markedArmies r_b_markedWars r_b_latest r_b_trial r_b_foresight r_b_pairs b_latestStatus b_fractionTop b_fractionBottom b_marks z_48 z_49 e_z_49 _ rfl _ rfl) (cV ht mv_X11_answer tb_696 rfl rfl ⟨Nat.le_of_ble_eq_true rfl, Nat.le_of_ble_eq_true rfl⟩) hP hS hX [0] rfl rfl rfl rfl rfl rfl hl.1 rfl (Nat.le_of_ble_eq_true rfl) dX11_told_181 ⟨Nat.le_of_ble_eq_true rfl, Nat.le_of_ble_eq_true rfl⟩ (fun H locs hP hS => ?_)
    have hP : PD D A [bl_X11 cy A_b r_b_trays (A_a 0) r_b_war r_b_draftArmy r_b_draftWar r_b_reader r_b_armyReader r_b_warReader r_b_markedArmies r_b_markedWars r_b_latest r_b_trial r_b_foresight r_b_pairs z_49.2 b_fractionTop b_fractionBottom b_marks, bl_X0 cy A_a a_name a_courage a_weight a_medals a_stood a_fled a_liked a_votes a_count a_living a_pride a_quota a_melted a_lost] H := hP
    cases h
    subst hW1
    exact W.iret hx hb hr (fun _ ht9 _ => ⟨⟨_, (), rfl, rfl, hPt ht9 hP.1⟩, hS.F ht9⟩) hS.2.2 dX11_told_184
  have h := ie c_47 h
  refine lv_tableOut (tgt := 185) hx hb dX11_told_1 (by have n_c_26 := lv_neT (a := 0) c_26 rfl; have n_c_28 := lv_neT (a := 1) c_28 rfl; have n_c_30 := lv_neT (a := 2) c_30 rfl; have n_c_32 := lv_neT (a := 3) c_32 rfl; have n_c_34 := lv_neT (a := 4) c_34 rfl; have n_c_37 := lv_neT (a := 5) c_37 rfl; have n_c_40 := lv_neT (a := 6) c_40 rfl; have n_c_42 := lv_neT (a := 7) c_42 rfl; have n_c_44 := lv_neT (a := 8) c_44 rfl; have n_c_47 := lv_neT (a := 9) c_47 rfl; omega) (by decide) ?_
  refine lv_aload_n hx hb dX11_told_185 rfl (lv_at hl 0 rfl) ?_
  refine lv_iconst (v := 1) hx hb dX11_told_186 (by decide) ?_
  obtain ⟨z_50, e_z_50, h⟩ := bi h
  refine efVi (rest := []) ⟨hx, hb, hml, hown, ht⟩ (c_X11_refuse l D cy fu A_b r_b_trays (A_a 0) r_b_war r_b_draftArmy r_b_draftWar r_b_reader r_b_armyReader r_b_warReader r_b_markedArmies r_b_markedWars r_b_latest r_b_trial r_b_foresight r_b_pairs b_latestStatus b_fractionTop b_fractionBottom b_marks 1 z_50 e_z_50 _ rfl _ rfl) (cV ht mv_X11_refuse tb_543 rfl rfl ⟨Nat.le_of_ble_eq_true rfl, Nat.le_of_ble_eq_true rfl⟩) hP hS hX [0] rfl rfl rfl rfl rfl rfl hl.1 rfl (Nat.le_of_ble_eq_true rfl) dX11_told_187 ⟨Nat.le_of_ble_eq_true rfl, Nat.le_of_ble_eq_true rfl⟩ (fun H locs hP hS => ?_)
  have hP : PD D A [bl_X11 cy A_b r_b_trays (A_a 0) r_b_war r_b_draftArmy r_b_draftWar r_b_reader r_b_armyReader r_b_warReader r_b_markedArmies r_b_markedWars r_b_latest r_b_trial r_b_foresight r_b_pairs z_50.2 b_fractionTop b_fractionBottom b_marks, bl_X0 cy A_a a_name a_courage a_weight a_medals a_stood a_fled a_liked a_votes a_count a_living a_pride a_quota a_melted a_lost] H := hP
  cases h
  subst hW1
  exact W.iret hx hb hr (fun _ ht9 _ => ⟨⟨_, (), rfl, rfl, hPt ht9 hP.1⟩, hS.F ht9⟩) hS.2.2 dX11_told_190
theorem dX11_man_0 : decode cX11_man 0 = .ok (.aload_n 0, 1) := by decide +kernel
theorem dX11_man_1 : decode cX11_man 1 = .ok (.getfield 29, 3) := by decide +kernel
theorem dX11_man_4 : decode cX11_man 4 = .ok (.iload_n 1, 1) := by decide +kernel
theorem dX11_man_5 : decode cX11_man 5 = .ok (.invokevirtual 248, 3) := by decide +kernel
theorem dX11_man_8 : decode cX11_man 8 = .ok (.ifCond .ne 9, 3) := by decide +kernel
theorem dX11_man_11 : decode cX11_man 11 = .ok (.aload_n 0, 1) := by decide +kernel
theorem dX11_man_12 : decode cX11_man 12 = .ok (.iconst 1, 1) := by decide +kernel
theorem dX11_man_13 : decode cX11_man 13 = .ok (.invokevirtual 143, 3) := by decide +kernel
theorem dX11_man_16 : decode cX11_man 16 = .ok (.ireturn, 1) := by decide +kernel
theorem dX11_man_17 : decode cX11_man 17 = .ok (.iload_n 2, 1) := by decide +kernel
theorem dX11_man_18 : decode cX11_man 18 = .ok (.tableswitch 146 0 6 #[42, 56, 70, 84, 98, 112, 133], 42) := by decide +kernel
theorem dX11_man_60 : decode cX11_man 60 = .ok (.aload_n 0, 1) := by decide +kernel
theorem dX11_man_61 : decode cX11_man 61 = .ok (.aload_n 0, 1) := by decide +kernel
theorem dX11_man_62 : decode cX11_man 62 = .ok (.getfield 29, 3) := by decide +kernel
theorem dX11_man_65 : decode cX11_man 65 = .ok (.getfield 251, 3) := by decide +kernel
theorem dX11_man_68 : decode cX11_man 68 = .ok (.iload_n 1, 1) := by decide +kernel
theorem dX11_man_69 : decode cX11_man 69 = .ok (.iaload, 1) := by decide +kernel
theorem dX11_man_70 : decode cX11_man 70 = .ok (.invokevirtual 193, 3) := by decide +kernel
theorem dX11_man_73 : decode cX11_man 73 = .ok (.ireturn, 1) := by decide +kernel
theorem dX11_man_74 : decode cX11_man 74 = .ok (.aload_n 0, 1) := by decide +kernel
theorem dX11_man_75 : decode cX11_man 75 = .ok (.aload_n 0, 1) := by decide +kernel
theorem dX11_man_76 : decode cX11_man 76 = .ok (.getfield 29, 3) := by decide +kernel
theorem dX11_man_79 : decode cX11_man 79 = .ok (.getfield 254, 3) := by decide +kernel
theorem dX11_man_82 : decode cX11_man 82 = .ok (.iload_n 1, 1) := by decide +kernel
theorem dX11_man_83 : decode cX11_man 83 = .ok (.iaload, 1) := by decide +kernel
theorem dX11_man_84 : decode cX11_man 84 = .ok (.invokevirtual 193, 3) := by decide +kernel
theorem dX11_man_87 : decode cX11_man 87 = .ok (.ireturn, 1) := by decide +kernel
theorem dX11_man_88 : decode cX11_man 88 = .ok (.aload_n 0, 1) := by decide +kernel
theorem dX11_man_89 : decode cX11_man 89 = .ok (.aload_n 0, 1) := by decide +kernel
theorem dX11_man_90 : decode cX11_man 90 = .ok (.getfield 29, 3) := by decide +kernel
theorem dX11_man_93 : decode cX11_man 93 = .ok (.getfield 228, 3) := by decide +kernel
theorem dX11_man_96 : decode cX11_man 96 = .ok (.iload_n 1, 1) := by decide +kernel
theorem dX11_man_97 : decode cX11_man 97 = .ok (.iaload, 1) := by decide +kernel
theorem dX11_man_98 : decode cX11_man 98 = .ok (.invokevirtual 193, 3) := by decide +kernel
theorem dX11_man_101 : decode cX11_man 101 = .ok (.ireturn, 1) := by decide +kernel
theorem dX11_man_102 : decode cX11_man 102 = .ok (.aload_n 0, 1) := by decide +kernel
theorem dX11_man_103 : decode cX11_man 103 = .ok (.aload_n 0, 1) := by decide +kernel
theorem dX11_man_104 : decode cX11_man 104 = .ok (.getfield 29, 3) := by decide +kernel
theorem dX11_man_107 : decode cX11_man 107 = .ok (.getfield 242, 3) := by decide +kernel
theorem dX11_man_110 : decode cX11_man 110 = .ok (.iload_n 1, 1) := by decide +kernel
theorem dX11_man_111 : decode cX11_man 111 = .ok (.iaload, 1) := by decide +kernel
theorem dX11_man_112 : decode cX11_man 112 = .ok (.invokevirtual 193, 3) := by decide +kernel
theorem dX11_man_115 : decode cX11_man 115 = .ok (.ireturn, 1) := by decide +kernel
theorem dX11_man_116 : decode cX11_man 116 = .ok (.aload_n 0, 1) := by decide +kernel
theorem dX11_man_117 : decode cX11_man 117 = .ok (.aload_n 0, 1) := by decide +kernel
theorem dX11_man_118 : decode cX11_man 118 = .ok (.getfield 29, 3) := by decide +kernel
theorem dX11_man_121 : decode cX11_man 121 = .ok (.getfield 245, 3) := by decide +kernel
theorem dX11_man_124 : decode cX11_man 124 = .ok (.iload_n 1, 1) := by decide +kernel
theorem dX11_man_125 : decode cX11_man 125 = .ok (.iaload, 1) := by decide +kernel
theorem dX11_man_126 : decode cX11_man 126 = .ok (.invokevirtual 193, 3) := by decide +kernel
theorem dX11_man_129 : decode cX11_man 129 = .ok (.ireturn, 1) := by decide +kernel
theorem dX11_man_130 : decode cX11_man 130 = .ok (.aload_n 0, 1) := by decide +kernel
theorem dX11_man_131 : decode cX11_man 131 = .ok (.aload_n 0, 1) := by decide +kernel
theorem dX11_man_132 : decode cX11_man 132 = .ok (.getfield 29, 3) := by decide +kernel
theorem dX11_man_135 : decode cX11_man 135 = .ok (.iload_n 1, 1) := by decide +kernel
theorem dX11_man_136 : decode cX11_man 136 = .ok (.invokevirtual 257, 3) := by decide +kernel
theorem dX11_man_139 : decode cX11_man 139 = .ok (.ifCond .eq 7, 3) := by decide +kernel
theorem dX11_man_142 : decode cX11_man 142 = .ok (.iconst 1, 1) := by decide +kernel
theorem dX11_man_143 : decode cX11_man 143 = .ok (.goto 4, 3) := by decide +kernel
theorem dX11_man_146 : decode cX11_man 146 = .ok (.iconst 0, 1) := by decide +kernel
theorem dX11_man_147 : decode cX11_man 147 = .ok (.invokevirtual 193, 3) := by decide +kernel
theorem dX11_man_150 : decode cX11_man 150 = .ok (.ireturn, 1) := by decide +kernel
theorem dX11_man_151 : decode cX11_man 151 = .ok (.aload_n 0, 1) := by decide +kernel
theorem dX11_man_152 : decode cX11_man 152 = .ok (.aload_n 0, 1) := by decide +kernel
theorem dX11_man_153 : decode cX11_man 153 = .ok (.getfield 29, 3) := by decide +kernel
theorem dX11_man_156 : decode cX11_man 156 = .ok (.iload_n 1, 1) := by decide +kernel
theorem dX11_man_157 : decode cX11_man 157 = .ok (.invokevirtual 260, 3) := by decide +kernel
theorem dX11_man_160 : decode cX11_man 160 = .ok (.invokevirtual 193, 3) := by decide +kernel
theorem dX11_man_163 : decode cX11_man 163 = .ok (.ireturn, 1) := by decide +kernel
theorem dX11_man_164 : decode cX11_man 164 = .ok (.aload_n 0, 1) := by decide +kernel
theorem dX11_man_165 : decode cX11_man 165 = .ok (.iconst 1, 1) := by decide +kernel
theorem dX11_man_166 : decode cX11_man 166 = .ok (.invokevirtual 143, 3) := by decide +kernel
theorem dX11_man_169 : decode cX11_man 169 = .ok (.ireturn, 1) := by decide +kernel
theorem mv_X11_man : MV yX11_man RX11 cX11_man 3 (some .int) 2 := ⟨tb_773, tb_771, tb_772, tb_1, by decide +kernel, by decide +kernel, by decide +kernel⟩
def f_X11_man (fu : Nat) (b_latestStatus : Int32) (a_courage : Nat → Int32) (a_weight : Nat → Int32) (a_medals : Nat → Int32) (a_stood : Nat → Int32) (a_fled : Nat → Int32) (a_count : Int32) (a_living : Int32) (a_pride : Int32) (x1 : Int32) (x2 : Int32) : Option (Int32 × Int32) := (f_X0_isMan fu a_count x1).bind fun z_28 => (if z_28 = 0 then (f_X11_refuse fu b_latestStatus 1).bind fun z_54 => some (z_54.1, z_54.2) else (if x2 = 0 then (rdI a_courage 8 x1).bind fun y_31 => (f_X11_answer fu b_latestStatus y_31).bind fun z_32 => some (z_32.1, z_32.2) else (if x2 = 1 then (rdI a_weight 8 x1).bind fun y_34 => (f_X11_answer fu b_latestStatus y_34).bind fun z_35 => some (z_35.1, z_35.2) else (if x2 = 2 then (rdI a_medals 8 x1).bind fun y_37 => (f_X11_answer fu b_latestStatus y_37).bind fun z_38 => some (z_38.1, z_38.2) else (if x2 = 3 then (rdI a_stood 8 x1).bind fun y_40 => (f_X11_answer fu b_latestStatus y_40).bind fun z_41 => some (z_41.1, z_41.2) else (if x2 = 4 then (rdI a_fled 8 x1).bind fun y_43 => (f_X11_answer fu b_latestStatus y_43).bind fun z_44 => some (z_44.1, z_44.2) else (if x2 = 5 then (f_X0_lives fu a_count a_living x1).bind fun z_46 => (if z_46 = 0 then (f_X11_answer fu b_latestStatus 0).bind fun z_48 => some (z_48.1, z_48.2) else (f_X11_answer fu b_latestStatus 1).bind fun z_49 => some (z_49.1, z_49.2)) else (if x2 = 6 then (f_X0_bravery fu a_courage a_medals a_count a_pride x1).bind fun z_51 => (f_X11_answer fu b_latestStatus z_51).bind fun z_52 => some (z_52.1, z_52.2) else (f_X11_refuse fu b_latestStatus 1).bind fun z_53 => some (z_53.1, z_53.2)))))))))
abbrev rm_X11_man : Room := { frames := 2, cells := 0, slots := 0, locals := 44 }
set_option maxHeartbeats 4000000 in
set_option maxRecDepth 100000 in
theorem c_X11_man (l : Launch) (D : va_G) (cy : Nat → ClassId) (fu : Nat) (A_b : Nat → Nat) (r_b_trays : Nat) (r_b_war : Nat) (r_b_draftArmy : Nat) (r_b_draftWar : Nat) (r_b_reader : Nat) (r_b_armyReader : Nat) (r_b_warReader : Nat) (r_b_markedArmies : Nat) (r_b_markedWars : Nat) (r_b_latest : Nat) (r_b_trial : Nat) (r_b_foresight : Nat) (r_b_pairs : Nat) (b_latestStatus : Int32) (b_fractionTop : Int64) (b_fractionBottom : Int64) (b_marks : Int32) (A_a : Nat → Nat) (a_name : Nat → Int64) (a_courage : Nat → Int32) (a_weight : Nat → Int32) (a_medals : Nat → Int32) (a_stood : Nat → Int32) (a_fled : Nat → Int32) (a_liked : Nat → Int32) (a_votes : Nat → Int32) (a_count : Int32) (a_living : Int32) (a_pride : Int32) (a_quota : Int32) (a_melted : Int32) (a_lost : Int32) (x1 : Int32) (x2 : Int32) (res : Int32 × Int32) (h : f_X11_man fu b_latestStatus a_courage a_weight a_medals a_stood a_fled a_count a_living a_pride x1 x2 = some res) (A : Nat → Prop) (hA : A = adr [bl_X11 cy A_b r_b_trays (A_a 0) r_b_war r_b_draftArmy r_b_draftWar r_b_reader r_b_armyReader r_b_warReader r_b_markedArmies r_b_markedWars r_b_latest r_b_trial r_b_foresight r_b_pairs b_latestStatus b_fractionTop b_fractionBottom b_marks, bl_X0 cy A_a a_name a_courage a_weight a_medals a_stood a_fled a_liked a_votes a_count a_living a_pride a_quota a_melted a_lost]) (W1 : List va_W) (hW1 : W1 = [bl_X11 cy A_b r_b_trays (A_a 0) r_b_war r_b_draftArmy r_b_draftWar r_b_reader r_b_armyReader r_b_warReader r_b_markedArmies r_b_markedWars r_b_latest r_b_trial r_b_foresight r_b_pairs res.2 b_fractionTop b_fractionBottom b_marks, bl_X0 cy A_a a_name a_courage a_weight a_medals a_stood a_fled a_liked a_votes a_count a_living a_pride a_quota a_melted a_lost]) : Met l yX11_man (WW yX11_man cX11_man 3 (some .int)) rm_X11_man (Ed D cy [.ref (A_b 0), .int x1, .int x2] [bl_X11 cy A_b r_b_trays (A_a 0) r_b_war r_b_draftArmy r_b_draftWar r_b_reader r_b_armyReader r_b_warReader r_b_markedArmies r_b_markedWars r_b_latest r_b_trial r_b_foresight r_b_pairs b_latestStatus b_fractionTop b_fractionBottom b_marks, bl_X0 cy A_a a_name a_courage a_weight a_medals a_stood a_fled a_liked a_votes a_count a_living a_pride a_quota a_melted a_lost]) (Qei D res.1 A W1) 0 0 A := by
  refine Met.ofW (cc := cX11_man) (maxL := 3) (ret := (some .int)) (by decide) rfl ?_
  intro p e s m args below meth c s₁ B hml hv
  obtain ⟨hargs, hP, hX, hD0⟩ := hv
  have hx := B.exec
  have hb := B.bytes
  have hr := B.returns
  have ht : ∀ w ∈ lw_gd, w.before args s = true := fun w hw => atoms_spec (ws := WW yX11_man cX11_man 3 (some .int)) B.pre w (List.mem_cons_of_mem _ hw)
  have hown : s.vm.findClass RX11 = some m.cls := findClass_of_methodNamed B.named
  have hlocks := B.notSynchronized
  have hP : PD D A [bl_X11 cy A_b r_b_trays (A_a 0) r_b_war r_b_draftArmy r_b_draftWar r_b_reader r_b_armyReader r_b_warReader r_b_markedArmies r_b_markedWars r_b_latest r_b_trial r_b_foresight r_b_pairs b_latestStatus b_fractionTop b_fractionBottom b_marks, bl_X0 cy A_a a_name a_courage a_weight a_medals a_stood a_fled a_liked a_votes a_count a_living a_pride a_quota a_melted a_lost] s.heap := ⟨hP, by rw [hA]; exact hD0.own⟩
  have hS : va_S A s.heap s.heap [] := va_S.rf
  obtain ⟨ls, hl, hent⟩ := ent (m := m) (n := 3) hargs (Nat.le_of_ble_eq_true rfl) (lv := [(0, .ref (A_b 0)), (1, .int x1), (2, .int x2)]) rfl
  rw [hent]
  clear hent
  unfold f_X11_man at h
  refine lv_aload_n hx hb dX11_man_0 rfl (lv_at hl 0 rfl) ?_
  refine xget (i := 0) (j := 0) (k := 4) (T := TX11) hx hb ht tb_iX11 hown hX hP.1 rfl rfl rfl (by decide) tb_433 rfl dX11_man_1 ?_
  refine lv_iload_n hx hb dX11_man_4 rfl (lv_at hl 1 rfl) ?_
  obtain ⟨z_28, e_z_28, h⟩ := bi h
  refine roVi (rest := []) ⟨hx, hb, hml, hown, ht⟩ (c_X0_isMan l D cy fu A_a a_name a_courage a_weight a_medals a_stood a_fled a_liked a_votes a_count a_living a_pride a_quota a_melted a_lost x1 z_28 e_z_28) (cV ht mv_X0_isMan tb_774 rfl rfl ⟨Nat.le_of_ble_eq_true rfl, Nat.le_of_ble_eq_true rfl⟩) (P_sub hP.1 [1] rfl) hX rfl rfl rfl hl.1 rfl (Nat.le_of_ble_eq_true rfl) dX11_man_5 ⟨Nat.le_of_ble_eq_true rfl, Nat.le_of_ble_eq_true rfl⟩ ?_
  refine lv_if_ne (tgt := 17) hx hb dX11_man_8 (by decide) (fun c_29 => ?_) (fun c_29 => ?_)
  · have h := ie c_29 h
    refine lv_iload_n hx hb dX11_man_17 rfl (lv_at hl 2 rfl) ?_
    by_cases c_30 : x2 = 0
    · have h := it c_30 h
      refine lv_tableIn (tgt := 60) hx hb dX11_man_18 (by rw [c_30]; decide) (by rw [c_30]; decide) (by rw [c_30]; rfl) (by decide) ?_
      refine lv_aload_n hx hb dX11_man_60 rfl (lv_at hl 0 rfl) ?_
      refine lv_aload_n hx hb dX11_man_61 rfl (lv_at hl 0 rfl) ?_
      refine xget (i := 0) (j := 0) (k := 4) (T := TX11) hx hb ht tb_iX11 hown hX hP.1 rfl rfl rfl (by decide) tb_433 rfl dX11_man_62 ?_
      refine xget (i := 1) (j := 0) (k := 1) (T := TX0) hx hb ht tb_iX0 hown hX hP.1 rfl rfl rfl (by decide) tb_40 rfl dX11_man_65 ?_
      refine lv_iload_n hx hb dX11_man_68 rfl (lv_at hl 1 rfl) ?_
      obtain ⟨y_31, e_y_31, h⟩ := bi h
      refine xiald (i0 := 1) (j0 := 2) hx hb hX hP.1 rfl rfl e_y_31 dX11_man_69 ?_
      obtain ⟨z_32, e_z_32, h⟩ := bi h
      refine efVi (rest := []) ⟨hx, hb, hml, hown, ht⟩ (c_X11_answer l D cy fu A_b r_b_trays (A_a 0) r_b_war r_b_draftArmy r_b_draftWar r_b_reader r_b_armyReader r_b_warReader r_b_markedArmies r_b_markedWars r_b_latest r_b_trial r_b_foresight r_b_pairs b_latestStatus b_fractionTop b_fractionBottom b_marks y_31 z_32 e_z_32 _ rfl _ rfl) (cV ht mv_X11_answer tb_696 rfl rfl ⟨Nat.le_of_ble_eq_true rfl, Nat.le_of_ble_eq_true rfl⟩) hP hS hX [0] rfl rfl rfl rfl rfl rfl hl.1 rfl (Nat.le_of_ble_eq_true rfl) dX11_man_70 ⟨Nat.le_of_ble_eq_true rfl, Nat.le_of_ble_eq_true rfl⟩ (fun H locs hP hS => ?_)
      have hP : PD D A [bl_X11 cy A_b r_b_trays (A_a 0) r_b_war r_b_draftArmy r_b_draftWar r_b_reader r_b_armyReader r_b_warReader r_b_markedArmies r_b_markedWars r_b_latest r_b_trial r_b_foresight r_b_pairs z_32.2 b_fractionTop b_fractionBottom b_marks, bl_X0 cy A_a a_name a_courage a_weight a_medals a_stood a_fled a_liked a_votes a_count a_living a_pride a_quota a_melted a_lost] H := hP
      cases h
      subst hW1
      exact W.iret hx hb hr (fun _ ht9 _ => ⟨⟨_, (), rfl, rfl, hPt ht9 hP.1⟩, hS.F ht9⟩) hS.2.2 dX11_man_73
    have h := ie c_30 h
    by_cases c_33 : x2 = 1
    · have h := it c_33 h
      refine lv_tableIn (tgt := 74) hx hb dX11_man_18 (by rw [c_33]; decide) (by rw [c_33]; decide) (by rw [c_33]; rfl) (by decide) ?_
      refine lv_aload_n hx hb dX11_man_74 rfl (lv_at hl 0 rfl) ?_
      refine lv_aload_n hx hb dX11_man_75 rfl (lv_at hl 0 rfl) ?_
      refine xget (i := 0) (j := 0) (k := 4) (T := TX11) hx hb ht tb_iX11 hown hX hP.1 rfl rfl rfl (by decide) tb_433 rfl dX11_man_76 ?_
      refine xget (i := 1) (j := 0) (k := 2) (T := TX0) hx hb ht tb_iX0 hown hX hP.1 rfl rfl rfl (by decide) tb_42 rfl dX11_man_79 ?_
      refine lv_iload_n hx hb dX11_man_82 rfl (lv_at hl 1 rfl) ?_
      obtain ⟨y_34, e_y_34, h⟩ := bi h
      refine xiald (i0 := 1) (j0 := 3) hx hb hX hP.1 rfl rfl e_y_34 dX11_man_83 ?_
      obtain ⟨z_35, e_z_35, h⟩ := bi h
      refine efVi (rest := []) ⟨hx, hb, hml, hown, ht⟩ (c_X11_answer l D cy fu A_b r_b_trays (A_a 0) r_b_war r_b_draftArmy r_b_draftWar r_b_reader r_b_armyReader r_b_warReader r_b_markedArmies r_b_markedWars r_b_latest r_b_trial r_b_foresight r_b_pairs b_latestStatus b_fractionTop b_fractionBottom b_marks y_34 z_35 e_z_35 _ rfl _ rfl) (cV ht mv_X11_answer tb_696 rfl rfl ⟨Nat.le_of_ble_eq_true rfl, Nat.le_of_ble_eq_true rfl⟩) hP hS hX [0] rfl rfl rfl rfl rfl rfl hl.1 rfl (Nat.le_of_ble_eq_true rfl) dX11_man_84 ⟨Nat.le_of_ble_eq_true rfl, Nat.le_of_ble_eq_true rfl⟩ (fun H locs hP hS => ?_)
      have hP : PD D A [bl_X11 cy A_b r_b_trays (A_a 0) r_b_war r_b_draftArmy r_b_draftWar r_b_reader r_b_armyReader r_b_warReader r_b_markedArmies r_b_markedWars r_b_latest r_b_trial r_b_foresight r_b_pairs z_35.2 b_fractionTop b_fractionBottom b_marks, bl_X0 cy A_a a_name a_courage a_weight a_medals a_stood a_fled a_liked a_votes a_count a_living a_pride a_quota a_melted a_lost] H := hP
      cases h
      subst hW1
      exact W.iret hx hb hr (fun _ ht9 _ => ⟨⟨_, (), rfl, rfl, hPt ht9 hP.1⟩, hS.F ht9⟩) hS.2.2 dX11_man_87
    have h := ie c_33 h
    by_cases c_36 : x2 = 2
    · have h := it c_36 h
      refine lv_tableIn (tgt := 88) hx hb dX11_man_18 (by rw [c_36]; decide) (by rw [c_36]; decide) (by rw [c_36]; rfl) (by decide) ?_
      refine lv_aload_n hx hb dX11_man_88 rfl (lv_at hl 0 rfl) ?_
      refine lv_aload_n hx hb dX11_man_89 rfl (lv_at hl 0 rfl) ?_
      refine xget (i := 0) (j := 0) (k := 4) (T := TX11) hx hb ht tb_iX11 hown hX hP.1 rfl rfl rfl (by decide) tb_433 rfl dX11_man_90 ?_
      refine xget (i := 1) (j := 0) (k := 3) (T := TX0) hx hb ht tb_iX0 hown hX hP.1 rfl rfl rfl (by decide) tb_47 rfl dX11_man_93 ?_
      refine lv_iload_n hx hb dX11_man_96 rfl (lv_at hl 1 rfl) ?_
      obtain ⟨y_37, e_y_37, h⟩ := bi h
      refine xiald (i0 := 1) (j0 := 4) hx hb hX hP.1 rfl rfl e_y_37 dX11_man_97 ?_
      obtain ⟨z_38, e_z_38, h⟩ := bi h
      refine efVi (rest := []) ⟨hx, hb, hml, hown, ht⟩ (c_X11_answer l D cy fu A_b r_b_trays (A_a 0) r_b_war r_b_draftArmy r_b_draftWar r_b_reader r_b_armyReader r_b_warReader r_b_markedArmies r_b_markedWars r_b_latest r_b_trial r_b_foresight r_b_pairs b_latestStatus b_fractionTop b_fractionBottom b_marks y_37 z_38 e_z_38 _ rfl _ rfl) (cV ht mv_X11_answer tb_696 rfl rfl ⟨Nat.le_of_ble_eq_true rfl, Nat.le_of_ble_eq_true rfl⟩) hP hS hX [0] rfl rfl rfl rfl rfl rfl hl.1 rfl (Nat.le_of_ble_eq_true rfl) dX11_man_98 ⟨Nat.le_of_ble_eq_true rfl, Nat.le_of_ble_eq_true rfl⟩ (fun H locs hP hS => ?_)
      have hP : PD D A [bl_X11 cy A_b r_b_trays (A_a 0) r_b_war r_b_draftArmy r_b_draftWar r_b_reader r_b_armyReader r_b_warReader r_b_markedArmies r_b_markedWars r_b_latest r_b_trial r_b_foresight r_b_pairs z_38.2 b_fractionTop b_fractionBottom b_marks, bl_X0 cy A_a a_name a_courage a_weight a_medals a_stood a_fled a_liked a_votes a_count a_living a_pride a_quota a_melted a_lost] H := hP
      cases h
      subst hW1
      exact W.iret hx hb hr (fun _ ht9 _ => ⟨⟨_, (), rfl, rfl, hPt ht9 hP.1⟩, hS.F ht9⟩) hS.2.2 dX11_man_101
    have h := ie c_36 h
    by_cases c_39 : x2 = 3
    · have h := it c_39 h
      refine lv_tableIn (tgt := 102) hx hb dX11_man_18 (by rw [c_39]; decide) (by rw [c_39]; decide) (by rw [c_39]; rfl) (by decide) ?_
      refine lv_aload_n hx hb dX11_man_102 rfl (lv_at hl 0 rfl) ?_
      refine lv_aload_n hx hb dX11_man_103 rfl (lv_at hl 0 rfl) ?_
      refine xget (i := 0) (j := 0) (k := 4) (T := TX11) hx hb ht tb_iX11 hown hX hP.1 rfl rfl rfl (by decide) tb_433 rfl dX11_man_104 ?_
      refine xget (i := 1) (j := 0) (k := 4) (T := TX0) hx hb ht tb_iX0 hown hX hP.1 rfl rfl rfl (by decide) tb_49 rfl dX11_man_107 ?_
      refine lv_iload_n hx hb dX11_man_110 rfl (lv_at hl 1 rfl) ?_
      obtain ⟨y_40, e_y_40, h⟩ := bi h
      refine xiald (i0 := 1) (j0 := 5) hx hb hX hP.1 rfl rfl e_y_40 dX11_man_111 ?_
      obtain ⟨z_41, e_z_41, h⟩ := bi h
      refine efVi (rest := []) ⟨hx, hb, hml, hown, ht⟩ (c_X11_answer l D cy fu A_b r_b_trays (A_a 0) r_b_war r_b_draftArmy r_b_draftWar r_b_reader r_b_armyReader r_b_warReader r_b_markedArmies r_b_markedWars r_b_latest r_b_trial r_b_foresight r_b_pairs b_latestStatus b_fractionTop b_fractionBottom b_marks y_40 z_41 e_z_41 _ rfl _ rfl) (cV ht mv_X11_answer tb_696 rfl rfl ⟨Nat.le_of_ble_eq_true rfl, Nat.le_of_ble_eq_true rfl⟩) hP hS hX [0] rfl rfl rfl rfl rfl rfl hl.1 rfl (Nat.le_of_ble_eq_true rfl) dX11_man_112 ⟨Nat.le_of_ble_eq_true rfl, Nat.le_of_ble_eq_true rfl⟩ (fun H locs hP hS => ?_)
      have hP : PD D A [bl_X11 cy A_b r_b_trays (A_a 0) r_b_war r_b_draftArmy r_b_draftWar r_b_reader r_b_armyReader r_b_warReader r_b_markedArmies r_b_markedWars r_b_latest r_b_trial r_b_foresight r_b_pairs z_41.2 b_fractionTop b_fractionBottom b_marks, bl_X0 cy A_a a_name a_courage a_weight a_medals a_stood a_fled a_liked a_votes a_count a_living a_pride a_quota a_melted a_lost] H := hP
      cases h
      subst hW1
      exact W.iret hx hb hr (fun _ ht9 _ => ⟨⟨_, (), rfl, rfl, hPt ht9 hP.1⟩, hS.F ht9⟩) hS.2.2 dX11_man_115
    have h := ie c_39 h
    by_cases c_42 : x2 = 4
    · have h := it c_42 h
      refine lv_tableIn (tgt := 116) hx hb dX11_man_18 (by rw [c_42]; decide) (by rw [c_42]; decide) (by rw [c_42]; rfl) (by decide) ?_
      refine lv_aload_n hx hb dX11_man_116 rfl (lv_at hl 0 rfl) ?_
      refine lv_aload_n hx hb dX11_man_117 rfl (lv_at hl 0 rfl) ?_
      refine xget (i := 0) (j := 0) (k := 4) (T := TX11) hx hb ht tb_iX11 hown hX hP.1 rfl rfl rfl (by decide) tb_433 rfl dX11_man_118 ?_
      refine xget (i := 1) (j := 0) (k := 5) (T := TX0) hx hb ht tb_iX0 hown hX hP.1 rfl rfl rfl (by decide) tb_52 rfl dX11_man_121 ?_
      refine lv_iload_n hx hb dX11_man_124 rfl (lv_at hl 1 rfl) ?_
      obtain ⟨y_43, e_y_43, h⟩ := bi h
      refine xiald (i0 := 1) (j0 := 6) hx hb hX hP.1 rfl rfl e_y_43 dX11_man_125 ?_
      obtain ⟨z_44, e_z_44, h⟩ := bi h
      refine efVi (rest := []) ⟨hx, hb, hml, hown, ht⟩ (c_X11_answer l D cy fu A_b r_b_trays (A_a 0) r_b_war r_b_draftArmy r_b_draftWar r_b_reader r_b_armyReader r_b_warReader r_b_markedArmies r_b_markedWars r_b_latest r_b_trial r_b_foresight r_b_pairs b_latestStatus b_fractionTop b_fractionBottom b_marks y_43 z_44 e_z_44 _ rfl _ rfl) (cV ht mv_X11_answer tb_696 rfl rfl ⟨Nat.le_of_ble_eq_true rfl, Nat.le_of_ble_eq_true rfl⟩) hP hS hX [0] rfl rfl rfl rfl rfl rfl hl.1 rfl (Nat.le_of_ble_eq_true rfl) dX11_man_126 ⟨Nat.le_of_ble_eq_true rfl, Nat.le_of_ble_eq_true rfl⟩ (fun H locs hP hS => ?_)
      have hP : PD D A [bl_X11 cy A_b r_b_trays (A_a 0) r_b_war r_b_draftArmy r_b_draftWar r_b_reader r_b_armyReader r_b_warReader r_b_markedArmies r_b_markedWars r_b_latest r_b_trial r_b_foresight r_b_pairs z_44.2 b_fractionTop b_fractionBottom b_marks, bl_X0 cy A_a a_name a_courage a_weight a_medals a_stood a_fled a_liked a_votes a_count a_living a_pride a_quota a_melted a_lost] H := hP
      cases h
      subst hW1
      exact W.iret hx hb hr (fun _ ht9 _ => ⟨⟨_, (), rfl, rfl, hPt ht9 hP.1⟩, hS.F ht9⟩) hS.2.2 dX11_man_129
    have h := ie c_42 h
    by_cases c_45 : x2 = 5
    · have h := it c_45 h
      refine lv_tableIn (tgt := 130) hx hb dX11_man_18 (by rw [c_45]; decide) (by rw [c_45]; decide) (by rw [c_45]; rfl) (by decide) ?_
      refine lv_aload_n hx hb dX11_man_130 rfl (lv_at hl 0 rfl) ?_
      refine lv_aload_n hx hb dX11_man_131 rfl (lv_at hl 0 rfl) ?_
      refine xget (i := 0) (j := 0) (k := 4) (T := TX11) hx hb ht tb_iX11 hown hX hP.1 rfl rfl rfl (by decide) tb_433 rfl dX11_man_132 ?_
      refine lv_iload_n hx hb dX11_man_135 rfl (lv_at hl 1 rfl) ?_
      obtain ⟨z_46, e_z_46, h⟩ := bi h
      refine roVi (rest := [.ref (A_b 0)]) ⟨hx, hb, hml, hown, ht⟩ (c_X0_lives l D cy fu A_a a_name a_courage a_weight a_medals a_stood a_fled a_liked a_votes a_count a_living a_pride a_quota a_melted a_lost x1 z_46 e_z_46) (cV ht mv_X0_lives tb_775 rfl rfl ⟨Nat.le_of_ble_eq_true rfl, Nat.le_of_ble_eq_true rfl⟩) (P_sub hP.1 [1] rfl) hX rfl rfl rfl hl.1 rfl (Nat.le_of_ble_eq_true rfl) dX11_man_136 ⟨Nat.le_of_ble_eq_true rfl, Nat.le_of_ble_eq_true rfl⟩ ?_
      refine lv_if_eq (tgt := 146) hx hb dX11_man_139 (by decide) (fun c_47 => ?_) (fun c_47 => ?_)
      · have h := it c_47 h
        refine lv_iconst (v := 0) hx hb dX11_man_146 (by decide) ?_
        obtain ⟨z_48, e_z_48, h⟩ := bi h
        refine efVi (rest := []) ⟨hx, hb, hml, hown, ht⟩ (c_X11_answer l D cy fu A_b r_b_trays (A_a 0) r_b_war r_b_draftArmy r_b_draftWar r_b_reader r_b_armyReader r_b_warReader r_b_markedArmies r_b_markedWars r_b_latest r_b_trial r_b_foresight r_b_pairs b_latestStatus b_fractionTop b_fractionBottom b_marks 0 z_48 e_z_48 _ rfl _ rfl) (cV ht mv_X11_answer tb_696 rfl rfl ⟨Nat.le_of_ble_eq_true rfl, Nat.le_of_ble_eq_true rfl⟩) hP hS hX [0] rfl rfl rfl rfl rfl rfl hl.1 rfl (Nat.le_of_ble_eq_true rfl) dX11_man_147 ⟨Nat.le_of_ble_eq_true rfl, Nat.le_of_ble_eq_true rfl⟩ (fun H locs hP hS => ?_)
        have hP : PD D A [bl_X11 cy A_b r_b_trays (A_a 0) r_b_war r_b_draftArmy r_b_draftWar r_b_reader r_b_armyReader r_b_warReader r_b_markedArmies r_b_markedWars r_b_latest r_b_trial r_b_foresight r_b_pairs z_48.2 b_fractionTop b_fractionBottom b_marks, bl_X0 cy A_a a_name a_courage a_weight a_medals a_stood a_fled a_liked a_votes a_count a_living a_pride a_quota a_melted a_lost] H := hP
        cases h
        subst hW1
        exact W.iret hx hb hr (fun _ ht9 _ => ⟨⟨_, (), rfl, rfl, hPt ht9 hP.1⟩, hS.F ht9⟩) hS.2.2 dX11_man_150
      · have h := ie c_47 h
        refine lv_iconst (v := 1) hx hb dX11_man_142 (by decide) ?_
        refine lv_goto (tgt := 147) hx hb dX11_man_143 (by decide) ?_
        obtain ⟨z_49, e_z_49, h⟩ := bi h
        refine efVi (rest := []) ⟨hx, hb, hml, hown, ht⟩ (c_X11_answer l D cy fu A_b r_b_trays (A_a 0) r_b_war r_b_draftArmy r_b_draftWar r_b_reader r_b_armyReader r_b_warReader r_b_markedArmies r_b_markedWars r_b_latest r_b_trial r_b_foresight r_b_pairs b_latestStatus b_fractionTop b_fractionBottom b_marks 1 z_49 e_z_49 _ rfl _ rfl) (cV ht mv_X11_answer tb_696 rfl rfl ⟨Nat.le_of_ble_eq_true rfl, Nat.le_of_ble_eq_true rfl⟩) hP hS hX [0] rfl rfl rfl rfl rfl rfl hl.1 rfl (Nat.le_of_ble_eq_true rfl) dX11_man_147 ⟨Nat.le_of_ble_eq_true rfl, Nat.le_of_ble_eq_true rfl⟩ (fun H locs hP hS => ?_)
        have hP : PD D A [bl_X11 cy A_b r_b_trays (A_a 0) r_b_war r_b_draftArmy r_b_draftWar r_b_reader r_b_armyReader r_b_warReader r_b_markedArmies r_b_markedWars r_b_latest r_b_trial r_b_foresight r_b_pairs z_49.2 b_fractionTop b_fractionBottom b_marks, bl_X0 cy A_a a_name a_courage a_weight a_medals a_stood a_fled a_liked a_votes a_count a_living a_pride a_quota a_melted a_lost] H := hP
        cases h
        subst hW1
        exact W.iret hx hb hr (fun _ ht9 _ => ⟨⟨_, (), rfl, rfl, hPt ht9 hP.1⟩, hS.F ht9⟩) hS.2.2 dX11_man_150
    have h := ie c_45 h
    by_cases c_50 : x2 = 6
    · have h := it c_50 h
      refine lv_tableIn (tgt := 151) hx hb dX11_man_18 (by rw [c_50]; decide) (by rw [c_50]; decide) (by rw [c_50]; rfl) (by decide) ?_
      refine lv_aload_n hx hb dX11_man_151 rfl (lv_at hl 0 rfl) ?_
      refine lv_aload_n hx hb dX11_man_152 rfl (lv_at hl 0 rfl) ?_
      refine xget (i := 0) (j := 0) (k := 4) (T := TX11) hx hb ht tb_iX11 hown hX hP.1 rfl rfl rfl (by decide) tb_433 rfl dX11_man_153 ?_
      refine lv_iload_n hx hb dX11_man_156 rfl (lv_at hl 1 rfl) ?_
      obtain ⟨z_51, e_z_51, h⟩ := bi h
      refine roVi (rest := [.ref (A_b 0)]) ⟨hx, hb, hml, hown, ht⟩ (c_X0_bravery l D cy fu A_a a_name a_courage a_weight a_medals a_stood a_fled a_liked a_votes a_count a_living a_pride a_quota a_melted a_lost x1 z_51 e_z_51) (cV ht mv_X0_bravery tb_779 rfl rfl ⟨Nat.le_of_ble_eq_true rfl, Nat.le_of_ble_eq_true rfl⟩) (P_sub hP.1 [1] rfl) hX rfl rfl rfl hl.1 rfl (Nat.le_of_ble_eq_true rfl) dX11_man_157 ⟨Nat.le_of_ble_eq_true rfl, Nat.le_of_ble_eq_true rfl⟩ ?_
      obtain ⟨z_52, e_z_52, h⟩ := bi h
      refine efVi (rest := []) ⟨hx, hb, hml, hown, ht⟩ (c_X11_answer l D cy fu A_b r_b_trays (A_a 0) r_b_war r_b_draftArmy r_b_draftWar r_b_reader r_b_armyReader r_b_warReader r_b_markedArmies r_b_markedWars r_b_latest r_b_trial r_b_foresight r_b_pairs b_latestStatus b_fractionTop b_fractionBottom b_marks z_51 z_52 e_z_52 _ rfl _ rfl) (cV ht mv_X11_answer tb_696 rfl rfl ⟨Nat.le_of_ble_eq_true rfl, Nat.le_of_ble_eq_true rfl⟩) hP hS hX [0] rfl rfl rfl rfl rfl rfl hl.1 rfl (Nat.le_of_ble_eq_true rfl) dX11_man_160 ⟨Nat.le_of_ble_eq_true rfl, Nat.le_of_ble_eq_true rfl⟩ (fun H locs hP hS => ?_)
      have hP : PD D A [bl_X11 cy A_b r_b_trays (A_a 0) r_b_war r_b_draftArmy r_b_draftWar r_b_reader r_b_armyReader r_b_warReader r_b_markedArmies r_b_markedWars r_b_latest r_b_trial r_b_foresight r_b_pairs z_52.2 b_fractionTop b_fractionBottom b_marks, bl_X0 cy A_a a_name a_courage a_weight a_medals a_stood a_fled a_liked a_votes a_count a_living a_pride a_quota a_melted a_lost] H := hP
      cases h
      subst hW1
      exact W.iret hx hb hr (fun _ ht9 _ => ⟨⟨_, (), rfl, rfl, hPt ht9 hP.1⟩, hS.F ht9⟩) hS.2.2 dX11_man_163
    have h := ie c_50 h
    refine lv_tableOut (tgt := 164) hx hb dX11_man_18 (by have n_c_30 := lv_neT (a := 0) c_30 rfl; have n_c_33 := lv_neT (a := 1) c_33 rfl; have n_c_36 := lv_neT (a := 2) c_36 rfl; have n_c_39 := lv_neT (a := 3) c_39 rfl; have n_c_42 := lv_neT (a := 4) c_42 rfl; have n_c_45 := lv_neT (a := 5) c_45 rfl; have n_c_50 := lv_neT (a := 6) c_50 rfl; omega) (by decide) ?_
    refine lv_aload_n hx hb dX11_man_164 rfl (lv_at hl 0 rfl) ?_
    refine lv_iconst (v := 1) hx hb dX11_man_165 (by decide) ?_
    obtain ⟨z_53, e_z_53, h⟩ := bi h
    refine efVi (rest := []) ⟨hx, hb, hml, hown, ht⟩ (c_X11_refuse l D cy fu A_b r_b_trays (A_a 0) r_b_war r_b_draftArmy r_b_draftWar r_b_reader r_b_armyReader r_b_warReader r_b_markedArmies r_b_markedWars r_b_latest r_b_trial r_b_foresight r_b_pairs b_latestStatus b_fractionTop b_fractionBottom b_marks 1 z_53 e_z_53 _ rfl _ rfl) (cV ht mv_X11_refuse tb_543 rfl rfl ⟨Nat.le_of_ble_eq_true rfl, Nat.le_of_ble_eq_true rfl⟩) hP hS hX [0] rfl rfl rfl rfl rfl rfl hl.1 rfl (Nat.le_of_ble_eq_true rfl) dX11_man_166 ⟨Nat.le_of_ble_eq_true rfl, Nat.le_of_ble_eq_true rfl⟩ (fun H locs hP hS => ?_)
    have hP : PD D A [bl_X11 cy A_b r_b_trays (A_a 0) r_b_war r_b_draftArmy r_b_draftWar r_b_reader r_b_armyReader r_b_warReader r_b_markedArmies r_b_markedWars r_b_latest r_b_trial r_b_foresight r_b_pairs z_53.2 b_fractionTop b_fractionBottom b_marks, bl_X0 cy A_a a_name a_courage a_weight a_medals a_stood a_fled a_liked a_votes a_count a_living a_pride a_quota a_melted a_lost] H := hP
    cases h
    subst hW1
    exact W.iret hx hb hr (fun _ ht9 _ => ⟨⟨_, (), rfl, rfl, hPt ht9 hP.1⟩, hS.F ht9⟩) hS.2.2 dX11_man_169
  · have h := it c_29 h
    refine lv_aload_n hx hb dX11_man_11 rfl (lv_at hl 0 rfl) ?_
    refine lv_iconst (v := 1) hx hb dX11_man_12 (by decide) ?_
    obtain ⟨z_54, e_z_54, h⟩ := bi h
    refine efVi (rest := []) ⟨hx, hb, hml, hown, ht⟩ (c_X11_refuse l D cy fu A_b r_b_trays (A_a 0) r_b_war r_b_draftArmy r_b_draftWar r_b_reader r_b_armyReader r_b_warReader r_b_markedArmies r_b_markedWars r_b_latest r_b_trial r_b_foresight r_b_pairs b_latestStatus b_fractionTop b_fractionBottom b_marks 1 z_54 e_z_54 _ rfl _ rfl) (cV ht mv_X11_refuse tb_543 rfl rfl ⟨Nat.le_of_ble_eq_true rfl, Nat.le_of_ble_eq_true rfl⟩) hP hS hX [0] rfl rfl rfl rfl rfl rfl hl.1 rfl (Nat.le_of_ble_eq_true rfl) dX11_man_13 ⟨Nat.le_of_ble_eq_true rfl, Nat.le_of_ble_eq_true rfl⟩ (fun H locs hP hS => ?_)
    have hP : PD D A [bl_X11 cy A_b r_b_trays (A_a 0) r_b_war r_b_draftArmy r_b_draftWar r_b_reader r_b_armyReader r_b_warReader r_b_markedArmies r_b_markedWars r_b_latest r_b_trial r_b_foresight r_b_pairs z_54.2 b_fractionTop b_fractionBottom b_marks, bl_X0 cy A_a a_name a_courage a_weight a_medals a_stood a_fled a_liked a_votes a_count a_living a_pride a_quota a_melted a_lost] H := hP
    cases h
    subst hW1
    exact W.iret hx hb hr (fun _ ht9 _ => ⟨⟨_, (), rfl, rfl, hPt ht9 hP.1⟩, hS.F ht9⟩) hS.2.2 dX11_man_16
theorem dX11_likes_0 : decode cX11_likes 0 = .ok (.aload_n 0, 1) := by decide +kernel
theorem dX11_likes_1 : decode cX11_likes 1 = .ok (.getfield 29, 3) := by decide +kernel
theorem dX11_likes_4 : decode cX11_likes 4 = .ok (.iload_n 1, 1) := by decide +kernel
theorem dX11_likes_5 : decode cX11_likes 5 = .ok (.invokevirtual 248, 3) := by decide +kernel
theorem dX11_likes_8 : decode cX11_likes 8 = .ok (.ifCond .eq 14, 3) := by decide +kernel
theorem dX11_likes_11 : decode cX11_likes 11 = .ok (.aload_n 0, 1) := by decide +kernel
theorem dX11_likes_12 : decode cX11_likes 12 = .ok (.getfield 29, 3) := by decide +kernel
theorem dX11_likes_15 : decode cX11_likes 15 = .ok (.iload_n 2, 1) := by decide +kernel
theorem dX11_likes_16 : decode cX11_likes 16 = .ok (.invokevirtual 248, 3) := by decide +kernel
theorem dX11_likes_19 : decode cX11_likes 19 = .ok (.ifCond .ne 9, 3) := by decide +kernel
theorem dX11_likes_22 : decode cX11_likes 22 = .ok (.aload_n 0, 1) := by decide +kernel
theorem dX11_likes_23 : decode cX11_likes 23 = .ok (.iconst 1, 1) := by decide +kernel
theorem dX11_likes_24 : decode cX11_likes 24 = .ok (.invokevirtual 143, 3) := by decide +kernel
theorem dX11_likes_27 : decode cX11_likes 27 = .ok (.ireturn, 1) := by decide +kernel
theorem dX11_likes_28 : decode cX11_likes 28 = .ok (.iload_n 1, 1) := by decide +kernel
theorem dX11_likes_29 : decode cX11_likes 29 = .ok (.iload_n 2, 1) := by decide +kernel
theorem dX11_likes_30 : decode cX11_likes 30 = .ok (.if_icmp .ne 10, 3) := by decide +kernel
theorem dX11_likes_33 : decode cX11_likes 33 = .ok (.aload_n 0, 1) := by decide +kernel
theorem dX11_likes_34 : decode cX11_likes 34 = .ok (.bipush 7, 2) := by decide +kernel
theorem dX11_likes_36 : decode cX11_likes 36 = .ok (.invokevirtual 143, 3) := by decide +kernel
theorem dX11_likes_39 : decode cX11_likes 39 = .ok (.ireturn, 1) := by decide +kernel
theorem dX11_likes_40 : decode cX11_likes 40 = .ok (.aload_n 0, 1) := by decide +kernel
theorem dX11_likes_41 : decode cX11_likes 41 = .ok (.aload_n 0, 1) := by decide +kernel
theorem dX11_likes_42 : decode cX11_likes 42 = .ok (.getfield 29, 3) := by decide +kernel
theorem dX11_likes_45 : decode cX11_likes 45 = .ok (.iload_n 1, 1) := by decide +kernel
theorem dX11_likes_46 : decode cX11_likes 46 = .ok (.iload_n 2, 1) := by decide +kernel
theorem dX11_likes_47 : decode cX11_likes 47 = .ok (.invokevirtual 263, 3) := by decide +kernel
theorem dX11_likes_50 : decode cX11_likes 50 = .ok (.invokevirtual 193, 3) := by decide +kernel
theorem dX11_likes_53 : decode cX11_likes 53 = .ok (.ireturn, 1) := by decide +kernel
theorem mv_X11_likes : MV yX11_likes RX11 cX11_likes 3 (some .int) 2 := ⟨tb_790, tb_788, tb_789, tb_1, by decide +kernel, by decide +kernel, by decide +kernel⟩
def f_X11_likes (fu : Nat) (b_latestStatus : Int32) (a_liked : Nat → Int32) (a_count : Int32) (x1 : Int32) (x2 : Int32) : Option (Int32 × Int32) := (f_X0_isMan fu a_count x1).bind fun z_11 => (if z_11 = 0 then (f_X11_refuse fu b_latestStatus 1).bind fun z_13 => some (z_13.1, z_13.2) else (f_X0_isMan fu a_count x2).bind fun z_14 => (if z_14 = 0 then (f_X11_refuse fu b_latestStatus 1).bind fun z_20 => some (z_20.1, z_20.2) else (if x1 = x2 then (f_X11_refuse fu b_latestStatus 7).bind fun z_19 => some (z_19.1, z_19.2) else (f_X0_liking fu a_liked a_count x1 x2).bind fun z_17 => (f_X11_answer fu b_latestStatus z_17).bind fun z_18 => some (z_18.1, z_18.2))))
abbrev rm_X11_likes : Room := { frames := 2, cells := 0, slots := 0, locals := 43 }
set_option maxHeartbeats 4000000 in
set_option maxRecDepth 100000 in
theorem c_X11_likes (l : Launch) (D : va_G) (cy : Nat → ClassId) (fu : Nat) (A_b : Nat → Nat) (r_b_trays : Nat) (r_b_war : Nat) (r_b_draftArmy : Nat) (r_b_draftWar : Nat) (r_b_reader : Nat) (r_b_armyReader : Nat) (r_b_warReader : Nat) (r_b_markedArmies : Nat) (r_b_markedWars : Nat) (r_b_latest : Nat) (r_b_trial : Nat) (r_b_foresight : Nat) (r_b_pairs : Nat) (b_latestStatus : Int32) (b_fractionTop : Int64) (b_fractionBottom : Int64) (b_marks : Int32) (A_a : Nat → Nat) (a_name : Nat → Int64) (a_courage : Nat → Int32) (a_weight : Nat → Int32) (a_medals : Nat → Int32) (a_stood : Nat → Int32) (a_fled : Nat → Int32) (a_liked : Nat → Int32) (a_votes : Nat → Int32) (a_count : Int32) (a_living : Int32) (a_pride : Int32) (a_quota : Int32) (a_melted : Int32) (a_lost : Int32) (x1 : Int32) (x2 : Int32) (res : Int32 × Int32) (h : f_X11_likes fu b_latestStatus a_liked a_count x1 x2 = some res) (A : Nat → Prop) (hA : A = adr [bl_X11 cy A_b r_b_trays (A_a 0) r_b_war r_b_draftArmy r_b_draftWar r_b_reader r_b_armyReader r_b_warReader r_b_markedArmies r_b_markedWars r_b_latest r_b_trial r_b_foresight r_b_pairs b_latestStatus b_fractionTop b_fractionBottom b_marks, bl_X0 cy A_a a_name a_courage a_weight a_medals a_stood a_fled a_liked a_votes a_count a_living a_pride a_quota a_melted a_lost]) (W1 : List va_W) (hW1 : W1 = [bl_X11 cy A_b r_b_trays (A_a 0) r_b_war r_b_draftArmy r_b_draftWar r_b_reader r_b_armyReader r_b_warReader r_b_markedArmies r_b_markedWars r_b_latest r_b_trial r_b_foresight r_b_pairs res.2 b_fractionTop b_fractionBottom b_marks, bl_X0 cy A_a a_name a_courage a_weight a_medals a_stood a_fled a_liked a_votes a_count a_living a_pride a_quota a_melted a_lost]) : Met l yX11_likes (WW yX11_likes cX11_likes 3 (some .int)) rm_X11_likes (Ed D cy [.ref (A_b 0), .int x1, .int x2] [bl_X11 cy A_b r_b_trays (A_a 0) r_b_war r_b_draftArmy r_b_draftWar r_b_reader r_b_armyReader r_b_warReader r_b_markedArmies r_b_markedWars r_b_latest r_b_trial r_b_foresight r_b_pairs b_latestStatus b_fractionTop b_fractionBottom b_marks, bl_X0 cy A_a a_name a_courage a_weight a_medals a_stood a_fled a_liked a_votes a_count a_living a_pride a_quota a_melted a_lost]) (Qei D res.1 A W1) 0 0 A := by
  refine Met.ofW (cc := cX11_likes) (maxL := 3) (ret := (some .int)) (by decide) rfl ?_
  intro p e s m args below meth c s₁ B hml hv
  obtain ⟨hargs, hP, hX, hD0⟩ := hv
  have hx := B.exec
  have hb := B.bytes
  have hr := B.returns
  have ht : ∀ w ∈ lw_gd, w.before args s = true := fun w hw => atoms_spec (ws := WW yX11_likes cX11_likes 3 (some .int)) B.pre w (List.mem_cons_of_mem _ hw)
  have hown : s.vm.findClass RX11 = some m.cls := findClass_of_methodNamed B.named
  have hlocks := B.notSynchronized
  have hP : PD D A [bl_X11 cy A_b r_b_trays (A_a 0) r_b_war r_b_draftArmy r_b_draftWar r_b_reader r_b_armyReader r_b_warReader r_b_markedArmies r_b_markedWars r_b_latest r_b_trial r_b_foresight r_b_pairs b_latestStatus b_fractionTop b_fractionBottom b_marks, bl_X0 cy A_a a_name a_courage a_weight a_medals a_stood a_fled a_liked a_votes a_count a_living a_pride a_quota a_melted a_lost] s.heap := ⟨hP, by rw [hA]; exact hD0.own⟩
  have hS : va_S A s.heap s.heap [] := va_S.rf
  obtain ⟨ls, hl, hent⟩ := ent (m := m) (n := 3) hargs (Nat.le_of_ble_eq_true rfl) (lv := [(0, .ref (A_b 0)), (1, .int x1), (2, .int x2)]) rfl
  rw [hent]
  clear hent
  unfold f_X11_likes at h
  refine lv_aload_n hx hb dX11_likes_0 rfl (lv_at hl 0 rfl) ?_
  refine xget (i := 0) (j := 0) (k := 4) (T := TX11) hx hb ht tb_iX11 hown hX hP.1 rfl rfl rfl (by decide) tb_433 rfl dX11_likes_1 ?_
  refine lv_iload_n hx hb dX11_likes_4 rfl (lv_at hl 1 rfl) ?_
  obtain ⟨z_11, e_z_11, h⟩ := bi h
  refine roVi (rest := []) ⟨hx, hb, hml, hown, ht⟩ (c_X0_isMan l D cy fu A_a a_name a_courage a_weight a_medals a_stood a_fled a_liked a_votes a_count a_living a_pride a_quota a_melted a_lost x1 z_11 e_z_11) (cV ht mv_X0_isMan tb_774 rfl rfl ⟨Nat.le_of_ble_eq_true rfl, Nat.le_of_ble_eq_true rfl⟩) (P_sub hP.1 [1] rfl) hX rfl rfl rfl hl.1 rfl (Nat.le_of_ble_eq_true rfl) dX11_likes_5 ⟨Nat.le_of_ble_eq_true rfl, Nat.le_of_ble_eq_true rfl⟩ ?_
  refine lv_if_eq (tgt := 22) hx hb dX11_likes_8 (by decide) (fun c_12 => ?_) (fun c_12 => ?_)
  · have h := it c_12 h
    refine lv_aload_n hx hb dX11_likes_22 rfl (lv_at hl 0 rfl) ?_
    refine lv_iconst (v := 1) hx hb dX11_likes_23 (by decide) ?_
    obtain ⟨z_13, e_z_13, h⟩ := bi h
    refine efVi (rest := []) ⟨hx, hb, hml, hown, ht⟩ (c_X11_refuse l D cy fu A_b r_b_trays (A_a 0) r_b_war r_b_draftArmy r_b_draftWar r_b_reader r_b_armyReader r_b_warReader r_b_markedArmies r_b_markedWars r_b_latest r_b_trial r_b_foresight r_b_pairs b_latestStatus b_fractionTop b_fractionBottom b_marks 1 z_13 e_z_13 _ rfl _ rfl) (cV ht mv_X11_refuse tb_543 rfl rfl ⟨Nat.le_of_ble_eq_true rfl, Nat.le_of_ble_eq_true rfl⟩) hP hS hX [0] rfl rfl rfl rfl rfl rfl hl.1 rfl (Nat.le_of_ble_eq_true rfl) dX11_likes_24 ⟨Nat.le_of_ble_eq_true rfl, Nat.le_of_ble_eq_true rfl⟩ (fun H locs hP hS => ?_)
    have hP : PD D A [bl_X11 cy A_b r_b_trays (A_a 0) r_b_war r_b_draftArmy r_b_draftWar r_b_reader r_b_armyReader r_b_warReader r_b_markedArmies r_b_markedWars r_b_latest r_b_trial r_b_foresight r_b_pairs z_13.2 b_fractionTop b_fractionBottom b_marks, bl_X0 cy A_a a_name a_courage a_weight a_medals a_stood a_fled a_liked a_votes a_count a_living a_pride a_quota a_melted a_lost] H := hP
    cases h
    subst hW1
    exact W.iret hx hb hr (fun _ ht9 _ => ⟨⟨_, (), rfl, rfl, hPt ht9 hP.1⟩, hS.F ht9⟩) hS.2.2 dX11_likes_27
  · have h := ie c_12 h
    refine lv_aload_n hx hb dX11_likes_11 rfl (lv_at hl 0 rfl) ?_
    refine xget (i := 0) (j := 0) (k := 4) (T := TX11) hx hb ht tb_iX11 hown hX hP.1 rfl rfl rfl (by decide) tb_433 rfl dX11_likes_12 ?_
    refine lv_iload_n hx hb dX11_likes_15 rfl (lv_at hl 2 rfl) ?_
    obtain ⟨z_14, e_z_14, h⟩ := bi h
    refine roVi (rest := []) ⟨hx, hb, hml, hown, ht⟩ (c_X0_isMan l D cy fu A_a a_name a_courage a_weight a_medals a_stood a_fled a_liked a_votes a_count a_living a_pride a_quota a_melted a_lost x2 z_14 e_z_14) (cV ht mv_X0_isMan tb_774 rfl rfl ⟨Nat.le_of_ble_eq_true rfl, Nat.le_of_ble_eq_true rfl⟩) (P_sub hP.1 [1] rfl) hX rfl rfl rfl hl.1 rfl (Nat.le_of_ble_eq_true rfl) dX11_likes_16 ⟨Nat.le_of_ble_eq_true rfl, Nat.le_of_ble_eq_true rfl⟩ ?_
    refine lv_if_ne (tgt := 28) hx hb dX11_likes_19 (by decide) (fun c_15 => ?_) (fun c_15 => ?_)
    · have h := ie c_15 h
      refine lv_iload_n hx hb dX11_likes_28 rfl (lv_at hl 1 rfl) ?_
      refine lv_iload_n hx hb dX11_likes_29 rfl (lv_at hl 2 rfl) ?_
      refine lv_icmp_ne (tgt := 40) hx hb dX11_likes_30 (by decide) (fun c_16 => ?_) (fun c_16 => ?_)
      · have h := ie c_16 h
        refine lv_aload_n hx hb dX11_likes_40 rfl (lv_at hl 0 rfl) ?_
        refine lv_aload_n hx hb dX11_likes_41 rfl (lv_at hl 0 rfl) ?_
        refine xget (i := 0) (j := 0) (k := 4) (T := TX11) hx hb ht tb_iX11 hown hX hP.1 rfl rfl rfl (by decide) tb_433 rfl dX11_likes_42 ?_
        refine lv_iload_n hx hb dX11_likes_45 rfl (lv_at hl 1 rfl) ?_
        refine lv_iload_n hx hb dX11_likes_46 rfl (lv_at hl 2 rfl) ?_
        obtain ⟨z_17, e_z_17, h⟩ := bi h
        refine roVi (rest := [.ref (A_b 0)]) ⟨hx, hb, hml, hown, ht⟩ (c_X0_liking l D cy fu A_a a_name a_courage a_weight a_medals a_stood a_fled a_liked a_votes a_count a_living a_pride a_quota a_melted a_lost x1 x2 z_17 e_z_17) (cV ht mv_X0_liking tb_791 rfl rfl ⟨Nat.le_of_ble_eq_true rfl, Nat.le_of_ble_eq_true rfl⟩) (P_sub hP.1 [1] rfl) hX rfl rfl rfl hl.1 rfl (Nat.le_of_ble_eq_true rfl) dX11_likes_47 ⟨Nat.le_of_ble_eq_true rfl, Nat.le_of_ble_eq_true rfl⟩ ?_
        obtain ⟨z_18, e_z_18, h⟩ := bi h
        refine efVi (rest := []) ⟨hx, hb, hml, hown, ht⟩ (c_X11_answer l D cy fu A_b r_b_trays (A_a 0) r_b_war r_b_draftArmy r_b_draftWar r_b_reader r_b_armyReader r_b_warReader r_b_markedArmies r_b_markedWars r_b_latest r_b_trial r_b_foresight r_b_pairs b_latestStatus b_fractionTop b_fractionBottom b_marks z_17 z_18 e_z_18 _ rfl _ rfl) (cV ht mv_X11_answer tb_696 rfl rfl ⟨Nat.le_of_ble_eq_true rfl, Nat.le_of_ble_eq_true rfl⟩) hP hS hX [0] rfl rfl rfl rfl rfl rfl hl.1 rfl (Nat.le_of_ble_eq_true rfl) dX11_likes_50 ⟨Nat.le_of_ble_eq_true rfl, Nat.le_of_ble_eq_true rfl⟩ (fun H locs hP hS => ?_)
        have hP : PD D A [bl_X11 cy A_b r_b_trays (A_a 0) r_b_war r_b_draftArmy r_b_draftWar r_b_reader r_b_armyReader r_b_warReader r_b_markedArmies r_b_markedWars r_b_latest r_b_trial r_b_foresight r_b_pairs z_18.2 b_fractionTop b_fractionBottom b_marks, bl_X0 cy A_a a_name a_courage a_weight a_medals a_stood a_fled a_liked a_votes a_count a_living a_pride a_quota a_melted a_lost] H := hP
        cases h
        subst hW1
        exact W.iret hx hb hr (fun _ ht9 _ => ⟨⟨_, (), rfl, rfl, hPt ht9 hP.1⟩, hS.F ht9⟩) hS.2.2 dX11_likes_53
      · have h := it c_16 h
        refine lv_aload_n hx hb dX11_likes_33 rfl (lv_at hl 0 rfl) ?_
        refine lv_bipush (v := 7) hx hb dX11_likes_34 (by decide) ?_
        obtain ⟨z_19, e_z_19, h⟩ := bi h
        refine efVi (rest := []) ⟨hx, hb, hml, hown, ht⟩ (c_X11_refuse l D cy fu A_b r_b_trays (A_a 0) r_b_war r_b_draftArmy r_b_draftWar r_b_reader r_b_armyReader r_b_warReader r_b_markedArmies r_b_markedWars r_b_latest r_b_trial r_b_foresight r_b_pairs b_latestStatus b_fractionTop b_fractionBottom b_marks 7 z_19 e_z_19 _ rfl _ rfl) (cV ht mv_X11_refuse tb_543 rfl rfl ⟨Nat.le_of_ble_eq_true rfl, Nat.le_of_ble_eq_true rfl⟩) hP hS hX [0] rfl rfl rfl rfl rfl rfl hl.1 rfl (Nat.le_of_ble_eq_true rfl) dX11_likes_36 ⟨Nat.le_of_ble_eq_true rfl, Nat.le_of_ble_eq_true rfl⟩ (fun H locs hP hS => ?_)
        have hP : PD D A [bl_X11 cy A_b r_b_trays (A_a 0) r_b_war r_b_draftArmy r_b_draftWar r_b_reader r_b_armyReader r_b_warReader r_b_markedArmies r_b_markedWars r_b_latest r_b_trial r_b_foresight r_b_pairs z_19.2 b_fractionTop b_fractionBottom b_marks, bl_X0 cy A_a a_name a_courage a_weight a_medals a_stood a_fled a_liked a_votes a_count a_living a_pride a_quota a_melted a_lost] H := hP
        cases h
        subst hW1
        exact W.iret hx hb hr (fun _ ht9 _ => ⟨⟨_, (), rfl, rfl, hPt ht9 hP.1⟩, hS.F ht9⟩) hS.2.2 dX11_likes_39
    · have h := it c_15 h
      refine lv_aload_n hx hb dX11_likes_22 rfl (lv_at hl 0 rfl) ?_
      refine lv_iconst (v := 1) hx hb dX11_likes_23 (by decide) ?_
      obtain ⟨z_20, e_z_20, h⟩ := bi h
      refine efVi (rest := []) ⟨hx, hb, hml, hown, ht⟩ (c_X11_refuse l D cy fu A_b r_b_trays (A_a 0) r_b_war r_b_draftArmy r_b_draftWar r_b_reader r_b_armyReader r_b_warReader r_b_markedArmies r_b_markedWars r_b_latest r_b_trial r_b_foresight r_b_pairs b_latestStatus b_fractionTop b_fractionBottom b_marks 1 z_20 e_z_20 _ rfl _ rfl) (cV ht mv_X11_refuse tb_543 rfl rfl ⟨Nat.le_of_ble_eq_true rfl, Nat.le_of_ble_eq_true rfl⟩) hP hS hX [0] rfl rfl rfl rfl rfl rfl hl.1 rfl (Nat.le_of_ble_eq_true rfl) dX11_likes_24 ⟨Nat.le_of_ble_eq_true rfl, Nat.le_of_ble_eq_true rfl⟩ (fun H locs hP hS => ?_)
      have hP : PD D A [bl_X11 cy A_b r_b_trays (A_a 0) r_b_war r_b_draftArmy r_b_draftWar r_b_reader r_b_armyReader r_b_warReader r_b_markedArmies r_b_markedWars r_b_latest r_b_trial r_b_foresight r_b_pairs z_20.2 b_fractionTop b_fractionBottom b_marks, bl_X0 cy A_a a_name a_courage a_weight a_medals a_stood a_fled a_liked a_votes a_count a_living a_pride a_quota a_melted a_lost] H := hP
      cases h
      subst hW1
      exact W.iret hx hb hr (fun _ ht9 _ => ⟨⟨_, (), rfl, rfl, hPt ht9 hP.1⟩, hS.F ht9⟩) hS.2.2 dX11_likes_27
theorem dX11_isSize_0 : decode cX11_isSize 0 = .ok (.iload_n 0, 1) := by decide +kernel
theorem dX11_isSize_1 : decode cX11_isSize 1 = .ok (.iconst 1, 1) := by decide +kernel
theorem dX11_isSize_2 : decode cX11_isSize 2 = .ok (.bipush 99, 2) := by decide +kernel
theorem dX11_isSize_4 : decode cX11_isSize 4 = .ok (.invokestatic 115, 3) := by decide +kernel
theorem dX11_isSize_7 : decode cX11_isSize 7 = .ok (.ireturn, 1) := by decide +kernel
theorem ms_X11_isSize : MS yX11_isSize cX11_isSize 1 (some .boolean) 1 := ⟨tb_805, tb_804, tb_1, by decide +kernel, by decide +kernel, by decide +kernel⟩
def f_X11_isSize (fu : Nat) (x0 : Int32) : Option (Int32) := (f_X11_within fu x0 1 99).bind fun z_3 => (bz z_3).bind fun _ => some (z_3)
abbrev rm_X11_isSize : Room := { frames := 1, cells := 0, slots := 0, locals := 22 }
set_option maxHeartbeats 4000000 in
set_option maxRecDepth 100000 in
theorem c_X11_isSize (l : Launch) (D : va_G) (cy : Nat → ClassId) (fu : Nat) (x0 : Int32) (res : Int32) (h : f_X11_isSize fu x0 = some res) : Met l yX11_isSize (WW yX11_isSize cX11_isSize 1 (some .boolean)) rm_X11_isSize (Rd D cy [.int x0] []) (vp_Si (fun v => v = res)) 0 0 (fun _ => False) := by
  refine Met.ofW (cc := cX11_isSize) (maxL := 1) (ret := (some .boolean)) (by decide) rfl ?_
  intro p e s m args below meth c s₁ B hml hv
  obtain ⟨hargs, hP, hX⟩ := hv
  have hx := B.exec
  have hb := B.bytes
  have hr := B.returns
  have ht : ∀ w ∈ lw_gd, w.before args s = true := fun w hw => atoms_spec (ws := WW yX11_isSize cX11_isSize 1 (some .boolean)) B.pre w (List.mem_cons_of_mem _ hw)
  have hown : s.vm.findClass RX11 = some m.cls := findClass_of_methodNamed B.named
  have hlocks := B.notSynchronized
  have hP : PB D [] s.heap := hP
  obtain ⟨ls, hl, hent⟩ := ent (m := m) (n := 1) hargs (Nat.le_of_ble_eq_true rfl) (lv := [(0, .int x0)]) rfl
  rw [hent]
  clear hent
  unfold f_X11_isSize at h
  refine lv_iload_n hx hb dX11_isSize_0 rfl (lv_at hl 0 rfl) ?_
  refine lv_iconst (v := 1) hx hb dX11_isSize_1 (by decide) ?_
  refine lv_bipush (v := 99) hx hb dX11_isSize_2 (by decide) ?_
  obtain ⟨z_3, e_z_3, h⟩ := bi h
  refine roSi (rest := []) ⟨hx, hb, hml, hown, ht⟩ (c_X11_within l D cy fu  x0 1 99 z_3 e_z_3) (cS ht ms_X11_within tb_504 rfl rfl ⟨Nat.le_of_ble_eq_true rfl, Nat.le_of_ble_eq_true rfl⟩) (P_sub hP [] rfl) hX rfl hl.1 rfl (Nat.le_of_ble_eq_true rfl) dX11_isSize_4 ⟨Nat.le_of_ble_eq_true rfl, Nat.le_of_ble_eq_true rfl⟩ ?_
  obtain ⟨b_4, e_b_4, h⟩ := bi h
  obtain ⟨-, n_b_4, -⟩ := bz_ok e_b_4
  cases h
  exact W.zret hx hb hr n_b_4 (fun _ ht9 _ => ⟨_, rfl, rfl, ht9⟩) (fun _ hq => by cases hq) dX11_isSize_7
theorem dX11_dangerRefusal_0 : decode cX11_dangerRefusal 0 = .ok (.aload_n 0, 1) := by decide +kernel
theorem dX11_dangerRefusal_1 : decode cX11_dangerRefusal 1 = .ok (.getfield 29, 3) := by decide +kernel
theorem dX11_dangerRefusal_4 : decode cX11_dangerRefusal 4 = .ok (.iload_n 1, 1) := by decide +kernel
theorem dX11_dangerRefusal_5 : decode cX11_dangerRefusal 5 = .ok (.invokevirtual 248, 3) := by decide +kernel
theorem dX11_dangerRefusal_8 : decode cX11_dangerRefusal 8 = .ok (.ifCond .eq 10, 3) := by decide +kernel
theorem dX11_dangerRefusal_11 : decode cX11_dangerRefusal 11 = .ok (.iload_n 2, 1) := by decide +kernel
theorem dX11_dangerRefusal_12 : decode cX11_dangerRefusal 12 = .ok (.invokestatic 294, 3) := by decide +kernel
theorem dX11_dangerRefusal_15 : decode cX11_dangerRefusal 15 = .ok (.ifCond .ne 5, 3) := by decide +kernel
theorem dX11_dangerRefusal_18 : decode cX11_dangerRefusal 18 = .ok (.iconst 1, 1) := by decide +kernel
theorem dX11_dangerRefusal_19 : decode cX11_dangerRefusal 19 = .ok (.ireturn, 1) := by decide +kernel
theorem dX11_dangerRefusal_20 : decode cX11_dangerRefusal 20 = .ok (.aload_n 0, 1) := by decide +kernel
theorem dX11_dangerRefusal_21 : decode cX11_dangerRefusal 21 = .ok (.getfield 29, 3) := by decide +kernel
theorem dX11_dangerRefusal_24 : decode cX11_dangerRefusal 24 = .ok (.iload_n 1, 1) := by decide +kernel
theorem dX11_dangerRefusal_25 : decode cX11_dangerRefusal 25 = .ok (.invokevirtual 257, 3) := by decide +kernel
theorem dX11_dangerRefusal_28 : decode cX11_dangerRefusal 28 = .ok (.ifCond .eq 7, 3) := by decide +kernel
theorem dX11_dangerRefusal_31 : decode cX11_dangerRefusal 31 = .ok (.iconst 0, 1) := by decide +kernel
theorem dX11_dangerRefusal_32 : decode cX11_dangerRefusal 32 = .ok (.goto 5, 3) := by decide +kernel
theorem dX11_dangerRefusal_35 : decode cX11_dangerRefusal 35 = .ok (.bipush 7, 2) := by decide +kernel
theorem dX11_dangerRefusal_37 : decode cX11_dangerRefusal 37 = .ok (.ireturn, 1) := by decide +kernel
theorem mv_X11_dangerRefusal : MV yX11_dangerRefusal RX11 cX11_dangerRefusal 3 (some .int) 2 := ⟨tb_802, tb_801, ts_19, tb_1, by decide +kernel, by decide +kernel, by decide +kernel⟩
def f_X11_dangerRefusal (fu : Nat) (a_count : Int32) (a_living : Int32) (x1 : Int32) (x2 : Int32) : Option (Int32) := (f_X0_isMan fu a_count x1).bind fun z_7 => (if z_7 = 0 then some (1) else (f_X11_isSize fu x2).bind fun z_9 => (if z_9 = 0 then some (1) else (f_X0_lives fu a_count a_living x1).bind fun z_11 => (if z_11 = 0 then some (7) else some (0))))
abbrev rm_X11_dangerRefusal : Room := { frames := 2, cells := 0, slots := 0, locals := 42 }
set_option maxHeartbeats 4000000 in
set_option maxRecDepth 100000 in
theorem c_X11_dangerRefusal (l : Launch) (D : va_G) (cy : Nat → ClassId) (fu : Nat) (A_b : Nat → Nat) (r_b_trays : Nat) (r_b_war : Nat) (r_b_draftArmy : Nat) (r_b_draftWar : Nat) (r_b_reader : Nat) (r_b_armyReader : Nat) (r_b_warReader : Nat) (r_b_markedArmies : Nat) (r_b_markedWars : Nat) (r_b_latest : Nat) (r_b_trial : Nat) (r_b_foresight : Nat) (r_b_pairs : Nat) (b_latestStatus : Int32) (b_fractionTop : Int64) (b_fractionBottom : Int64) (b_marks : Int32) (A_a : Nat → Nat) (a_name : Nat → Int64) (a_courage : Nat → Int32) (a_weight : Nat → Int32) (a_medals : Nat → Int32) (a_stood : Nat → Int32) (a_fled : Nat → Int32) (a_liked : Nat → Int32) (a_votes : Nat → Int32) (a_count : Int32) (a_living : Int32) (a_pride : Int32) (a_quota : Int32) (a_melted : Int32) (a_lost : Int32) (x1 : Int32) (x2 : Int32) (res : Int32) (h : f_X11_dangerRefusal fu a_count a_living x1 x2 = some res) : Met l yX11_dangerRefusal (WW yX11_dangerRefusal cX11_dangerRefusal 3 (some .int)) rm_X11_dangerRefusal (Rd D cy [.ref (A_b 0), .int x1, .int x2] [bl_X11 cy A_b r_b_trays (A_a 0) r_b_war r_b_draftArmy r_b_draftWar r_b_reader r_b_armyReader r_b_warReader r_b_markedArmies r_b_markedWars r_b_latest r_b_trial r_b_foresight r_b_pairs b_latestStatus b_fractionTop b_fractionBottom b_marks, bl_X0 cy A_a a_name a_courage a_weight a_medals a_stood a_fled a_liked a_votes a_count a_living a_pride a_quota a_melted a_lost]) (vp_Si (fun v => v = res)) 0 0 (fun _ => False) := by
  refine Met.ofW (cc := cX11_dangerRefusal) (maxL := 3) (ret := (some .int)) (by decide) rfl ?_
  intro p e s m args below meth c s₁ B hml hv
  obtain ⟨hargs, hP, hX⟩ := hv
  have hx := B.exec
  have hb := B.bytes
  have hr := B.returns
  have ht : ∀ w ∈ lw_gd, w.before args s = true := fun w hw => atoms_spec (ws := WW yX11_dangerRefusal cX11_dangerRefusal 3 (some .int)) B.pre w (List.mem_cons_of_mem _ hw)
  have hown : s.vm.findClass RX11 = some m.cls := findClass_of_methodNamed B.named
  have hlocks := B.notSynchronized
  have hP : PB D [bl_X11 cy A_b r_b_trays (A_a 0) r_b_war r_b_draftArmy r_b_draftWar r_b_reader r_b_armyReader r_b_warReader r_b_markedArmies r_b_markedWars r_b_latest r_b_trial r_b_foresight r_b_pairs b_latestStatus b_fractionTop b_fractionBottom b_marks, bl_X0 cy A_a a_name a_courage a_weight a_medals a_stood a_fled a_liked a_votes a_count a_living a_pride a_quota a_melted a_lost] s.heap := hP
  obtain ⟨ls, hl, hent⟩ := ent (m := m) (n := 3) hargs (Nat.le_of_ble_eq_true rfl) (lv := [(0, .ref (A_b 0)), (1, .int x1), (2, .int x2)]) rfl
  rw [hent]
  clear hent
  unfold f_X11_dangerRefusal at h
  refine lv_aload_n hx hb dX11_dangerRefusal_0 rfl (lv_at hl 0 rfl) ?_
  refine xget (i := 0) (j := 0) (k := 4) (T := TX11) hx hb ht tb_iX11 hown hX hP rfl rfl rfl (by decide) tb_433 rfl dX11_dangerRefusal_1 ?_
  refine lv_iload_n hx hb dX11_dangerRefusal_4 rfl (lv_at hl 1 rfl) ?_
  obtain ⟨z_7, e_z_7, h⟩ := bi h
  refine roVi (rest := []) ⟨hx, hb, hml, hown, ht⟩ (c_X0_isMan l D cy fu A_a a_name a_courage a_weight a_medals a_stood a_fled a_liked a_votes a_count a_living a_pride a_quota a_melted a_lost x1 z_7 e_z_7) (cV ht mv_X0_isMan tb_774 rfl rfl ⟨Nat.le_of_ble_eq_true rfl, Nat.le_of_ble_eq_true rfl⟩) (P_sub hP [1] rfl) hX rfl rfl rfl hl.1 rfl (Nat.le_of_ble_eq_true rfl) dX11_dangerRefusal_5 ⟨Nat.le_of_ble_eq_true rfl, Nat.le_of_ble_eq_true rfl⟩ ?_
  refine lv_if_eq (tgt := 18) hx hb dX11_dangerRefusal_8 (by decide) (fun c_8 => ?_) (fun c_8 => ?_)
  · have h := it c_8 h
    refine lv_iconst (v := 1) hx hb dX11_dangerRefusal_18 (by decide) ?_
    cases h
    exact W.iret hx hb hr (fun _ ht9 _ => ⟨_, rfl, rfl, ht9⟩) (fun _ hq => by cases hq) dX11_dangerRefusal_19
  · have h := ie c_8 h
    refine lv_iload_n hx hb dX11_dangerRefusal_11 rfl (lv_at hl 2 rfl) ?_
    obtain ⟨z_9, e_z_9, h⟩ := bi h
    refine roSi (rest := []) ⟨hx, hb, hml, hown, ht⟩ (c_X11_isSize l D cy fu  x2 z_9 e_z_9) (cS ht ms_X11_isSize tb_803 rfl rfl ⟨Nat.le_of_ble_eq_true rfl, Nat.le_of_ble_eq_true rfl⟩) (P_sub hP [] rfl) hX rfl hl.1 rfl (Nat.le_of_ble_eq_true rfl) dX11_dangerRefusal_12 ⟨Nat.le_of_ble_eq_true rfl, Nat.le_of_ble_eq_true rfl⟩ ?_
    refine lv_if_ne (tgt := 20) hx hb dX11_dangerRefusal_15 (by decide) (fun c_10 => ?_) (fun c_10 => ?_)
    · have h := ie c_10 h
      refine lv_aload_n hx hb dX11_dangerRefusal_20 rfl (lv_at hl 0 rfl) ?_
      refine xget (i := 0) (j := 0) (k := 4) (T := TX11) hx hb ht tb_iX11 hown hX hP rfl rfl rfl (by decide) tb_433 rfl dX11_dangerRefusal_21 ?_
      refine lv_iload_n hx hb dX11_dangerRefusal_24 rfl (lv_at hl 1 rfl) ?_
      obtain ⟨z_11, e_z_11, h⟩ := bi h
      refine roVi (rest := []) ⟨hx, hb, hml, hown, ht⟩ (c_X0_lives l D cy fu A_a a_name a_courage a_weight a_medals a_stood a_fled a_liked a_votes a_count a_living a_pride a_quota a_melted a_lost x1 z_11 e_z_11) (cV ht mv_X0_lives tb_775 rfl rfl ⟨Nat.le_of_ble_eq_true rfl, Nat.le_of_ble_eq_true rfl⟩) (P_sub hP [1] rfl) hX rfl rfl rfl hl.1 rfl (Nat.le_of_ble_eq_true rfl) dX11_dangerRefusal_25 ⟨Nat.le_of_ble_eq_true rfl, Nat.le_of_ble_eq_true rfl⟩ ?_
      refine lv_if_eq (tgt := 35) hx hb dX11_dangerRefusal_28 (by decide) (fun c_12 => ?_) (fun c_12 => ?_)
      · have h := it c_12 h
        refine lv_bipush (v := 7) hx hb dX11_dangerRefusal_35 (by decide) ?_
        cases h
        exact W.iret hx hb hr (fun _ ht9 _ => ⟨_, rfl, rfl, ht9⟩) (fun _ hq => by cases hq) dX11_dangerRefusal_37
      · have h := ie c_12 h
        refine lv_iconst (v := 0) hx hb dX11_dangerRefusal_31 (by decide) ?_
        refine lv_goto (tgt := 37) hx hb dX11_dangerRefusal_32 (by decide) ?_
        cases h
        exact W.iret hx hb hr (fun _ ht9 _ => ⟨_, rfl, rfl, ht9⟩) (fun _ hq => by cases hq) dX11_dangerRefusal_37
    · have h := it c_10 h
      refine lv_iconst (v := 1) hx hb dX11_dangerRefusal_18 (by decide) ?_
      cases h
      exact W.iret hx hb hr (fun _ ht9 _ => ⟨_, rfl, rfl, ht9⟩) (fun _ hq => by cases hq) dX11_dangerRefusal_19
theorem dX11_face_0 : decode cX11_face 0 = .ok (.aload_n 0, 1) := by decide +kernel
theorem dX11_face_1 : decode cX11_face 1 = .ok (.iload_n 1, 1) := by decide +kernel
theorem dX11_face_2 : decode cX11_face 2 = .ok (.iload_n 2, 1) := by decide +kernel
theorem dX11_face_3 : decode cX11_face 3 = .ok (.invokevirtual 266, 3) := by decide +kernel
theorem dX11_face_6 : decode cX11_face 6 = .ok (.istore_n 3, 1) := by decide +kernel
theorem dX11_face_7 : decode cX11_face 7 = .ok (.iload_n 3, 1) := by decide +kernel
theorem dX11_face_8 : decode cX11_face 8 = .ok (.ifCond .eq 9, 3) := by decide +kernel
theorem dX11_face_11 : decode cX11_face 11 = .ok (.aload_n 0, 1) := by decide +kernel
theorem dX11_face_12 : decode cX11_face 12 = .ok (.iload_n 3, 1) := by decide +kernel
theorem dX11_face_13 : decode cX11_face 13 = .ok (.invokevirtual 143, 3) := by decide +kernel
theorem dX11_face_16 : decode cX11_face 16 = .ok (.ireturn, 1) := by decide +kernel
theorem dX11_face_17 : decode cX11_face 17 = .ok (.aload_n 0, 1) := by decide +kernel
theorem dX11_face_18 : decode cX11_face 18 = .ok (.aload_n 0, 1) := by decide +kernel
theorem dX11_face_19 : decode cX11_face 19 = .ok (.getfield 29, 3) := by decide +kernel
theorem dX11_face_22 : decode cX11_face 22 = .ok (.iload_n 1, 1) := by decide +kernel
theorem dX11_face_23 : decode cX11_face 23 = .ok (.iload_n 2, 1) := by decide +kernel
theorem dX11_face_24 : decode cX11_face 24 = .ok (.invokevirtual 269, 3) := by decide +kernel
theorem dX11_face_27 : decode cX11_face 27 = .ok (.invokevirtual 193, 3) := by decide +kernel
theorem dX11_face_30 : decode cX11_face 30 = .ok (.ireturn, 1) := by decide +kernel
theorem mv_X11_face : MV yX11_face RX11 cX11_face 4 (some .int) 2 := ⟨tb_798, tb_796, tb_797, tb_1, by decide +kernel, by decide +kernel, by decide +kernel⟩
def f_X11_face (fu : Nat) (b_latestStatus : Int32) (a_courage : Nat → Int32) (a_weight : Nat → Int32) (a_medals : Nat → Int32) (a_stood : Nat → Int32) (a_fled : Nat → Int32) (a_liked : Nat → Int32) (a_votes : Nat → Int32) (a_count : Int32) (a_living : Int32) (a_pride : Int32) (a_melted : Int32) (a_lost : Int32) (x1 : Int32) (x2 : Int32) : Option (Int32 × Int32 × (Nat → Int32) × (Nat → Int32) × (Nat → Int32) × (Nat → Int32) × Int32 × Int32) := (f_X11_dangerRefusal fu a_count a_living x1 x2).bind fun z_6 => (if z_6 = 0 then (f_X0_endure fu a_courage a_weight a_medals a_stood a_fled a_liked a_votes a_count a_living a_pride a_melted a_lost x1 x2).bind fun z_8 => (f_X11_answer fu b_latestStatus z_8.1).bind fun z_9 => some (z_9.1, z_9.2, z_8.2.1, z_8.2.2.1, z_8.2.2.2.1, z_8.2.2.2.2.1, z_8.2.2.2.2.2.1, z_8.2.2.2.2.2.2) else (f_X11_refuse fu b_latestStatus z_6).bind fun z_10 => some (z_10.1, z_10.2, a_medals, a_stood, a_fled, a_votes, a_melted, a_lost))
abbrev rm_X11_face : Room := { frames := 3, cells := 0, slots := 0, locals := 73 }
set_option maxHeartbeats 4000000 in
set_option maxRecDepth 100000 in
theorem c_X11_face (l : Launch) (D : va_G) (cy : Nat → ClassId) (fu : Nat) (A_b : Nat → Nat) (r_b_trays : Nat) (r_b_war : Nat) (r_b_draftArmy : Nat) (r_b_draftWar : Nat) (r_b_reader : Nat) (r_b_armyReader : Nat) (r_b_warReader : Nat) (r_b_markedArmies : Nat) (r_b_markedWars : Nat) (r_b_latest : Nat) (r_b_trial : Nat) (r_b_foresight : Nat) (r_b_pairs : Nat) (b_latestStatus : Int32) (b_fractionTop : Int64) (b_fractionBottom : Int64) (b_marks : Int32) (A_a : Nat → Nat) (a_name : Nat → Int64) (a_courage : Nat → Int32) (a_weight : Nat → Int32) (a_medals : Nat → Int32) (a_stood : Nat → Int32) (a_fled : Nat → Int32) (a_liked : Nat → Int32) (a_votes : Nat → Int32) (a_count : Int32) (a_living : Int32) (a_pride : Int32) (a_quota : Int32) (a_melted : Int32) (a_lost : Int32) (x1 : Int32) (x2 : Int32) (res : Int32 × Int32 × (Nat → Int32) × (Nat → Int32) × (Nat → Int32) × (Nat → Int32) × Int32 × Int32) (h : f_X11_face fu b_latestStatus a_courage a_weight a_medals a_stood a_fled a_liked a_votes a_count a_living a_pride a_melted a_lost x1 x2 = some res) (A : Nat → Prop) (hA : A = adr [bl_X11 cy A_b r_b_trays (A_a 0) r_b_war r_b_draftArmy r_b_draftWar r_b_reader r_b_armyReader r_b_warReader r_b_markedArmies r_b_markedWars r_b_latest r_b_trial r_b_foresight r_b_pairs b_latestStatus b_fractionTop b_fractionBottom b_marks, bl_X0 cy A_a a_name a_courage a_weight a_medals a_stood a_fled a_liked a_votes a_count a_living a_pride a_quota a_melted a_lost]) (W1 : List va_W) (hW1 : W1 = [bl_X11 cy A_b r_b_trays (A_a 0) r_b_war r_b_draftArmy r_b_draftWar r_b_reader r_b_armyReader r_b_warReader r_b_markedArmies r_b_markedWars r_b_latest r_b_trial r_b_foresight r_b_pairs res.2.1 b_fractionTop b_fractionBottom b_marks, bl_X0 cy A_a a_name a_courage a_weight res.2.2.1 res.2.2.2.1 res.2.2.2.2.1 a_liked res.2.2.2.2.2.1 a_count a_living a_pride a_quota res.2.2.2.2.2.2.1 res.2.2.2.2.2.2.2]) : Met l yX11_face (WW yX11_face cX11_face 4 (some .int)) rm_X11_face (Ed D cy [.ref (A_b 0), .int x1, .int x2] [bl_X11 cy A_b r_b_trays (A_a 0) r_b_war r_b_draftArmy r_b_draftWar r_b_reader r_b_armyReader r_b_warReader r_b_markedArmies r_b_markedWars r_b_latest r_b_trial r_b_foresight r_b_pairs b_latestStatus b_fractionTop b_fractionBottom b_marks, bl_X0 cy A_a a_name a_courage a_weight a_medals a_stood a_fled a_liked a_votes a_count a_living a_pride a_quota a_melted a_lost]) (Qei D res.1 A W1) 0 0 A := by
  refine Met.ofW (cc := cX11_face) (maxL := 4) (ret := (some .int)) (by decide) rfl ?_
  intro p e s m args below meth c s₁ B hml hv
  obtain ⟨hargs, hP, hX, hD0⟩ := hv
  have hx := B.exec
  have hb := B.bytes
  have hr := B.returns
  have ht : ∀ w ∈ lw_gd, w.before args s = true := fun w hw => atoms_spec (ws := WW yX11_face cX11_face 4 (some .int)) B.pre w (List.mem_cons_of_mem _ hw)
  have hown : s.vm.findClass RX11 = some m.cls := findClass_of_methodNamed B.named
  have hlocks := B.notSynchronized
  have hP : PD D A [bl_X11 cy A_b r_b_trays (A_a 0) r_b_war r_b_draftArmy r_b_draftWar r_b_reader r_b_armyReader r_b_warReader r_b_markedArmies r_b_markedWars r_b_latest r_b_trial r_b_foresight r_b_pairs b_latestStatus b_fractionTop b_fractionBottom b_marks, bl_X0 cy A_a a_name a_courage a_weight a_medals a_stood a_fled a_liked a_votes a_count a_living a_pride a_quota a_melted a_lost] s.heap := ⟨hP, by rw [hA]; exact hD0.own⟩
  have hS : va_S A s.heap s.heap [] := va_S.rf
  obtain ⟨ls, hl, hent⟩ := ent (m := m) (n := 4) hargs (Nat.le_of_ble_eq_true rfl) (lv := [(0, .ref (A_b 0)), (1, .int x1), (2, .int x2)]) rfl
  rw [hent]
  clear hent
  unfold f_X11_face at h
  refine lv_aload_n hx hb dX11_face_0 rfl (lv_at hl 0 rfl) ?_
  refine lv_iload_n hx hb dX11_face_1 rfl (lv_at hl 1 rfl) ?_
  refine lv_iload_n hx hb dX11_face_2 rfl (lv_at hl 2 rfl) ?_
  obtain ⟨z_6, e_z_6, h⟩ := bi h
  refine roVi (rest := []) ⟨hx, hb, hml, hown, ht⟩ (c_X11_dangerRefusal l D cy fu A_b r_b_trays r_b_war r_b_draftArmy r_b_draftWar r_b_reader r_b_armyReader r_b_warReader r_b_markedArmies r_b_markedWars r_b_latest r_b_trial r_b_foresight r_b_pairs b_latestStatus b_fractionTop b_fractionBottom b_marks A_a a_name a_courage a_weight a_medals a_stood a_fled a_liked a_votes a_count a_living a_pride a_quota a_melted a_lost x1 x2 z_6 e_z_6) (cV ht mv_X11_dangerRefusal tb_799 rfl rfl ⟨Nat.le_of_ble_eq_true rfl, Nat.le_of_ble_eq_true rfl⟩) (P_sub hP.1 [0, 1] rfl) hX rfl rfl rfl hl.1 rfl (Nat.le_of_ble_eq_true rfl) dX11_face_3 ⟨Nat.le_of_ble_eq_true rfl, Nat.le_of_ble_eq_true rfl⟩ ?_
  refine lv_istore_n (lv' := [(3, .int z_6), (0, .ref (A_b 0)), (1, .int x1), (2, .int x2)]) hx hb dX11_face_6 rfl hl (by decide) rfl (fun ls hl => ?_)
  refine lv_iload_n hx hb dX11_face_7 rfl (lv_at hl 0 rfl) ?_
  refine lv_if_eq (tgt := 17) hx hb dX11_face_8 (by decide) (fun c_7 => ?_) (fun c_7 => ?_)
  · have h := it c_7 h
    refine lv_aload_n hx hb dX11_face_17 rfl (lv_at hl 1 rfl) ?_
    refine lv_aload_n hx hb dX11_face_18 rfl (lv_at hl 1 rfl) ?_
    refine xget (i := 0) (j := 0) (k := 4) (T := TX11) hx hb ht tb_iX11 hown hX hP.1 rfl rfl rfl (by decide) tb_433 rfl dX11_face_19 ?_
    refine lv_iload_n hx hb dX11_face_22 rfl (lv_at hl 2 rfl) ?_
    refine lv_iload_n hx hb dX11_face_23 rfl (lv_at hl 3 rfl) ?_
    obtain ⟨z_8, e_z_8, h⟩ := bi h
    refine efVi (rest := [.ref (A_b 0)]) ⟨hx, hb, hml, hown, ht⟩ (c_X0_endure l D cy fu A_a a_name a_courage a_weight a_medals a_stood a_fled a_liked a_votes a_count a_living a_pride a_quota a_melted a_lost x1 x2 z_8 e_z_8 _ rfl _ rfl) (cV ht mv_X0_endure tb_806 rfl rfl ⟨Nat.le_of_ble_eq_true rfl, Nat.le_of_ble_eq_true rfl⟩) hP hS hX [1] rfl rfl rfl rfl rfl rfl hl.1 rfl (Nat.le_of_ble_eq_true rfl) dX11_face_24 ⟨Nat.le_of_ble_eq_true rfl, Nat.le_of_ble_eq_true rfl⟩ (fun H locs hP hS => ?_)
    have hP : PD D A [bl_X11 cy A_b r_b_trays (A_a 0) r_b_war r_b_draftArmy r_b_draftWar r_b_reader r_b_armyReader r_b_warReader r_b_markedArmies r_b_markedWars r_b_latest r_b_trial r_b_foresight r_b_pairs b_latestStatus b_fractionTop b_fractionBottom b_marks, bl_X0 cy A_a a_name a_courage a_weight z_8.2.1 z_8.2.2.1 z_8.2.2.2.1 a_liked z_8.2.2.2.2.1 a_count a_living a_pride a_quota z_8.2.2.2.2.2.1 z_8.2.2.2.2.2.2] H := hP
    obtain ⟨z_9, e_z_9, h⟩ := bi h
    refine efVi (rest := []) ⟨hx, hb, hml, hown, ht⟩ (c_X11_answer l D cy fu A_b r_b_trays (A_a 0) r_b_war r_b_draftArmy r_b_draftWar r_b_reader r_b_armyReader r_b_warReader r_b_markedArmies r_b_markedWars r_b_latest r_b_trial r_b_foresight r_b_pairs b_latestStatus b_fractionTop b_fractionBottom b_marks z_8.1 z_9 e_z_9 _ rfl _ rfl) (cV ht mv_X11_answer tb_696 rfl rfl ⟨Nat.le_of_ble_eq_true rfl, Nat.le_of_ble_eq_true rfl⟩) hP hS hX [0] rfl rfl rfl rfl rfl rfl hl.1 rfl (Nat.le_of_ble_eq_true rfl) dX11_face_27 ⟨Nat.le_of_ble_eq_true rfl, Nat.le_of_ble_eq_true rfl⟩ (fun H locs hP hS => ?_)
    have hP : PD D A [bl_X11 cy A_b r_b_trays (A_a 0) r_b_war r_b_draftArmy r_b_draftWar r_b_reader r_b_armyReader r_b_warReader r_b_markedArmies r_b_markedWars r_b_latest r_b_trial r_b_foresight r_b_pairs z_9.2 b_fractionTop b_fractionBottom b_marks, bl_X0 cy A_a a_name a_courage a_weight z_8.2.1 z_8.2.2.1 z_8.2.2.2.1 a_liked z_8.2.2.2.2.1 a_count a_living a_pride a_quota z_8.2.2.2.2.2.1 z_8.2.2.2.2.2.2] H := hP
    cases h
    subst hW1
    exact W.iret hx hb hr (fun _ ht9 _ => ⟨⟨_, (), rfl, rfl, hPt ht9 hP.1⟩, hS.F ht9⟩) hS.2.2 dX11_face_30
  · have h := ie c_7 h
    refine lv_aload_n hx hb dX11_face_11 rfl (lv_at hl 1 rfl) ?_
    refine lv_iload_n hx hb dX11_face_12 rfl (lv_at hl 0 rfl) ?_
    obtain ⟨z_10, e_z_10, h⟩ := bi h
    refine efVi (rest := []) ⟨hx, hb, hml, hown, ht⟩ (c_X11_refuse l D cy fu A_b r_b_trays (A_a 0) r_b_war r_b_draftArmy r_b_draftWar r_b_reader r_b_armyReader r_b_warReader r_b_markedArmies r_b_markedWars r_b_latest r_b_trial r_b_foresight r_b_pairs b_latestStatus b_fractionTop b_fractionBottom b_marks z_6 z_10 e_z_10 _ rfl _ rfl) (cV ht mv_X11_refuse tb_543 rfl rfl ⟨Nat.le_of_ble_eq_true rfl, Nat.le_of_ble_eq_true rfl⟩) hP hS hX [0] rfl rfl rfl rfl rfl rfl hl.1 rfl (Nat.le_of_ble_eq_true rfl) dX11_face_13 ⟨Nat.le_of_ble_eq_true rfl, Nat.le_of_ble_eq_true rfl⟩ (fun H locs hP hS => ?_)
    have hP : PD D A [bl_X11 cy A_b r_b_trays (A_a 0) r_b_war r_b_draftArmy r_b_draftWar r_b_reader r_b_armyReader r_b_warReader r_b_markedArmies r_b_markedWars r_b_latest r_b_trial r_b_foresight r_b_pairs z_10.2 b_fractionTop b_fractionBottom b_marks, bl_X0 cy A_a a_name a_courage a_weight a_medals a_stood a_fled a_liked a_votes a_count a_living a_pride a_quota a_melted a_lost] H := hP
    cases h
    subst hW1
    exact W.iret hx hb hr (fun _ ht9 _ => ⟨⟨_, (), rfl, rfl, hPt ht9 hP.1⟩, hS.F ht9⟩) hS.2.2 dX11_face_16
theorem dX11_give_0 : decode cX11_give 0 = .ok (.aload_n 0, 1) := by decide +kernel
theorem dX11_give_1 : decode cX11_give 1 = .ok (.getfield 29, 3) := by decide +kernel
theorem dX11_give_4 : decode cX11_give 4 = .ok (.iload_n 1, 1) := by decide +kernel
theorem dX11_give_5 : decode cX11_give 5 = .ok (.invokevirtual 248, 3) := by decide +kernel
theorem dX11_give_8 : decode cX11_give 8 = .ok (.ifCond .eq 14, 3) := by decide +kernel
theorem dX11_give_11 : decode cX11_give 11 = .ok (.aload_n 0, 1) := by decide +kernel
theorem dX11_give_12 : decode cX11_give 12 = .ok (.getfield 29, 3) := by decide +kernel
theorem dX11_give_15 : decode cX11_give 15 = .ok (.iload_n 2, 1) := by decide +kernel
theorem dX11_give_16 : decode cX11_give 16 = .ok (.invokevirtual 248, 3) := by decide +kernel
theorem dX11_give_19 : decode cX11_give 19 = .ok (.ifCond .ne 9, 3) := by decide +kernel
theorem dX11_give_22 : decode cX11_give 22 = .ok (.aload_n 0, 1) := by decide +kernel
theorem dX11_give_23 : decode cX11_give 23 = .ok (.iconst 1, 1) := by decide +kernel
theorem dX11_give_24 : decode cX11_give 24 = .ok (.invokevirtual 143, 3) := by decide +kernel
theorem dX11_give_27 : decode cX11_give 27 = .ok (.ireturn, 1) := by decide +kernel
theorem dX11_give_28 : decode cX11_give 28 = .ok (.aload_n 0, 1) := by decide +kernel
theorem dX11_give_29 : decode cX11_give 29 = .ok (.getfield 29, 3) := by decide +kernel
theorem dX11_give_32 : decode cX11_give 32 = .ok (.iload_n 1, 1) := by decide +kernel
theorem dX11_give_33 : decode cX11_give 33 = .ok (.iload_n 2, 1) := by decide +kernel
theorem dX11_give_34 : decode cX11_give 34 = .ok (.invokevirtual 272, 3) := by decide +kernel
theorem dX11_give_37 : decode cX11_give 37 = .ok (.ifCond .ne 10, 3) := by decide +kernel
theorem dX11_give_40 : decode cX11_give 40 = .ok (.aload_n 0, 1) := by decide +kernel
theorem dX11_give_41 : decode cX11_give 41 = .ok (.bipush 7, 2) := by decide +kernel
theorem dX11_give_43 : decode cX11_give 43 = .ok (.invokevirtual 143, 3) := by decide +kernel
theorem dX11_give_46 : decode cX11_give 46 = .ok (.ireturn, 1) := by decide +kernel
theorem dX11_give_47 : decode cX11_give 47 = .ok (.aload_n 0, 1) := by decide +kernel
theorem dX11_give_48 : decode cX11_give 48 = .ok (.aload_n 0, 1) := by decide +kernel
theorem dX11_give_49 : decode cX11_give 49 = .ok (.getfield 29, 3) := by decide +kernel
theorem dX11_give_52 : decode cX11_give 52 = .ok (.getfield 228, 3) := by decide +kernel
theorem dX11_give_55 : decode cX11_give 55 = .ok (.iload_n 2, 1) := by decide +kernel
theorem dX11_give_56 : decode cX11_give 56 = .ok (.iaload, 1) := by decide +kernel
theorem dX11_give_57 : decode cX11_give 57 = .ok (.invokevirtual 193, 3) := by decide +kernel
theorem dX11_give_60 : decode cX11_give 60 = .ok (.ireturn, 1) := by decide +kernel
theorem mv_X11_give : MV yX11_give RX11 cX11_give 3 (some .int) 2 := ⟨tb_830, tb_828, tb_829, tb_1, by decide +kernel, by decide +kernel, by decide +kernel⟩
def f_X11_give (fu : Nat) (b_latestStatus : Int32) (a_medals : Nat → Int32) (a_count : Int32) (a_living : Int32) (x1 : Int32) (x2 : Int32) : Option (Int32 × Int32 × (Nat → Int32)) := (f_X0_isMan fu a_count x1).bind fun z_12 => (if z_12 = 0 then (f_X11_refuse fu b_latestStatus 1).bind fun z_14 => some (z_14.1, z_14.2, a_medals) else (f_X0_isMan fu a_count x2).bind fun z_15 => (if z_15 = 0 then (f_X11_refuse fu b_latestStatus 1).bind fun z_22 => some (z_22.1, z_22.2, a_medals) else (f_X0_handOver fu a_medals a_count a_living x1 x2).bind fun z_17 => (if z_17.1 = 0 then (f_X11_refuse fu b_latestStatus 7).bind fun z_21 => some (z_21.1, z_21.2, z_17.2) else (rdI z_17.2 8 x2).bind fun y_19 => (f_X11_answer fu b_latestStatus y_19).bind fun z_20 => some (z_20.1, z_20.2, z_17.2))))
abbrev rm_X11_give : Room := { frames := 3, cells := 0, slots := 0, locals := 64 }
set_option maxHeartbeats 4000000 in
set_option maxRecDepth 100000 in
theorem c_X11_give (l : Launch) (D : va_G) (cy : Nat → ClassId) (fu : Nat) (A_b : Nat → Nat) (r_b_trays : Nat) (r_b_war : Nat) (r_b_draftArmy : Nat) (r_b_draftWar : Nat) (r_b_reader : Nat) (r_b_armyReader : Nat) (r_b_warReader : Nat) (r_b_markedArmies : Nat) (r_b_markedWars : Nat) (r_b_latest : Nat) (r_b_trial : Nat) (r_b_foresight : Nat) (r_b_pairs : Nat) (b_latestStatus : Int32) (b_fractionTop : Int64) (b_fractionBottom : Int64) (b_marks : Int32) (A_a : Nat → Nat) (a_name : Nat → Int64) (a_courage : Nat → Int32) (a_weight : Nat → Int32) (a_medals : Nat → Int32) (a_stood : Nat → Int32) (a_fled : Nat → Int32) (a_liked : Nat → Int32) (a_votes : Nat → Int32) (a_count : Int32) (a_living : Int32) (a_pride : Int32) (a_quota : Int32) (a_melted : Int32) (a_lost : Int32) (x1 : Int32) (x2 : Int32) (res : Int32 × Int32 × (Nat → Int32)) (h : f_X11_give fu b_latestStatus a_medals a_count a_living x1 x2 = some res) (A : Nat → Prop) (hA : A = adr [bl_X11 cy A_b r_b_trays (A_a 0) r_b_war r_b_draftArmy r_b_draftWar r_b_reader r_b_armyReader r_b_warReader r_b_markedArmies r_b_markedWars r_b_latest r_b_trial r_b_foresight r_b_pairs b_latestStatus b_fractionTop b_fractionBottom b_marks, bl_X0 cy A_a a_name a_courage a_weight a_medals a_stood a_fled a_liked a_votes a_count a_living a_pride a_quota a_melted a_lost]) (W1 : List va_W) (hW1 : W1 = [bl_X11 cy A_b r_b_trays (A_a 0) r_b_war r_b_draftArmy r_b_draftWar r_b_reader r_b_armyReader r_b_warReader r_b_markedArmies r_b_markedWars r_b_latest r_b_trial r_b_foresight r_b_pairs res.2.1 b_fractionTop b_fractionBottom b_marks, bl_X0 cy A_a a_name a_courage a_weight res.2.2 a_stood a_fled a_liked a_votes a_count a_living a_pride a_quota a_melted a_lost]) : Met l yX11_give (WW yX11_give cX11_give 3 (some .int)) rm_X11_give (Ed D cy [.ref (A_b 0), .int x1, .int x2] [bl_X11 cy A_b r_b_trays (A_a 0) r_b_war r_b_draftArmy r_b_draftWar r_b_reader r_b_armyReader r_b_warReader r_b_markedArmies r_b_markedWars r_b_latest r_b_trial r_b_foresight r_b_pairs b_latestStatus b_fractionTop b_fractionBottom b_marks, bl_X0 cy A_a a_name a_courage a_weight a_medals a_stood a_fled a_liked a_votes a_count a_living a_pride a_quota a_melted a_lost]) (Qei D res.1 A W1) 0 0 A := by
  refine Met.ofW (cc := cX11_give) (maxL := 3) (ret := (some .int)) (by decide) rfl ?_
  intro p e s m args below meth c s₁ B hml hv
  obtain ⟨hargs, hP, hX, hD0⟩ := hv
  have hx := B.exec
  have hb := B.bytes
  have hr := B.returns
  have ht : ∀ w ∈ lw_gd, w.before args s = true := fun w hw => atoms_spec (ws := WW yX11_give cX11_give 3 (some .int)) B.pre w (List.mem_cons_of_mem _ hw)
  have hown : s.vm.findClass RX11 = some m.cls := findClass_of_methodNamed B.named
  have hlocks := B.notSynchronized
  have hP : PD D A [bl_X11 cy A_b r_b_trays (A_a 0) r_b_war r_b_draftArmy r_b_draftWar r_b_reader r_b_armyReader r_b_warReader r_b_markedArmies r_b_markedWars r_b_latest r_b_trial r_b_foresight r_b_pairs b_latestStatus b_fractionTop b_fractionBottom b_marks, bl_X0 cy A_a a_name a_courage a_weight a_medals a_stood a_fled a_liked a_votes a_count a_living a_pride a_quota a_melted a_lost] s.heap := ⟨hP, by rw [hA]; exact hD0.own⟩
  have hS : va_S A s.heap s.heap [] := va_S.rf
  obtain ⟨ls, hl, hent⟩ := ent (m := m) (n := 3) hargs (Nat.le_of_ble_eq_true rfl) (lv := [(0, .ref (A_b 0)), (1, .int x1), (2, .int x2)]) rfl
  rw [hent]
  clear hent
  unfold f_X11_give at h
  refine lv_aload_n hx hb dX11_give_0 rfl (lv_at hl 0 rfl) ?_
  refine xget (i := 0) (j := 0) (k := 4) (T := TX11) hx hb ht tb_iX11 hown hX hP.1 rfl rfl rfl (by decide) tb_433 rfl dX11_give_1 ?_
  refine lv_iload_n hx hb dX11_give_4 rfl (lv_at hl 1 rfl) ?_
  obtain ⟨z_12, e_z_12, h⟩ := bi h
  refine roVi (rest := []) ⟨hx, hb, hml, hown, ht⟩ (c_X0_isMan l D cy fu A_a a_name a_courage a_weight a_medals a_stood a_fled a_liked a_votes a_count a_living a_pride a_quota a_melted a_lost x1 z_12 e_z_12) (cV ht mv_X0_isMan tb_774 rfl rfl ⟨Nat.le_of_ble_eq_true rfl, Nat.le_of_ble_eq_true rfl⟩) (P_sub hP.1 [1] rfl) hX rfl rfl rfl hl.1 rfl (Nat.le_of_ble_eq_true rfl) dX11_give_5 ⟨Nat.le_of_ble_eq_true rfl, Nat.le_of_ble_eq_true rfl⟩ ?_
  refine lv_if_eq (tgt := 22) hx hb dX11_give_8 (by decide) (fun c_13 => ?_) (fun c_13 => ?_)
  · have h := it c_13 h
    refine lv_aload_n hx hb dX11_give_22 rfl (lv_at hl 0 rfl) ?_
    refine lv_iconst (v := 1) hx hb dX11_give_23 (by decide) ?_
    obtain ⟨z_14, e_z_14, h⟩ := bi h
    refine efVi (rest := []) ⟨hx, hb, hml, hown, ht⟩ (c_X11_refuse l D cy fu A_b r_b_trays (A_a 0) r_b_war r_b_draftArmy r_b_draftWar r_b_reader r_b_armyReader r_b_warReader r_b_markedArmies r_b_markedWars r_b_latest r_b_trial r_b_foresight r_b_pairs b_latestStatus b_fractionTop b_fractionBottom b_marks 1 z_14 e_z_14 _ rfl _ rfl) (cV ht mv_X11_refuse tb_543 rfl rfl ⟨Nat.le_of_ble_eq_true rfl, Nat.le_of_ble_eq_true rfl⟩) hP hS hX [0] rfl rfl rfl rfl rfl rfl hl.1 rfl (Nat.le_of_ble_eq_true rfl) dX11_give_24 ⟨Nat.le_of_ble_eq_true rfl, Nat.le_of_ble_eq_true rfl⟩ (fun H locs hP hS => ?_)
    have hP : PD D A [bl_X11 cy A_b r_b_trays (A_a 0) r_b_war r_b_draftArmy r_b_draftWar r_b_reader r_b_armyReader r_b_warReader r_b_markedArmies r_b_markedWars r_b_latest r_b_trial r_b_foresight r_b_pairs z_14.2 b_fractionTop b_fractionBottom b_marks, bl_X0 cy A_a a_name a_courage a_weight a_medals a_stood a_fled a_liked a_votes a_count a_living a_pride a_quota a_melted a_lost] H := hP
    cases h
    subst hW1
    exact W.iret hx hb hr (fun _ ht9 _ => ⟨⟨_, (), rfl, rfl, hPt ht9 hP.1⟩, hS.F ht9⟩) hS.2.2 dX11_give_27
  · have h := ie c_13 h
    refine lv_aload_n hx hb dX11_give_11 rfl (lv_at hl 0 rfl) ?_
    refine xget (i := 0) (j := 0) (k := 4) (T := TX11) hx hb ht tb_iX11 hown hX hP.1 rfl rfl rfl (by decide) tb_433 rfl dX11_give_12 ?_
    refine lv_iload_n hx hb dX11_give_15 rfl (lv_at hl 2 rfl) ?_
    obtain ⟨z_15, e_z_15, h⟩ := bi h
    refine roVi (rest := []) ⟨hx, hb, hml, hown, ht⟩ (c_X0_isMan l D cy fu A_a a_name a_courage a_weight a_medals a_stood a_fled a_liked a_votes a_count a_living a_pride a_quota a_melted a_lost x2 z_15 e_z_15) (cV ht mv_X0_isMan tb_774 rfl rfl ⟨Nat.le_of_ble_eq_true rfl, Nat.le_of_ble_eq_true rfl⟩) (P_sub hP.1 [1] rfl) hX rfl rfl rfl hl.1 rfl (Nat.le_of_ble_eq_true rfl) dX11_give_16 ⟨Nat.le_of_ble_eq_true rfl, Nat.le_of_ble_eq_true rfl⟩ ?_
    refine lv_if_ne (tgt := 28) hx hb dX11_give_19 (by decide) (fun c_16 => ?_) (fun c_16 => ?_)
    · have h := ie c_16 h
      refine lv_aload_n hx hb dX11_give_28 rfl (lv_at hl 0 rfl) ?_
      refine xget (i := 0) (j := 0) (k := 4) (T := TX11) hx hb ht tb_iX11 hown hX hP.1 rfl rfl rfl (by decide) tb_433 rfl dX11_give_29 ?_
      refine lv_iload_n hx hb dX11_give_32 rfl (lv_at hl 1 rfl) ?_
      refine lv_iload_n hx hb dX11_give_33 rfl (lv_at hl 2 rfl) ?_
      obtain ⟨z_17, e_z_17, h⟩ := bi h
      refine efVi (rest := []) ⟨hx, hb, hml, hown, ht⟩ (c_X0_handOver l D cy fu A_a a_name a_courage a_weight a_medals a_stood a_fled a_liked a_votes a_count a_living a_pride a_quota a_melted a_lost x1 x2 z_17 e_z_17 _ rfl _ rfl) (cV ht mv_X0_handOver tb_831 rfl rfl ⟨Nat.le_of_ble_eq_true rfl, Nat.le_of_ble_eq_true rfl⟩) hP hS hX [1] rfl rfl rfl rfl rfl rfl hl.1 rfl (Nat.le_of_ble_eq_true rfl) dX11_give_34 ⟨Nat.le_of_ble_eq_true rfl, Nat.le_of_ble_eq_true rfl⟩ (fun H locs hP hS => ?_)
      have hP : PD D A [bl_X11 cy A_b r_b_trays (A_a 0) r_b_war r_b_draftArmy r_b_draftWar r_b_reader r_b_armyReader r_b_warReader r_b_markedArmies r_b_markedWars r_b_latest r_b_trial r_b_foresight r_b_pairs b_latestStatus b_fractionTop b_fractionBottom b_marks, bl_X0 cy A_a a_name a_courage a_weight z_17.2 a_stood a_fled a_liked a_votes a_count a_living a_pride a_quota a_melted a_lost] H := hP
      refine lv_if_ne (tgt := 47) hx hb dX11_give_37 (by decide) (fun c_18 => ?_) (fun c_18 => ?_)
      · have h := ie c_18 h
        refine lv_aload_n hx hb dX11_give_47 rfl (lv_at hl 0 rfl) ?_
        refine lv_aload_n hx hb dX11_give_48 rfl (lv_at hl 0 rfl) ?_
        refine xget (i := 0) (j := 0) (k := 4) (T := TX11) hx hb ht tb_iX11 hown hX hP.1 rfl rfl rfl (by decide) tb_433 rfl dX11_give_49 ?_
        refine xget (i := 1) (j := 0) (k := 3) (T := TX0) hx hb ht tb_iX0 hown hX hP.1 rfl rfl rfl (by decide) tb_47 rfl dX11_give_52 ?_
        refine lv_iload_n hx hb dX11_give_55 rfl (lv_at hl 2 rfl) ?_
        obtain ⟨y_19, e_y_19, h⟩ := bi h
        refine xiald (i0 := 1) (j0 := 4) hx hb hX hP.1 rfl rfl e_y_19 dX11_give_56 ?_
        obtain ⟨z_20, e_z_20, h⟩ := bi h
        refine efVi (rest := []) ⟨hx, hb, hml, hown, ht⟩ (c_X11_answer l D cy fu A_b r_b_trays (A_a 0) r_b_war r_b_draftArmy r_b_draftWar r_b_reader r_b_armyReader r_b_warReader r_b_markedArmies r_b_markedWars r_b_latest r_b_trial r_b_foresight r_b_pairs b_latestStatus b_fractionTop b_fractionBottom b_marks y_19 z_20 e_z_20 _ rfl _ rfl) (cV ht mv_X11_answer tb_696 rfl rfl ⟨Nat.le_of_ble_eq_true rfl, Nat.le_of_ble_eq_true rfl⟩) hP hS hX [0] rfl rfl rfl rfl rfl rfl hl.1 rfl (Nat.le_of_ble_eq_true rfl) dX11_give_57 ⟨Nat.le_of_ble_eq_true rfl, Nat.le_of_ble_eq_true rfl⟩ (fun H locs hP hS => ?_)
        have hP : PD D A [bl_X11 cy A_b r_b_trays (A_a 0) r_b_war r_b_draftArmy r_b_draftWar r_b_reader r_b_armyReader r_b_warReader r_b_markedArmies r_b_markedWars r_b_latest r_b_trial r_b_foresight r_b_pairs z_20.2 b_fractionTop b_fractionBottom b_marks, bl_X0 cy A_a a_name a_courage a_weight z_17.2 a_stood a_fled a_liked a_votes a_count a_living a_pride a_quota a_melted a_lost] H := hP
        cases h
        subst hW1
        exact W.iret hx hb hr (fun _ ht9 _ => ⟨⟨_, (), rfl, rfl, hPt ht9 hP.1⟩, hS.F ht9⟩) hS.2.2 dX11_give_60
      · have h := it c_18 h
        refine lv_aload_n hx hb dX11_give_40 rfl (lv_at hl 0 rfl) ?_
        refine lv_bipush (v := 7) hx hb dX11_give_41 (by decide) ?_
        obtain ⟨z_21, e_z_21, h⟩ := bi h
        refine efVi (rest := []) ⟨hx, hb, hml, hown, ht⟩ (c_X11_refuse l D cy fu A_b r_b_trays (A_a 0) r_b_war r_b_draftArmy r_b_draftWar r_b_reader r_b_armyReader r_b_warReader r_b_markedArmies r_b_markedWars r_b_latest r_b_trial r_b_foresight r_b_pairs b_latestStatus b_fractionTop b_fractionBottom b_marks 7 z_21 e_z_21 _ rfl _ rfl) (cV ht mv_X11_refuse tb_543 rfl rfl ⟨Nat.le_of_ble_eq_true rfl, Nat.le_of_ble_eq_true rfl⟩) hP hS hX [0] rfl rfl rfl rfl rfl rfl hl.1 rfl (Nat.le_of_ble_eq_true rfl) dX11_give_43 ⟨Nat.le_of_ble_eq_true rfl, Nat.le_of_ble_eq_true rfl⟩ (fun H locs hP hS => ?_)
        have hP : PD D A [bl_X11 cy A_b r_b_trays (A_a 0) r_b_war r_b_draftArmy r_b_draftWar r_b_reader r_b_armyReader r_b_warReader r_b_markedArmies r_b_markedWars r_b_latest r_b_trial r_b_foresight r_b_pairs z_21.2 b_fractionTop b_fractionBottom b_marks, bl_X0 cy A_a a_name a_courage a_weight z_17.2 a_stood a_fled a_liked a_votes a_count a_living a_pride a_quota a_melted a_lost] H := hP
        cases h
        subst hW1
        exact W.iret hx hb hr (fun _ ht9 _ => ⟨⟨_, (), rfl, rfl, hPt ht9 hP.1⟩, hS.F ht9⟩) hS.2.2 dX11_give_46
    · have h := it c_16 h
      refine lv_aload_n hx hb dX11_give_22 rfl (lv_at hl 0 rfl) ?_
      refine lv_iconst (v := 1) hx hb dX11_give_23 (by decide) ?_
      obtain ⟨z_22, e_z_22, h⟩ := bi h
      refine efVi (rest := []) ⟨hx, hb, hml, hown, ht⟩ (c_X11_refuse l D cy fu A_b r_b_trays (A_a 0) r_b_war r_b_draftArmy r_b_draftWar r_b_reader r_b_armyReader r_b_warReader r_b_markedArmies r_b_markedWars r_b_latest r_b_trial r_b_foresight r_b_pairs b_latestStatus b_fractionTop b_fractionBottom b_marks 1 z_22 e_z_22 _ rfl _ rfl) (cV ht mv_X11_refuse tb_543 rfl rfl ⟨Nat.le_of_ble_eq_true rfl, Nat.le_of_ble_eq_true rfl⟩) hP hS hX [0] rfl rfl rfl rfl rfl rfl hl.1 rfl (Nat.le_of_ble_eq_true rfl) dX11_give_24 ⟨Nat.le_of_ble_eq_true rfl, Nat.le_of_ble_eq_true rfl⟩ (fun H locs hP hS => ?_)
      have hP : PD D A [bl_X11 cy A_b r_b_trays (A_a 0) r_b_war r_b_draftArmy r_b_draftWar r_b_reader r_b_armyReader r_b_warReader r_b_markedArmies r_b_markedWars r_b_latest r_b_trial r_b_foresight r_b_pairs z_22.2 b_fractionTop b_fractionBottom b_marks, bl_X0 cy A_a a_name a_courage a_weight a_medals a_stood a_fled a_liked a_votes a_count a_living a_pride a_quota a_melted a_lost] H := hP
      cases h
      subst hW1
      exact W.iret hx hb hr (fun _ ht9 _ => ⟨⟨_, (), rfl, rfl, hPt ht9 hP.1⟩, hS.F ht9⟩) hS.2.2 dX11_give_27
theorem dX11_lose_0 : decode cX11_lose 0 = .ok (.aload_n 0, 1) := by decide +kernel
theorem dX11_lose_1 : decode cX11_lose 1 = .ok (.getfield 29, 3) := by decide +kernel
theorem dX11_lose_4 : decode cX11_lose 4 = .ok (.iload_n 1, 1) := by decide +kernel
theorem dX11_lose_5 : decode cX11_lose 5 = .ok (.invokevirtual 248, 3) := by decide +kernel
theorem dX11_lose_8 : decode cX11_lose 8 = .ok (.ifCond .ne 9, 3) := by decide +kernel
theorem dX11_lose_11 : decode cX11_lose 11 = .ok (.aload_n 0, 1) := by decide +kernel
theorem dX11_lose_12 : decode cX11_lose 12 = .ok (.iconst 1, 1) := by decide +kernel
theorem dX11_lose_13 : decode cX11_lose 13 = .ok (.invokevirtual 143, 3) := by decide +kernel
theorem dX11_lose_16 : decode cX11_lose 16 = .ok (.ireturn, 1) := by decide +kernel
theorem dX11_lose_17 : decode cX11_lose 17 = .ok (.aload_n 0, 1) := by decide +kernel
theorem dX11_lose_18 : decode cX11_lose 18 = .ok (.getfield 29, 3) := by decide +kernel
theorem dX11_lose_21 : decode cX11_lose 21 = .ok (.iload_n 1, 1) := by decide +kernel
theorem dX11_lose_22 : decode cX11_lose 22 = .ok (.invokevirtual 275, 3) := by decide +kernel
theorem dX11_lose_25 : decode cX11_lose 25 = .ok (.ifCond .ne 10, 3) := by decide +kernel
theorem dX11_lose_28 : decode cX11_lose 28 = .ok (.aload_n 0, 1) := by decide +kernel
theorem dX11_lose_29 : decode cX11_lose 29 = .ok (.bipush 7, 2) := by decide +kernel
theorem dX11_lose_31 : decode cX11_lose 31 = .ok (.invokevirtual 143, 3) := by decide +kernel
theorem dX11_lose_34 : decode cX11_lose 34 = .ok (.ireturn, 1) := by decide +kernel
theorem dX11_lose_35 : decode cX11_lose 35 = .ok (.aload_n 0, 1) := by decide +kernel
theorem dX11_lose_36 : decode cX11_lose 36 = .ok (.aload_n 0, 1) := by decide +kernel
theorem dX11_lose_37 : decode cX11_lose 37 = .ok (.getfield 29, 3) := by decide +kernel
theorem dX11_lose_40 : decode cX11_lose 40 = .ok (.getfield 228, 3) := by decide +kernel
theorem dX11_lose_43 : decode cX11_lose 43 = .ok (.iload_n 1, 1) := by decide +kernel
theorem dX11_lose_44 : decode cX11_lose 44 = .ok (.iaload, 1) := by decide +kernel
theorem dX11_lose_45 : decode cX11_lose 45 = .ok (.invokevirtual 193, 3) := by decide +kernel
theorem dX11_lose_48 : decode cX11_lose 48 = .ok (.ireturn, 1) := by decide +kernel
theorem mv_X11_lose : MV yX11_lose RX11 cX11_lose 2 (some .int) 1 := ⟨tb_839, tb_837, tb_838, tb_1, by decide +kernel, by decide +kernel, by decide +kernel⟩
def f_X11_lose (fu : Nat) (b_latestStatus : Int32) (a_medals : Nat → Int32) (a_count : Int32) (a_lost : Int32) (x1 : Int32) : Option (Int32 × Int32 × (Nat → Int32) × Int32) := (f_X0_isMan fu a_count x1).bind fun z_9 => (if z_9 = 0 then (f_X11_refuse fu b_latestStatus 1).bind fun z_16 => some (z_16.1, z_16.2, a_medals, a_lost) else (f_X0_loseOne fu a_medals a_count a_lost x1).bind fun z_11 => (if z_11.1 = 0 then (f_X11_refuse fu b_latestStatus 7).bind fun z_15 => some (z_15.1, z_15.2, z_11.2.1, z_11.2.2) else (rdI z_11.2.1 8 x1).bind fun y_13 => (f_X11_answer fu b_latestStatus y_13).bind fun z_14 => some (z_14.1, z_14.2, z_11.2.1, z_11.2.2)))
abbrev rm_X11_lose : Room := { frames := 2, cells := 0, slots := 0, locals := 42 }
set_option maxHeartbeats 4000000 in
set_option maxRecDepth 100000 in
theorem c_X11_lose (l : Launch) (D : va_G) (cy : Nat → ClassId) (fu : Nat) (A_b : Nat → Nat) (r_b_trays : Nat) (r_b_war : Nat) (r_b_draftArmy : Nat) (r_b_draftWar : Nat) (r_b_reader : Nat) (r_b_armyReader : Nat) (r_b_warReader : Nat) (r_b_markedArmies : Nat) (r_b_markedWars : Nat) (r_b_latest : Nat) (r_b_trial : Nat) (r_b_foresight : Nat) (r_b_pairs : Nat) (b_latestStatus : Int32) (b_fractionTop : Int64) (b_fractionBottom : Int64) (b_marks : Int32) (A_a : Nat → Nat) (a_name : Nat → Int64) (a_courage : Nat → Int32) (a_weight : Nat → Int32) (a_medals : Nat → Int32) (a_stood : Nat → Int32) (a_fled : Nat → Int32) (a_liked : Nat → Int32) (a_votes : Nat → Int32) (a_count : Int32) (a_living : Int32) (a_pride : Int32) (a_quota : Int32) (a_melted : Int32) (a_lost : Int32) (x1 : Int32) (res : Int32 × Int32 × (Nat → Int32) × Int32) (h : f_X11_lose fu b_latestStatus a_medals a_count a_lost x1 = some res) (A : Nat → Prop) (hA : A = adr [bl_X11 cy A_b r_b_trays (A_a 0) r_b_war r_b_draftArmy r_b_draftWar r_b_reader r_b_armyReader r_b_warReader r_b_markedArmies r_b_markedWars r_b_latest r_b_trial r_b_foresight r_b_pairs b_latestStatus b_fractionTop b_fractionBottom b_marks, bl_X0 cy A_a a_name a_courage a_weight a_medals a_stood a_fled a_liked a_votes a_count a_living a_pride a_quota a_melted a_lost]) (W1 : List va_W) (hW1 : W1 = [bl_X11 cy A_b r_b_trays (A_a 0) r_b_war r_b_draftArmy r_b_draftWar r_b_reader r_b_armyReader r_b_warReader r_b_markedArmies r_b_markedWars r_b_latest r_b_trial r_b_foresight r_b_pairs res.2.1 b_fractionTop b_fractionBottom b_marks, bl_X0 cy A_a a_name a_courage a_weight res.2.2.1 a_stood a_fled a_liked a_votes a_count a_living a_pride a_quota a_melted res.2.2.2]) : Met l yX11_lose (WW yX11_lose cX11_lose 2 (some .int)) rm_X11_lose (Ed D cy [.ref (A_b 0), .int x1] [bl_X11 cy A_b r_b_trays (A_a 0) r_b_war r_b_draftArmy r_b_draftWar r_b_reader r_b_armyReader r_b_warReader r_b_markedArmies r_b_markedWars r_b_latest r_b_trial r_b_foresight r_b_pairs b_latestStatus b_fractionTop b_fractionBottom b_marks, bl_X0 cy A_a a_name a_courage a_weight a_medals a_stood a_fled a_liked a_votes a_count a_living a_pride a_quota a_melted a_lost]) (Qei D res.1 A W1) 0 0 A := by
  refine Met.ofW (cc := cX11_lose) (maxL := 2) (ret := (some .int)) (by decide) rfl ?_
  intro p e s m args below meth c s₁ B hml hv
  obtain ⟨hargs, hP, hX, hD0⟩ := hv
  have hx := B.exec
  have hb := B.bytes
  have hr := B.returns
  have ht : ∀ w ∈ lw_gd, w.before args s = true := fun w hw => atoms_spec (ws := WW yX11_lose cX11_lose 2 (some .int)) B.pre w (List.mem_cons_of_mem _ hw)
  have hown : s.vm.findClass RX11 = some m.cls := findClass_of_methodNamed B.named
  have hlocks := B.notSynchronized
  have hP : PD D A [bl_X11 cy A_b r_b_trays (A_a 0) r_b_war r_b_draftArmy r_b_draftWar r_b_reader r_b_armyReader r_b_warReader r_b_markedArmies r_b_markedWars r_b_latest r_b_trial r_b_foresight r_b_pairs b_latestStatus b_fractionTop b_fractionBottom b_marks, bl_X0 cy A_a a_name a_courage a_weight a_medals a_stood a_fled a_liked a_votes a_count a_living a_pride a_quota a_melted a_lost] s.heap := ⟨hP, by rw [hA]; exact hD0.own⟩
  have hS : va_S A s.heap s.heap [] := va_S.rf
  obtain ⟨ls, hl, hent⟩ := ent (m := m) (n := 2) hargs (Nat.le_of_ble_eq_true rfl) (lv := [(0, .ref (A_b 0)), (1, .int x1)]) rfl
  rw [hent]
  clear hent
  unfold f_X11_lose at h
  refine lv_aload_n hx hb dX11_lose_0 rfl (lv_at hl 0 rfl) ?_
  refine xget (i := 0) (j := 0) (k := 4) (T := TX11) hx hb ht tb_iX11 hown hX hP.1 rfl rfl rfl (by decide) tb_433 rfl dX11_lose_1 ?_
  refine lv_iload_n hx hb dX11_lose_4 rfl (lv_at hl 1 rfl) ?_
  obtain ⟨z_9, e_z_9, h⟩ := bi h
  refine roVi (rest := []) ⟨hx, hb, hml, hown, ht⟩ (c_X0_isMan l D cy fu A_a a_name a_courage a_weight a_medals a_stood a_fled a_liked a_votes a_count a_living a_pride a_quota a_melted a_lost x1 z_9 e_z_9) (cV ht mv_X0_isMan tb_774 rfl rfl ⟨Nat.le_of_ble_eq_true rfl, Nat.le_of_ble_eq_true rfl⟩) (P_sub hP.1 [1] rfl) hX rfl rfl rfl hl.1 rfl (Nat.le_of_ble_eq_true rfl) dX11_lose_5 ⟨Nat.le_of_ble_eq_true rfl, Nat.le_of_ble_eq_true rfl⟩ ?_
  refine lv_if_ne (tgt := 17) hx hb dX11_lose_8 (by decide) (fun c_10 => ?_) (fun c_10 => ?_)
  · have h := ie c_10 h
    refine lv_aload_n hx hb dX11_lose_17 rfl (lv_at hl 0 rfl) ?_
    refine xget (i := 0) (j := 0) (k := 4) (T := TX11) hx hb ht tb_iX11 hown hX hP.1 rfl rfl rfl (by decide) tb_433 rfl dX11_lose_18 ?_
    refine lv_iload_n hx hb dX11_lose_21 rfl (lv_at hl 1 rfl) ?_
    obtain ⟨z_11, e_z_11, h⟩ := bi h
    refine efVi (rest := []) ⟨hx, hb, hml, hown, ht⟩ (c_X0_loseOne l D cy fu A_a a_name a_courage a_weight a_medals a_stood a_fled a_liked a_votes a_count a_living a_pride a_quota a_melted a_lost x1 z_11 e_z_11 _ rfl _ rfl) (cV ht mv_X0_loseOne tb_840 rfl rfl ⟨Nat.le_of_ble_eq_true rfl, Nat.le_of_ble_eq_true rfl⟩) hP hS hX [1] rfl rfl rfl rfl rfl rfl hl.1 rfl (Nat.le_of_ble_eq_true rfl) dX11_lose_22 ⟨Nat.le_of_ble_eq_true rfl, Nat.le_of_ble_eq_true rfl⟩ (fun H locs hP hS => ?_)
    have hP : PD D A [bl_X11 cy A_b r_b_trays (A_a 0) r_b_war r_b_draftArmy r_b_draftWar r_b_reader r_b_armyReader r_b_warReader r_b_markedArmies r_b_markedWars r_b_latest r_b_trial r_b_foresight r_b_pairs b_latestStatus b_fractionTop b_fractionBottom b_marks, bl_X0 cy A_a a_name a_courage a_weight z_11.2.1 a_stood a_fled a_liked a_votes a_count a_living a_pride a_quota a_melted z_11.2.2] H := hP
    refine lv_if_ne (tgt := 35) hx hb dX11_lose_25 (by decide) (fun c_12 => ?_) (fun c_12 => ?_)
    · have h := ie c_12 h
      refine lv_aload_n hx hb dX11_lose_35 rfl (lv_at hl 0 rfl) ?_
      refine lv_aload_n hx hb dX11_lose_36 rfl (lv_at hl 0 rfl) ?_
      refine xget (i := 0) (j := 0) (k := 4) (T := TX11) hx hb ht tb_iX11 hown hX hP.1 rfl rfl rfl (by decide) tb_433 rfl dX11_lose_37 ?_
      refine xget (i := 1) (j := 0) (k := 3) (T := TX0) hx hb ht tb_iX0 hown hX hP.1 rfl rfl rfl (by decide) tb_47 rfl dX11_lose_40 ?_
      refine lv_iload_n hx hb dX11_lose_43 rfl (lv_at hl 1 rfl) ?_
      obtain ⟨y_13, e_y_13, h⟩ := bi h
      refine xiald (i0 := 1) (j0 := 4) hx hb hX hP.1 rfl rfl e_y_13 dX11_lose_44 ?_
      obtain ⟨z_14, e_z_14, h⟩ := bi h
      refine efVi (rest := []) ⟨hx, hb, hml, hown, ht⟩ (c_X11_answer l D cy fu A_b r_b_trays (A_a 0) r_b_war r_b_draftArmy r_b_draftWar r_b_reader r_b_armyReader r_b_warReader r_b_markedArmies r_b_markedWars r_b_latest r_b_trial r_b_foresight r_b_pairs b_latestStatus b_fractionTop b_fractionBottom b_marks y_13 z_14 e_z_14 _ rfl _ rfl) (cV ht mv_X11_answer tb_696 rfl rfl ⟨Nat.le_of_ble_eq_true rfl, Nat.le_of_ble_eq_true rfl⟩) hP hS hX [0] rfl rfl rfl rfl rfl rfl hl.1 rfl (Nat.le_of_ble_eq_true rfl) dX11_lose_45 ⟨Nat.le_of_ble_eq_true rfl, Nat.le_of_ble_eq_true rfl⟩ (fun H locs hP hS => ?_)
      have hP : PD D A [bl_X11 cy A_b r_b_trays (A_a 0) r_b_war r_b_draftArmy r_b_draftWar r_b_reader r_b_armyReader r_b_warReader r_b_markedArmies r_b_markedWars r_b_latest r_b_trial r_b_foresight r_b_pairs z_14.2 b_fractionTop b_fractionBottom b_marks, bl_X0 cy A_a a_name a_courage a_weight z_11.2.1 a_stood a_fled a_liked a_votes a_count a_living a_pride a_quota a_melted z_11.2.2] H := hP
      cases h
      subst hW1
      exact W.iret hx hb hr (fun _ ht9 _ => ⟨⟨_, (), rfl, rfl, hPt ht9 hP.1⟩, hS.F ht9⟩) hS.2.2 dX11_lose_48
    · have h := it c_12 h
      refine lv_aload_n hx hb dX11_lose_28 rfl (lv_at hl 0 rfl) ?_
      refine lv_bipush (v := 7) hx hb dX11_lose_29 (by decide) ?_
      obtain ⟨z_15, e_z_15, h⟩ := bi h
      refine efVi (rest := []) ⟨hx, hb, hml, hown, ht⟩ (c_X11_refuse l D cy fu A_b r_b_trays (A_a 0) r_b_war r_b_draftArmy r_b_draftWar r_b_reader r_b_armyReader r_b_warReader r_b_markedArmies r_b_markedWars r_b_latest r_b_trial r_b_foresight r_b_pairs b_latestStatus b_fractionTop b_fractionBottom b_marks 7 z_15 e_z_15 _ rfl _ rfl) (cV ht mv_X11_refuse tb_543 rfl rfl ⟨Nat.le_of_ble_eq_true rfl, Nat.le_of_ble_eq_true rfl⟩) hP hS hX [0] rfl rfl rfl rfl rfl rfl hl.1 rfl (Nat.le_of_ble_eq_true rfl) dX11_lose_31 ⟨Nat.le_of_ble_eq_true rfl, Nat.le_of_ble_eq_true rfl⟩ (fun H locs hP hS => ?_)
      have hP : PD D A [bl_X11 cy A_b r_b_trays (A_a 0) r_b_war r_b_draftArmy r_b_draftWar r_b_reader r_b_armyReader r_b_warReader r_b_markedArmies r_b_markedWars r_b_latest r_b_trial r_b_foresight r_b_pairs z_15.2 b_fractionTop b_fractionBottom b_marks, bl_X0 cy A_a a_name a_courage a_weight z_11.2.1 a_stood a_fled a_liked a_votes a_count a_living a_pride a_quota a_melted z_11.2.2] H := hP
      cases h
      subst hW1
      exact W.iret hx hb hr (fun _ ht9 _ => ⟨⟨_, (), rfl, rfl, hPt ht9 hP.1⟩, hS.F ht9⟩) hS.2.2 dX11_lose_34
  · have h := it c_10 h
    refine lv_aload_n hx hb dX11_lose_11 rfl (lv_at hl 0 rfl) ?_
    refine lv_iconst (v := 1) hx hb dX11_lose_12 (by decide) ?_
    obtain ⟨z_16, e_z_16, h⟩ := bi h
    refine efVi (rest := []) ⟨hx, hb, hml, hown, ht⟩ (c_X11_refuse l D cy fu A_b r_b_trays (A_a 0) r_b_war r_b_draftArmy r_b_draftWar r_b_reader r_b_armyReader r_b_warReader r_b_markedArmies r_b_markedWars r_b_latest r_b_trial r_b_foresight r_b_pairs b_latestStatus b_fractionTop b_fractionBottom b_marks 1 z_16 e_z_16 _ rfl _ rfl) (cV ht mv_X11_refuse tb_543 rfl rfl ⟨Nat.le_of_ble_eq_true rfl, Nat.le_of_ble_eq_true rfl⟩) hP hS hX [0] rfl rfl rfl rfl rfl rfl hl.1 rfl (Nat.le_of_ble_eq_true rfl) dX11_lose_13 ⟨Nat.le_of_ble_eq_true rfl, Nat.le_of_ble_eq_true rfl⟩ (fun H locs hP hS => ?_)
    have hP : PD D A [bl_X11 cy A_b r_b_trays (A_a 0) r_b_war r_b_draftArmy r_b_draftWar r_b_reader r_b_armyReader r_b_warReader r_b_markedArmies r_b_markedWars r_b_latest r_b_trial r_b_foresight r_b_pairs z_16.2 b_fractionTop b_fractionBottom b_marks, bl_X0 cy A_a a_name a_courage a_weight a_medals a_stood a_fled a_liked a_votes a_count a_living a_pride a_quota a_melted a_lost] H := hP
    cases h
    subst hW1
    exact W.iret hx hb hr (fun _ ht9 _ => ⟨⟨_, (), rfl, rfl, hPt ht9 hP.1⟩, hS.F ht9⟩) hS.2.2 dX11_lose_16
theorem dX11_fall_0 : decode cX11_fall 0 = .ok (.aload_n 0, 1) := by decide +kernel
theorem dX11_fall_1 : decode cX11_fall 1 = .ok (.getfield 29, 3) := by decide +kernel
theorem dX11_fall_4 : decode cX11_fall 4 = .ok (.iload_n 1, 1) := by decide +kernel
theorem dX11_fall_5 : decode cX11_fall 5 = .ok (.invokevirtual 248, 3) := by decide +kernel
theorem dX11_fall_8 : decode cX11_fall 8 = .ok (.ifCond .ne 9, 3) := by decide +kernel
theorem dX11_fall_11 : decode cX11_fall 11 = .ok (.aload_n 0, 1) := by decide +kernel
theorem dX11_fall_12 : decode cX11_fall 12 = .ok (.iconst 1, 1) := by decide +kernel
theorem dX11_fall_13 : decode cX11_fall 13 = .ok (.invokevirtual 143, 3) := by decide +kernel
theorem dX11_fall_16 : decode cX11_fall 16 = .ok (.ireturn, 1) := by decide +kernel
theorem dX11_fall_17 : decode cX11_fall 17 = .ok (.aload_n 0, 1) := by decide +kernel
theorem dX11_fall_18 : decode cX11_fall 18 = .ok (.getfield 29, 3) := by decide +kernel
theorem dX11_fall_21 : decode cX11_fall 21 = .ok (.iload_n 1, 1) := by decide +kernel
theorem dX11_fall_22 : decode cX11_fall 22 = .ok (.invokevirtual 278, 3) := by decide +kernel
theorem dX11_fall_25 : decode cX11_fall 25 = .ok (.ifCond .ne 10, 3) := by decide +kernel
theorem dX11_fall_28 : decode cX11_fall 28 = .ok (.aload_n 0, 1) := by decide +kernel
theorem dX11_fall_29 : decode cX11_fall 29 = .ok (.bipush 7, 2) := by decide +kernel
theorem dX11_fall_31 : decode cX11_fall 31 = .ok (.invokevirtual 143, 3) := by decide +kernel
theorem dX11_fall_34 : decode cX11_fall 34 = .ok (.ireturn, 1) := by decide +kernel
theorem dX11_fall_35 : decode cX11_fall 35 = .ok (.aload_n 0, 1) := by decide +kernel
theorem dX11_fall_36 : decode cX11_fall 36 = .ok (.aload_n 0, 1) := by decide +kernel
theorem dX11_fall_37 : decode cX11_fall 37 = .ok (.getfield 29, 3) := by decide +kernel
theorem dX11_fall_40 : decode cX11_fall 40 = .ok (.getfield 221, 3) := by decide +kernel
theorem dX11_fall_43 : decode cX11_fall 43 = .ok (.invokestatic 281, 3) := by decide +kernel
theorem dX11_fall_46 : decode cX11_fall 46 = .ok (.invokevirtual 193, 3) := by decide +kernel
theorem dX11_fall_49 : decode cX11_fall 49 = .ok (.ireturn, 1) := by decide +kernel
theorem mv_X11_fall : MV yX11_fall RX11 cX11_fall 2 (some .int) 1 := ⟨tb_847, tb_845, tb_846, tb_1, by decide +kernel, by decide +kernel, by decide +kernel⟩
def f_X11_fall (fu : Nat) (b_latestStatus : Int32) (a_count : Int32) (a_living : Int32) (x1 : Int32) : Option (Int32 × Int32 × Int32) := (f_X0_isMan fu a_count x1).bind fun z_9 => (if z_9 = 0 then (f_X11_refuse fu b_latestStatus 1).bind fun z_16 => some (z_16.1, z_16.2, a_living) else (f_X0_strike fu a_count a_living x1).bind fun z_11 => (if z_11.1 = 0 then (f_X11_refuse fu b_latestStatus 7).bind fun z_15 => some (z_15.1, z_15.2, z_11.2) else (f_J6_bitCount_0f7a4 fu z_11.2).bind fun z_13 => (f_X11_answer fu b_latestStatus z_13).bind fun z_14 => some (z_14.1, z_14.2, z_11.2)))
abbrev rm_X11_fall : Room := { frames := 3, cells := 0, slots := 0, locals := 63 }
set_option maxHeartbeats 4000000 in
set_option maxRecDepth 100000 in
theorem c_X11_fall (l : Launch) (D : va_G) (cy : Nat → ClassId) (fu : Nat) (A_b : Nat → Nat) (r_b_trays : Nat) (r_b_war : Nat) (r_b_draftArmy : Nat) (r_b_draftWar : Nat) (r_b_reader : Nat) (r_b_armyReader : Nat) (r_b_warReader : Nat) (r_b_markedArmies : Nat) (r_b_markedWars : Nat) (r_b_latest : Nat) (r_b_trial : Nat) (r_b_foresight : Nat) (r_b_pairs : Nat) (b_latestStatus : Int32) (b_fractionTop : Int64) (b_fractionBottom : Int64) (b_marks : Int32) (A_a : Nat → Nat) (a_name : Nat → Int64) (a_courage : Nat → Int32) (a_weight : Nat → Int32) (a_medals : Nat → Int32) (a_stood : Nat → Int32) (a_fled : Nat → Int32) (a_liked : Nat → Int32) (a_votes : Nat → Int32) (a_count : Int32) (a_living : Int32) (a_pride : Int32) (a_quota : Int32) (a_melted : Int32) (a_lost : Int32) (x1 : Int32) (res : Int32 × Int32 × Int32) (h : f_X11_fall fu b_latestStatus a_count a_living x1 = some res) (A : Nat → Prop) (hA : A = adr [bl_X11 cy A_b r_b_trays (A_a 0) r_b_war r_b_draftArmy r_b_draftWar r_b_reader r_b_armyReader r_b_warReader r_b_markedArmies r_b_markedWars r_b_latest r_b_trial r_b_foresight r_b_pairs b_latestStatus b_fractionTop b_fractionBottom b_marks, bl_X0 cy A_a a_name a_courage a_weight a_medals a_stood a_fled a_liked a_votes a_count a_living a_pride a_quota a_melted a_lost]) (W1 : List va_W) (hW1 : W1 = [bl_X11 cy A_b r_b_trays (A_a 0) r_b_war r_b_draftArmy r_b_draftWar r_b_reader r_b_armyReader r_b_warReader r_b_markedArmies r_b_markedWars r_b_latest r_b_trial r_b_foresight r_b_pairs res.2.1 b_fractionTop b_fractionBottom b_marks, bl_X0 cy A_a a_name a_courage a_weight a_medals a_stood a_fled a_liked a_votes a_count res.2.2 a_pride a_quota a_melted a_lost]) : Met l yX11_fall (WW yX11_fall cX11_fall 2 (some .int)) rm_X11_fall (Ed D cy [.ref (A_b 0), .int x1] [bl_X11 cy A_b r_b_trays (A_a 0) r_b_war r_b_draftArmy r_b_draftWar r_b_reader r_b_armyReader r_b_warReader r_b_markedArmies r_b_markedWars r_b_latest r_b_trial r_b_foresight r_b_pairs b_latestStatus b_fractionTop b_fractionBottom b_marks, bl_X0 cy A_a a_name a_courage a_weight a_medals a_stood a_fled a_liked a_votes a_count a_living a_pride a_quota a_melted a_lost]) (Qei D res.1 A W1) 0 0 A := by
  refine Met.ofW (cc := cX11_fall) (maxL := 2) (ret := (some .int)) (by decide) rfl ?_
  intro p e s m args below meth c s₁ B hml hv
  obtain ⟨hargs, hP, hX, hD0⟩ := hv
  have hx := B.exec
  have hb := B.bytes
  have hr := B.returns
  have ht : ∀ w ∈ lw_gd, w.before args s = true := fun w hw => atoms_spec (ws := WW yX11_fall cX11_fall 2 (some .int)) B.pre w (List.mem_cons_of_mem _ hw)
  have hown : s.vm.findClass RX11 = some m.cls := findClass_of_methodNamed B.named
  have hlocks := B.notSynchronized
  have hP : PD D A [bl_X11 cy A_b r_b_trays (A_a 0) r_b_war r_b_draftArmy r_b_draftWar r_b_reader r_b_armyReader r_b_warReader r_b_markedArmies r_b_markedWars r_b_latest r_b_trial r_b_foresight r_b_pairs b_latestStatus b_fractionTop b_fractionBottom b_marks, bl_X0 cy A_a a_name a_courage a_weight a_medals a_stood a_fled a_liked a_votes a_count a_living a_pride a_quota a_melted a_lost] s.heap := ⟨hP, by rw [hA]; exact hD0.own⟩
  have hS : va_S A s.heap s.heap [] := va_S.rf
  obtain ⟨ls, hl, hent⟩ := ent (m := m) (n := 2) hargs (Nat.le_of_ble_eq_true rfl) (lv := [(0, .ref (A_b 0)), (1, .int x1)]) rfl
  rw [hent]
  clear hent
  unfold f_X11_fall at h
  refine lv_aload_n hx hb dX11_fall_0 rfl (lv_at hl 0 rfl) ?_
  refine xget (i := 0) (j := 0) (k := 4) (T := TX11) hx hb ht tb_iX11 hown hX hP.1 rfl rfl rfl (by decide) tb_433 rfl dX11_fall_1 ?_
  refine lv_iload_n hx hb dX11_fall_4 rfl (lv_at hl 1 rfl) ?_
  obtain ⟨z_9, e_z_9, h⟩ := bi h
  refine roVi (rest := []) ⟨hx, hb, hml, hown, ht⟩ (c_X0_isMan l D cy fu A_a a_name a_courage a_weight a_medals a_stood a_fled a_liked a_votes a_count a_living a_pride a_quota a_melted a_lost x1 z_9 e_z_9) (cV ht mv_X0_isMan tb_774 rfl rfl ⟨Nat.le_of_ble_eq_true rfl, Nat.le_of_ble_eq_true rfl⟩) (P_sub hP.1 [1] rfl) hX rfl rfl rfl hl.1 rfl (Nat.le_of_ble_eq_true rfl) dX11_fall_5 ⟨Nat.le_of_ble_eq_true rfl, Nat.le_of_ble_eq_true rfl⟩ ?_
  refine lv_if_ne (tgt := 17) hx hb dX11_fall_8 (by decide) (fun c_10 => ?_) (fun c_10 => ?_)
  · have h := ie c_10 h
    refine lv_aload_n hx hb dX11_fall_17 rfl (lv_at hl 0 rfl) ?_
    refine xget (i := 0) (j := 0) (k := 4) (T := TX11) hx hb ht tb_iX11 hown hX hP.1 rfl rfl rfl (by decide) tb_433 rfl dX11_fall_18 ?_
    refine lv_iload_n hx hb dX11_fall_21 rfl (lv_at hl 1 rfl) ?_
    obtain ⟨z_11, e_z_11, h⟩ := bi h
    refine efVi (rest := []) ⟨hx, hb, hml, hown, ht⟩ (c_X0_strike l D cy fu A_a a_name a_courage a_weight a_medals a_stood a_fled a_liked a_votes a_count a_living a_pride a_quota a_melted a_lost x1 z_11 e_z_11 _ rfl _ rfl) (cV ht mv_X0_strike tb_848 rfl rfl ⟨Nat.le_of_ble_eq_true rfl, Nat.le_of_ble_eq_true rfl⟩) hP hS hX [1] rfl rfl rfl rfl rfl rfl hl.1 rfl (Nat.le_of_ble_eq_true rfl) dX11_fall_22 ⟨Nat.le_of_ble_eq_true rfl, Nat.le_of_ble_eq_true rfl⟩ (fun H locs hP hS => ?_)
    have hP : PD D A [bl_X11 cy A_b r_b_trays (A_a 0) r_b_war r_b_draftArmy r_b_draftWar r_b_reader r_b_armyReader r_b_warReader r_b_markedArmies r_b_markedWars r_b_latest r_b_trial r_b_foresight r_b_pairs b_latestStatus b_fractionTop b_fractionBottom b_marks, bl_X0 cy A_a a_name a_courage a_weight a_medals a_stood a_fled a_liked a_votes a_count z_11.2 a_pride a_quota a_melted a_lost] H := hP
    refine lv_if_ne (tgt := 35) hx hb dX11_fall_25 (by decide) (fun c_12 => ?_) (fun c_12 => ?_)
    · have h := ie c_12 h
      refine lv_aload_n hx hb dX11_fall_35 rfl (lv_at hl 0 rfl) ?_
      refine lv_aload_n hx hb dX11_fall_36 rfl (lv_at hl 0 rfl) ?_
      refine xget (i := 0) (j := 0) (k := 4) (T := TX11) hx hb ht tb_iX11 hown hX hP.1 rfl rfl rfl (by decide) tb_433 rfl dX11_fall_37 ?_
      refine xget (i := 1) (j := 0) (k := 9) (T := TX0) hx hb ht tb_iX0 hown hX hP.1 rfl rfl rfl (by decide) tb_64 rfl dX11_fall_40 ?_
      obtain ⟨z_13, e_z_13, h⟩ := bi h
      refine roSi (rest := [.ref (A_b 0)]) ⟨hx, hb, hml, hown, ht⟩ (c_J6_bitCount_0f7a4 l D cy fu  z_11.2 z_13 e_z_13) (cS ht ms_J6_bitCount_0f7a4 tb_852 rfl rfl ⟨Nat.le_of_ble_eq_true rfl, Nat.le_of_ble_eq_true rfl⟩) (P_sub hP.1 [] rfl) hX rfl hl.1 rfl (Nat.le_of_ble_eq_true rfl) dX11_fall_43 ⟨Nat.le_of_ble_eq_true rfl, Nat.le_of_ble_eq_true rfl⟩ ?_
      obtain ⟨z_14, e_z_14, h⟩ := bi h
      refine efVi (rest := []) ⟨hx, hb, hml, hown, ht⟩ (c_X11_answer l D cy fu A_b r_b_trays (A_a 0) r_b_war r_b_draftArmy r_b_draftWar r_b_reader r_b_armyReader r_b_warReader r_b_markedArmies r_b_markedWars r_b_latest r_b_trial r_b_foresight r_b_pairs b_latestStatus b_fractionTop b_fractionBottom b_marks z_13 z_14 e_z_14 _ rfl _ rfl) (cV ht mv_X11_answer tb_696 rfl rfl ⟨Nat.le_of_ble_eq_true rfl, Nat.le_of_ble_eq_true rfl⟩) hP hS hX [0] rfl rfl rfl rfl rfl rfl hl.1 rfl (Nat.le_of_ble_eq_true rfl) dX11_fall_46 ⟨Nat.le_of_ble_eq_true rfl, Nat.le_of_ble_eq_true rfl⟩ (fun H locs hP hS => ?_)
      have hP : PD D A [bl_X11 cy A_b r_b_trays (A_a 0) r_b_war r_b_draftArmy r_b_draftWar r_b_reader r_b_armyReader r_b_warReader r_b_markedArmies r_b_markedWars r_b_latest r_b_trial r_b_foresight r_b_pairs z_14.2 b_fractionTop b_fractionBottom b_marks, bl_X0 cy A_a a_name a_courage a_weight a_medals a_stood a_fled a_liked a_votes a_count z_11.2 a_pride a_quota a_melted a_lost] H := hP
      cases h
      subst hW1
      exact W.iret hx hb hr (fun _ ht9 _ => ⟨⟨_, (), rfl, rfl, hPt ht9 hP.1⟩, hS.F ht9⟩) hS.2.2 dX11_fall_49
    · have h := it c_12 h
      refine lv_aload_n hx hb dX11_fall_28 rfl (lv_at hl 0 rfl) ?_
      refine lv_bipush (v := 7) hx hb dX11_fall_29 (by decide) ?_
      obtain ⟨z_15, e_z_15, h⟩ := bi h
      refine efVi (rest := []) ⟨hx, hb, hml, hown, ht⟩ (c_X11_refuse l D cy fu A_b r_b_trays (A_a 0) r_b_war r_b_draftArmy r_b_draftWar r_b_reader r_b_armyReader r_b_warReader r_b_markedArmies r_b_markedWars r_b_latest r_b_trial r_b_foresight r_b_pairs b_latestStatus b_fractionTop b_fractionBottom b_marks 7 z_15 e_z_15 _ rfl _ rfl) (cV ht mv_X11_refuse tb_543 rfl rfl ⟨Nat.le_of_ble_eq_true rfl, Nat.le_of_ble_eq_true rfl⟩) hP hS hX [0] rfl rfl rfl rfl rfl rfl hl.1 rfl (Nat.le_of_ble_eq_true rfl) dX11_fall_31 ⟨Nat.le_of_ble_eq_true rfl, Nat.le_of_ble_eq_true rfl⟩ (fun H locs hP hS => ?_)
      have hP : PD D A [bl_X11 cy A_b r_b_trays (A_a 0) r_b_war r_b_draftArmy r_b_draftWar r_b_reader r_b_armyReader r_b_warReader r_b_markedArmies r_b_markedWars r_b_latest r_b_trial r_b_foresight r_b_pairs z_15.2 b_fractionTop b_fractionBottom b_marks, bl_X0 cy A_a a_name a_courage a_weight a_medals a_stood a_fled a_liked a_votes a_count z_11.2 a_pride a_quota a_melted a_lost] H := hP
      cases h
      subst hW1
      exact W.iret hx hb hr (fun _ ht9 _ => ⟨⟨_, (), rfl, rfl, hPt ht9 hP.1⟩, hS.F ht9⟩) hS.2.2 dX11_fall_34
  · have h := it c_10 h
    refine lv_aload_n hx hb dX11_fall_11 rfl (lv_at hl 0 rfl) ?_
    refine lv_iconst (v := 1) hx hb dX11_fall_12 (by decide) ?_
    obtain ⟨z_16, e_z_16, h⟩ := bi h
    refine efVi (rest := []) ⟨hx, hb, hml, hown, ht⟩ (c_X11_refuse l D cy fu A_b r_b_trays (A_a 0) r_b_war r_b_draftArmy r_b_draftWar r_b_reader r_b_armyReader r_b_warReader r_b_markedArmies r_b_markedWars r_b_latest r_b_trial r_b_foresight r_b_pairs b_latestStatus b_fractionTop b_fractionBottom b_marks 1 z_16 e_z_16 _ rfl _ rfl) (cV ht mv_X11_refuse tb_543 rfl rfl ⟨Nat.le_of_ble_eq_true rfl, Nat.le_of_ble_eq_true rfl⟩) hP hS hX [0] rfl rfl rfl rfl rfl rfl hl.1 rfl (Nat.le_of_ble_eq_true rfl) dX11_fall_13 ⟨Nat.le_of_ble_eq_true rfl, Nat.le_of_ble_eq_true rfl⟩ (fun H locs hP hS => ?_)
    have hP : PD D A [bl_X11 cy A_b r_b_trays (A_a 0) r_b_war r_b_draftArmy r_b_draftWar r_b_reader r_b_armyReader r_b_warReader r_b_markedArmies r_b_markedWars r_b_latest r_b_trial r_b_foresight r_b_pairs z_16.2 b_fractionTop b_fractionBottom b_marks, bl_X0 cy A_a a_name a_courage a_weight a_medals a_stood a_fled a_liked a_votes a_count a_living a_pride a_quota a_melted a_lost] H := hP
    cases h
    subst hW1
    exact W.iret hx hb hr (fun _ ht9 _ => ⟨⟨_, (), rfl, rfl, hPt ht9 hP.1⟩, hS.F ht9⟩) hS.2.2 dX11_fall_16
theorem dX11_enlist_0 : decode cX11_enlist 0 = .ok (.iload_n 1, 1) := by decide +kernel
theorem dX11_enlist_1 : decode cX11_enlist 1 = .ok (.iconst 0, 1) := by decide +kernel
theorem dX11_enlist_2 : decode cX11_enlist 2 = .ok (.bipush 20, 2) := by decide +kernel
theorem dX11_enlist_4 : decode cX11_enlist 4 = .ok (.invokestatic 115, 3) := by decide +kernel
theorem dX11_enlist_7 : decode cX11_enlist 7 = .ok (.ifCond .eq 13, 3) := by decide +kernel
theorem dX11_enlist_10 : decode cX11_enlist 10 = .ok (.iload_n 2, 1) := by decide +kernel
theorem dX11_enlist_11 : decode cX11_enlist 11 = .ok (.iconst 0, 1) := by decide +kernel
theorem dX11_enlist_12 : decode cX11_enlist 12 = .ok (.bipush 9, 2) := by decide +kernel
theorem dX11_enlist_14 : decode cX11_enlist 14 = .ok (.invokestatic 115, 3) := by decide +kernel
theorem dX11_enlist_17 : decode cX11_enlist 17 = .ok (.ifCond .ne 9, 3) := by decide +kernel
theorem dX11_enlist_20 : decode cX11_enlist 20 = .ok (.aload_n 0, 1) := by decide +kernel
theorem dX11_enlist_21 : decode cX11_enlist 21 = .ok (.iconst 1, 1) := by decide +kernel
theorem dX11_enlist_22 : decode cX11_enlist 22 = .ok (.invokevirtual 143, 3) := by decide +kernel
theorem dX11_enlist_25 : decode cX11_enlist 25 = .ok (.ireturn, 1) := by decide +kernel
theorem dX11_enlist_26 : decode cX11_enlist 26 = .ok (.aload_n 0, 1) := by decide +kernel
theorem dX11_enlist_27 : decode cX11_enlist 27 = .ok (.getfield 29, 3) := by decide +kernel
theorem dX11_enlist_30 : decode cX11_enlist 30 = .ok (.getfield 190, 3) := by decide +kernel
theorem dX11_enlist_33 : decode cX11_enlist 33 = .ok (.bipush 8, 2) := by decide +kernel
theorem dX11_enlist_35 : decode cX11_enlist 35 = .ok (.if_icmp .lt 9, 3) := by decide +kernel
theorem dX11_enlist_38 : decode cX11_enlist 38 = .ok (.aload_n 0, 1) := by decide +kernel
theorem dX11_enlist_39 : decode cX11_enlist 39 = .ok (.iconst 4, 1) := by decide +kernel
theorem dX11_enlist_40 : decode cX11_enlist 40 = .ok (.invokevirtual 143, 3) := by decide +kernel
theorem dX11_enlist_43 : decode cX11_enlist 43 = .ok (.ireturn, 1) := by decide +kernel
theorem dX11_enlist_44 : decode cX11_enlist 44 = .ok (.aload_n 0, 1) := by decide +kernel
theorem dX11_enlist_45 : decode cX11_enlist 45 = .ok (.aload_n 0, 1) := by decide +kernel
theorem dX11_enlist_46 : decode cX11_enlist 46 = .ok (.getfield 29, 3) := by decide +kernel
theorem dX11_enlist_49 : decode cX11_enlist 49 = .ok (.lconst 0, 1) := by decide +kernel
theorem dX11_enlist_50 : decode cX11_enlist 50 = .ok (.iload_n 1, 1) := by decide +kernel
theorem dX11_enlist_51 : decode cX11_enlist 51 = .ok (.iload_n 2, 1) := by decide +kernel
theorem dX11_enlist_52 : decode cX11_enlist 52 = .ok (.invokevirtual 286, 3) := by decide +kernel
theorem dX11_enlist_55 : decode cX11_enlist 55 = .ok (.invokevirtual 193, 3) := by decide +kernel
theorem dX11_enlist_58 : decode cX11_enlist 58 = .ok (.ireturn, 1) := by decide +kernel
theorem mv_X11_enlist : MV yX11_enlist RX11 cX11_enlist 3 (some .int) 2 := ⟨tb_861, tb_859, tb_860, tb_1, by decide +kernel, by decide +kernel, by decide +kernel⟩
def f_X11_enlist (fu : Nat) (b_latestStatus : Int32) (a_name : Nat → Int64) (a_courage : Nat → Int32) (a_weight : Nat → Int32) (a_medals : Nat → Int32) (a_stood : Nat → Int32) (a_fled : Nat → Int32) (a_liked : Nat → Int32) (a_count : Int32) (a_living : Int32) (x1 : Int32) (x2 : Int32) : Option (Int32 × Int32 × (Nat → Int64) × (Nat → Int32) × (Nat → Int32) × (Nat → Int32) × (Nat → Int32) × (Nat → Int32) × (Nat → Int32) × Int32 × Int32) := (f_X11_within fu x1 0 20).bind fun z_11 => (if z_11 = 0 then (f_X11_refuse fu b_latestStatus 1).bind fun z_13 => some (z_13.1, z_13.2, a_name, a_courage, a_weight, a_medals, a_stood, a_fled, a_liked, a_count, a_living) else (f_X11_within fu x2 0 9).bind fun z_14 => (if z_14 = 0 then (f_X11_refuse fu b_latestStatus 1).bind fun z_20 => some (z_20.1, z_20.2, a_name, a_courage, a_weight, a_medals, a_stood, a_fled, a_liked, a_count, a_living) else (if a_count < 8 then (f_X0_add fu a_name a_courage a_weight a_medals a_stood a_fled a_liked a_count a_living 0 x1 x2).bind fun z_17 => (f_X11_answer fu b_latestStatus z_17.1).bind fun z_18 => some (z_18.1, z_18.2, z_17.2.1, z_17.2.2.1, z_17.2.2.2.1, z_17.2.2.2.2.1, z_17.2.2.2.2.2.1, z_17.2.2.2.2.2.2.1, z_17.2.2.2.2.2.2.2.1, z_17.2.2.2.2.2.2.2.2.1, z_17.2.2.2.2.2.2.2.2.2) else (f_X11_refuse fu b_latestStatus 4).bind fun z_19 => some (z_19.1, z_19.2, a_name, a_courage, a_weight, a_medals, a_stood, a_fled, a_liked, a_count, a_living))))
abbrev rm_X11_enlist : Room := { frames := 2, cells := 0, slots := 0, locals := 48 }
set_option maxHeartbeats 4000000 in
set_option maxRecDepth 100000 in
theorem c_X11_enlist (l : Launch) (D : va_G) (cy : Nat → ClassId) (fu : Nat) (A_b : Nat → Nat) (r_b_trays : Nat) (r_b_war : Nat) (r_b_draftArmy : Nat) (r_b_draftWar : Nat) (r_b_reader : Nat) (r_b_armyReader : Nat) (r_b_warReader : Nat) (r_b_markedArmies : Nat) (r_b_markedWars : Nat) (r_b_latest : Nat) (r_b_trial : Nat) (r_b_foresight : Nat) (r_b_pairs : Nat) (b_latestStatus : Int32) (b_fractionTop : Int64) (b_fractionBottom : Int64) (b_marks : Int32) (A_a : Nat → Nat) (a_name : Nat → Int64) (a_courage : Nat → Int32) (a_weight : Nat → Int32) (a_medals : Nat → Int32) (a_stood : Nat → Int32) (a_fled : Nat → Int32) (a_liked : Nat → Int32) (a_votes : Nat → Int32) (a_count : Int32) (a_living : Int32) (a_pride : Int32) (a_quota : Int32) (a_melted : Int32) (a_lost : Int32) (x1 : Int32) (x2 : Int32) (res : Int32 × Int32 × (Nat → Int64) × (Nat → Int32) × (Nat → Int32) × (Nat → Int32) × (Nat → Int32) × (Nat → Int32) × (Nat → Int32) × Int32 × Int32) (h : f_X11_enlist fu b_latestStatus a_name a_courage a_weight a_medals a_stood a_fled a_liked a_count a_living x1 x2 = some res) (A : Nat → Prop) (hA : A = adr [bl_X11 cy A_b r_b_trays (A_a 0) r_b_war r_b_draftArmy r_b_draftWar r_b_reader r_b_armyReader r_b_warReader r_b_markedArmies r_b_markedWars r_b_latest r_b_trial r_b_foresight r_b_pairs b_latestStatus b_fractionTop b_fractionBottom b_marks, bl_X0 cy A_a a_name a_courage a_weight a_medals a_stood a_fled a_liked a_votes a_count a_living a_pride a_quota a_melted a_lost]) (W1 : List va_W) (hW1 : W1 = [bl_X11 cy A_b r_b_trays (A_a 0) r_b_war r_b_draftArmy r_b_draftWar r_b_reader r_b_armyReader r_b_warReader r_b_markedArmies r_b_markedWars r_b_latest r_b_trial r_b_foresight r_b_pairs res.2.1 b_fractionTop b_fractionBottom b_marks, bl_X0 cy A_a res.2.2.1 res.2.2.2.1 res.2.2.2.2.1 res.2.2.2.2.2.1 res.2.2.2.2.2.2.1 res.2.2.2.2.2.2.2.1 res.2.2.2.2.2.2.2.2.1 a_votes res.2.2.2.2.2.2.2.2.2.1 res.2.2.2.2.2.2.2.2.2.2 a_pride a_quota a_melted a_lost]) : Met l yX11_enlist (WW yX11_enlist cX11_enlist 3 (some .int)) rm_X11_enlist (Ed D cy [.ref (A_b 0), .int x1, .int x2] [bl_X11 cy A_b r_b_trays (A_a 0) r_b_war r_b_draftArmy r_b_draftWar r_b_reader r_b_armyReader r_b_warReader r_b_markedArmies r_b_markedWars r_b_latest r_b_trial r_b_foresight r_b_pairs b_latestStatus b_fractionTop b_fractionBottom b_marks, bl_X0 cy A_a a_name a_courage a_weight a_medals a_stood a_fled a_liked a_votes a_count a_living a_pride a_quota a_melted a_lost]) (Qei D res.1 A W1) 0 0 A := by
  refine Met.ofW (cc := cX11_enlist) (maxL := 3) (ret := (some .int)) (by decide) rfl ?_
  intro p e s m args below meth c s₁ B hml hv
  obtain ⟨hargs, hP, hX, hD0⟩ := hv
  have hx := B.exec
  have hb := B.bytes
  have hr := B.returns
  have ht : ∀ w ∈ lw_gd, w.before args s = true := fun w hw => atoms_spec (ws := WW yX11_enlist cX11_enlist 3 (some .int)) B.pre w (List.mem_cons_of_mem _ hw)
  have hown : s.vm.findClass RX11 = some m.cls := findClass_of_methodNamed B.named
  have hlocks := B.notSynchronized
  have hP : PD D A [bl_X11 cy A_b r_b_trays (A_a 0) r_b_war r_b_draftArmy r_b_draftWar r_b_reader r_b_armyReader r_b_warReader r_b_markedArmies r_b_markedWars r_b_latest r_b_trial r_b_foresight r_b_pairs b_latestStatus b_fractionTop b_fractionBottom b_marks, bl_X0 cy A_a a_name a_courage a_weight a_medals a_stood a_fled a_liked a_votes a_count a_living a_pride a_quota a_melted a_lost] s.heap := ⟨hP, by rw [hA]; exact hD0.own⟩
  have hS : va_S A s.heap s.heap [] := va_S.rf
  obtain ⟨ls, hl, hent⟩ := ent (m := m) (n := 3) hargs (Nat.le_of_ble_eq_true rfl) (lv := [(0, .ref (A_b 0)), (1, .int x1), (2, .int x2)]) rfl
  rw [hent]
  clear hent
  unfold f_X11_enlist at h
  refine lv_iload_n hx hb dX11_enlist_0 rfl (lv_at hl 1 rfl) ?_
  refine lv_iconst (v := 0) hx hb dX11_enlist_1 (by decide) ?_
  refine lv_bipush (v := 20) hx hb dX11_enlist_2 (by decide) ?_
  obtain ⟨z_11, e_z_11, h⟩ := bi h
  refine roSi (rest := []) ⟨hx, hb, hml, hown, ht⟩ (c_X11_within l D cy fu  x1 0 20 z_11 e_z_11) (cS ht ms_X11_within tb_504 rfl rfl ⟨Nat.le_of_ble_eq_true rfl, Nat.le_of_ble_eq_true rfl⟩) (P_sub hP.1 [] rfl) hX rfl hl.1 rfl (Nat.le_of_ble_eq_true rfl) dX11_enlist_4 ⟨Nat.le_of_ble_eq_true rfl, Nat.le_of_ble_eq_true rfl⟩ ?_
  refine lv_if_eq (tgt := 20) hx hb dX11_enlist_7 (by decide) (fun c_12 => ?_) (fun c_12 => ?_)
  · have h := it c_12 h
    refine lv_aload_n hx hb dX11_enlist_20 rfl (lv_at hl 0 rfl) ?_
    refine lv_iconst (v := 1) hx hb dX11_enlist_21 (by decide) ?_
    obtain ⟨z_13, e_z_13, h⟩ := bi h
    refine efVi (rest := []) ⟨hx, hb, hml, hown, ht⟩ (c_X11_refuse l D cy fu A_b r_b_trays (A_a 0) r_b_war r_b_draftArmy r_b_draftWar r_b_reader r_b_armyReader r_b_warReader r_b_markedArmies r_b_markedWars r_b_latest r_b_trial r_b_foresight r_b_pairs b_latestStatus b_fractionTop b_fractionBottom b_marks 1 z_13 e_z_13 _ rfl _ rfl) (cV ht mv_X11_refuse tb_543 rfl rfl ⟨Nat.le_of_ble_eq_true rfl, Nat.le_of_ble_eq_true rfl⟩) hP hS hX [0] rfl rfl rfl rfl rfl rfl hl.1 rfl (Nat.le_of_ble_eq_true rfl) dX11_enlist_22 ⟨Nat.le_of_ble_eq_true rfl, Nat.le_of_ble_eq_true rfl⟩ (fun H locs hP hS => ?_)
    have hP : PD D A [bl_X11 cy A_b r_b_trays (A_a 0) r_b_war r_b_draftArmy r_b_draftWar r_b_reader r_b_armyReader r_b_warReader r_b_markedArmies r_b_markedWars r_b_latest r_b_trial r_b_foresight r_b_pairs z_13.2 b_fractionTop b_fractionBottom b_marks, bl_X0 cy A_a a_name a_courage a_weight a_medals a_stood a_fled a_liked a_votes a_count a_living a_pride a_quota a_melted a_lost] H := hP
    cases h
    subst hW1
    exact W.iret hx hb hr (fun _ ht9 _ => ⟨⟨_, (), rfl, rfl, hPt ht9 hP.1⟩, hS.F ht9⟩) hS.2.2 dX11_enlist_25
  · have h := ie c_12 h
    refine lv_iload_n hx hb dX11_enlist_10 rfl (lv_at hl 2 rfl) ?_
    refine lv_iconst (v := 0) hx hb dX11_enlist_11 (by decide) ?_
    refine lv_bipush (v := 9) hx hb dX11_enlist_12 (by decide) ?_
    obtain ⟨z_14, e_z_14, h⟩ := bi h
    refine roSi (rest := []) ⟨hx, hb, hml, hown, ht⟩ (c_X11_within l D cy fu  x2 0 9 z_14 e_z_14) (cS ht ms_X11_within tb_504 rfl rfl ⟨Nat.le_of_ble_eq_true rfl, Nat.le_of_ble_eq_true rfl⟩) (P_sub hP.1 [] rfl) hX rfl hl.1 rfl (Nat.le_of_ble_eq_true rfl) dX11_enlist_14 ⟨Nat.le_of_ble_eq_true rfl, Nat.le_of_ble_eq_true rfl⟩ ?_
    refine lv_if_ne (tgt := 26) hx hb dX11_enlist_17 (by decide) (fun c_15 => ?_) (fun c_15 => ?_)
    · have h := ie c_15 h
      refine lv_aload_n hx hb dX11_enlist_26 rfl (lv_at hl 0 rfl) ?_
      refine xget (i := 0) (j := 0) (k := 4) (T := TX11) hx hb ht tb_iX11 hown hX hP.1 rfl rfl rfl (by decide) tb_433 rfl dX11_enlist_27 ?_
      refine xget (i := 1) (j := 0) (k := 8) (T := TX0) hx hb ht tb_iX0 hown hX hP.1 rfl rfl rfl (by decide) tb_60 rfl dX11_enlist_30 ?_
      refine lv_bipush (v := 8) hx hb dX11_enlist_33 (by decide) ?_
      refine lv_icmp_lt (tgt := 44) hx hb dX11_enlist_35 (by decide) (fun c_16 => ?_) (fun c_16 => ?_)
      · have h := it c_16 h
        refine lv_aload_n hx hb dX11_enlist_44 rfl (lv_at hl 0 rfl) ?_
        refine lv_aload_n hx hb dX11_enlist_45 rfl (lv_at hl 0 rfl) ?_
        refine xget (i := 0) (j := 0) (k := 4) (T := TX11) hx hb ht tb_iX11 hown hX hP.1 rfl rfl rfl (by decide) tb_433 rfl dX11_enlist_46 ?_
        refine lv_lconst (v := 0) hx hb dX11_enlist_49 (by decide) ?_
        refine lv_iload_n hx hb dX11_enlist_50 rfl (lv_at hl 1 rfl) ?_
        refine lv_iload_n hx hb dX11_enlist_51 rfl (lv_at hl 2 rfl) ?_
        obtain ⟨z_17, e_z_17, h⟩ := bi h
        refine efVi (rest := [.ref (A_b 0)]) ⟨hx, hb, hml, hown, ht⟩ (c_X0_add l D cy fu A_a a_name a_courage a_weight a_medals a_stood a_fled a_liked a_votes a_count a_living a_pride a_quota a_melted a_lost 0 x1 x2 z_17 e_z_17 _ rfl _ rfl) (cV ht mv_X0_add tb_862 rfl rfl ⟨Nat.le_of_ble_eq_true rfl, Nat.le_of_ble_eq_true rfl⟩) hP hS hX [1] rfl rfl rfl rfl rfl rfl hl.1 rfl (Nat.le_of_ble_eq_true rfl) dX11_enlist_52 ⟨Nat.le_of_ble_eq_true rfl, Nat.le_of_ble_eq_true rfl⟩ (fun H locs hP hS => ?_)
        have hP : PD D A [bl_X11 cy A_b r_b_trays (A_a 0) r_b_war r_b_draftArmy r_b_draftWar r_b_reader r_b_armyReader r_b_warReader r_b_markedArmies r_b_markedWars r_b_latest r_b_trial r_b_foresight r_b_pairs b_latestStatus b_fractionTop b_fractionBottom b_marks, bl_X0 cy A_a z_17.2.1 z_17.2.2.1 z_17.2.2.2.1 z_17.2.2.2.2.1 z_17.2.2.2.2.2.1 z_17.2.2.2.2.2.2.1 z_17.2.2.2.2.2.2.2.1 a_votes z_17.2.2.2.2.2.2.2.2.1 z_17.2.2.2.2.2.2.2.2.2 a_pride a_quota a_melted a_lost] H := hP
        obtain ⟨z_18, e_z_18, h⟩ := bi h
        refine efVi (rest := []) ⟨hx, hb, hml, hown, ht⟩ (c_X11_answer l D cy fu A_b r_b_trays (A_a 0) r_b_war r_b_draftArmy r_b_draftWar r_b_reader r_b_armyReader r_b_warReader r_b_markedArmies r_b_markedWars r_b_latest r_b_trial r_b_foresight r_b_pairs b_latestStatus b_fractionTop b_fractionBottom b_marks z_17.1 z_18 e_z_18 _ rfl _ rfl) (cV ht mv_X11_answer tb_696 rfl rfl ⟨Nat.le_of_ble_eq_true rfl, Nat.le_of_ble_eq_true rfl⟩) hP hS hX [0] rfl rfl rfl rfl rfl rfl hl.1 rfl (Nat.le_of_ble_eq_true rfl) dX11_enlist_55 ⟨Nat.le_of_ble_eq_true rfl, Nat.le_of_ble_eq_true rfl⟩ (fun H locs hP hS => ?_)
        have hP : PD D A [bl_X11 cy A_b r_b_trays (A_a 0) r_b_war r_b_draftArmy r_b_draftWar r_b_reader r_b_armyReader r_b_warReader r_b_markedArmies r_b_markedWars r_b_latest r_b_trial r_b_foresight r_b_pairs z_18.2 b_fractionTop b_fractionBottom b_marks, bl_X0 cy A_a z_17.2.1 z_17.2.2.1 z_17.2.2.2.1 z_17.2.2.2.2.1 z_17.2.2.2.2.2.1 z_17.2.2.2.2.2.2.1 z_17.2.2.2.2.2.2.2.1 a_votes z_17.2.2.2.2.2.2.2.2.1 z_17.2.2.2.2.2.2.2.2.2 a_pride a_quota a_melted a_lost] H := hP
        cases h
        subst hW1
        exact W.iret hx hb hr (fun _ ht9 _ => ⟨⟨_, (), rfl, rfl, hPt ht9 hP.1⟩, hS.F ht9⟩) hS.2.2 dX11_enlist_58
      · have h := ie c_16 h
        refine lv_aload_n hx hb dX11_enlist_38 rfl (lv_at hl 0 rfl) ?_
        refine lv_iconst (v := 4) hx hb dX11_enlist_39 (by decide) ?_
        obtain ⟨z_19, e_z_19, h⟩ := bi h
        refine efVi (rest := []) ⟨hx, hb, hml, hown, ht⟩ (c_X11_refuse l D cy fu A_b r_b_trays (A_a 0) r_b_war r_b_draftArmy r_b_draftWar r_b_reader r_b_armyReader r_b_warReader r_b_markedArmies r_b_markedWars r_b_latest r_b_trial r_b_foresight r_b_pairs b_latestStatus b_fractionTop b_fractionBottom b_marks 4 z_19 e_z_19 _ rfl _ rfl) (cV ht mv_X11_refuse tb_543 rfl rfl ⟨Nat.le_of_ble_eq_true rfl, Nat.le_of_ble_eq_true rfl⟩) hP hS hX [0] rfl rfl rfl rfl rfl rfl hl.1 rfl (Nat.le_of_ble_eq_true rfl) dX11_enlist_40 ⟨Nat.le_of_ble_eq_true rfl, Nat.le_of_ble_eq_true rfl⟩ (fun H locs hP hS => ?_)
        have hP : PD D A [bl_X11 cy A_b r_b_trays (A_a 0) r_b_war r_b_draftArmy r_b_draftWar r_b_reader r_b_armyReader r_b_warReader r_b_markedArmies r_b_markedWars r_b_latest r_b_trial r_b_foresight r_b_pairs z_19.2 b_fractionTop b_fractionBottom b_marks, bl_X0 cy A_a a_name a_courage a_weight a_medals a_stood a_fled a_liked a_votes a_count a_living a_pride a_quota a_melted a_lost] H := hP
        cases h
        subst hW1
        exact W.iret hx hb hr (fun _ ht9 _ => ⟨⟨_, (), rfl, rfl, hPt ht9 hP.1⟩, hS.F ht9⟩) hS.2.2 dX11_enlist_43
    · have h := it c_15 h
      refine lv_aload_n hx hb dX11_enlist_20 rfl (lv_at hl 0 rfl) ?_
      refine lv_iconst (v := 1) hx hb dX11_enlist_21 (by decide) ?_
      obtain ⟨z_20, e_z_20, h⟩ := bi h
      refine efVi (rest := []) ⟨hx, hb, hml, hown, ht⟩ (c_X11_refuse l D cy fu A_b r_b_trays (A_a 0) r_b_war r_b_draftArmy r_b_draftWar r_b_reader r_b_armyReader r_b_warReader r_b_markedArmies r_b_markedWars r_b_latest r_b_trial r_b_foresight r_b_pairs b_latestStatus b_fractionTop b_fractionBottom b_marks 1 z_20 e_z_20 _ rfl _ rfl) (cV ht mv_X11_refuse tb_543 rfl rfl ⟨Nat.le_of_ble_eq_true rfl, Nat.le_of_ble_eq_true rfl⟩) hP hS hX [0] rfl rfl rfl rfl rfl rfl hl.1 rfl (Nat.le_of_ble_eq_true rfl) dX11_enlist_22 ⟨Nat.le_of_ble_eq_true rfl, Nat.le_of_ble_eq_true rfl⟩ (fun H locs hP hS => ?_)
      have hP : PD D A [bl_X11 cy A_b r_b_trays (A_a 0) r_b_war r_b_draftArmy r_b_draftWar r_b_reader r_b_armyReader r_b_warReader r_b_markedArmies r_b_markedWars r_b_latest r_b_trial r_b_foresight r_b_pairs z_20.2 b_fractionTop b_fractionBottom b_marks, bl_X0 cy A_a a_name a_courage a_weight a_medals a_stood a_fled a_liked a_votes a_count a_living a_pride a_quota a_melted a_lost] H := hP
      cases h
      subst hW1
      exact W.iret hx hb hr (fun _ ht9 _ => ⟨⟨_, (), rfl, rfl, hPt ht9 hP.1⟩, hS.F ht9⟩) hS.2.2 dX11_enlist_25
theorem dX11_train_0 : decode cX11_train 0 = .ok (.aload_n 0, 1) := by decide +kernel
theorem dX11_train_1 : decode cX11_train 1 = .ok (.getfield 29, 3) := by decide +kernel
theorem dX11_train_4 : decode cX11_train 4 = .ok (.iload_n 1, 1) := by decide +kernel
theorem dX11_train_5 : decode cX11_train 5 = .ok (.invokevirtual 248, 3) := by decide +kernel
theorem dX11_train_8 : decode cX11_train 8 = .ok (.ifCond .eq 13, 3) := by decide +kernel
theorem dX11_train_11 : decode cX11_train 11 = .ok (.iload_n 2, 1) := by decide +kernel
theorem dX11_train_12 : decode cX11_train 12 = .ok (.iconst 0, 1) := by decide +kernel
theorem dX11_train_13 : decode cX11_train 13 = .ok (.bipush 20, 2) := by decide +kernel
theorem dX11_train_15 : decode cX11_train 15 = .ok (.invokestatic 115, 3) := by decide +kernel
theorem dX11_train_18 : decode cX11_train 18 = .ok (.ifCond .ne 9, 3) := by decide +kernel
theorem dX11_train_21 : decode cX11_train 21 = .ok (.aload_n 0, 1) := by decide +kernel
theorem dX11_train_22 : decode cX11_train 22 = .ok (.iconst 1, 1) := by decide +kernel
theorem dX11_train_23 : decode cX11_train 23 = .ok (.invokevirtual 119, 3) := by decide +kernel
theorem dX11_train_26 : decode cX11_train 26 = .ok (.ireturn, 1) := by decide +kernel
theorem dX11_train_27 : decode cX11_train 27 = .ok (.aload_n 0, 1) := by decide +kernel
theorem dX11_train_28 : decode cX11_train 28 = .ok (.getfield 29, 3) := by decide +kernel
theorem dX11_train_31 : decode cX11_train 31 = .ok (.getfield 251, 3) := by decide +kernel
theorem dX11_train_34 : decode cX11_train 34 = .ok (.iload_n 1, 1) := by decide +kernel
theorem dX11_train_35 : decode cX11_train 35 = .ok (.iload_n 2, 1) := by decide +kernel
theorem dX11_train_36 : decode cX11_train 36 = .ok (.iastore, 1) := by decide +kernel
theorem dX11_train_37 : decode cX11_train 37 = .ok (.aload_n 0, 1) := by decide +kernel
theorem dX11_train_38 : decode cX11_train 38 = .ok (.invokevirtual 127, 3) := by decide +kernel
theorem dX11_train_41 : decode cX11_train 41 = .ok (.ireturn, 1) := by decide +kernel
theorem mv_X11_train : MV yX11_train RX11 cX11_train 3 (some .boolean) 2 := ⟨tb_866, tb_864, tb_865, tb_1, by decide +kernel, by decide +kernel, by decide +kernel⟩
def f_X11_train (fu : Nat) (b_latestStatus : Int32) (a_courage : Nat → Int32) (a_count : Int32) (x1 : Int32) (x2 : Int32) : Option (Int32 × Int32 × (Nat → Int32)) := (f_X0_isMan fu a_count x1).bind fun z_12 => (if z_12 = 0 then (f_X11_deny fu b_latestStatus 1).bind fun z_14 => (bz z_14.1).bind fun _ => some (z_14.1, z_14.2, a_courage) else (f_X11_within fu x2 0 20).bind fun z_16 => (if z_16 = 0 then (f_X11_deny fu b_latestStatus 1).bind fun z_21 => (bz z_21.1).bind fun _ => some (z_21.1, z_21.2, a_courage) else (wrI a_courage 8 x1 x2).bind fun a_courage_18 => (f_X11_allow fu b_latestStatus).bind fun z_19 => (bz z_19.1).bind fun _ => some (z_19.1, z_19.2, a_courage_18)))
abbrev rm_X11_train : Room := { frames := 1, cells := 0, slots := 0, locals := 22 }
set_option maxHeartbeats 4000000 in
set_option maxRecDepth 100000 in
theorem c_X11_train (l : Launch) (D : va_G) (cy : Nat → ClassId) (fu : Nat) (A_b : Nat → Nat) (r_b_trays : Nat) (r_b_war : Nat) (r_b_draftArmy : Nat) (r_b_draftWar : Nat) (r_b_reader : Nat) (r_b_armyReader : Nat) (r_b_warReader : Nat) (r_b_markedArmies : Nat) (r_b_markedWars : Nat) (r_b_latest : Nat) (r_b_trial : Nat) (r_b_foresight : Nat) (r_b_pairs : Nat) (b_latestStatus : Int32) (b_fractionTop : Int64) (b_fractionBottom : Int64) (b_marks : Int32) (A_a : Nat → Nat) (a_name : Nat → Int64) (a_courage : Nat → Int32) (a_weight : Nat → Int32) (a_medals : Nat → Int32) (a_stood : Nat → Int32) (a_fled : Nat → Int32) (a_liked : Nat → Int32) (a_votes : Nat → Int32) (a_count : Int32) (a_living : Int32) (a_pride : Int32) (a_quota : Int32) (a_melted : Int32) (a_lost : Int32) (x1 : Int32) (x2 : Int32) (res : Int32 × Int32 × (Nat → Int32)) (h : f_X11_train fu b_latestStatus a_courage a_count x1 x2 = some res) (A : Nat → Prop) (hA : A = adr [bl_X11 cy A_b r_b_trays (A_a 0) r_b_war r_b_draftArmy r_b_draftWar r_b_reader r_b_armyReader r_b_warReader r_b_markedArmies r_b_markedWars r_b_latest r_b_trial r_b_foresight r_b_pairs b_latestStatus b_fractionTop b_fractionBottom b_marks, bl_X0 cy A_a a_name a_courage a_weight a_medals a_stood a_fled a_liked a_votes a_count a_living a_pride a_quota a_melted a_lost]) (W1 : List va_W) (hW1 : W1 = [bl_X11 cy A_b r_b_trays (A_a 0) r_b_war r_b_draftArmy r_b_draftWar r_b_reader r_b_armyReader r_b_warReader r_b_markedArmies r_b_markedWars r_b_latest r_b_trial r_b_foresight r_b_pairs res.2.1 b_fractionTop b_fractionBottom b_marks, bl_X0 cy A_a a_name res.2.2 a_weight a_medals a_stood a_fled a_liked a_votes a_count a_living a_pride a_quota a_melted a_lost]) : Met l yX11_train (WW yX11_train cX11_train 3 (some .boolean)) rm_X11_train (Ed D cy [.ref (A_b 0), .int x1, .int x2] [bl_X11 cy A_b r_b_trays (A_a 0) r_b_war r_b_draftArmy r_b_draftWar r_b_reader r_b_armyReader r_b_warReader r_b_markedArmies r_b_markedWars r_b_latest r_b_trial r_b_foresight r_b_pairs b_latestStatus b_fractionTop b_fractionBottom b_marks, bl_X0 cy A_a a_name a_courage a_weight a_medals a_stood a_fled a_liked a_votes a_count a_living a_pride a_quota a_melted a_lost]) (Qei D res.1 A W1) 0 0 A := by
  refine Met.ofW (cc := cX11_train) (maxL := 3) (ret := (some .boolean)) (by decide) rfl ?_
  intro p e s m args below meth c s₁ B hml hv
  obtain ⟨hargs, hP, hX, hD0⟩ := hv
  have hx := B.exec
  have hb := B.bytes
  have hr := B.returns
  have ht : ∀ w ∈ lw_gd, w.before args s = true := fun w hw => atoms_spec (ws := WW yX11_train cX11_train 3 (some .boolean)) B.pre w (List.mem_cons_of_mem _ hw)
  have hown : s.vm.findClass RX11 = some m.cls := findClass_of_methodNamed B.named
  have hlocks := B.notSynchronized
  have hP : PD D A [bl_X11 cy A_b r_b_trays (A_a 0) r_b_war r_b_draftArmy r_b_draftWar r_b_reader r_b_armyReader r_b_warReader r_b_markedArmies r_b_markedWars r_b_latest r_b_trial r_b_foresight r_b_pairs b_latestStatus b_fractionTop b_fractionBottom b_marks, bl_X0 cy A_a a_name a_courage a_weight a_medals a_stood a_fled a_liked a_votes a_count a_living a_pride a_quota a_melted a_lost] s.heap := ⟨hP, by rw [hA]; exact hD0.own⟩
  have hS : va_S A s.heap s.heap [] := va_S.rf
  obtain ⟨ls, hl, hent⟩ := ent (m := m) (n := 3) hargs (Nat.le_of_ble_eq_true rfl) (lv := [(0, .ref (A_b 0)), (1, .int x1), (2, .int x2)]) rfl
  rw [hent]
  clear hent
  unfold f_X11_train at h
  refine lv_aload_n hx hb dX11_train_0 rfl (lv_at hl 0 rfl) ?_
  refine xget (i := 0) (j := 0) (k := 4) (T := TX11) hx hb ht tb_iX11 hown hX hP.1 rfl rfl rfl (by decide) tb_433 rfl dX11_train_1 ?_
  refine lv_iload_n hx hb dX11_train_4 rfl (lv_at hl 1 rfl) ?_
  obtain ⟨z_12, e_z_12, h⟩ := bi h
  refine roVi (rest := []) ⟨hx, hb, hml, hown, ht⟩ (c_X0_isMan l D cy fu A_a a_name a_courage a_weight a_medals a_stood a_fled a_liked a_votes a_count a_living a_pride a_quota a_melted a_lost x1 z_12 e_z_12) (cV ht mv_X0_isMan tb_774 rfl rfl ⟨Nat.le_of_ble_eq_true rfl, Nat.le_of_ble_eq_true rfl⟩) (P_sub hP.1 [1] rfl) hX rfl rfl rfl hl.1 rfl (Nat.le_of_ble_eq_true rfl) dX11_train_5 ⟨Nat.le_of_ble_eq_true rfl, Nat.le_of_ble_eq_true rfl⟩ ?_
  refine lv_if_eq (tgt := 21) hx hb dX11_train_8 (by decide) (fun c_13 => ?_) (fun c_13 => ?_)
  · have h := it c_13 h
    refine lv_aload_n hx hb dX11_train_21 rfl (lv_at hl 0 rfl) ?_
    refine lv_iconst (v := 1) hx hb dX11_train_22 (by decide) ?_
    obtain ⟨z_14, e_z_14, h⟩ := bi h
    refine efVi (rest := []) ⟨hx, hb, hml, hown, ht⟩ (c_X11_deny l D cy fu A_b r_b_trays (A_a 0) r_b_war r_b_draftArmy r_b_draftWar r_b_reader r_b_armyReader r_b_warReader r_b_markedArmies r_b_markedWars r_b_latest r_b_trial r_b_foresight r_b_pairs b_latestStatus b_fractionTop b_fractionBottom b_marks 1 z_14 e_z_14 _ rfl _ rfl) (cV ht mv_X11_deny tb_507 rfl rfl ⟨Nat.le_of_ble_eq_true rfl, Nat.le_of_ble_eq_true rfl⟩) hP hS hX [0] rfl rfl rfl rfl rfl rfl hl.1 rfl (Nat.le_of_ble_eq_true rfl) dX11_train_23 ⟨Nat.le_of_ble_eq_true rfl, Nat.le_of_ble_eq_true rfl⟩ (fun H locs hP hS => ?_)
    have hP : PD D A [bl_X11 cy A_b r_b_trays (A_a 0) r_b_war r_b_draftArmy r_b_draftWar r_b_reader r_b_armyReader r_b_warReader r_b_markedArmies r_b_markedWars r_b_latest r_b_trial r_b_foresight r_b_pairs z_14.2 b_fractionTop b_fractionBottom b_marks, bl_X0 cy A_a a_name a_courage a_weight a_medals a_stood a_fled a_liked a_votes a_count a_living a_pride a_quota a_melted a_lost] H := hP
    obtain ⟨b_15, e_b_15, h⟩ := bi h
    obtain ⟨-, n_b_15, -⟩ := bz_ok e_b_15
    cases h
    subst hW1
    exact W.zret hx hb hr n_b_15 (fun _ ht9 _ => ⟨⟨_, (), rfl, rfl, hPt ht9 hP.1⟩, hS.F ht9⟩) hS.2.2 dX11_train_26
  · have h := ie c_13 h
    refine lv_iload_n hx hb dX11_train_11 rfl (lv_at hl 2 rfl) ?_
    refine lv_iconst (v := 0) hx hb dX11_train_12 (by decide) ?_
    refine lv_bipush (v := 20) hx hb dX11_train_13 (by decide) ?_
    obtain ⟨z_16, e_z_16, h⟩ := bi h
    refine roSi (rest := []) ⟨hx, hb, hml, hown, ht⟩ (c_X11_within l D cy fu  x2 0 20 z_16 e_z_16) (cS ht ms_X11_within tb_504 rfl rfl ⟨Nat.le_of_ble_eq_true rfl, Nat.le_of_ble_eq_true rfl⟩) (P_sub hP.1 [] rfl) hX rfl hl.1 rfl (Nat.le_of_ble_eq_true rfl) dX11_train_15 ⟨Nat.le_of_ble_eq_true rfl, Nat.le_of_ble_eq_true rfl⟩ ?_
    refine lv_if_ne (tgt := 27) hx hb dX11_train_18 (by decide) (fun c_17 => ?_) (fun c_17 => ?_)
    · have h := ie c_17 h
      refine lv_aload_n hx hb dX11_train_27 rfl (lv_at hl 0 rfl) ?_
      refine xget (i := 0) (j := 0) (k := 4) (T := TX11) hx hb ht tb_iX11 hown hX hP.1 rfl rfl rfl (by decide) tb_433 rfl dX11_train_28 ?_
      refine xget (i := 1) (j := 0) (k := 1) (T := TX0) hx hb ht tb_iX0 hown hX hP.1 rfl rfl rfl (by decide) tb_40 rfl dX11_train_31 ?_
      refine lv_iload_n hx hb dX11_train_34 rfl (lv_at hl 1 rfl) ?_
      refine lv_iload_n hx hb dX11_train_35 rfl (lv_at hl 2 rfl) ?_
      obtain ⟨a_courage_18, e_a_courage_18, h⟩ := bi h
      refine xiast (i0 := 1) (j0 := 2) hx hb hX hP hS rfl rfl e_a_courage_18 dX11_train_36 (fun H locs hP hS => ?_)
      have hP : PD D A [bl_X11 cy A_b r_b_trays (A_a 0) r_b_war r_b_draftArmy r_b_draftWar r_b_reader r_b_armyReader r_b_warReader r_b_markedArmies r_b_markedWars r_b_latest r_b_trial r_b_foresight r_b_pairs b_latestStatus b_fractionTop b_fractionBottom b_marks, bl_X0 cy A_a a_name a_courage_18 a_weight a_medals a_stood a_fled a_liked a_votes a_count a_living a_pride a_quota a_melted a_lost] H := hP
      refine lv_aload_n hx hb dX11_train_37 rfl (lv_at hl 0 rfl) ?_
      obtain ⟨z_19, e_z_19, h⟩ := bi h
      refine efVi (rest := []) ⟨hx, hb, hml, hown, ht⟩ (c_X11_allow l D cy fu A_b r_b_trays (A_a 0) r_b_war r_b_draftArmy r_b_draftWar r_b_reader r_b_armyReader r_b_warReader r_b_markedArmies r_b_markedWars r_b_latest r_b_trial r_b_foresight r_b_pairs b_latestStatus b_fractionTop b_fractionBottom b_marks z_19 e_z_19 _ rfl _ rfl) (cV ht mv_X11_allow tb_518 rfl rfl ⟨Nat.le_of_ble_eq_true rfl, Nat.le_of_ble_eq_true rfl⟩) hP hS hX [0] rfl rfl rfl rfl rfl rfl hl.1 rfl (Nat.le_of_ble_eq_true rfl) dX11_train_38 ⟨Nat.le_of_ble_eq_true rfl, Nat.le_of_ble_eq_true rfl⟩ (fun H locs hP hS => ?_)
      have hP : PD D A [bl_X11 cy A_b r_b_trays (A_a 0) r_b_war r_b_draftArmy r_b_draftWar r_b_reader r_b_armyReader r_b_warReader r_b_markedArmies r_b_markedWars r_b_latest r_b_trial r_b_foresight r_b_pairs z_19.2 b_fractionTop b_fractionBottom b_marks, bl_X0 cy A_a a_name a_courage_18 a_weight a_medals a_stood a_fled a_liked a_votes a_count a_living a_pride a_quota a_melted a_lost] H := hP
      obtain ⟨b_20, e_b_20, h⟩ := bi h
      obtain ⟨-, n_b_20, -⟩ := bz_ok e_b_20
      cases h
      subst hW1
      exact W.zret hx hb hr n_b_20 (fun _ ht9 _ => ⟨⟨_, (), rfl, rfl, hPt ht9 hP.1⟩, hS.F ht9⟩) hS.2.2 dX11_train_41
    · have h := it c_17 h
      refine lv_aload_n hx hb dX11_train_21 rfl (lv_at hl 0 rfl) ?_
      refine lv_iconst (v := 1) hx hb dX11_train_22 (by decide) ?_
      obtain ⟨z_21, e_z_21, h⟩ := bi h
      refine efVi (rest := []) ⟨hx, hb, hml, hown, ht⟩ (c_X11_deny l D cy fu A_b r_b_trays (A_a 0) r_b_war r_b_draftArmy r_b_draftWar r_b_reader r_b_armyReader r_b_warReader r_b_markedArmies r_b_markedWars r_b_latest r_b_trial r_b_foresight r_b_pairs b_latestStatus b_fractionTop b_fractionBottom b_marks 1 z_21 e_z_21 _ rfl _ rfl) (cV ht mv_X11_deny tb_507 rfl rfl ⟨Nat.le_of_ble_eq_true rfl, Nat.le_of_ble_eq_true rfl⟩) hP hS hX [0] rfl rfl rfl rfl rfl rfl hl.1 rfl (Nat.le_of_ble_eq_true rfl) dX11_train_23 ⟨Nat.le_of_ble_eq_true rfl, Nat.le_of_ble_eq_true rfl⟩ (fun H locs hP hS => ?_)
      have hP : PD D A [bl_X11 cy A_b r_b_trays (A_a 0) r_b_war r_b_draftArmy r_b_draftWar r_b_reader r_b_armyReader r_b_warReader r_b_markedArmies r_b_markedWars r_b_latest r_b_trial r_b_foresight r_b_pairs z_21.2 b_fractionTop b_fractionBottom b_marks, bl_X0 cy A_a a_name a_courage a_weight a_medals a_stood a_fled a_liked a_votes a_count a_living a_pride a_quota a_melted a_lost] H := hP
      obtain ⟨b_22, e_b_22, h⟩ := bi h
      obtain ⟨-, n_b_22, -⟩ := bz_ok e_b_22
      cases h
      subst hW1
      exact W.zret hx hb hr n_b_22 (fun _ ht9 _ => ⟨⟨_, (), rfl, rfl, hPt ht9 hP.1⟩, hS.F ht9⟩) hS.2.2 dX11_train_26
theorem dX11_weigh_0 : decode cX11_weigh 0 = .ok (.aload_n 0, 1) := by decide +kernel
theorem dX11_weigh_1 : decode cX11_weigh 1 = .ok (.getfield 29, 3) := by decide +kernel
theorem dX11_weigh_4 : decode cX11_weigh 4 = .ok (.iload_n 1, 1) := by decide +kernel
theorem dX11_weigh_5 : decode cX11_weigh 5 = .ok (.invokevirtual 248, 3) := by decide +kernel
theorem dX11_weigh_8 : decode cX11_weigh 8 = .ok (.ifCond .eq 13, 3) := by decide +kernel
theorem dX11_weigh_11 : decode cX11_weigh 11 = .ok (.iload_n 2, 1) := by decide +kernel
theorem dX11_weigh_12 : decode cX11_weigh 12 = .ok (.iconst 0, 1) := by decide +kernel
theorem dX11_weigh_13 : decode cX11_weigh 13 = .ok (.bipush 9, 2) := by decide +kernel
theorem dX11_weigh_15 : decode cX11_weigh 15 = .ok (.invokestatic 115, 3) := by decide +kernel
theorem dX11_weigh_18 : decode cX11_weigh 18 = .ok (.ifCond .ne 9, 3) := by decide +kernel
theorem dX11_weigh_21 : decode cX11_weigh 21 = .ok (.aload_n 0, 1) := by decide +kernel
theorem dX11_weigh_22 : decode cX11_weigh 22 = .ok (.iconst 1, 1) := by decide +kernel
theorem dX11_weigh_23 : decode cX11_weigh 23 = .ok (.invokevirtual 119, 3) := by decide +kernel
theorem dX11_weigh_26 : decode cX11_weigh 26 = .ok (.ireturn, 1) := by decide +kernel
theorem dX11_weigh_27 : decode cX11_weigh 27 = .ok (.aload_n 0, 1) := by decide +kernel
theorem dX11_weigh_28 : decode cX11_weigh 28 = .ok (.getfield 29, 3) := by decide +kernel
theorem dX11_weigh_31 : decode cX11_weigh 31 = .ok (.getfield 254, 3) := by decide +kernel
theorem dX11_weigh_34 : decode cX11_weigh 34 = .ok (.iload_n 1, 1) := by decide +kernel
theorem dX11_weigh_35 : decode cX11_weigh 35 = .ok (.iload_n 2, 1) := by decide +kernel
theorem dX11_weigh_36 : decode cX11_weigh 36 = .ok (.iastore, 1) := by decide +kernel
theorem dX11_weigh_37 : decode cX11_weigh 37 = .ok (.aload_n 0, 1) := by decide +kernel
theorem dX11_weigh_38 : decode cX11_weigh 38 = .ok (.invokevirtual 127, 3) := by decide +kernel
theorem dX11_weigh_41 : decode cX11_weigh 41 = .ok (.ireturn, 1) := by decide +kernel
theorem mv_X11_weigh : MV yX11_weigh RX11 cX11_weigh 3 (some .boolean) 2 := ⟨tb_870, tb_868, tb_869, tb_1, by decide +kernel, by decide +kernel, by decide +kernel⟩
def f_X11_weigh (fu : Nat) (b_latestStatus : Int32) (a_weight : Nat → Int32) (a_count : Int32) (x1 : Int32) (x2 : Int32) : Option (Int32 × Int32 × (Nat → Int32)) := (f_X0_isMan fu a_count x1).bind fun z_12 => (if z_12 = 0 then (f_X11_deny fu b_latestStatus 1).bind fun z_14 => (bz z_14.1).bind fun _ => some (z_14.1, z_14.2, a_weight) else (f_X11_within fu x2 0 9).bind fun z_16 => (if z_16 = 0 then (f_X11_deny fu b_latestStatus 1).bind fun z_21 => (bz z_21.1).bind fun _ => some (z_21.1, z_21.2, a_weight) else (wrI a_weight 8 x1 x2).bind fun a_weight_18 => (f_X11_allow fu b_latestStatus).bind fun z_19 => (bz z_19.1).bind fun _ => some (z_19.1, z_19.2, a_weight_18)))
abbrev rm_X11_weigh : Room := { frames := 1, cells := 0, slots := 0, locals := 22 }
set_option maxHeartbeats 4000000 in
set_option maxRecDepth 100000 in
theorem c_X11_weigh (l : Launch) (D : va_G) (cy : Nat → ClassId) (fu : Nat) (A_b : Nat → Nat) (r_b_trays : Nat) (r_b_war : Nat) (r_b_draftArmy : Nat) (r_b_draftWar : Nat) (r_b_reader : Nat) (r_b_armyReader : Nat) (r_b_warReader : Nat) (r_b_markedArmies : Nat) (r_b_markedWars : Nat) (r_b_latest : Nat) (r_b_trial : Nat) (r_b_foresight : Nat) (r_b_pairs : Nat) (b_latestStatus : Int32) (b_fractionTop : Int64) (b_fractionBottom : Int64) (b_marks : Int32) (A_a : Nat → Nat) (a_name : Nat → Int64) (a_courage : Nat → Int32) (a_weight : Nat → Int32) (a_medals : Nat → Int32) (a_stood : Nat → Int32) (a_fled : Nat → Int32) (a_liked : Nat → Int32) (a_votes : Nat → Int32) (a_count : Int32) (a_living : Int32) (a_pride : Int32) (a_quota : Int32) (a_melted : Int32) (a_lost : Int32) (x1 : Int32) (x2 : Int32) (res : Int32 × Int32 × (Nat → Int32)) (h : f_X11_weigh fu b_latestStatus a_weight a_count x1 x2 = some res) (A : Nat → Prop) (hA : A = adr [bl_X11 cy A_b r_b_trays (A_a 0) r_b_war r_b_draftArmy r_b_draftWar r_b_reader r_b_armyReader r_b_warReader r_b_markedArmies r_b_markedWars r_b_latest r_b_trial r_b_foresight r_b_pairs b_latestStatus b_fractionTop b_fractionBottom b_marks, bl_X0 cy A_a a_name a_courage a_weight a_medals a_stood a_fled a_liked a_votes a_count a_living a_pride a_quota a_melted a_lost]) (W1 : List va_W) (hW1 : W1 = [bl_X11 cy A_b r_b_trays (A_a 0) r_b_war r_b_draftArmy r_b_draftWar r_b_reader r_b_armyReader r_b_warReader r_b_markedArmies r_b_markedWars r_b_latest r_b_trial r_b_foresight r_b_pairs res.2.1 b_fractionTop b_fractionBottom b_marks, bl_X0 cy A_a a_name a_courage res.2.2 a_medals a_stood a_fled a_liked a_votes a_count a_living a_pride a_quota a_melted a_lost]) : Met l yX11_weigh (WW yX11_weigh cX11_weigh 3 (some .boolean)) rm_X11_weigh (Ed D cy [.ref (A_b 0), .int x1, .int x2] [bl_X11 cy A_b r_b_trays (A_a 0) r_b_war r_b_draftArmy r_b_draftWar r_b_reader r_b_armyReader r_b_warReader r_b_markedArmies r_b_markedWars r_b_latest r_b_trial r_b_foresight r_b_pairs b_latestStatus b_fractionTop b_fractionBottom b_marks, bl_X0 cy A_a a_name a_courage a_weight a_medals a_stood a_fled a_liked a_votes a_count a_living a_pride a_quota a_melted a_lost]) (Qei D res.1 A W1) 0 0 A := by
  refine Met.ofW (cc := cX11_weigh) (maxL := 3) (ret := (some .boolean)) (by decide) rfl ?_
  intro p e s m args below meth c s₁ B hml hv
  obtain ⟨hargs, hP, hX, hD0⟩ := hv
  have hx := B.exec
  have hb := B.bytes
  have hr := B.returns
  have ht : ∀ w ∈ lw_gd, w.before args s = true := fun w hw => atoms_spec (ws := WW yX11_weigh cX11_weigh 3 (some .boolean)) B.pre w (List.mem_cons_of_mem _ hw)
  have hown : s.vm.findClass RX11 = some m.cls := findClass_of_methodNamed B.named
  have hlocks := B.notSynchronized
  have hP : PD D A [bl_X11 cy A_b r_b_trays (A_a 0) r_b_war r_b_draftArmy r_b_draftWar r_b_reader r_b_armyReader r_b_warReader r_b_markedArmies r_b_markedWars r_b_latest r_b_trial r_b_foresight r_b_pairs b_latestStatus b_fractionTop b_fractionBottom b_marks, bl_X0 cy A_a a_name a_courage a_weight a_medals a_stood a_fled a_liked a_votes a_count a_living a_pride a_quota a_melted a_lost] s.heap := ⟨hP, by rw [hA]; exact hD0.own⟩
  have hS : va_S A s.heap s.heap [] := va_S.rf
  obtain ⟨ls, hl, hent⟩ := ent (m := m) (n := 3) hargs (Nat.le_of_ble_eq_true rfl) (lv := [(0, .ref (A_b 0)), (1, .int x1), (2, .int x2)]) rfl
  rw [hent]
  clear hent
  unfold f_X11_weigh at h
  refine lv_aload_n hx hb dX11_weigh_0 rfl (lv_at hl 0 rfl) ?_
  refine xget (i := 0) (j := 0) (k := 4) (T := TX11) hx hb ht tb_iX11 hown hX hP.1 rfl rfl rfl (by decide) tb_433 rfl dX11_weigh_1 ?_
  refine lv_iload_n hx hb dX11_weigh_4 rfl (lv_at hl 1 rfl) ?_
  obtain ⟨z_12, e_z_12, h⟩ := bi h
  refine roVi (rest := []) ⟨hx, hb, hml, hown, ht⟩ (c_X0_isMan l D cy fu A_a a_name a_courage a_weight a_medals a_stood a_fled a_liked a_votes a_count a_living a_pride a_quota a_melted a_lost x1 z_12 e_z_12) (cV ht mv_X0_isMan tb_774 rfl rfl ⟨Nat.le_of_ble_eq_true rfl, Nat.le_of_ble_eq_true rfl⟩) (P_sub hP.1 [1] rfl) hX rfl rfl rfl hl.1 rfl (Nat.le_of_ble_eq_true rfl) dX11_weigh_5 ⟨Nat.le_of_ble_eq_true rfl, Nat.le_of_ble_eq_true rfl⟩ ?_
  refine lv_if_eq (tgt := 21) hx hb dX11_weigh_8 (by decide) (fun c_13 => ?_) (fun c_13 => ?_)
  · have h := it c_13 h
    refine lv_aload_n hx hb dX11_weigh_21 rfl (lv_at hl 0 rfl) ?_
    refine lv_iconst (v := 1) hx hb dX11_weigh_22 (by decide) ?_
    obtain ⟨z_14, e_z_14, h⟩ := bi h
    refine efVi (rest := []) ⟨hx, hb, hml, hown, ht⟩ (c_X11_deny l D cy fu A_b r_b_trays (A_a 0) r_b_war r_b_draftArmy r_b_draftWar r_b_reader r_b_armyReader r_b_warReader r_b_markedArmies r_b_markedWars r_b_latest r_b_trial r_b_foresight r_b_pairs b_latestStatus b_fractionTop b_fractionBottom b_marks 1 z_14 e_z_14 _ rfl _ rfl) (cV ht mv_X11_deny tb_507 rfl rfl ⟨Nat.le_of_ble_eq_true rfl, Nat.le_of_ble_eq_true rfl⟩) hP hS hX [0] rfl rfl rfl rfl rfl rfl hl.1 rfl (Nat.le_of_ble_eq_true rfl) dX11_weigh_23 ⟨Nat.le_of_ble_eq_true rfl, Nat.le_of_ble_eq_true rfl⟩ (fun H locs hP hS => ?_)
    have hP : PD D A [bl_X11 cy A_b r_b_trays (A_a 0) r_b_war r_b_draftArmy r_b_draftWar r_b_reader r_b_armyReader r_b_warReader r_b_markedArmies r_b_markedWars r_b_latest r_b_trial r_b_foresight r_b_pairs z_14.2 b_fractionTop b_fractionBottom b_marks, bl_X0 cy A_a a_name a_courage a_weight a_medals a_stood a_fled a_liked a_votes a_count a_living a_pride a_quota a_melted a_lost] H := hP
    obtain ⟨b_15, e_b_15, h⟩ := bi h
    obtain ⟨-, n_b_15, -⟩ := bz_ok e_b_15
    cases h
    subst hW1
    exact W.zret hx hb hr n_b_15 (fun _ ht9 _ => ⟨⟨_, (), rfl, rfl, hPt ht9 hP.1⟩, hS.F ht9⟩) hS.2.2 dX11_weigh_26
  · have h := ie c_13 h
    refine lv_iload_n hx hb dX11_weigh_11 rfl (lv_at hl 2 rfl) ?_
    refine lv_iconst (v := 0) hx hb dX11_weigh_12 (by decide) ?_
    refine lv_bipush (v := 9) hx hb dX11_weigh_13 (by decide) ?_
    obtain ⟨z_16, e_z_16, h⟩ := bi h
    refine roSi (rest := []) ⟨hx, hb, hml, hown, ht⟩ (c_X11_within l D cy fu  x2 0 9 z_16 e_z_16) (cS ht ms_X11_within tb_504 rfl rfl ⟨Nat.le_of_ble_eq_true rfl, Nat.le_of_ble_eq_true rfl⟩) (P_sub hP.1 [] rfl) hX rfl hl.1 rfl (Nat.le_of_ble_eq_true rfl) dX11_weigh_15 ⟨Nat.le_of_ble_eq_true rfl, Nat.le_of_ble_eq_true rfl⟩ ?_
    refine lv_if_ne (tgt := 27) hx hb dX11_weigh_18 (by decide) (fun c_17 => ?_) (fun c_17 => ?_)
    · have h := ie c_17 h
      refine lv_aload_n hx hb dX11_weigh_27 rfl (lv_at hl 0 rfl) ?_
      refine xget (i := 0) (j := 0) (k := 4) (T := TX11) hx hb ht tb_iX11 hown hX hP.1 rfl rfl rfl (by decide) tb_433 rfl dX11_weigh_28 ?_
      refine xget (i := 1) (j := 0) (k := 2) (T := TX0) hx hb ht tb_iX0 hown hX hP.1 rfl rfl rfl (by decide) tb_42 rfl dX11_weigh_31 ?_
      refine lv_iload_n hx hb dX11_weigh_34 rfl (lv_at hl 1 rfl) ?_
      refine lv_iload_n hx hb dX11_weigh_35 rfl (lv_at hl 2 rfl) ?_
      obtain ⟨a_weight_18, e_a_weight_18, h⟩ := bi h
      refine xiast (i0 := 1) (j0 := 3) hx hb hX hP hS rfl rfl e_a_weight_18 dX11_weigh_36 (fun H locs hP hS => ?_)
      have hP : PD D A [bl_X11 cy A_b r_b_trays (A_a 0) r_b_war r_b_draftArmy r_b_draftWar r_b_reader r_b_armyReader r_b_warReader r_b_markedArmies r_b_markedWars r_b_latest r_b_trial r_b_foresight r_b_pairs b_latestStatus b_fractionTop b_fractionBottom b_marks, bl_X0 cy A_a a_name a_courage a_weight_18 a_medals a_stood a_fled a_liked a_votes a_count a_living a_pride a_quota a_melted a_lost] H := hP
      refine lv_aload_n hx hb dX11_weigh_37 rfl (lv_at hl 0 rfl) ?_
      obtain ⟨z_19, e_z_19, h⟩ := bi h
      refine efVi (rest := []) ⟨hx, hb, hml, hown, ht⟩ (c_X11_allow l D cy fu A_b r_b_trays (A_a 0) r_b_war r_b_draftArmy r_b_draftWar r_b_reader r_b_armyReader r_b_warReader r_b_markedArmies r_b_markedWars r_b_latest r_b_trial r_b_foresight r_b_pairs b_latestStatus b_fractionTop b_fractionBottom b_marks z_19 e_z_19 _ rfl _ rfl) (cV ht mv_X11_allow tb_518 rfl rfl ⟨Nat.le_of_ble_eq_true rfl, Nat.le_of_ble_eq_true rfl⟩) hP hS hX [0] rfl rfl rfl rfl rfl rfl hl.1 rfl (Nat.le_of_ble_eq_true rfl) dX11_weigh_38 ⟨Nat.le_of_ble_eq_true rfl, Nat.le_of_ble_eq_true rfl⟩ (fun H locs hP hS => ?_)
      have hP : PD D A [bl_X11 cy A_b r_b_trays (A_a 0) r_b_war r_b_draftArmy r_b_draftWar r_b_reader r_b_armyReader r_b_warReader r_b_markedArmies r_b_markedWars r_b_latest r_b_trial r_b_foresight r_b_pairs z_19.2 b_fractionTop b_fractionBottom b_marks, bl_X0 cy A_a a_name a_courage a_weight_18 a_medals a_stood a_fled a_liked a_votes a_count a_living a_pride a_quota a_melted a_lost] H := hP
      obtain ⟨b_20, e_b_20, h⟩ := bi h
      obtain ⟨-, n_b_20, -⟩ := bz_ok e_b_20
      cases h
      subst hW1
      exact W.zret hx hb hr n_b_20 (fun _ ht9 _ => ⟨⟨_, (), rfl, rfl, hPt ht9 hP.1⟩, hS.F ht9⟩) hS.2.2 dX11_weigh_41
    · have h := it c_17 h
      refine lv_aload_n hx hb dX11_weigh_21 rfl (lv_at hl 0 rfl) ?_
      refine lv_iconst (v := 1) hx hb dX11_weigh_22 (by decide) ?_
      obtain ⟨z_21, e_z_21, h⟩ := bi h
      refine efVi (rest := []) ⟨hx, hb, hml, hown, ht⟩ (c_X11_deny l D cy fu A_b r_b_trays (A_a 0) r_b_war r_b_draftArmy r_b_draftWar r_b_reader r_b_armyReader r_b_warReader r_b_markedArmies r_b_markedWars r_b_latest r_b_trial r_b_foresight r_b_pairs b_latestStatus b_fractionTop b_fractionBottom b_marks 1 z_21 e_z_21 _ rfl _ rfl) (cV ht mv_X11_deny tb_507 rfl rfl ⟨Nat.le_of_ble_eq_true rfl, Nat.le_of_ble_eq_true rfl⟩) hP hS hX [0] rfl rfl rfl rfl rfl rfl hl.1 rfl (Nat.le_of_ble_eq_true rfl) dX11_weigh_23 ⟨Nat.le_of_ble_eq_true rfl, Nat.le_of_ble_eq_true rfl⟩ (fun H locs hP hS => ?_)
      have hP : PD D A [bl_X11 cy A_b r_b_trays (A_a 0) r_b_war r_b_draftArmy r_b_draftWar r_b_reader r_b_armyReader r_b_warReader r_b_markedArmies r_b_markedWars r_b_latest r_b_trial r_b_foresight r_b_pairs z_21.2 b_fractionTop b_fractionBottom b_marks, bl_X0 cy A_a a_name a_courage a_weight a_medals a_stood a_fled a_liked a_votes a_count a_living a_pride a_quota a_melted a_lost] H := hP
      obtain ⟨b_22, e_b_22, h⟩ := bi h
      obtain ⟨-, n_b_22, -⟩ := bz_ok e_b_22
      cases h
      subst hW1
      exact W.zret hx hb hr n_b_22 (fun _ ht9 _ => ⟨⟨_, (), rfl, rfl, hPt ht9 hP.1⟩, hS.F ht9⟩) hS.2.2 dX11_weigh_26
theorem dX11_charm_0 : decode cX11_charm 0 = .ok (.aload_n 0, 1) := by decide +kernel
theorem dX11_charm_1 : decode cX11_charm 1 = .ok (.getfield 29, 3) := by decide +kernel
theorem dX11_charm_4 : decode cX11_charm 4 = .ok (.iload_n 1, 1) := by decide +kernel
theorem dX11_charm_5 : decode cX11_charm 5 = .ok (.invokevirtual 248, 3) := by decide +kernel
theorem dX11_charm_8 : decode cX11_charm 8 = .ok (.ifCond .eq 24, 3) := by decide +kernel
theorem dX11_charm_11 : decode cX11_charm 11 = .ok (.aload_n 0, 1) := by decide +kernel
theorem dX11_charm_12 : decode cX11_charm 12 = .ok (.getfield 29, 3) := by decide +kernel
theorem dX11_charm_15 : decode cX11_charm 15 = .ok (.iload_n 2, 1) := by decide +kernel
theorem dX11_charm_16 : decode cX11_charm 16 = .ok (.invokevirtual 248, 3) := by decide +kernel
theorem dX11_charm_19 : decode cX11_charm 19 = .ok (.ifCond .eq 13, 3) := by decide +kernel
theorem dX11_charm_22 : decode cX11_charm 22 = .ok (.iload_n 3, 1) := by decide +kernel
theorem dX11_charm_23 : decode cX11_charm 23 = .ok (.iconst 0, 1) := by decide +kernel
theorem dX11_charm_24 : decode cX11_charm 24 = .ok (.bipush 9, 2) := by decide +kernel
theorem dX11_charm_26 : decode cX11_charm 26 = .ok (.invokestatic 115, 3) := by decide +kernel
theorem dX11_charm_29 : decode cX11_charm 29 = .ok (.ifCond .ne 9, 3) := by decide +kernel
theorem dX11_charm_32 : decode cX11_charm 32 = .ok (.aload_n 0, 1) := by decide +kernel
theorem dX11_charm_33 : decode cX11_charm 33 = .ok (.iconst 1, 1) := by decide +kernel
theorem dX11_charm_34 : decode cX11_charm 34 = .ok (.invokevirtual 119, 3) := by decide +kernel
theorem dX11_charm_37 : decode cX11_charm 37 = .ok (.ireturn, 1) := by decide +kernel
theorem dX11_charm_38 : decode cX11_charm 38 = .ok (.iload_n 1, 1) := by decide +kernel
theorem dX11_charm_39 : decode cX11_charm 39 = .ok (.iload_n 2, 1) := by decide +kernel
theorem dX11_charm_40 : decode cX11_charm 40 = .ok (.if_icmp .ne 10, 3) := by decide +kernel
theorem dX11_charm_43 : decode cX11_charm 43 = .ok (.aload_n 0, 1) := by decide +kernel
theorem dX11_charm_44 : decode cX11_charm 44 = .ok (.bipush 7, 2) := by decide +kernel
theorem dX11_charm_46 : decode cX11_charm 46 = .ok (.invokevirtual 119, 3) := by decide +kernel
theorem dX11_charm_49 : decode cX11_charm 49 = .ok (.ireturn, 1) := by decide +kernel
theorem dX11_charm_50 : decode cX11_charm 50 = .ok (.aload_n 0, 1) := by decide +kernel
theorem dX11_charm_51 : decode cX11_charm 51 = .ok (.getfield 29, 3) := by decide +kernel
theorem dX11_charm_54 : decode cX11_charm 54 = .ok (.iload_n 1, 1) := by decide +kernel
theorem dX11_charm_55 : decode cX11_charm 55 = .ok (.iload_n 2, 1) := by decide +kernel
theorem dX11_charm_56 : decode cX11_charm 56 = .ok (.iload_n 3, 1) := by decide +kernel
theorem dX11_charm_57 : decode cX11_charm 57 = .ok (.invokevirtual 290, 3) := by decide +kernel
theorem dX11_charm_60 : decode cX11_charm 60 = .ok (.aload_n 0, 1) := by decide +kernel
theorem dX11_charm_61 : decode cX11_charm 61 = .ok (.invokevirtual 127, 3) := by decide +kernel
theorem dX11_charm_64 : decode cX11_charm 64 = .ok (.ireturn, 1) := by decide +kernel
theorem mv_X11_charm : MV yX11_charm RX11 cX11_charm 4 (some .boolean) 3 := ⟨tb_874, tb_872, tb_873, tb_1, by decide +kernel, by decide +kernel, by decide +kernel⟩
def f_X11_charm (fu : Nat) (b_latestStatus : Int32) (a_liked : Nat → Int32) (a_count : Int32) (x1 : Int32) (x2 : Int32) (x3 : Int32) : Option (Int32 × Int32 × (Nat → Int32)) := (f_X0_isMan fu a_count x1).bind fun z_19 => (if z_19 = 0 then (f_X11_deny fu b_latestStatus 1).bind fun z_21 => (bz z_21.1).bind fun _ => some (z_21.1, z_21.2, a_liked) else (f_X0_isMan fu a_count x2).bind fun z_23 => (if z_23 = 0 then (f_X11_deny fu b_latestStatus 1).bind fun z_25 => (bz z_25.1).bind fun _ => some (z_25.1, z_25.2, a_liked) else (f_X11_within fu x3 0 9).bind fun z_27 => (if z_27 = 0 then (f_X11_deny fu b_latestStatus 1).bind fun z_35 => (bz z_35.1).bind fun _ => some (z_35.1, z_35.2, a_liked) else (if x1 = x2 then (f_X11_deny fu b_latestStatus 7).bind fun z_33 => (bz z_33.1).bind fun _ => some (z_33.1, z_33.2, a_liked) else (f_X0_setLiking fu a_liked a_count x1 x2 x3).bind fun z_30 => (f_X11_allow fu b_latestStatus).bind fun z_31 => (bz z_31.1).bind fun _ => some (z_31.1, z_31.2, z_30)))))
abbrev rm_X11_charm : Room := { frames := 2, cells := 0, slots := 0, locals := 44 }
set_option maxHeartbeats 4000000 in
set_option maxRecDepth 100000 in
theorem c_X11_charm (l : Launch) (D : va_G) (cy : Nat → ClassId) (fu : Nat) (A_b : Nat → Nat) (r_b_trays : Nat) (r_b_war : Nat) (r_b_draftArmy : Nat) (r_b_draftWar : Nat) (r_b_reader : Nat) (r_b_armyReader : Nat) (r_b_warReader : Nat) (r_b_markedArmies : Nat) (r_b_markedWars : Nat) (r_b_latest : Nat) (r_b_trial : Nat) (r_b_foresight : Nat) (r_b_pairs : Nat) (b_latestStatus : Int32) (b_fractionTop : Int64) (b_fractionBottom : Int64) (b_marks : Int32) (A_a : Nat → Nat) (a_name : Nat → Int64) (a_courage : Nat → Int32) (a_weight : Nat → Int32) (a_medals : Nat → Int32) (a_stood : Nat → Int32) (a_fled : Nat → Int32) (a_liked : Nat → Int32) (a_votes : Nat → Int32) (a_count : Int32) (a_living : Int32) (a_pride : Int32) (a_quota : Int32) (a_melted : Int32) (a_lost : Int32) (x1 : Int32) (x2 : Int32) (x3 : Int32) (res : Int32 × Int32 × (Nat → Int32)) (h : f_X11_charm fu b_latestStatus a_liked a_count x1 x2 x3 = some res) (A : Nat → Prop) (hA : A = adr [bl_X11 cy A_b r_b_trays (A_a 0) r_b_war r_b_draftArmy r_b_draftWar r_b_reader r_b_armyReader r_b_warReader r_b_markedArmies r_b_markedWars r_b_latest r_b_trial r_b_foresight r_b_pairs b_latestStatus b_fractionTop b_fractionBottom b_marks, bl_X0 cy A_a a_name a_courage a_weight a_medals a_stood a_fled a_liked a_votes a_count a_living a_pride a_quota a_melted a_lost]) (W1 : List va_W) (hW1 : W1 = [bl_X11 cy A_b r_b_trays (A_a 0) r_b_war r_b_draftArmy r_b_draftWar r_b_reader r_b_armyReader r_b_warReader r_b_markedArmies r_b_markedWars r_b_latest r_b_trial r_b_foresight r_b_pairs res.2.1 b_fractionTop b_fractionBottom b_marks, bl_X0 cy A_a a_name a_courage a_weight a_medals a_stood a_fled res.2.2 a_votes a_count a_living a_pride a_quota a_melted a_lost]) : Met l yX11_charm (WW yX11_charm cX11_charm 4 (some .boolean)) rm_X11_charm (Ed D cy [.ref (A_b 0), .int x1, .int x2, .int x3] [bl_X11 cy A_b r_b_trays (A_a 0) r_b_war r_b_draftArmy r_b_draftWar r_b_reader r_b_armyReader r_b_warReader r_b_markedArmies r_b_markedWars r_b_latest r_b_trial r_b_foresight r_b_pairs b_latestStatus b_fractionTop b_fractionBottom b_marks, bl_X0 cy A_a a_name a_courage a_weight a_medals a_stood a_fled a_liked a_votes a_count a_living a_pride a_quota a_melted a_lost]) (Qei D res.1 A W1) 0 0 A := by
  refine Met.ofW (cc := cX11_charm) (maxL := 4) (ret := (some .boolean)) (by decide) rfl ?_
  intro p e s m args below meth c s₁ B hml hv
  obtain ⟨hargs, hP, hX, hD0⟩ := hv
  have hx := B.exec
  have hb := B.bytes
  have hr := B.returns
  have ht : ∀ w ∈ lw_gd, w.before args s = true := fun w hw => atoms_spec (ws := WW yX11_charm cX11_charm 4 (some .boolean)) B.pre w (List.mem_cons_of_mem _ hw)
  have hown : s.vm.findClass RX11 = some m.cls := findClass_of_methodNamed B.named
  have hlocks := B.notSynchronized
  have hP : PD D A [bl_X11 cy A_b r_b_trays (A_a 0) r_b_war r_b_draftArmy r_b_draftWar r_b_reader r_b_armyReader r_b_warReader r_b_markedArmies r_b_markedWars r_b_latest r_b_trial r_b_foresight r_b_pairs b_latestStatus b_fractionTop b_fractionBottom b_marks, bl_X0 cy A_a a_name a_courage a_weight a_medals a_stood a_fled a_liked a_votes a_count a_living a_pride a_quota a_melted a_lost] s.heap := ⟨hP, by rw [hA]; exact hD0.own⟩
  have hS : va_S A s.heap s.heap [] := va_S.rf
  obtain ⟨ls, hl, hent⟩ := ent (m := m) (n := 4) hargs (Nat.le_of_ble_eq_true rfl) (lv := [(0, .ref (A_b 0)), (1, .int x1), (2, .int x2), (3, .int x3)]) rfl
  rw [hent]
  clear hent
  unfold f_X11_charm at h
  refine lv_aload_n hx hb dX11_charm_0 rfl (lv_at hl 0 rfl) ?_
  refine xget (i := 0) (j := 0) (k := 4) (T := TX11) hx hb ht tb_iX11 hown hX hP.1 rfl rfl rfl (by decide) tb_433 rfl dX11_charm_1 ?_
  refine lv_iload_n hx hb dX11_charm_4 rfl (lv_at hl 1 rfl) ?_
  obtain ⟨z_19, e_z_19, h⟩ := bi h
  refine roVi (rest := []) ⟨hx, hb, hml, hown, ht⟩ (c_X0_isMan l D cy fu A_a a_name a_courage a_weight a_medals a_stood a_fled a_liked a_votes a_count a_living a_pride a_quota a_melted a_lost x1 z_19 e_z_19) (cV ht mv_X0_isMan tb_774 rfl rfl ⟨Nat.le_of_ble_eq_true rfl, Nat.le_of_ble_eq_true rfl⟩) (P_sub hP.1 [1] rfl) hX rfl rfl rfl hl.1 rfl (Nat.le_of_ble_eq_true rfl) dX11_charm_5 ⟨Nat.le_of_ble_eq_true rfl, Nat.le_of_ble_eq_true rfl⟩ ?_
  refine lv_if_eq (tgt := 32) hx hb dX11_charm_8 (by decide) (fun c_20 => ?_) (fun c_20 => ?_)
  · have h := it c_20 h
    refine lv_aload_n hx hb dX11_charm_32 rfl (lv_at hl 0 rfl) ?_
    refine lv_iconst (v := 1) hx hb dX11_charm_33 (by decide) ?_
    obtain ⟨z_21, e_z_21, h⟩ := bi h
    refine efVi (rest := []) ⟨hx, hb, hml, hown, ht⟩ (c_X11_deny l D cy fu A_b r_b_trays (A_a 0) r_b_war r_b_draftArmy r_b_draftWar r_b_reader r_b_armyReader r_b_warReader r_b_markedArmies r_b_markedWars r_b_latest r_b_trial r_b_foresight r_b_pairs b_latestStatus b_fractionTop b_fractionBottom b_marks 1 z_21 e_z_21 _ rfl _ rfl) (cV ht mv_X11_deny tb_507 rfl rfl ⟨Nat.le_of_ble_eq_true rfl, Nat.le_of_ble_eq_true rfl⟩) hP hS hX [0] rfl rfl rfl rfl rfl rfl hl.1 rfl (Nat.le_of_ble_eq_true rfl) dX11_charm_34 ⟨Nat.le_of_ble_eq_true rfl, Nat.le_of_ble_eq_true rfl⟩ (fun H locs hP hS => ?_)
    have hP : PD D A [bl_X11 cy A_b r_b_trays (A_a 0) r_b_war r_b_draftArmy r_b_draftWar r_b_reader r_b_armyReader r_b_warReader r_b_markedArmies r_b_markedWars r_b_latest r_b_trial r_b_foresight r_b_pairs z_21.2 b_fractionTop b_fractionBottom b_marks, bl_X0 cy A_a a_name a_courage a_weight a_medals a_stood a_fled a_liked a_votes a_count a_living a_pride a_quota a_melted a_lost] H := hP
    obtain ⟨b_22, e_b_22, h⟩ := bi h
    obtain ⟨-, n_b_22, -⟩ := bz_ok e_b_22
    cases h
    subst hW1
    exact W.zret hx hb hr n_b_22 (fun _ ht9 _ => ⟨⟨_, (), rfl, rfl, hPt ht9 hP.1⟩, hS.F ht9⟩) hS.2.2 dX11_charm_37
  · have h := ie c_20 h
    refine lv_aload_n hx hb dX11_charm_11 rfl (lv_at hl 0 rfl) ?_
    refine xget (i := 0) (j := 0) (k := 4) (T := TX11) hx hb ht tb_iX11 hown hX hP.1 rfl rfl rfl (by decide) tb_433 rfl dX11_charm_12 ?_
    refine lv_iload_n hx hb dX11_charm_15 rfl (lv_at hl 2 rfl) ?_
    obtain ⟨z_23, e_z_23, h⟩ := bi h
    refine roVi (rest := []) ⟨hx, hb, hml, hown, ht⟩ (c_X0_isMan l D cy fu A_a a_name a_courage a_weight a_medals a_stood a_fled a_liked a_votes a_count a_living a_pride a_quota a_melted a_lost x2 z_23 e_z_23) (cV ht mv_X0_isMan tb_774 rfl rfl ⟨Nat.le_of_ble_eq_true rfl, Nat.le_of_ble_eq_true rfl⟩) (P_sub hP.1 [1] rfl) hX rfl rfl rfl hl.1 rfl (Nat.le_of_ble_eq_true rfl) dX11_charm_16 ⟨Nat.le_of_ble_eq_true rfl, Nat.le_of_ble_eq_true rfl⟩ ?_
    refine lv_if_eq (tgt := 32) hx hb dX11_charm_19 (by decide) (fun c_24 => ?_) (fun c_24 => ?_)
    · have h := it c_24 h
      refine lv_aload_n hx hb dX11_charm_32 rfl (lv_at hl 0 rfl) ?_
      refine lv_iconst (v := 1) hx hb dX11_charm_33 (by decide) ?_
      obtain ⟨z_25, e_z_25, h⟩ := bi h
      refine efVi (rest := []) ⟨hx, hb, hml, hown, ht⟩ (c_X11_deny l D cy fu A_b r_b_trays (A_a 0) r_b_war r_b_draftArmy r_b_draftWar r_b_reader r_b_armyReader r_b_warReader r_b_markedArmies r_b_markedWars r_b_latest r_b_trial r_b_foresight r_b_pairs b_latestStatus b_fractionTop b_fractionBottom b_marks 1 z_25 e_z_25 _ rfl _ rfl) (cV ht mv_X11_deny tb_507 rfl rfl ⟨Nat.le_of_ble_eq_true rfl, Nat.le_of_ble_eq_true rfl⟩) hP hS hX [0] rfl rfl rfl rfl rfl rfl hl.1 rfl (Nat.le_of_ble_eq_true rfl) dX11_charm_34 ⟨Nat.le_of_ble_eq_true rfl, Nat.le_of_ble_eq_true rfl⟩ (fun H locs hP hS => ?_)
      have hP : PD D A [bl_X11 cy A_b r_b_trays (A_a 0) r_b_war r_b_draftArmy r_b_draftWar r_b_reader r_b_armyReader r_b_warReader r_b_markedArmies r_b_markedWars r_b_latest r_b_trial r_b_foresight r_b_pairs z_25.2 b_fractionTop b_fractionBottom b_marks, bl_X0 cy A_a a_name a_courage a_weight a_medals a_stood a_fled a_liked a_votes a_count a_living a_pride a_quota a_melted a_lost] H := hP
      obtain ⟨b_26, e_b_26, h⟩ := bi h
      obtain ⟨-, n_b_26, -⟩ := bz_ok e_b_26
      cases h
      subst hW1
      exact W.zret hx hb hr n_b_26 (fun _ ht9 _ => ⟨⟨_, (), rfl, rfl, hPt ht9 hP.1⟩, hS.F ht9⟩) hS.2.2 dX11_charm_37
    · have h := ie c_24 h
      refine lv_iload_n hx hb dX11_charm_22 rfl (lv_at hl 3 rfl) ?_
      refine lv_iconst (v := 0) hx hb dX11_charm_23 (by decide) ?_
      refine lv_bipush (v := 9) hx hb dX11_charm_24 (by decide) ?_
      obtain ⟨z_27, e_z_27, h⟩ := bi h
      refine roSi (rest := []) ⟨hx, hb, hml, hown, ht⟩ (c_X11_within l D cy fu  x3 0 9 z_27 e_z_27) (cS ht ms_X11_within tb_504 rfl rfl ⟨Nat.le_of_ble_eq_true rfl, Nat.le_of_ble_eq_true rfl⟩) (P_sub hP.1 [] rfl) hX rfl hl.1 rfl (Nat.le_of_ble_eq_true rfl) dX11_charm_26 ⟨Nat.le_of_ble_eq_true rfl, Nat.le_of_ble_eq_true rfl⟩ ?_
      refine lv_if_ne (tgt := 38) hx hb dX11_charm_29 (by decide) (fun c_28 => ?_) (fun c_28 => ?_)
      · have h := ie c_28 h
        refine lv_iload_n hx hb dX11_charm_38 rfl (lv_at hl 1 rfl) ?_
        refine lv_iload_n hx hb dX11_charm_39 rfl (lv_at hl 2 rfl) ?_
        refine lv_icmp_ne (tgt := 50) hx hb dX11_charm_40 (by decide) (fun c_29 => ?_) (fun c_29 => ?_)
        · have h := ie c_29 h
          refine lv_aload_n hx hb dX11_charm_50 rfl (lv_at hl 0 rfl) ?_
          refine xget (i := 0) (j := 0) (k := 4) (T := TX11) hx hb ht tb_iX11 hown hX hP.1 rfl rfl rfl (by decide) tb_433 rfl dX11_charm_51 ?_
          refine lv_iload_n hx hb dX11_charm_54 rfl (lv_at hl 1 rfl) ?_
          refine lv_iload_n hx hb dX11_charm_55 rfl (lv_at hl 2 rfl) ?_
          refine lv_iload_n hx hb dX11_charm_56 rfl (lv_at hl 3 rfl) ?_
          obtain ⟨z_30, e_z_30, h⟩ := bi h
          refine efVv (rest := []) ⟨hx, hb, hml, hown, ht⟩ (c_X0_setLiking l D cy fu A_a a_name a_courage a_weight a_medals a_stood a_fled a_liked a_votes a_count a_living a_pride a_quota a_melted a_lost x1 x2 x3 z_30 e_z_30 _ rfl _ rfl) (cV ht mv_X0_setLiking tb_875 rfl rfl ⟨Nat.le_of_ble_eq_true rfl, Nat.le_of_ble_eq_true rfl⟩) hP hS hX [1] rfl rfl rfl rfl rfl rfl hl.1 rfl (Nat.le_of_ble_eq_true rfl) dX11_charm_57 ⟨Nat.le_of_ble_eq_true rfl, Nat.le_of_ble_eq_true rfl⟩ (fun H locs hP hS => ?_)
          have hP : PD D A [bl_X11 cy A_b r_b_trays (A_a 0) r_b_war r_b_draftArmy r_b_draftWar r_b_reader r_b_armyReader r_b_warReader r_b_markedArmies r_b_markedWars r_b_latest r_b_trial r_b_foresight r_b_pairs b_latestStatus b_fractionTop b_fractionBottom b_marks, bl_X0 cy A_a a_name a_courage a_weight a_medals a_stood a_fled z_30 a_votes a_count a_living a_pride a_quota a_melted a_lost] H := hP
          refine lv_aload_n hx hb dX11_charm_60 rfl (lv_at hl 0 rfl) ?_
          obtain ⟨z_31, e_z_31, h⟩ := bi h
          refine efVi (rest := []) ⟨hx, hb, hml, hown, ht⟩ (c_X11_allow l D cy fu A_b r_b_trays (A_a 0) r_b_war r_b_draftArmy r_b_draftWar r_b_reader r_b_armyReader r_b_warReader r_b_markedArmies r_b_markedWars r_b_latest r_b_trial r_b_foresight r_b_pairs b_latestStatus b_fractionTop b_fractionBottom b_marks z_31 e_z_31 _ rfl _ rfl) (cV ht mv_X11_allow tb_518 rfl rfl ⟨Nat.le_of_ble_eq_true rfl, Nat.le_of_ble_eq_true rfl⟩) hP hS hX [0] rfl rfl rfl rfl rfl rfl hl.1 rfl (Nat.le_of_ble_eq_true rfl) dX11_charm_61 ⟨Nat.le_of_ble_eq_true rfl, Nat.le_of_ble_eq_true rfl⟩ (fun H locs hP hS => ?_)
          have hP : PD D A [bl_X11 cy A_b r_b_trays (A_a 0) r_b_war r_b_draftArmy r_b_draftWar r_b_reader r_b_armyReader r_b_warReader r_b_markedArmies r_b_markedWars r_b_latest r_b_trial r_b_foresight r_b_pairs z_31.2 b_fractionTop b_fractionBottom b_marks, bl_X0 cy A_a a_name a_courage a_weight a_medals a_stood a_fled z_30 a_votes a_count a_living a_pride a_quota a_melted a_lost] H := hP
          obtain ⟨b_32, e_b_32, h⟩ := bi h
          obtain ⟨-, n_b_32, -⟩ := bz_ok e_b_32
          cases h
          subst hW1
          exact W.zret hx hb hr n_b_32 (fun _ ht9 _ => ⟨⟨_, (), rfl, rfl, hPt ht9 hP.1⟩, hS.F ht9⟩) hS.2.2 dX11_charm_64
        · have h := it c_29 h
          refine lv_aload_n hx hb dX11_charm_43 rfl (lv_at hl 0 rfl) ?_
          refine lv_bipush (v := 7) hx hb dX11_charm_44 (by decide) ?_
          obtain ⟨z_33, e_z_33, h⟩ := bi h
          refine efVi (rest := []) ⟨hx, hb, hml, hown, ht⟩ (c_X11_deny l D cy fu A_b r_b_trays (A_a 0) r_b_war r_b_draftArmy r_b_draftWar r_b_reader r_b_armyReader r_b_warReader r_b_markedArmies r_b_markedWars r_b_latest r_b_trial r_b_foresight r_b_pairs b_latestStatus b_fractionTop b_fractionBottom b_marks 7 z_33 e_z_33 _ rfl _ rfl) (cV ht mv_X11_deny tb_507 rfl rfl ⟨Nat.le_of_ble_eq_true rfl, Nat.le_of_ble_eq_true rfl⟩) hP hS hX [0] rfl rfl rfl rfl rfl rfl hl.1 rfl (Nat.le_of_ble_eq_true rfl) dX11_charm_46 ⟨Nat.le_of_ble_eq_true rfl, Nat.le_of_ble_eq_true rfl⟩ (fun H locs hP hS => ?_)
          have hP : PD D A [bl_X11 cy A_b r_b_trays (A_a 0) r_b_war r_b_draftArmy r_b_draftWar r_b_reader r_b_armyReader r_b_warReader r_b_markedArmies r_b_markedWars r_b_latest r_b_trial r_b_foresight r_b_pairs z_33.2 b_fractionTop b_fractionBottom b_marks, bl_X0 cy A_a a_name a_courage a_weight a_medals a_stood a_fled a_liked a_votes a_count a_living a_pride a_quota a_melted a_lost] H := hP
          obtain ⟨b_34, e_b_34, h⟩ := bi h
          obtain ⟨-, n_b_34, -⟩ := bz_ok e_b_34
          cases h
          subst hW1
          exact W.zret hx hb hr n_b_34 (fun _ ht9 _ => ⟨⟨_, (), rfl, rfl, hPt ht9 hP.1⟩, hS.F ht9⟩) hS.2.2 dX11_charm_49
      · have h := it c_28 h
        refine lv_aload_n hx hb dX11_charm_32 rfl (lv_at hl 0 rfl) ?_
        refine lv_iconst (v := 1) hx hb dX11_charm_33 (by decide) ?_
        obtain ⟨z_35, e_z_35, h⟩ := bi h
        refine efVi (rest := []) ⟨hx, hb, hml, hown, ht⟩ (c_X11_deny l D cy fu A_b r_b_trays (A_a 0) r_b_war r_b_draftArmy r_b_draftWar r_b_reader r_b_armyReader r_b_warReader r_b_markedArmies r_b_markedWars r_b_latest r_b_trial r_b_foresight r_b_pairs b_latestStatus b_fractionTop b_fractionBottom b_marks 1 z_35 e_z_35 _ rfl _ rfl) (cV ht mv_X11_deny tb_507 rfl rfl ⟨Nat.le_of_ble_eq_true rfl, Nat.le_of_ble_eq_true rfl⟩) hP hS hX [0] rfl rfl rfl rfl rfl rfl hl.1 rfl (Nat.le_of_ble_eq_true rfl) dX11_charm_34 ⟨Nat.le_of_ble_eq_true rfl, Nat.le_of_ble_eq_true rfl⟩ (fun H locs hP hS => ?_)
        have hP : PD D A [bl_X11 cy A_b r_b_trays (A_a 0) r_b_war r_b_draftArmy r_b_draftWar r_b_reader r_b_armyReader r_b_warReader r_b_markedArmies r_b_markedWars r_b_latest r_b_trial r_b_foresight r_b_pairs z_35.2 b_fractionTop b_fractionBottom b_marks, bl_X0 cy A_a a_name a_courage a_weight a_medals a_stood a_fled a_liked a_votes a_count a_living a_pride a_quota a_melted a_lost] H := hP
        obtain ⟨b_36, e_b_36, h⟩ := bi h
        obtain ⟨-, n_b_36, -⟩ := bz_ok e_b_36
        cases h
        subst hW1
        exact W.zret hx hb hr n_b_36 (fun _ ht9 _ => ⟨⟨_, (), rfl, rfl, hPt ht9 hP.1⟩, hS.F ht9⟩) hS.2.2 dX11_charm_37
theorem dX11_rule_0 : decode cX11_rule 0 = .ok (.iload_n 1, 1) := by decide +kernel
theorem dX11_rule_1 : decode cX11_rule 1 = .ok (.iconst 1, 1) := by decide +kernel
theorem dX11_rule_2 : decode cX11_rule 2 = .ok (.if_icmp .ne 26, 3) := by decide +kernel
theorem dX11_rule_5 : decode cX11_rule 5 = .ok (.iload_n 2, 1) := by decide +kernel
theorem dX11_rule_6 : decode cX11_rule 6 = .ok (.iconst 0, 1) := by decide +kernel
theorem dX11_rule_7 : decode cX11_rule 7 = .ok (.bipush 9, 2) := by decide +kernel
theorem dX11_rule_9 : decode cX11_rule 9 = .ok (.invokestatic 115, 3) := by decide +kernel
theorem dX11_rule_12 : decode cX11_rule 12 = .ok (.ifCond .eq 16, 3) := by decide +kernel
theorem dX11_rule_15 : decode cX11_rule 15 = .ok (.aload_n 0, 1) := by decide +kernel
theorem dX11_rule_16 : decode cX11_rule 16 = .ok (.getfield 29, 3) := by decide +kernel
theorem dX11_rule_19 : decode cX11_rule 19 = .ok (.iload_n 2, 1) := by decide +kernel
theorem dX11_rule_20 : decode cX11_rule 20 = .ok (.putfield 215, 3) := by decide +kernel
theorem dX11_rule_23 : decode cX11_rule 23 = .ok (.aload_n 0, 1) := by decide +kernel
theorem dX11_rule_24 : decode cX11_rule 24 = .ok (.invokevirtual 127, 3) := by decide +kernel
theorem dX11_rule_27 : decode cX11_rule 27 = .ok (.ireturn, 1) := by decide +kernel
theorem dX11_rule_28 : decode cX11_rule 28 = .ok (.iload_n 1, 1) := by decide +kernel
theorem dX11_rule_29 : decode cX11_rule 29 = .ok (.iconst 2, 1) := by decide +kernel
theorem dX11_rule_30 : decode cX11_rule 30 = .ok (.if_icmp .ne 26, 3) := by decide +kernel
theorem dX11_rule_33 : decode cX11_rule 33 = .ok (.iload_n 2, 1) := by decide +kernel
theorem dX11_rule_34 : decode cX11_rule 34 = .ok (.iconst 1, 1) := by decide +kernel
theorem dX11_rule_35 : decode cX11_rule 35 = .ok (.bipush 99, 2) := by decide +kernel
theorem dX11_rule_37 : decode cX11_rule 37 = .ok (.invokestatic 115, 3) := by decide +kernel
theorem dX11_rule_40 : decode cX11_rule 40 = .ok (.ifCond .eq 16, 3) := by decide +kernel
theorem dX11_rule_43 : decode cX11_rule 43 = .ok (.aload_n 0, 1) := by decide +kernel
theorem dX11_rule_44 : decode cX11_rule 44 = .ok (.getfield 29, 3) := by decide +kernel
theorem dX11_rule_47 : decode cX11_rule 47 = .ok (.iload_n 2, 1) := by decide +kernel
theorem dX11_rule_48 : decode cX11_rule 48 = .ok (.putfield 218, 3) := by decide +kernel
theorem dX11_rule_51 : decode cX11_rule 51 = .ok (.aload_n 0, 1) := by decide +kernel
theorem dX11_rule_52 : decode cX11_rule 52 = .ok (.invokevirtual 127, 3) := by decide +kernel
theorem dX11_rule_55 : decode cX11_rule 55 = .ok (.ireturn, 1) := by decide +kernel
theorem dX11_rule_56 : decode cX11_rule 56 = .ok (.aload_n 0, 1) := by decide +kernel
theorem dX11_rule_57 : decode cX11_rule 57 = .ok (.iconst 1, 1) := by decide +kernel
theorem dX11_rule_58 : decode cX11_rule 58 = .ok (.invokevirtual 119, 3) := by decide +kernel
theorem dX11_rule_61 : decode cX11_rule 61 = .ok (.ireturn, 1) := by decide +kernel
theorem mv_X11_rule : MV yX11_rule RX11 cX11_rule 3 (some .boolean) 2 := ⟨tb_879, tb_877, tb_878, tb_1, by decide +kernel, by decide +kernel, by decide +kernel⟩
def f_X11_rule_j28 (fu : Nat) (x1 : Int32) (x2 : Int32) (b_latestStatus : Int32) (a_pride : Int32) (a_quota : Int32) : Option (Int32 × Int32 × Int32 × Int32) := (if x1 = 2 then (f_X11_within fu x2 1 99).bind fun z_18 => (if z_18 = 0 then (f_X11_deny fu b_latestStatus 1).bind fun z_20 => (bz z_20.1).bind fun _ => some (z_20.1, z_20.2, a_pride, a_quota) else (f_X11_allow fu b_latestStatus).bind fun z_22 => (bz z_22.1).bind fun _ => some (z_22.1, z_22.2, a_pride, x2)) else (f_X11_deny fu b_latestStatus 1).bind fun z_16 => (bz z_16.1).bind fun _ => some (z_16.1, z_16.2, a_pride, a_quota))
def f_X11_rule (fu : Nat) (b_latestStatus : Int32) (a_pride : Int32) (a_quota : Int32) (x1 : Int32) (x2 : Int32) : Option (Int32 × Int32 × Int32 × Int32) := (if x1 = 1 then (f_X11_within fu x2 0 9).bind fun z_25 => (if z_25 = 0 then f_X11_rule_j28 fu x1 x2 b_latestStatus a_pride a_quota else (f_X11_allow fu b_latestStatus).bind fun z_27 => (bz z_27.1).bind fun _ => some (z_27.1, z_27.2, x2, a_quota)) else f_X11_rule_j28 fu x1 x2 b_latestStatus a_pride a_quota)
abbrev rm_X11_rule : Room := { frames := 1, cells := 0, slots := 0, locals := 22 }
set_option maxHeartbeats 4000000 in
set_option maxRecDepth 100000 in
theorem c_X11_rule (l : Launch) (D : va_G) (cy : Nat → ClassId) (fu : Nat) (A_b : Nat → Nat) (r_b_trays : Nat) (r_b_war : Nat) (r_b_draftArmy : Nat) (r_b_draftWar : Nat) (r_b_reader : Nat) (r_b_armyReader : Nat) (r_b_warReader : Nat) (r_b_markedArmies : Nat) (r_b_markedWars : Nat) (r_b_latest : Nat) (r_b_trial : Nat) (r_b_foresight : Nat) (r_b_pairs : Nat) (b_latestStatus : Int32) (b_fractionTop : Int64) (b_fractionBottom : Int64) (b_marks : Int32) (A_a : Nat → Nat) (a_name : Nat → Int64) (a_courage : Nat → Int32) (a_weight : Nat → Int32) (a_medals : Nat → Int32) (a_stood : Nat → Int32) (a_fled : Nat → Int32) (a_liked : Nat → Int32) (a_votes : Nat → Int32) (a_count : Int32) (a_living : Int32) (a_pride : Int32) (a_quota : Int32) (a_melted : Int32) (a_lost : Int32) (x1 : Int32) (x2 : Int32) (res : Int32 × Int32 × Int32 × Int32) (h : f_X11_rule fu b_latestStatus a_pride a_quota x1 x2 = some res) (A : Nat → Prop) (hA : A = adr [bl_X11 cy A_b r_b_trays (A_a 0) r_b_war r_b_draftArmy r_b_draftWar r_b_reader r_b_armyReader r_b_warReader r_b_markedArmies r_b_markedWars r_b_latest r_b_trial r_b_foresight r_b_pairs b_latestStatus b_fractionTop b_fractionBottom b_marks, bl_X0 cy A_a a_name a_courage a_weight a_medals a_stood a_fled a_liked a_votes a_count a_living a_pride a_quota a_melted a_lost]) (W1 : List va_W) (hW1 : W1 = [bl_X11 cy A_b r_b_trays (A_a 0) r_b_war r_b_draftArmy r_b_draftWar r_b_reader r_b_armyReader r_b_warReader r_b_markedArmies r_b_markedWars r_b_latest r_b_trial r_b_foresight r_b_pairs res.2.1 b_fractionTop b_fractionBottom b_marks, bl_X0 cy A_a a_name a_courage a_weight a_medals a_stood a_fled a_liked a_votes a_count a_living res.2.2.1 res.2.2.2 a_melted a_lost]) : Met l yX11_rule (WW yX11_rule cX11_rule 3 (some .boolean)) rm_X11_rule (Ed D cy [.ref (A_b 0), .int x1, .int x2] [bl_X11 cy A_b r_b_trays (A_a 0) r_b_war r_b_draftArmy r_b_draftWar r_b_reader r_b_armyReader r_b_warReader r_b_markedArmies r_b_markedWars r_b_latest r_b_trial r_b_foresight r_b_pairs b_latestStatus b_fractionTop b_fractionBottom b_marks, bl_X0 cy A_a a_name a_courage a_weight a_medals a_stood a_fled a_liked a_votes a_count a_living a_pride a_quota a_melted a_lost]) (Qei D res.1 A W1) 0 0 A := by
  refine Met.ofW (cc := cX11_rule) (maxL := 3) (ret := (some .boolean)) (by decide) rfl ?_
  intro p e s m args below meth c s₁ B hml hv
  obtain ⟨hargs, hP, hX, hD0⟩ := hv
  have hx := B.exec
  have hb := B.bytes
  have hr := B.returns
  have ht : ∀ w ∈ lw_gd, w.before args s = true := fun w hw => atoms_spec (ws := WW yX11_rule cX11_rule 3 (some .boolean)) B.pre w (List.mem_cons_of_mem _ hw)
  have hown : s.vm.findClass RX11 = some m.cls := findClass_of_methodNamed B.named
  have hlocks := B.notSynchronized
  have hP : PD D A [bl_X11 cy A_b r_b_trays (A_a 0) r_b_war r_b_draftArmy r_b_draftWar r_b_reader r_b_armyReader r_b_warReader r_b_markedArmies r_b_markedWars r_b_latest r_b_trial r_b_foresight r_b_pairs b_latestStatus b_fractionTop b_fractionBottom b_marks, bl_X0 cy A_a a_name a_courage a_weight a_medals a_stood a_fled a_liked a_votes a_count a_living a_pride a_quota a_melted a_lost] s.heap := ⟨hP, by rw [hA]; exact hD0.own⟩
  have hS : va_S A s.heap s.heap [] := va_S.rf
  obtain ⟨ls, hl, hent⟩ := ent (m := m) (n := 3) hargs (Nat.le_of_ble_eq_true rfl) (lv := [(0, .ref (A_b 0)), (1, .int x1), (2, .int x2)]) rfl
  rw [hent]
  clear hent
  have j28 : ∀ (b_latestStatus : Int32) (a_pride : Int32) (a_quota : Int32) (H : Heap) (locs : List Loc) (_ : PD D A [bl_X11 cy A_b r_b_trays (A_a 0) r_b_war r_b_draftArmy r_b_draftWar r_b_reader r_b_armyReader r_b_warReader r_b_markedArmies r_b_markedWars r_b_latest r_b_trial r_b_foresight r_b_pairs b_latestStatus b_fractionTop b_fractionBottom b_marks, bl_X0 cy A_a a_name a_courage a_weight a_medals a_stood a_fled a_liked a_votes a_count a_living a_pride a_quota a_melted a_lost] H) (_ : va_S A s.heap H locs) (ls : Array Slot), lv_has ls 3 [(0, .ref (A_b 0)), (1, .int x1), (2, .int x2)] → f_X11_rule_j28 fu x1 x2 b_latestStatus a_pride a_quota = some res → W p l e (headSpec (WW yX11_rule cX11_rule 3 (some .boolean)) rm_X11_rule).room s m args below meth c H locs 0 0 (MQ below (Qei D res.1 A W1) args s 0 0 A) (F0 m 28 ls []) := by
    intro b_latestStatus a_pride a_quota H locs hP hS ls hl h
    unfold f_X11_rule_j28 at h
    refine lv_iload_n hx hb dX11_rule_28 rfl (lv_at hl 1 rfl) ?_
    refine lv_iconst (v := 2) hx hb dX11_rule_29 (by decide) ?_
    refine lv_icmp_ne (tgt := 56) hx hb dX11_rule_30 (by decide) (fun c_15 => ?_) (fun c_15 => ?_)
    · have h := ie c_15 h
      refine lv_aload_n hx hb dX11_rule_56 rfl (lv_at hl 0 rfl) ?_
      refine lv_iconst (v := 1) hx hb dX11_rule_57 (by decide) ?_
      obtain ⟨z_16, e_z_16, h⟩ := bi h
      refine efVi (rest := []) ⟨hx, hb, hml, hown, ht⟩ (c_X11_deny l D cy fu A_b r_b_trays (A_a 0) r_b_war r_b_draftArmy r_b_draftWar r_b_reader r_b_armyReader r_b_warReader r_b_markedArmies r_b_markedWars r_b_latest r_b_trial r_b_foresight r_b_pairs b_latestStatus b_fractionTop b_fractionBottom b_marks 1 z_16 e_z_16 _ rfl _ rfl) (cV ht mv_X11_deny tb_507 rfl rfl ⟨Nat.le_of_ble_eq_true rfl, Nat.le_of_ble_eq_true rfl⟩) hP hS hX [0] rfl rfl rfl rfl rfl rfl hl.1 rfl (Nat.le_of_ble_eq_true rfl) dX11_rule_58 ⟨Nat.le_of_ble_eq_true rfl, Nat.le_of_ble_eq_true rfl⟩ (fun H locs hP hS => ?_)
      have hP : PD D A [bl_X11 cy A_b r_b_trays (A_a 0) r_b_war r_b_draftArmy r_b_draftWar r_b_reader r_b_armyReader r_b_warReader r_b_markedArmies r_b_markedWars r_b_latest r_b_trial r_b_foresight r_b_pairs z_16.2 b_fractionTop b_fractionBottom b_marks, bl_X0 cy A_a a_name a_courage a_weight a_medals a_stood a_fled a_liked a_votes a_count a_living a_pride a_quota a_melted a_lost] H := hP
      obtain ⟨b_17, e_b_17, h⟩ := bi h
      obtain ⟨-, n_b_17, -⟩ := bz_ok e_b_17
      cases h
      subst hW1
      exact W.zret hx hb hr n_b_17 (fun _ ht9 _ => ⟨⟨_, (), rfl, rfl, hPt ht9 hP.1⟩, hS.F ht9⟩) hS.2.2 dX11_rule_61
    · have h := it c_15 h
      refine lv_iload_n hx hb dX11_rule_33 rfl (lv_at hl 2 rfl) ?_
      refine lv_iconst (v := 1) hx hb dX11_rule_34 (by decide) ?_
      refine lv_bipush (v := 99) hx hb dX11_rule_35 (by decide) ?_
      obtain ⟨z_18, e_z_18, h⟩ := bi h
      refine roSi (rest := []) ⟨hx, hb, hml, hown, ht⟩ (c_X11_within l D cy fu  x2 1 99 z_18 e_z_18) (cS ht ms_X11_within tb_504 rfl rfl ⟨Nat.le_of_ble_eq_true rfl, Nat.le_of_ble_eq_true rfl⟩) (P_sub hP.1 [] rfl) hX rfl hl.1 rfl (Nat.le_of_ble_eq_true rfl) dX11_rule_37 ⟨Nat.le_of_ble_eq_true rfl, Nat.le_of_ble_eq_true rfl⟩ ?_
      refine lv_if_eq (tgt := 56) hx hb dX11_rule_40 (by decide) (fun c_19 => ?_) (fun c_19 => ?_)
      · have h := it c_19 h
        refine lv_aload_n hx hb dX11_rule_56 rfl (lv_at hl 0 rfl) ?_
        refine lv_iconst (v := 1) hx hb dX11_rule_57 (by decide) ?_
        obtain ⟨z_20, e_z_20, h⟩ := bi h
        refine efVi (rest := []) ⟨hx, hb, hml, hown, ht⟩ (c_X11_deny l D cy fu A_b r_b_trays (A_a 0) r_b_war r_b_draftArmy r_b_draftWar r_b_reader r_b_armyReader r_b_warReader r_b_markedArmies r_b_markedWars r_b_latest r_b_trial r_b_foresight r_b_pairs b_latestStatus b_fractionTop b_fractionBottom b_marks 1 z_20 e_z_20 _ rfl _ rfl) (cV ht mv_X11_deny tb_507 rfl rfl ⟨Nat.le_of_ble_eq_true rfl, Nat.le_of_ble_eq_true rfl⟩) hP hS hX [0] rfl rfl rfl rfl rfl rfl hl.1 rfl (Nat.le_of_ble_eq_true rfl) dX11_rule_58 ⟨Nat.le_of_ble_eq_true rfl, Nat.le_of_ble_eq_true rfl⟩ (fun H locs hP hS => ?_)
        have hP : PD D A [bl_X11 cy A_b r_b_trays (A_a 0) r_b_war r_b_draftArmy r_b_draftWar r_b_reader r_b_armyReader r_b_warReader r_b_markedArmies r_b_markedWars r_b_latest r_b_trial r_b_foresight r_b_pairs z_20.2 b_fractionTop b_fractionBottom b_marks, bl_X0 cy A_a a_name a_courage a_weight a_medals a_stood a_fled a_liked a_votes a_count a_living a_pride a_quota a_melted a_lost] H := hP
        obtain ⟨b_21, e_b_21, h⟩ := bi h
        obtain ⟨-, n_b_21, -⟩ := bz_ok e_b_21
        cases h
        subst hW1
        exact W.zret hx hb hr n_b_21 (fun _ ht9 _ => ⟨⟨_, (), rfl, rfl, hPt ht9 hP.1⟩, hS.F ht9⟩) hS.2.2 dX11_rule_61
      · have h := ie c_19 h
        refine lv_aload_n hx hb dX11_rule_43 rfl (lv_at hl 0 rfl) ?_
        refine xget (i := 0) (j := 0) (k := 4) (T := TX11) hx hb ht tb_iX11 hown hX hP.1 rfl rfl rfl (by decide) tb_433 rfl dX11_rule_44 ?_
        refine lv_iload_n hx hb dX11_rule_47 rfl (lv_at hl 2 rfl) ?_
        refine xput (i := 1) (j := 0) (k := 11) (T := TX0) tyX0 tyX0_ok nmX0 hx hb ht tb_iX0 hown hX hP hS rfl rfl rfl (by decide) tb_70 rfl rfl rfl (Nat.le_of_ble_eq_true rfl) dX11_rule_48 (fun H locs hP hS => ?_)
        have hP : PD D A [bl_X11 cy A_b r_b_trays (A_a 0) r_b_war r_b_draftArmy r_b_draftWar r_b_reader r_b_armyReader r_b_warReader r_b_markedArmies r_b_markedWars r_b_latest r_b_trial r_b_foresight r_b_pairs b_latestStatus b_fractionTop b_fractionBottom b_marks, bl_X0 cy A_a a_name a_courage a_weight a_medals a_stood a_fled a_liked a_votes a_count a_living a_pride x2 a_melted a_lost] H := hP
        refine lv_aload_n hx hb dX11_rule_51 rfl (lv_at hl 0 rfl) ?_
        obtain ⟨z_22, e_z_22, h⟩ := bi h
        refine efVi (rest := []) ⟨hx, hb, hml, hown, ht⟩ (c_X11_allow l D cy fu A_b r_b_trays (A_a 0) r_b_war r_b_draftArmy r_b_draftWar r_b_reader r_b_armyReader r_b_warReader r_b_markedArmies r_b_markedWars r_b_latest r_b_trial r_b_foresight r_b_pairs b_latestStatus b_fractionTop b_fractionBottom b_marks z_22 e_z_22 _ rfl _ rfl) (cV ht mv_X11_allow tb_518 rfl rfl ⟨Nat.le_of_ble_eq_true rfl, Nat.le_of_ble_eq_true rfl⟩) hP hS hX [0] rfl rfl rfl rfl rfl rfl hl.1 rfl (Nat.le_of_ble_eq_true rfl) dX11_rule_52 ⟨Nat.le_of_ble_eq_true rfl, Nat.le_of_ble_eq_true rfl⟩ (fun H locs hP hS => ?_)
        have hP : PD D A [bl_X11 cy A_b r_b_trays (A_a 0) r_b_war r_b_draftArmy r_b_draftWar r_b_reader r_b_armyReader r_b_warReader r_b_markedArmies r_b_markedWars r_b_latest r_b_trial r_b_foresight r_b_pairs z_22.2 b_fractionTop b_fractionBottom b_marks, bl_X0 cy A_a a_name a_courage a_weight a_medals a_stood a_fled a_liked a_votes a_count a_living a_pride x2 a_melted a_lost] H := hP
        obtain ⟨b_23, e_b_23, h⟩ := bi h
        obtain ⟨-, n_b_23, -⟩ := bz_ok e_b_23
        cases h
        subst hW1
        exact W.zret hx hb hr n_b_23 (fun _ ht9 _ => ⟨⟨_, (), rfl, rfl, hPt ht9 hP.1⟩, hS.F ht9⟩) hS.2.2 dX11_rule_55
  unfold f_X11_rule at h
  refine lv_iload_n hx hb dX11_rule_0 rfl (lv_at hl 1 rfl) ?_
  refine lv_iconst (v := 1) hx hb dX11_rule_1 (by decide) ?_
  refine lv_icmp_ne (tgt := 28) hx hb dX11_rule_2 (by decide) (fun c_24 => ?_) (fun c_24 => ?_)
  · have h := ie c_24 h
    exact j28 b_latestStatus a_pride a_quota _ _ hP hS ls (lv_sub hl [0, 1, 2] rfl) h
  · have h := it c_24 h
    refine lv_iload_n hx hb dX11_rule_5 rfl (lv_at hl 2 rfl) ?_
    refine lv_iconst (v := 0) hx hb dX11_rule_6 (by decide) ?_
    refine lv_bipush (v := 9) hx hb dX11_rule_7 (by decide) ?_
    obtain ⟨z_25, e_z_25, h⟩ := bi h
    refine roSi (rest := []) ⟨hx, hb, hml, hown, ht⟩ (c_X11_within l D cy fu  x2 0 9 z_25 e_z_25) (cS ht ms_X11_within tb_504 rfl rfl ⟨Nat.le_of_ble_eq_true rfl, Nat.le_of_ble_eq_true rfl⟩) (P_sub hP.1 [] rfl) hX rfl hl.1 rfl (Nat.le_of_ble_eq_true rfl) dX11_rule_9 ⟨Nat.le_of_ble_eq_true rfl, Nat.le_of_ble_eq_true rfl⟩ ?_
    refine lv_if_eq (tgt := 28) hx hb dX11_rule_12 (by decide) (fun c_26 => ?_) (fun c_26 => ?_)
    · have h := it c_26 h
      exact j28 b_latestStatus a_pride a_quota _ _ hP hS ls (lv_sub hl [0, 1, 2] rfl) h
    · have h := ie c_26 h
      refine lv_aload_n hx hb dX11_rule_15 rfl (lv_at hl 0 rfl) ?_
      refine xget (i := 0) (j := 0) (k := 4) (T := TX11) hx hb ht tb_iX11 hown hX hP.1 rfl rfl rfl (by decide) tb_433 rfl dX11_rule_16 ?_
      refine lv_iload_n hx hb dX11_rule_19 rfl (lv_at hl 2 rfl) ?_
      refine xput (i := 1) (j := 0) (k := 10) (T := TX0) tyX0 tyX0_ok nmX0 hx hb ht tb_iX0 hown hX hP hS rfl rfl rfl (by decide) tb_67 rfl rfl rfl (Nat.le_of_ble_eq_true rfl) dX11_rule_20 (fun H locs hP hS => ?_)
      have hP : PD D A [bl_X11 cy A_b r_b_trays (A_a 0) r_b_war r_b_draftArmy r_b_draftWar r_b_reader r_b_armyReader r_b_warReader r_b_markedArmies r_b_markedWars r_b_latest r_b_trial r_b_foresight r_b_pairs b_latestStatus b_fractionTop b_fractionBottom b_marks, bl_X0 cy A_a a_name a_courage a_weight a_medals a_stood a_fled a_liked a_votes a_count a_living x2 a_quota a_melted a_lost] H := hP
      refine lv_aload_n hx hb dX11_rule_23 rfl (lv_at hl 0 rfl) ?_
      obtain ⟨z_27, e_z_27, h⟩ := bi h
      refine efVi (rest := []) ⟨hx, hb, hml, hown, ht⟩ (c_X11_allow l D cy fu A_b r_b_trays (A_a 0) r_b_war r_b_draftArmy r_b_draftWar r_b_reader r_b_armyReader r_b_warReader r_b_markedArmies r_b_markedWars r_b_latest r_b_trial r_b_foresight r_b_pairs b_latestStatus b_fractionTop b_fractionBottom b_marks z_27 e_z_27 _ rfl _ rfl) (cV ht mv_X11_allow tb_518 rfl rfl ⟨Nat.le_of_ble_eq_true rfl, Nat.le_of_ble_eq_true rfl⟩) hP hS hX [0] rfl rfl rfl rfl rfl rfl hl.1 rfl (Nat.le_of_ble_eq_true rfl) dX11_rule_24 ⟨Nat.le_of_ble_eq_true rfl, Nat.le_of_ble_eq_true rfl⟩ (fun H locs hP hS => ?_)
      have hP : PD D A [bl_X11 cy A_b r_b_trays (A_a 0) r_b_war r_b_draftArmy r_b_draftWar r_b_reader r_b_armyReader r_b_warReader r_b_markedArmies r_b_markedWars r_b_latest r_b_trial r_b_foresight r_b_pairs z_27.2 b_fractionTop b_fractionBottom b_marks, bl_X0 cy A_a a_name a_courage a_weight a_medals a_stood a_fled a_liked a_votes a_count a_living x2 a_quota a_melted a_lost] H := hP
      obtain ⟨b_28, e_b_28, h⟩ := bi h
      obtain ⟨-, n_b_28, -⟩ := bz_ok e_b_28
      cases h
      subst hW1
      exact W.zret hx hb hr n_b_28 (fun _ ht9 _ => ⟨⟨_, (), rfl, rfl, hPt ht9 hP.1⟩, hS.F ht9⟩) hS.2.2 dX11_rule_27
theorem dX11_brave_0 : decode cX11_brave 0 = .ok (.iload_n 1, 1) := by decide +kernel
theorem dX11_brave_1 : decode cX11_brave 1 = .ok (.invokestatic 294, 3) := by decide +kernel
theorem dX11_brave_4 : decode cX11_brave 4 = .ok (.ifCond .ne 9, 3) := by decide +kernel
theorem dX11_brave_7 : decode cX11_brave 7 = .ok (.aload_n 0, 1) := by decide +kernel
theorem dX11_brave_8 : decode cX11_brave 8 = .ok (.iconst 1, 1) := by decide +kernel
theorem dX11_brave_9 : decode cX11_brave 9 = .ok (.invokevirtual 143, 3) := by decide +kernel
theorem dX11_brave_12 : decode cX11_brave 12 = .ok (.ireturn, 1) := by decide +kernel
theorem dX11_brave_13 : decode cX11_brave 13 = .ok (.aload_n 0, 1) := by decide +kernel
theorem dX11_brave_14 : decode cX11_brave 14 = .ok (.aload_n 0, 1) := by decide +kernel
theorem dX11_brave_15 : decode cX11_brave 15 = .ok (.getfield 29, 3) := by decide +kernel
theorem dX11_brave_18 : decode cX11_brave 18 = .ok (.getfield 221, 3) := by decide +kernel
theorem dX11_brave_21 : decode cX11_brave 21 = .ok (.aload_n 0, 1) := by decide +kernel
theorem dX11_brave_22 : decode cX11_brave 22 = .ok (.getfield 29, 3) := by decide +kernel
theorem dX11_brave_25 : decode cX11_brave 25 = .ok (.iload_n 1, 1) := by decide +kernel
theorem dX11_brave_26 : decode cX11_brave 26 = .ok (.invokevirtual 297, 3) := by decide +kernel
theorem dX11_brave_29 : decode cX11_brave 29 = .ok (.iconst (-1), 1) := by decide +kernel
theorem dX11_brave_30 : decode cX11_brave 30 = .ok (.ixor, 1) := by decide +kernel
theorem dX11_brave_31 : decode cX11_brave 31 = .ok (.iand, 1) := by decide +kernel
theorem dX11_brave_32 : decode cX11_brave 32 = .ok (.invokevirtual 193, 3) := by decide +kernel
theorem dX11_brave_35 : decode cX11_brave 35 = .ok (.ireturn, 1) := by decide +kernel
theorem mv_X11_brave : MV yX11_brave RX11 cX11_brave 2 (some .int) 1 := ⟨tb_883, tb_881, tb_882, tb_1, by decide +kernel, by decide +kernel, by decide +kernel⟩
def f_X11_brave (fu : Nat) (b_latestStatus : Int32) (a_courage : Nat → Int32) (a_medals : Nat → Int32) (a_count : Int32) (a_living : Int32) (a_pride : Int32) (x1 : Int32) : Option (Int32 × Int32) := (f_X11_isSize fu x1).bind fun z_6 => (if z_6 = 0 then (f_X11_refuse fu b_latestStatus 1).bind fun z_10 => some (z_10.1, z_10.2) else (f_X0_runners fu a_courage a_medals a_count a_living a_pride x1).bind fun z_8 => (f_X11_answer fu b_latestStatus (a_living &&& (z_8 ^^^ (-1)))).bind fun z_9 => some (z_9.1, z_9.2))
abbrev rm_X11_brave : Room := { frames := 2, cells := 0, slots := 0, locals := 46 }
set_option maxHeartbeats 4000000 in
set_option maxRecDepth 100000 in
theorem c_X11_brave (l : Launch) (D : va_G) (cy : Nat → ClassId) (fu : Nat) (A_b : Nat → Nat) (r_b_trays : Nat) (r_b_war : Nat) (r_b_draftArmy : Nat) (r_b_draftWar : Nat) (r_b_reader : Nat) (r_b_armyReader : Nat) (r_b_warReader : Nat) (r_b_markedArmies : Nat) (r_b_markedWars : Nat) (r_b_latest : Nat) (r_b_trial : Nat) (r_b_foresight : Nat) (r_b_pairs : Nat) (b_latestStatus : Int32) (b_fractionTop : Int64) (b_fractionBottom : Int64) (b_marks : Int32) (A_a : Nat → Nat) (a_name : Nat → Int64) (a_courage : Nat → Int32) (a_weight : Nat → Int32) (a_medals : Nat → Int32) (a_stood : Nat → Int32) (a_fled : Nat → Int32) (a_liked : Nat → Int32) (a_votes : Nat → Int32) (a_count : Int32) (a_living : Int32) (a_pride : Int32) (a_quota : Int32) (a_melted : Int32) (a_lost : Int32) (x1 : Int32) (res : Int32 × Int32) (h : f_X11_brave fu b_latestStatus a_courage a_medals a_count a_living a_pride x1 = some res) (A : Nat → Prop) (hA : A = adr [bl_X11 cy A_b r_b_trays (A_a 0) r_b_war r_b_draftArmy r_b_draftWar r_b_reader r_b_armyReader r_b_warReader r_b_markedArmies r_b_markedWars r_b_latest r_b_trial r_b_foresight r_b_pairs b_latestStatus b_fractionTop b_fractionBottom b_marks, bl_X0 cy A_a a_name a_courage a_weight a_medals a_stood a_fled a_liked a_votes a_count a_living a_pride a_quota a_melted a_lost]) (W1 : List va_W) (hW1 : W1 = [bl_X11 cy A_b r_b_trays (A_a 0) r_b_war r_b_draftArmy r_b_draftWar r_b_reader r_b_armyReader r_b_warReader r_b_markedArmies r_b_markedWars r_b_latest r_b_trial r_b_foresight r_b_pairs res.2 b_fractionTop b_fractionBottom b_marks, bl_X0 cy A_a a_name a_courage a_weight a_medals a_stood a_fled a_liked a_votes a_count a_living a_pride a_quota a_melted a_lost]) : Met l yX11_brave (WW yX11_brave cX11_brave 2 (some .int)) rm_X11_brave (Ed D cy [.ref (A_b 0), .int x1] [bl_X11 cy A_b r_b_trays (A_a 0) r_b_war r_b_draftArmy r_b_draftWar r_b_reader r_b_armyReader r_b_warReader r_b_markedArmies r_b_markedWars r_b_latest r_b_trial r_b_foresight r_b_pairs b_latestStatus b_fractionTop b_fractionBottom b_marks, bl_X0 cy A_a a_name a_courage a_weight a_medals a_stood a_fled a_liked a_votes a_count a_living a_pride a_quota a_melted a_lost]) (Qei D res.1 A W1) 0 0 A := by
  refine Met.ofW (cc := cX11_brave) (maxL := 2) (ret := (some .int)) (by decide) rfl ?_
  intro p e s m args below meth c s₁ B hml hv
  obtain ⟨hargs, hP, hX, hD0⟩ := hv
  have hx := B.exec
  have hb := B.bytes
  have hr := B.returns
  have ht : ∀ w ∈ lw_gd, w.before args s = true := fun w hw => atoms_spec (ws := WW yX11_brave cX11_brave 2 (some .int)) B.pre w (List.mem_cons_of_mem _ hw)
  have hown : s.vm.findClass RX11 = some m.cls := findClass_of_methodNamed B.named
  have hlocks := B.notSynchronized
  have hP : PD D A [bl_X11 cy A_b r_b_trays (A_a 0) r_b_war r_b_draftArmy r_b_draftWar r_b_reader r_b_armyReader r_b_warReader r_b_markedArmies r_b_markedWars r_b_latest r_b_trial r_b_foresight r_b_pairs b_latestStatus b_fractionTop b_fractionBottom b_marks, bl_X0 cy A_a a_name a_courage a_weight a_medals a_stood a_fled a_liked a_votes a_count a_living a_pride a_quota a_melted a_lost] s.heap := ⟨hP, by rw [hA]; exact hD0.own⟩
  have hS : va_S A s.heap s.heap [] := va_S.rf
  obtain ⟨ls, hl, hent⟩ := ent (m := m) (n := 2) hargs (Nat.le_of_ble_eq_true rfl) (lv := [(0, .ref (A_b 0)), (1, .int x1)]) rfl
  rw [hent]
  clear hent
  unfold f_X11_brave at h
  refine lv_iload_n hx hb dX11_brave_0 rfl (lv_at hl 1 rfl) ?_
  obtain ⟨z_6, e_z_6, h⟩ := bi h
  refine roSi (rest := []) ⟨hx, hb, hml, hown, ht⟩ (c_X11_isSize l D cy fu  x1 z_6 e_z_6) (cS ht ms_X11_isSize tb_803 rfl rfl ⟨Nat.le_of_ble_eq_true rfl, Nat.le_of_ble_eq_true rfl⟩) (P_sub hP.1 [] rfl) hX rfl hl.1 rfl (Nat.le_of_ble_eq_true rfl) dX11_brave_1 ⟨Nat.le_of_ble_eq_true rfl, Nat.le_of_ble_eq_true rfl⟩ ?_
  refine lv_if_ne (tgt := 13) hx hb dX11_brave_4 (by decide) (fun c_7 => ?_) (fun c_7 => ?_)
  · have h := ie c_7 h
    refine lv_aload_n hx hb dX11_brave_13 rfl (lv_at hl 0 rfl) ?_
    refine lv_aload_n hx hb dX11_brave_14 rfl (lv_at hl 0 rfl) ?_
    refine xget (i := 0) (j := 0) (k := 4) (T := TX11) hx hb ht tb_iX11 hown hX hP.1 rfl rfl rfl (by decide) tb_433 rfl dX11_brave_15 ?_
    refine xget (i := 1) (j := 0) (k := 9) (T := TX0) hx hb ht tb_iX0 hown hX hP.1 rfl rfl rfl (by decide) tb_64 rfl dX11_brave_18 ?_
    refine lv_aload_n hx hb dX11_brave_21 rfl (lv_at hl 0 rfl) ?_
    refine xget (i := 0) (j := 0) (k := 4) (T := TX11) hx hb ht tb_iX11 hown hX hP.1 rfl rfl rfl (by decide) tb_433 rfl dX11_brave_22 ?_
    refine lv_iload_n hx hb dX11_brave_25 rfl (lv_at hl 1 rfl) ?_
    obtain ⟨z_8, e_z_8, h⟩ := bi h
    refine roVi (rest := [.int a_living, .ref (A_b 0)]) ⟨hx, hb, hml, hown, ht⟩ (c_X0_runners l D cy fu A_a a_name a_courage a_weight a_medals a_stood a_fled a_liked a_votes a_count a_living a_pride a_quota a_melted a_lost x1 z_8 e_z_8) (cV ht mv_X0_runners tb_884 rfl rfl ⟨Nat.le_of_ble_eq_true rfl, Nat.le_of_ble_eq_true rfl⟩) (P_sub hP.1 [1] rfl) hX rfl rfl rfl hl.1 rfl (Nat.le_of_ble_eq_true rfl) dX11_brave_26 ⟨Nat.le_of_ble_eq_true rfl, Nat.le_of_ble_eq_true rfl⟩ ?_
    refine lv_iconst (v := (-1)) hx hb dX11_brave_29 (by decide) ?_
    refine lv_ixor hx hb dX11_brave_30 ?_
    refine lv_iand hx hb dX11_brave_31 ?_
    obtain ⟨z_9, e_z_9, h⟩ := bi h
    refine efVi (rest := []) ⟨hx, hb, hml, hown, ht⟩ (c_X11_answer l D cy fu A_b r_b_trays (A_a 0) r_b_war r_b_draftArmy r_b_draftWar r_b_reader r_b_armyReader r_b_warReader r_b_markedArmies r_b_markedWars r_b_latest r_b_trial r_b_foresight r_b_pairs b_latestStatus b_fractionTop b_fractionBottom b_marks (a_living &&& (z_8 ^^^ (-1))) z_9 e_z_9 _ rfl _ rfl) (cV ht mv_X11_answer tb_696 rfl rfl ⟨Nat.le_of_ble_eq_true rfl, Nat.le_of_ble_eq_true rfl⟩) hP hS hX [0] rfl rfl rfl rfl rfl rfl hl.1 rfl (Nat.le_of_ble_eq_true rfl) dX11_brave_32 ⟨Nat.le_of_ble_eq_true rfl, Nat.le_of_ble_eq_true rfl⟩ (fun H locs hP hS => ?_)
    have hP : PD D A [bl_X11 cy A_b r_b_trays (A_a 0) r_b_war r_b_draftArmy r_b_draftWar r_b_reader r_b_armyReader r_b_warReader r_b_markedArmies r_b_markedWars r_b_latest r_b_trial r_b_foresight r_b_pairs z_9.2 b_fractionTop b_fractionBottom b_marks, bl_X0 cy A_a a_name a_courage a_weight a_medals a_stood a_fled a_liked a_votes a_count a_living a_pride a_quota a_melted a_lost] H := hP
    cases h
    subst hW1
    exact W.iret hx hb hr (fun _ ht9 _ => ⟨⟨_, (), rfl, rfl, hPt ht9 hP.1⟩, hS.F ht9⟩) hS.2.2 dX11_brave_35
  · have h := it c_7 h
    refine lv_aload_n hx hb dX11_brave_7 rfl (lv_at hl 0 rfl) ?_
    refine lv_iconst (v := 1) hx hb dX11_brave_8 (by decide) ?_
    obtain ⟨z_10, e_z_10, h⟩ := bi h
    refine efVi (rest := []) ⟨hx, hb, hml, hown, ht⟩ (c_X11_refuse l D cy fu A_b r_b_trays (A_a 0) r_b_war r_b_draftArmy r_b_draftWar r_b_reader r_b_armyReader r_b_warReader r_b_markedArmies r_b_markedWars r_b_latest r_b_trial r_b_foresight r_b_pairs b_latestStatus b_fractionTop b_fractionBottom b_marks 1 z_10 e_z_10 _ rfl _ rfl) (cV ht mv_X11_refuse tb_543 rfl rfl ⟨Nat.le_of_ble_eq_true rfl, Nat.le_of_ble_eq_true rfl⟩) hP hS hX [0] rfl rfl rfl rfl rfl rfl hl.1 rfl (Nat.le_of_ble_eq_true rfl) dX11_brave_9 ⟨Nat.le_of_ble_eq_true rfl, Nat.le_of_ble_eq_true rfl⟩ (fun H locs hP hS => ?_)
    have hP : PD D A [bl_X11 cy A_b r_b_trays (A_a 0) r_b_war r_b_draftArmy r_b_draftWar r_b_reader r_b_armyReader r_b_warReader r_b_markedArmies r_b_markedWars r_b_latest r_b_trial r_b_foresight r_b_pairs z_10.2 b_fractionTop b_fractionBottom b_marks, bl_X0 cy A_a a_name a_courage a_weight a_medals a_stood a_fled a_liked a_votes a_count a_living a_pride a_quota a_melted a_lost] H := hP
    cases h
    subst hW1
    exact W.iret hx hb hr (fun _ ht9 _ => ⟨⟨_, (), rfl, rfl, hPt ht9 hP.1⟩, hS.F ht9⟩) hS.2.2 dX11_brave_12
