theorem dX11_limit_0 : decode cX11_limit 0 = .ok (.aload_n 0, 1) := by decide +kernel
theorem dX11_limit_1 : decode cX11_limit 1 = .ok (.getfield 29, 3) := by decide +kernel
theorem dX11_limit_4 : decode cX11_limit 4 = .ok (.iload_n 1, 1) := by decide +kernel
theorem dX11_limit_5 : decode cX11_limit 5 = .ok (.invokevirtual 248, 3) := by decide +kernel
theorem dX11_limit_8 : decode cX11_limit 8 = .ok (.ifCond .ne 9, 3) := by decide +kernel
theorem dX11_limit_11 : decode cX11_limit 11 = .ok (.aload_n 0, 1) := by decide +kernel
theorem dX11_limit_12 : decode cX11_limit 12 = .ok (.iconst 1, 1) := by decide +kernel
theorem dX11_limit_13 : decode cX11_limit 13 = .ok (.invokevirtual 143, 3) := by decide +kernel
theorem dX11_limit_16 : decode cX11_limit 16 = .ok (.ireturn, 1) := by decide +kernel
theorem dX11_limit_17 : decode cX11_limit 17 = .ok (.aload_n 0, 1) := by decide +kernel
theorem dX11_limit_18 : decode cX11_limit 18 = .ok (.getfield 29, 3) := by decide +kernel
theorem dX11_limit_21 : decode cX11_limit 21 = .ok (.iload_n 1, 1) := by decide +kernel
theorem dX11_limit_22 : decode cX11_limit 22 = .ok (.invokevirtual 257, 3) := by decide +kernel
theorem dX11_limit_25 : decode cX11_limit 25 = .ok (.ifCond .ne 10, 3) := by decide +kernel
theorem dX11_limit_28 : decode cX11_limit 28 = .ok (.aload_n 0, 1) := by decide +kernel
theorem dX11_limit_29 : decode cX11_limit 29 = .ok (.bipush 7, 2) := by decide +kernel
theorem dX11_limit_31 : decode cX11_limit 31 = .ok (.invokevirtual 143, 3) := by decide +kernel
theorem dX11_limit_34 : decode cX11_limit 34 = .ok (.ireturn, 1) := by decide +kernel
theorem dX11_limit_35 : decode cX11_limit 35 = .ok (.aload_n 0, 1) := by decide +kernel
theorem dX11_limit_36 : decode cX11_limit 36 = .ok (.getfield 29, 3) := by decide +kernel
theorem dX11_limit_39 : decode cX11_limit 39 = .ok (.iload_n 1, 1) := by decide +kernel
theorem dX11_limit_40 : decode cX11_limit 40 = .ok (.invokevirtual 260, 3) := by decide +kernel
theorem dX11_limit_43 : decode cX11_limit 43 = .ok (.iconst 1, 1) := by decide +kernel
theorem dX11_limit_44 : decode cX11_limit 44 = .ok (.iadd, 1) := by decide +kernel
theorem dX11_limit_45 : decode cX11_limit 45 = .ok (.istore_n 2, 1) := by decide +kernel
theorem dX11_limit_46 : decode cX11_limit 46 = .ok (.iload_n 2, 1) := by decide +kernel
theorem dX11_limit_47 : decode cX11_limit 47 = .ok (.bipush 99, 2) := by decide +kernel
theorem dX11_limit_49 : decode cX11_limit 49 = .ok (.if_icmp .le 12, 3) := by decide +kernel
theorem dX11_limit_52 : decode cX11_limit 52 = .ok (.aload_n 0, 1) := by decide +kernel
theorem dX11_limit_53 : decode cX11_limit 53 = .ok (.bipush 6, 2) := by decide +kernel
theorem dX11_limit_55 : decode cX11_limit 55 = .ok (.invokevirtual 143, 3) := by decide +kernel
theorem dX11_limit_58 : decode cX11_limit 58 = .ok (.goto 8, 3) := by decide +kernel
theorem dX11_limit_61 : decode cX11_limit 61 = .ok (.aload_n 0, 1) := by decide +kernel
theorem dX11_limit_62 : decode cX11_limit 62 = .ok (.iload_n 2, 1) := by decide +kernel
theorem dX11_limit_63 : decode cX11_limit 63 = .ok (.invokevirtual 193, 3) := by decide +kernel
theorem dX11_limit_66 : decode cX11_limit 66 = .ok (.ireturn, 1) := by decide +kernel
theorem mv_X11_limit : MV yX11_limit RX11 cX11_limit 3 (some .int) 1 := ⟨tb_888, tb_886, tb_887, tb_1, by decide +kernel, by decide +kernel, by decide +kernel⟩
def f_X11_limit (fu : Nat) (b_latestStatus : Int32) (a_courage : Nat → Int32) (a_medals : Nat → Int32) (a_count : Int32) (a_living : Int32) (a_pride : Int32) (x1 : Int32) : Option (Int32 × Int32) := (f_X0_isMan fu a_count x1).bind fun z_12 => (if z_12 = 0 then (f_X11_refuse fu b_latestStatus 1).bind fun z_22 => some (z_22.1, z_22.2) else (f_X0_lives fu a_count a_living x1).bind fun z_14 => (if z_14 = 0 then (f_X11_refuse fu b_latestStatus 7).bind fun z_21 => some (z_21.1, z_21.2) else (f_X0_bravery fu a_courage a_medals a_count a_pride x1).bind fun z_16 => bnd (z_16 + 1) fun x2_17 => (if x2_17 ≤ 99 then (f_X11_answer fu b_latestStatus x2_17).bind fun z_19 => some (z_19.1, z_19.2) else (f_X11_refuse fu b_latestStatus 6).bind fun z_20 => some (z_20.1, z_20.2))))
abbrev rm_X11_limit : Room := { frames := 2, cells := 0, slots := 0, locals := 44 }
set_option maxHeartbeats 4000000 in
set_option maxRecDepth 100000 in
theorem c_X11_limit (l : Launch) (D : va_G) (cy : Nat → ClassId) (fu : Nat) (A_b : Nat → Nat) (r_b_trays : Nat) (r_b_war : Nat) (r_b_draftArmy : Nat) (r_b_draftWar : Nat) (r_b_reader : Nat) (r_b_armyReader : Nat) (r_b_warReader : Nat) (r_b_markedArmies : Nat) (r_b_markedWars : Nat) (r_b_latest : Nat) (r_b_trial : Nat) (r_b_foresight : Nat) (r_b_pairs : Nat) (b_latestStatus : Int32) (b_fractionTop : Int64) (b_fractionBottom : Int64) (b_marks : Int32) (A_a : Nat → Nat) (a_name : Nat → Int64) (a_courage : Nat → Int32) (a_weight : Nat → Int32) (a_medals : Nat → Int32) (a_stood : Nat → Int32) (a_fled : Nat → Int32) (a_liked : Nat → Int32) (a_votes : Nat → Int32) (a_count : Int32) (a_living : Int32) (a_pride : Int32) (a_quota : Int32) (a_melted : Int32) (a_lost : Int32) (x1 : Int32) (res : Int32 × Int32) (h : f_X11_limit fu b_latestStatus a_courage a_medals a_count a_living a_pride x1 = some res) (A : Nat → Prop) (hA : A = adr [bl_X11 cy A_b r_b_trays (A_a 0) r_b_war r_b_draftArmy r_b_draftWar r_b_reader r_b_armyReader r_b_warReader r_b_markedArmies r_b_markedWars r_b_latest r_b_trial r_b_foresight r_b_pairs b_latestStatus b_fractionTop b_fractionBottom b_marks, bl_X0 cy A_a a_name a_courage a_weight a_medals a_stood a_fled a_liked a_votes a_count a_living a_pride a_quota a_melted a_lost]) (W1 : List va_W) (hW1 : W1 = [bl_X11 cy A_b r_b_trays (A_a 0) r_b_war r_b_draftArmy r_b_draftWar r_b_reader r_b_armyReader r_b_warReader r_b_markedArmies r_b_markedWars r_b_latest r_b_trial r_b_foresight r_b_pairs res.2 b_fractionTop b_fractionBottom b_marks, bl_X0 cy A_a a_name a_courage a_weight a_medals a_stood a_fled a_liked a_votes a_count a_living a_pride a_quota a_melted a_lost]) : Met l yX11_limit (WW yX11_limit cX11_limit 3 (some .int)) rm_X11_limit (Ed D cy [.ref (A_b 0), .int x1] [bl_X11 cy A_b r_b_trays (A_a 0) r_b_war r_b_draftArmy r_b_draftWar r_b_reader r_b_armyReader r_b_warReader r_b_markedArmies r_b_markedWars r_b_latest r_b_trial r_b_foresight r_b_pairs b_latestStatus b_fractionTop b_fractionBottom b_marks, bl_X0 cy A_a a_name a_courage a_weight a_medals a_stood a_fled a_liked a_votes a_count a_living a_pride a_quota a_melted a_lost]) (Qei D res.1 A W1) 0 0 A := by
  refine Met.ofW (cc := cX11_limit) (maxL := 3) (ret := (some .int)) (by decide) rfl ?_
  intro p e s m args below meth c s₁ B hml hv
  obtain ⟨hargs, hP, hX, hD0⟩ := hv
  have hx := B.exec
  have hb := B.bytes
  have hr := B.returns
  have ht : ∀ w ∈ lw_gd, w.before args s = true := fun w hw => atoms_spec (ws := WW yX11_limit cX11_limit 3 (some .int)) B.pre w (List.mem_cons_of_mem _ hw)
  have hown : s.vm.findClass RX11 = some m.cls := findClass_of_methodNamed B.named
  have hlocks := B.notSynchronized
  have hP : PD D A [bl_X11 cy A_b r_b_trays (A_a 0) r_b_war r_b_draftArmy r_b_draftWar r_b_reader r_b_armyReader r_b_warReader r_b_markedArmies r_b_markedWars r_b_latest r_b_trial r_b_foresight r_b_pairs b_latestStatus b_fractionTop b_fractionBottom b_marks, bl_X0 cy A_a a_name a_courage a_weight a_medals a_stood a_fled a_liked a_votes a_count a_living a_pride a_quota a_melted a_lost] s.heap := ⟨hP, by rw [hA]; exact hD0.own⟩
  have hS : va_S A s.heap s.heap [] := va_S.rf
  obtain ⟨ls, hl, hent⟩ := ent (m := m) (n := 3) hargs (Nat.le_of_ble_eq_true rfl) (lv := [(0, .ref (A_b 0)), (1, .int x1)]) rfl
  rw [hent]
  clear hent
  unfold f_X11_limit at h
  refine lv_aload_n hx hb dX11_limit_0 rfl (lv_at hl 0 rfl) ?_
  refine xget (i := 0) (j := 0) (k := 4) (T := TX11) hx hb ht tb_iX11 hown hX hP.1 rfl rfl rfl (by decide) tb_433 rfl dX11_limit_1 ?_
  refine lv_iload_n hx hb dX11_limit_4 rfl (lv_at hl 1 rfl) ?_
  obtain ⟨z_12, e_z_12, h⟩ := bi h
  refine roVi (rest := []) ⟨hx, hb, hml, hown, ht⟩ (c_X0_isMan l D cy fu A_a a_name a_courage a_weight a_medals a_stood a_fled a_liked a_votes a_count a_living a_pride a_quota a_melted a_lost x1 z_12 e_z_12) (cV ht mv_X0_isMan tb_774 rfl rfl ⟨Nat.le_of_ble_eq_true rfl, Nat.le_of_ble_eq_true rfl⟩) (P_sub hP.1 [1] rfl) hX rfl rfl rfl hl.1 rfl (Nat.le_of_ble_eq_true rfl) dX11_limit_5 ⟨Nat.le_of_ble_eq_true rfl, Nat.le_of_ble_eq_true rfl⟩ ?_
  refine lv_if_ne (tgt := 17) hx hb dX11_limit_8 (by decide) (fun c_13 => ?_) (fun c_13 => ?_)
  · have h := ie c_13 h
    refine lv_aload_n hx hb dX11_limit_17 rfl (lv_at hl 0 rfl) ?_
    refine xget (i := 0) (j := 0) (k := 4) (T := TX11) hx hb ht tb_iX11 hown hX hP.1 rfl rfl rfl (by decide) tb_433 rfl dX11_limit_18 ?_
    refine lv_iload_n hx hb dX11_limit_21 rfl (lv_at hl 1 rfl) ?_
    obtain ⟨z_14, e_z_14, h⟩ := bi h
    refine roVi (rest := []) ⟨hx, hb, hml, hown, ht⟩ (c_X0_lives l D cy fu A_a a_name a_courage a_weight a_medals a_stood a_fled a_liked a_votes a_count a_living a_pride a_quota a_melted a_lost x1 z_14 e_z_14) (cV ht mv_X0_lives tb_775 rfl rfl ⟨Nat.le_of_ble_eq_true rfl, Nat.le_of_ble_eq_true rfl⟩) (P_sub hP.1 [1] rfl) hX rfl rfl rfl hl.1 rfl (Nat.le_of_ble_eq_true rfl) dX11_limit_22 ⟨Nat.le_of_ble_eq_true rfl, Nat.le_of_ble_eq_true rfl⟩ ?_
    refine lv_if_ne (tgt := 35) hx hb dX11_limit_25 (by decide) (fun c_15 => ?_) (fun c_15 => ?_)
    · have h := ie c_15 h
      refine lv_aload_n hx hb dX11_limit_35 rfl (lv_at hl 0 rfl) ?_
      refine xget (i := 0) (j := 0) (k := 4) (T := TX11) hx hb ht tb_iX11 hown hX hP.1 rfl rfl rfl (by decide) tb_433 rfl dX11_limit_36 ?_
      refine lv_iload_n hx hb dX11_limit_39 rfl (lv_at hl 1 rfl) ?_
      obtain ⟨z_16, e_z_16, h⟩ := bi h
      refine roVi (rest := []) ⟨hx, hb, hml, hown, ht⟩ (c_X0_bravery l D cy fu A_a a_name a_courage a_weight a_medals a_stood a_fled a_liked a_votes a_count a_living a_pride a_quota a_melted a_lost x1 z_16 e_z_16) (cV ht mv_X0_bravery tb_779 rfl rfl ⟨Nat.le_of_ble_eq_true rfl, Nat.le_of_ble_eq_true rfl⟩) (P_sub hP.1 [1] rfl) hX rfl rfl rfl hl.1 rfl (Nat.le_of_ble_eq_true rfl) dX11_limit_40 ⟨Nat.le_of_ble_eq_true rfl, Nat.le_of_ble_eq_true rfl⟩ ?_
      refine lv_iconst (v := 1) hx hb dX11_limit_43 (by decide) ?_
      refine lv_iadd hx hb dX11_limit_44 ?_
      refine lv_topi (fun x2_17 e_x2_17 => ?_)
      have h := bn e_x2_17 h
      refine lv_istore_n (lv' := [(2, .int x2_17), (0, .ref (A_b 0)), (1, .int x1)]) hx hb dX11_limit_45 rfl hl (by decide) rfl (fun ls hl => ?_)
      refine lv_iload_n hx hb dX11_limit_46 rfl (lv_at hl 0 rfl) ?_
      refine lv_bipush (v := 99) hx hb dX11_limit_47 (by decide) ?_
      refine lv_icmp_le (tgt := 61) hx hb dX11_limit_49 (by decide) (fun c_18 => ?_) (fun c_18 => ?_)
      · have h := it c_18 h
        refine lv_aload_n hx hb dX11_limit_61 rfl (lv_at hl 1 rfl) ?_
        refine lv_iload_n hx hb dX11_limit_62 rfl (lv_at hl 0 rfl) ?_
        obtain ⟨z_19, e_z_19, h⟩ := bi h
        refine efVi (rest := []) ⟨hx, hb, hml, hown, ht⟩ (c_X11_answer l D cy fu A_b r_b_trays (A_a 0) r_b_war r_b_draftArmy r_b_draftWar r_b_reader r_b_armyReader r_b_warReader r_b_markedArmies r_b_markedWars r_b_latest r_b_trial r_b_foresight r_b_pairs b_latestStatus b_fractionTop b_fractionBottom b_marks x2_17 z_19 e_z_19 _ rfl _ rfl) (cV ht mv_X11_answer tb_696 rfl rfl ⟨Nat.le_of_ble_eq_true rfl, Nat.le_of_ble_eq_true rfl⟩) hP hS hX [0] rfl rfl rfl rfl rfl rfl hl.1 rfl (Nat.le_of_ble_eq_true rfl) dX11_limit_63 ⟨Nat.le_of_ble_eq_true rfl, Nat.le_of_ble_eq_true rfl⟩ (fun H locs hP hS => ?_)
        have hP : PD D A [bl_X11 cy A_b r_b_trays (A_a 0) r_b_war r_b_draftArmy r_b_draftWar r_b_reader r_b_armyReader r_b_warReader r_b_markedArmies r_b_markedWars r_b_latest r_b_trial r_b_foresight r_b_pairs z_19.2 b_fractionTop b_fractionBottom b_marks, bl_X0 cy A_a a_name a_courage a_weight a_medals a_stood a_fled a_liked a_votes a_count a_living a_pride a_quota a_melted a_lost] H := hP
        cases h
        subst hW1
        exact W.iret hx hb hr (fun _ ht9 _ => ⟨⟨_, (), rfl, rfl, hPt ht9 hP.1⟩, hS.F ht9⟩) hS.2.2 dX11_limit_66
      · have h := ie c_18 h
        refine lv_aload_n hx hb dX11_limit_52 rfl (lv_at hl 1 rfl) ?_
        refine lv_bipush (v := 6) hx hb dX11_limit_53 (by decide) ?_
        obtain ⟨z_20, e_z_20, h⟩ := bi h
        refine efVi (rest := []) ⟨hx, hb, hml, hown, ht⟩ (c_X11_refuse l D cy fu A_b r_b_trays (A_a 0) r_b_war r_b_draftArmy r_b_draftWar r_b_reader r_b_armyReader r_b_warReader r_b_markedArmies r_b_markedWars r_b_latest r_b_trial r_b_foresight r_b_pairs b_latestStatus b_fractionTop b_fractionBottom b_marks 6 z_20 e_z_20 _ rfl _ rfl) (cV ht mv_X11_refuse tb_543 rfl rfl ⟨Nat.le_of_ble_eq_true rfl, Nat.le_of_ble_eq_true rfl⟩) hP hS hX [0] rfl rfl rfl rfl rfl rfl hl.1 rfl (Nat.le_of_ble_eq_true rfl) dX11_limit_55 ⟨Nat.le_of_ble_eq_true rfl, Nat.le_of_ble_eq_true rfl⟩ (fun H locs hP hS => ?_)
        have hP : PD D A [bl_X11 cy A_b r_b_trays (A_a 0) r_b_war r_b_draftArmy r_b_draftWar r_b_reader r_b_armyReader r_b_warReader r_b_markedArmies r_b_markedWars r_b_latest r_b_trial r_b_foresight r_b_pairs z_20.2 b_fractionTop b_fractionBottom b_marks, bl_X0 cy A_a a_name a_courage a_weight a_medals a_stood a_fled a_liked a_votes a_count a_living a_pride a_quota a_melted a_lost] H := hP
        refine lv_goto (tgt := 66) hx hb dX11_limit_58 (by decide) ?_
        cases h
        subst hW1
        exact W.iret hx hb hr (fun _ ht9 _ => ⟨⟨_, (), rfl, rfl, hPt ht9 hP.1⟩, hS.F ht9⟩) hS.2.2 dX11_limit_66
    · have h := it c_15 h
      refine lv_aload_n hx hb dX11_limit_28 rfl (lv_at hl 0 rfl) ?_
      refine lv_bipush (v := 7) hx hb dX11_limit_29 (by decide) ?_
      obtain ⟨z_21, e_z_21, h⟩ := bi h
      refine efVi (rest := []) ⟨hx, hb, hml, hown, ht⟩ (c_X11_refuse l D cy fu A_b r_b_trays (A_a 0) r_b_war r_b_draftArmy r_b_draftWar r_b_reader r_b_armyReader r_b_warReader r_b_markedArmies r_b_markedWars r_b_latest r_b_trial r_b_foresight r_b_pairs b_latestStatus b_fractionTop b_fractionBottom b_marks 7 z_21 e_z_21 _ rfl _ rfl) (cV ht mv_X11_refuse tb_543 rfl rfl ⟨Nat.le_of_ble_eq_true rfl, Nat.le_of_ble_eq_true rfl⟩) hP hS hX [0] rfl rfl rfl rfl rfl rfl hl.1 rfl (Nat.le_of_ble_eq_true rfl) dX11_limit_31 ⟨Nat.le_of_ble_eq_true rfl, Nat.le_of_ble_eq_true rfl⟩ (fun H locs hP hS => ?_)
      have hP : PD D A [bl_X11 cy A_b r_b_trays (A_a 0) r_b_war r_b_draftArmy r_b_draftWar r_b_reader r_b_armyReader r_b_warReader r_b_markedArmies r_b_markedWars r_b_latest r_b_trial r_b_foresight r_b_pairs z_21.2 b_fractionTop b_fractionBottom b_marks, bl_X0 cy A_a a_name a_courage a_weight a_medals a_stood a_fled a_liked a_votes a_count a_living a_pride a_quota a_melted a_lost] H := hP
      cases h
      subst hW1
      exact W.iret hx hb hr (fun _ ht9 _ => ⟨⟨_, (), rfl, rfl, hPt ht9 hP.1⟩, hS.F ht9⟩) hS.2.2 dX11_limit_34
  · have h := it c_13 h
    refine lv_aload_n hx hb dX11_limit_11 rfl (lv_at hl 0 rfl) ?_
    refine lv_iconst (v := 1) hx hb dX11_limit_12 (by decide) ?_
    obtain ⟨z_22, e_z_22, h⟩ := bi h
    refine efVi (rest := []) ⟨hx, hb, hml, hown, ht⟩ (c_X11_refuse l D cy fu A_b r_b_trays (A_a 0) r_b_war r_b_draftArmy r_b_draftWar r_b_reader r_b_armyReader r_b_warReader r_b_markedArmies r_b_markedWars r_b_latest r_b_trial r_b_foresight r_b_pairs b_latestStatus b_fractionTop b_fractionBottom b_marks 1 z_22 e_z_22 _ rfl _ rfl) (cV ht mv_X11_refuse tb_543 rfl rfl ⟨Nat.le_of_ble_eq_true rfl, Nat.le_of_ble_eq_true rfl⟩) hP hS hX [0] rfl rfl rfl rfl rfl rfl hl.1 rfl (Nat.le_of_ble_eq_true rfl) dX11_limit_13 ⟨Nat.le_of_ble_eq_true rfl, Nat.le_of_ble_eq_true rfl⟩ (fun H locs hP hS => ?_)
    have hP : PD D A [bl_X11 cy A_b r_b_trays (A_a 0) r_b_war r_b_draftArmy r_b_draftWar r_b_reader r_b_armyReader r_b_warReader r_b_markedArmies r_b_markedWars r_b_latest r_b_trial r_b_foresight r_b_pairs z_22.2 b_fractionTop b_fractionBottom b_marks, bl_X0 cy A_a a_name a_courage a_weight a_medals a_stood a_fled a_liked a_votes a_count a_living a_pride a_quota a_melted a_lost] H := hP
    cases h
    subst hW1
    exact W.iret hx hb hr (fun _ ht9 _ => ⟨⟨_, (), rfl, rfl, hPt ht9 hP.1⟩, hS.F ht9⟩) hS.2.2 dX11_limit_16
theorem dX11_candidates_0 : decode cX11_candidates 0 = .ok (.aload_n 0, 1) := by decide +kernel
theorem dX11_candidates_1 : decode cX11_candidates 1 = .ok (.iload_n 1, 1) := by decide +kernel
theorem dX11_candidates_2 : decode cX11_candidates 2 = .ok (.iload_n 2, 1) := by decide +kernel
theorem dX11_candidates_3 : decode cX11_candidates 3 = .ok (.invokevirtual 266, 3) := by decide +kernel
theorem dX11_candidates_6 : decode cX11_candidates 6 = .ok (.istore_n 3, 1) := by decide +kernel
theorem dX11_candidates_7 : decode cX11_candidates 7 = .ok (.iload_n 3, 1) := by decide +kernel
theorem dX11_candidates_8 : decode cX11_candidates 8 = .ok (.ifCond .eq 9, 3) := by decide +kernel
theorem dX11_candidates_11 : decode cX11_candidates 11 = .ok (.aload_n 0, 1) := by decide +kernel
theorem dX11_candidates_12 : decode cX11_candidates 12 = .ok (.iload_n 3, 1) := by decide +kernel
theorem dX11_candidates_13 : decode cX11_candidates 13 = .ok (.invokevirtual 143, 3) := by decide +kernel
theorem dX11_candidates_16 : decode cX11_candidates 16 = .ok (.ireturn, 1) := by decide +kernel
theorem dX11_candidates_17 : decode cX11_candidates 17 = .ok (.aload_n 0, 1) := by decide +kernel
theorem dX11_candidates_18 : decode cX11_candidates 18 = .ok (.aload_n 0, 1) := by decide +kernel
theorem dX11_candidates_19 : decode cX11_candidates 19 = .ok (.getfield 29, 3) := by decide +kernel
theorem dX11_candidates_22 : decode cX11_candidates 22 = .ok (.iload_n 1, 1) := by decide +kernel
theorem dX11_candidates_23 : decode cX11_candidates 23 = .ok (.iload_n 2, 1) := by decide +kernel
theorem dX11_candidates_24 : decode cX11_candidates 24 = .ok (.invokevirtual 300, 3) := by decide +kernel
theorem dX11_candidates_27 : decode cX11_candidates 27 = .ok (.invokevirtual 193, 3) := by decide +kernel
theorem dX11_candidates_30 : decode cX11_candidates 30 = .ok (.ireturn, 1) := by decide +kernel
theorem mv_X11_candidates : MV yX11_candidates RX11 cX11_candidates 4 (some .int) 2 := ⟨tb_892, tb_890, tb_891, tb_1, by decide +kernel, by decide +kernel, by decide +kernel⟩
def f_X11_candidates (fu : Nat) (b_latestStatus : Int32) (a_courage : Nat → Int32) (a_medals : Nat → Int32) (a_count : Int32) (a_living : Int32) (a_pride : Int32) (x1 : Int32) (x2 : Int32) : Option (Int32 × Int32) := (f_X11_dangerRefusal fu a_count a_living x1 x2).bind fun z_6 => (if z_6 = 0 then (f_X0_othersWhoRun fu a_courage a_medals a_count a_living a_pride x1 x2).bind fun z_8 => (f_X11_answer fu b_latestStatus z_8).bind fun z_9 => some (z_9.1, z_9.2) else (f_X11_refuse fu b_latestStatus z_6).bind fun z_10 => some (z_10.1, z_10.2))
abbrev rm_X11_candidates : Room := { frames := 3, cells := 0, slots := 0, locals := 68 }
set_option maxHeartbeats 4000000 in
set_option maxRecDepth 100000 in
theorem c_X11_candidates (l : Launch) (D : va_G) (cy : Nat → ClassId) (fu : Nat) (A_b : Nat → Nat) (r_b_trays : Nat) (r_b_war : Nat) (r_b_draftArmy : Nat) (r_b_draftWar : Nat) (r_b_reader : Nat) (r_b_armyReader : Nat) (r_b_warReader : Nat) (r_b_markedArmies : Nat) (r_b_markedWars : Nat) (r_b_latest : Nat) (r_b_trial : Nat) (r_b_foresight : Nat) (r_b_pairs : Nat) (b_latestStatus : Int32) (b_fractionTop : Int64) (b_fractionBottom : Int64) (b_marks : Int32) (A_a : Nat → Nat) (a_name : Nat → Int64) (a_courage : Nat → Int32) (a_weight : Nat → Int32) (a_medals : Nat → Int32) (a_stood : Nat → Int32) (a_fled : Nat → Int32) (a_liked : Nat → Int32) (a_votes : Nat → Int32) (a_count : Int32) (a_living : Int32) (a_pride : Int32) (a_quota : Int32) (a_melted : Int32) (a_lost : Int32) (x1 : Int32) (x2 : Int32) (res : Int32 × Int32) (h : f_X11_candidates fu b_latestStatus a_courage a_medals a_count a_living a_pride x1 x2 = some res) (A : Nat → Prop) (hA : A = adr [bl_X11 cy A_b r_b_trays (A_a 0) r_b_war r_b_draftArmy r_b_draftWar r_b_reader r_b_armyReader r_b_warReader r_b_markedArmies r_b_markedWars r_b_latest r_b_trial r_b_foresight r_b_pairs b_latestStatus b_fractionTop b_fractionBottom b_marks, bl_X0 cy A_a a_name a_courage a_weight a_medals a_stood a_fled a_liked a_votes a_count a_living a_pride a_quota a_melted a_lost]) (W1 : List va_W) (hW1 : W1 = [bl_X11 cy A_b r_b_trays (A_a 0) r_b_war r_b_draftArmy r_b_draftWar r_b_reader r_b_armyReader r_b_warReader r_b_markedArmies r_b_markedWars r_b_latest r_b_trial r_b_foresight r_b_pairs res.2 b_fractionTop b_fractionBottom b_marks, bl_X0 cy A_a a_name a_courage a_weight a_medals a_stood a_fled a_liked a_votes a_count a_living a_pride a_quota a_melted a_lost]) : Met l yX11_candidates (WW yX11_candidates cX11_candidates 4 (some .int)) rm_X11_candidates (Ed D cy [.ref (A_b 0), .int x1, .int x2] [bl_X11 cy A_b r_b_trays (A_a 0) r_b_war r_b_draftArmy r_b_draftWar r_b_reader r_b_armyReader r_b_warReader r_b_markedArmies r_b_markedWars r_b_latest r_b_trial r_b_foresight r_b_pairs b_latestStatus b_fractionTop b_fractionBottom b_marks, bl_X0 cy A_a a_name a_courage a_weight a_medals a_stood a_fled a_liked a_votes a_count a_living a_pride a_quota a_melted a_lost]) (Qei D res.1 A W1) 0 0 A := by
  refine Met.ofW (cc := cX11_candidates) (maxL := 4) (ret := (some .int)) (by decide) rfl ?_
  intro p e s m args below meth c s₁ B hml hv
  obtain ⟨hargs, hP, hX, hD0⟩ := hv
  have hx := B.exec
  have hb := B.bytes
  have hr := B.returns
  have ht : ∀ w ∈ lw_gd, w.before args s = true := fun w hw => atoms_spec (ws := WW yX11_candidates cX11_candidates 4 (some .int)) B.pre w (List.mem_cons_of_mem _ hw)
  have hown : s.vm.findClass RX11 = some m.cls := findClass_of_methodNamed B.named
  have hlocks := B.notSynchronized
  have hP : PD D A [bl_X11 cy A_b r_b_trays (A_a 0) r_b_war r_b_draftArmy r_b_draftWar r_b_reader r_b_armyReader r_b_warReader r_b_markedArmies r_b_markedWars r_b_latest r_b_trial r_b_foresight r_b_pairs b_latestStatus b_fractionTop b_fractionBottom b_marks, bl_X0 cy A_a a_name a_courage a_weight a_medals a_stood a_fled a_liked a_votes a_count a_living a_pride a_quota a_melted a_lost] s.heap := ⟨hP, by rw [hA]; exact hD0.own⟩
  have hS : va_S A s.heap s.heap [] := va_S.rf
  obtain ⟨ls, hl, hent⟩ := ent (m := m) (n := 4) hargs (Nat.le_of_ble_eq_true rfl) (lv := [(0, .ref (A_b 0)), (1, .int x1), (2, .int x2)]) rfl
  rw [hent]
  clear hent
  unfold f_X11_candidates at h
  refine lv_aload_n hx hb dX11_candidates_0 rfl (lv_at hl 0 rfl) ?_
  refine lv_iload_n hx hb dX11_candidates_1 rfl (lv_at hl 1 rfl) ?_
  refine lv_iload_n hx hb dX11_candidates_2 rfl (lv_at hl 2 rfl) ?_
  obtain ⟨z_6, e_z_6, h⟩ := bi h
  refine roVi (rest := []) ⟨hx, hb, hml, hown, ht⟩ (c_X11_dangerRefusal l D cy fu A_b r_b_trays r_b_war r_b_draftArmy r_b_draftWar r_b_reader r_b_armyReader r_b_warReader r_b_markedArmies r_b_markedWars r_b_latest r_b_trial r_b_foresight r_b_pairs b_latestStatus b_fractionTop b_fractionBottom b_marks A_a a_name a_courage a_weight a_medals a_stood a_fled a_liked a_votes a_count a_living a_pride a_quota a_melted a_lost x1 x2 z_6 e_z_6) (cV ht mv_X11_dangerRefusal tb_799 rfl rfl ⟨Nat.le_of_ble_eq_true rfl, Nat.le_of_ble_eq_true rfl⟩) (P_sub hP.1 [0, 1] rfl) hX rfl rfl rfl hl.1 rfl (Nat.le_of_ble_eq_true rfl) dX11_candidates_3 ⟨Nat.le_of_ble_eq_true rfl, Nat.le_of_ble_eq_true rfl⟩ ?_
  refine lv_istore_n (lv' := [(3, .int z_6), (0, .ref (A_b 0)), (1, .int x1), (2, .int x2)]) hx hb dX11_candidates_6 rfl hl (by decide) rfl (fun ls hl => ?_)
  refine lv_iload_n hx hb dX11_candidates_7 rfl (lv_at hl 0 rfl) ?_
  refine lv_if_eq (tgt := 17) hx hb dX11_candidates_8 (by decide) (fun c_7 => ?_) (fun c_7 => ?_)
  · have h := it c_7 h
    refine lv_aload_n hx hb dX11_candidates_17 rfl (lv_at hl 1 rfl) ?_
    refine lv_aload_n hx hb dX11_candidates_18 rfl (lv_at hl 1 rfl) ?_
    refine xget (i := 0) (j := 0) (k := 4) (T := TX11) hx hb ht tb_iX11 hown hX hP.1 rfl rfl rfl (by decide) tb_433 rfl dX11_candidates_19 ?_
    refine lv_iload_n hx hb dX11_candidates_22 rfl (lv_at hl 2 rfl) ?_
    refine lv_iload_n hx hb dX11_candidates_23 rfl (lv_at hl 3 rfl) ?_
    obtain ⟨z_8, e_z_8, h⟩ := bi h
    refine roVi (rest := [.ref (A_b 0)]) ⟨hx, hb, hml, hown, ht⟩ (c_X0_othersWhoRun l D cy fu A_a a_name a_courage a_weight a_medals a_stood a_fled a_liked a_votes a_count a_living a_pride a_quota a_melted a_lost x1 x2 z_8 e_z_8) (cV ht mv_X0_othersWhoRun tb_893 rfl rfl ⟨Nat.le_of_ble_eq_true rfl, Nat.le_of_ble_eq_true rfl⟩) (P_sub hP.1 [1] rfl) hX rfl rfl rfl hl.1 rfl (Nat.le_of_ble_eq_true rfl) dX11_candidates_24 ⟨Nat.le_of_ble_eq_true rfl, Nat.le_of_ble_eq_true rfl⟩ ?_
    obtain ⟨z_9, e_z_9, h⟩ := bi h
    refine efVi (rest := []) ⟨hx, hb, hml, hown, ht⟩ (c_X11_answer l D cy fu A_b r_b_trays (A_a 0) r_b_war r_b_draftArmy r_b_draftWar r_b_reader r_b_armyReader r_b_warReader r_b_markedArmies r_b_markedWars r_b_latest r_b_trial r_b_foresight r_b_pairs b_latestStatus b_fractionTop b_fractionBottom b_marks z_8 z_9 e_z_9 _ rfl _ rfl) (cV ht mv_X11_answer tb_696 rfl rfl ⟨Nat.le_of_ble_eq_true rfl, Nat.le_of_ble_eq_true rfl⟩) hP hS hX [0] rfl rfl rfl rfl rfl rfl hl.1 rfl (Nat.le_of_ble_eq_true rfl) dX11_candidates_27 ⟨Nat.le_of_ble_eq_true rfl, Nat.le_of_ble_eq_true rfl⟩ (fun H locs hP hS => ?_)
    have hP : PD D A [bl_X11 cy A_b r_b_trays (A_a 0) r_b_war r_b_draftArmy r_b_draftWar r_b_reader r_b_armyReader r_b_warReader r_b_markedArmies r_b_markedWars r_b_latest r_b_trial r_b_foresight r_b_pairs z_9.2 b_fractionTop b_fractionBottom b_marks, bl_X0 cy A_a a_name a_courage a_weight a_medals a_stood a_fled a_liked a_votes a_count a_living a_pride a_quota a_melted a_lost] H := hP
    cases h
    subst hW1
    exact W.iret hx hb hr (fun _ ht9 _ => ⟨⟨_, (), rfl, rfl, hPt ht9 hP.1⟩, hS.F ht9⟩) hS.2.2 dX11_candidates_30
  · have h := ie c_7 h
    refine lv_aload_n hx hb dX11_candidates_11 rfl (lv_at hl 1 rfl) ?_
    refine lv_iload_n hx hb dX11_candidates_12 rfl (lv_at hl 0 rfl) ?_
    obtain ⟨z_10, e_z_10, h⟩ := bi h
    refine efVi (rest := []) ⟨hx, hb, hml, hown, ht⟩ (c_X11_refuse l D cy fu A_b r_b_trays (A_a 0) r_b_war r_b_draftArmy r_b_draftWar r_b_reader r_b_armyReader r_b_warReader r_b_markedArmies r_b_markedWars r_b_latest r_b_trial r_b_foresight r_b_pairs b_latestStatus b_fractionTop b_fractionBottom b_marks z_6 z_10 e_z_10 _ rfl _ rfl) (cV ht mv_X11_refuse tb_543 rfl rfl ⟨Nat.le_of_ble_eq_true rfl, Nat.le_of_ble_eq_true rfl⟩) hP hS hX [0] rfl rfl rfl rfl rfl rfl hl.1 rfl (Nat.le_of_ble_eq_true rfl) dX11_candidates_13 ⟨Nat.le_of_ble_eq_true rfl, Nat.le_of_ble_eq_true rfl⟩ (fun H locs hP hS => ?_)
    have hP : PD D A [bl_X11 cy A_b r_b_trays (A_a 0) r_b_war r_b_draftArmy r_b_draftWar r_b_reader r_b_armyReader r_b_warReader r_b_markedArmies r_b_markedWars r_b_latest r_b_trial r_b_foresight r_b_pairs z_10.2 b_fractionTop b_fractionBottom b_marks, bl_X0 cy A_a a_name a_courage a_weight a_medals a_stood a_fled a_liked a_votes a_count a_living a_pride a_quota a_melted a_lost] H := hP
    cases h
    subst hW1
    exact W.iret hx hb hr (fun _ ht9 _ => ⟨⟨_, (), rfl, rfl, hPt ht9 hP.1⟩, hS.F ht9⟩) hS.2.2 dX11_candidates_16
theorem dX11_voteOf_0 : decode cX11_voteOf 0 = .ok (.aload_n 0, 1) := by decide +kernel
theorem dX11_voteOf_1 : decode cX11_voteOf 1 = .ok (.getfield 29, 3) := by decide +kernel
theorem dX11_voteOf_4 : decode cX11_voteOf 4 = .ok (.iload_n 1, 1) := by decide +kernel
theorem dX11_voteOf_5 : decode cX11_voteOf 5 = .ok (.invokevirtual 248, 3) := by decide +kernel
theorem dX11_voteOf_8 : decode cX11_voteOf 8 = .ok (.ifCond .eq 21, 3) := by decide +kernel
theorem dX11_voteOf_11 : decode cX11_voteOf 11 = .ok (.aload_n 0, 1) := by decide +kernel
theorem dX11_voteOf_12 : decode cX11_voteOf 12 = .ok (.getfield 29, 3) := by decide +kernel
theorem dX11_voteOf_15 : decode cX11_voteOf 15 = .ok (.iload_n 2, 1) := by decide +kernel
theorem dX11_voteOf_16 : decode cX11_voteOf 16 = .ok (.invokevirtual 248, 3) := by decide +kernel
theorem dX11_voteOf_19 : decode cX11_voteOf 19 = .ok (.ifCond .eq 10, 3) := by decide +kernel
theorem dX11_voteOf_22 : decode cX11_voteOf 22 = .ok (.iload_n 3, 1) := by decide +kernel
theorem dX11_voteOf_23 : decode cX11_voteOf 23 = .ok (.invokestatic 294, 3) := by decide +kernel
theorem dX11_voteOf_26 : decode cX11_voteOf 26 = .ok (.ifCond .ne 9, 3) := by decide +kernel
theorem dX11_voteOf_29 : decode cX11_voteOf 29 = .ok (.aload_n 0, 1) := by decide +kernel
theorem dX11_voteOf_30 : decode cX11_voteOf 30 = .ok (.iconst 1, 1) := by decide +kernel
theorem dX11_voteOf_31 : decode cX11_voteOf 31 = .ok (.invokevirtual 143, 3) := by decide +kernel
theorem dX11_voteOf_34 : decode cX11_voteOf 34 = .ok (.ireturn, 1) := by decide +kernel
theorem dX11_voteOf_35 : decode cX11_voteOf 35 = .ok (.aload_n 0, 1) := by decide +kernel
theorem dX11_voteOf_36 : decode cX11_voteOf 36 = .ok (.getfield 29, 3) := by decide +kernel
theorem dX11_voteOf_39 : decode cX11_voteOf 39 = .ok (.iload_n 1, 1) := by decide +kernel
theorem dX11_voteOf_40 : decode cX11_voteOf 40 = .ok (.invokevirtual 257, 3) := by decide +kernel
theorem dX11_voteOf_43 : decode cX11_voteOf 43 = .ok (.ifCond .eq 14, 3) := by decide +kernel
theorem dX11_voteOf_46 : decode cX11_voteOf 46 = .ok (.aload_n 0, 1) := by decide +kernel
theorem dX11_voteOf_47 : decode cX11_voteOf 47 = .ok (.getfield 29, 3) := by decide +kernel
theorem dX11_voteOf_50 : decode cX11_voteOf 50 = .ok (.iload_n 2, 1) := by decide +kernel
theorem dX11_voteOf_51 : decode cX11_voteOf 51 = .ok (.invokevirtual 257, 3) := by decide +kernel
theorem dX11_voteOf_54 : decode cX11_voteOf 54 = .ok (.ifCond .ne 10, 3) := by decide +kernel
theorem dX11_voteOf_57 : decode cX11_voteOf 57 = .ok (.aload_n 0, 1) := by decide +kernel
theorem dX11_voteOf_58 : decode cX11_voteOf 58 = .ok (.bipush 7, 2) := by decide +kernel
theorem dX11_voteOf_60 : decode cX11_voteOf 60 = .ok (.invokevirtual 143, 3) := by decide +kernel
theorem dX11_voteOf_63 : decode cX11_voteOf 63 = .ok (.ireturn, 1) := by decide +kernel
theorem dX11_voteOf_64 : decode cX11_voteOf 64 = .ok (.aload_n 0, 1) := by decide +kernel
theorem dX11_voteOf_65 : decode cX11_voteOf 65 = .ok (.getfield 29, 3) := by decide +kernel
theorem dX11_voteOf_68 : decode cX11_voteOf 68 = .ok (.iload_n 1, 1) := by decide +kernel
theorem dX11_voteOf_69 : decode cX11_voteOf 69 = .ok (.aload_n 0, 1) := by decide +kernel
theorem dX11_voteOf_70 : decode cX11_voteOf 70 = .ok (.getfield 29, 3) := by decide +kernel
theorem dX11_voteOf_73 : decode cX11_voteOf 73 = .ok (.iload_n 2, 1) := by decide +kernel
theorem dX11_voteOf_74 : decode cX11_voteOf 74 = .ok (.iload_n 3, 1) := by decide +kernel
theorem dX11_voteOf_75 : decode cX11_voteOf 75 = .ok (.invokevirtual 300, 3) := by decide +kernel
theorem dX11_voteOf_78 : decode cX11_voteOf 78 = .ok (.invokevirtual 303, 3) := by decide +kernel
theorem dX11_voteOf_81 : decode cX11_voteOf 81 = .ok (.istore 4, 2) := by decide +kernel
theorem dX11_voteOf_83 : decode cX11_voteOf 83 = .ok (.iload 4, 2) := by decide +kernel
theorem dX11_voteOf_85 : decode cX11_voteOf 85 = .ok (.iconst (-1), 1) := by decide +kernel
theorem dX11_voteOf_86 : decode cX11_voteOf 86 = .ok (.if_icmp .ne 12, 3) := by decide +kernel
theorem dX11_voteOf_89 : decode cX11_voteOf 89 = .ok (.aload_n 0, 1) := by decide +kernel
theorem dX11_voteOf_90 : decode cX11_voteOf 90 = .ok (.bipush 6, 2) := by decide +kernel
theorem dX11_voteOf_92 : decode cX11_voteOf 92 = .ok (.invokevirtual 143, 3) := by decide +kernel
theorem dX11_voteOf_95 : decode cX11_voteOf 95 = .ok (.goto 9, 3) := by decide +kernel
theorem dX11_voteOf_98 : decode cX11_voteOf 98 = .ok (.aload_n 0, 1) := by decide +kernel
theorem dX11_voteOf_99 : decode cX11_voteOf 99 = .ok (.iload 4, 2) := by decide +kernel
theorem dX11_voteOf_101 : decode cX11_voteOf 101 = .ok (.invokevirtual 193, 3) := by decide +kernel
theorem dX11_voteOf_104 : decode cX11_voteOf 104 = .ok (.ireturn, 1) := by decide +kernel
theorem mv_X11_voteOf : MV yX11_voteOf RX11 cX11_voteOf 5 (some .int) 3 := ⟨tb_900, tb_898, tb_899, tb_1, by decide +kernel, by decide +kernel, by decide +kernel⟩
def f_X11_voteOf (fu : Nat) (b_latestStatus : Int32) (a_courage : Nat → Int32) (a_medals : Nat → Int32) (a_liked : Nat → Int32) (a_count : Int32) (a_living : Int32) (a_pride : Int32) (x1 : Int32) (x2 : Int32) (x3 : Int32) : Option (Int32 × Int32) := (f_X0_isMan fu a_count x1).bind fun z_21 => (if z_21 = 0 then (f_X11_refuse fu b_latestStatus 1).bind fun z_23 => some (z_23.1, z_23.2) else (f_X0_isMan fu a_count x2).bind fun z_24 => (if z_24 = 0 then (f_X11_refuse fu b_latestStatus 1).bind fun z_26 => some (z_26.1, z_26.2) else (f_X11_isSize fu x3).bind fun z_27 => (if z_27 = 0 then (f_X11_refuse fu b_latestStatus 1).bind fun z_40 => some (z_40.1, z_40.2) else (f_X0_lives fu a_count a_living x1).bind fun z_29 => (if z_29 = 0 then (f_X11_refuse fu b_latestStatus 7).bind fun z_31 => some (z_31.1, z_31.2) else (f_X0_lives fu a_count a_living x2).bind fun z_32 => (if z_32 = 0 then (f_X11_refuse fu b_latestStatus 7).bind fun z_39 => some (z_39.1, z_39.2) else (f_X0_othersWhoRun fu a_courage a_medals a_count a_living a_pride x2 x3).bind fun z_34 => (f_X0_choiceOf fu a_liked a_count x1 z_34).bind fun z_35 => (if z_35 = (-1) then (f_X11_refuse fu b_latestStatus 6).bind fun z_38 => some (z_38.1, z_38.2) else (f_X11_answer fu b_latestStatus z_35).bind fun z_37 => some (z_37.1, z_37.2)))))))
abbrev rm_X11_voteOf : Room := { frames := 3, cells := 0, slots := 0, locals := 68 }
set_option maxHeartbeats 4000000 in
set_option maxRecDepth 100000 in
theorem c_X11_voteOf (l : Launch) (D : va_G) (cy : Nat → ClassId) (fu : Nat) (A_b : Nat → Nat) (r_b_trays : Nat) (r_b_war : Nat) (r_b_draftArmy : Nat) (r_b_draftWar : Nat) (r_b_reader : Nat) (r_b_armyReader : Nat) (r_b_warReader : Nat) (r_b_markedArmies : Nat) (r_b_markedWars : Nat) (r_b_latest : Nat) (r_b_trial : Nat) (r_b_foresight : Nat) (r_b_pairs : Nat) (b_latestStatus : Int32) (b_fractionTop : Int64) (b_fractionBottom : Int64) (b_marks : Int32) (A_a : Nat → Nat) (a_name : Nat → Int64) (a_courage : Nat → Int32) (a_weight : Nat → Int32) (a_medals : Nat → Int32) (a_stood : Nat → Int32) (a_fled : Nat → Int32) (a_liked : Nat → Int32) (a_votes : Nat → Int32) (a_count : Int32) (a_living : Int32) (a_pride : Int32) (a_quota : Int32) (a_melted : Int32) (a_lost : Int32) (x1 : Int32) (x2 : Int32) (x3 : Int32) (res : Int32 × Int32) (h : f_X11_voteOf fu b_latestStatus a_courage a_medals a_liked a_count a_living a_pride x1 x2 x3 = some res) (A : Nat → Prop) (hA : A = adr [bl_X11 cy A_b r_b_trays (A_a 0) r_b_war r_b_draftArmy r_b_draftWar r_b_reader r_b_armyReader r_b_warReader r_b_markedArmies r_b_markedWars r_b_latest r_b_trial r_b_foresight r_b_pairs b_latestStatus b_fractionTop b_fractionBottom b_marks, bl_X0 cy A_a a_name a_courage a_weight a_medals a_stood a_fled a_liked a_votes a_count a_living a_pride a_quota a_melted a_lost]) (W1 : List va_W) (hW1 : W1 = [bl_X11 cy A_b r_b_trays (A_a 0) r_b_war r_b_draftArmy r_b_draftWar r_b_reader r_b_armyReader r_b_warReader r_b_markedArmies r_b_markedWars r_b_latest r_b_trial r_b_foresight r_b_pairs res.2 b_fractionTop b_fractionBottom b_marks, bl_X0 cy A_a a_name a_courage a_weight a_medals a_stood a_fled a_liked a_votes a_count a_living a_pride a_quota a_melted a_lost]) : Met l yX11_voteOf (WW yX11_voteOf cX11_voteOf 5 (some .int)) rm_X11_voteOf (Ed D cy [.ref (A_b 0), .int x1, .int x2, .int x3] [bl_X11 cy A_b r_b_trays (A_a 0) r_b_war r_b_draftArmy r_b_draftWar r_b_reader r_b_armyReader r_b_warReader r_b_markedArmies r_b_markedWars r_b_latest r_b_trial r_b_foresight r_b_pairs b_latestStatus b_fractionTop b_fractionBottom b_marks, bl_X0 cy A_a a_name a_courage a_weight a_medals a_stood a_fled a_liked a_votes a_count a_living a_pride a_quota a_melted a_lost]) (Qei D res.1 A W1) 0 0 A := by
  refine Met.ofW (cc := cX11_voteOf) (maxL := 5) (ret := (some .int)) (by decide) rfl ?_
  intro p e s m args below meth c s₁ B hml hv
  obtain ⟨hargs, hP, hX, hD0⟩ := hv
  have hx := B.exec
  have hb := B.bytes
  have hr := B.returns
  have ht : ∀ w ∈ lw_gd, w.before args s = true := fun w hw => atoms_spec (ws := WW yX11_voteOf cX11_voteOf 5 (some .int)) B.pre w (List.mem_cons_of_mem _ hw)
  have hown : s.vm.findClass RX11 = some m.cls := findClass_of_methodNamed B.named
  have hlocks := B.notSynchronized
  have hP : PD D A [bl_X11 cy A_b r_b_trays (A_a 0) r_b_war r_b_draftArmy r_b_draftWar r_b_reader r_b_armyReader r_b_warReader r_b_markedArmies r_b_markedWars r_b_latest r_b_trial r_b_foresight r_b_pairs b_latestStatus b_fractionTop b_fractionBottom b_marks, bl_X0 cy A_a a_name a_courage a_weight a_medals a_stood a_fled a_liked a_votes a_count a_living a_pride a_quota a_melted a_lost] s.heap := ⟨hP, by rw [hA]; exact hD0.own⟩
  have hS : va_S A s.heap s.heap [] := va_S.rf
  obtain ⟨ls, hl, hent⟩ := ent (m := m) (n := 5) hargs (Nat.le_of_ble_eq_true rfl) (lv := [(0, .ref (A_b 0)), (1, .int x1), (2, .int x2), (3, .int x3)]) rfl
  rw [hent]
  clear hent
  unfold f_X11_voteOf at h
  refine lv_aload_n hx hb dX11_voteOf_0 rfl (lv_at hl 0 rfl) ?_
  refine xget (i := 0) (j := 0) (k := 4) (T := TX11) hx hb ht tb_iX11 hown hX hP.1 rfl rfl rfl (by decide) tb_433 rfl dX11_voteOf_1 ?_
  refine lv_iload_n hx hb dX11_voteOf_4 rfl (lv_at hl 1 rfl) ?_
  obtain ⟨z_21, e_z_21, h⟩ := bi h
  refine roVi (rest := []) ⟨hx, hb, hml, hown, ht⟩ (c_X0_isMan l D cy fu A_a a_name a_courage a_weight a_medals a_stood a_fled a_liked a_votes a_count a_living a_pride a_quota a_melted a_lost x1 z_21 e_z_21) (cV ht mv_X0_isMan tb_774 rfl rfl ⟨Nat.le_of_ble_eq_true rfl, Nat.le_of_ble_eq_true rfl⟩) (P_sub hP.1 [1] rfl) hX rfl rfl rfl hl.1 rfl (Nat.le_of_ble_eq_true rfl) dX11_voteOf_5 ⟨Nat.le_of_ble_eq_true rfl, Nat.le_of_ble_eq_true rfl⟩ ?_
  refine lv_if_eq (tgt := 29) hx hb dX11_voteOf_8 (by decide) (fun c_22 => ?_) (fun c_22 => ?_)
  · have h := it c_22 h
    refine lv_aload_n hx hb dX11_voteOf_29 rfl (lv_at hl 0 rfl) ?_
    refine lv_iconst (v := 1) hx hb dX11_voteOf_30 (by decide) ?_
    obtain ⟨z_23, e_z_23, h⟩ := bi h
    refine efVi (rest := []) ⟨hx, hb, hml, hown, ht⟩ (c_X11_refuse l D cy fu A_b r_b_trays (A_a 0) r_b_war r_b_draftArmy r_b_draftWar r_b_reader r_b_armyReader r_b_warReader r_b_markedArmies r_b_markedWars r_b_latest r_b_trial r_b_foresight r_b_pairs b_latestStatus b_fractionTop b_fractionBottom b_marks 1 z_23 e_z_23 _ rfl _ rfl) (cV ht mv_X11_refuse tb_543 rfl rfl ⟨Nat.le_of_ble_eq_true rfl, Nat.le_of_ble_eq_true rfl⟩) hP hS hX [0] rfl rfl rfl rfl rfl rfl hl.1 rfl (Nat.le_of_ble_eq_true rfl) dX11_voteOf_31 ⟨Nat.le_of_ble_eq_true rfl, Nat.le_of_ble_eq_true rfl⟩ (fun H locs hP hS => ?_)
    have hP : PD D A [bl_X11 cy A_b r_b_trays (A_a 0) r_b_war r_b_draftArmy r_b_draftWar r_b_reader r_b_armyReader r_b_warReader r_b_markedArmies r_b_markedWars r_b_latest r_b_trial r_b_foresight r_b_pairs z_23.2 b_fractionTop b_fractionBottom b_marks, bl_X0 cy A_a a_name a_courage a_weight a_medals a_stood a_fled a_liked a_votes a_count a_living a_pride a_quota a_melted a_lost] H := hP
    cases h
    subst hW1
    exact W.iret hx hb hr (fun _ ht9 _ => ⟨⟨_, (), rfl, rfl, hPt ht9 hP.1⟩, hS.F ht9⟩) hS.2.2 dX11_voteOf_34
  · have h := ie c_22 h
    refine lv_aload_n hx hb dX11_voteOf_11 rfl (lv_at hl 0 rfl) ?_
    refine xget (i := 0) (j := 0) (k := 4) (T := TX11) hx hb ht tb_iX11 hown hX hP.1 rfl rfl rfl (by decide) tb_433 rfl dX11_voteOf_12 ?_
    refine lv_iload_n hx hb dX11_voteOf_15 rfl (lv_at hl 2 rfl) ?_
    obtain ⟨z_24, e_z_24, h⟩ := bi h
    refine roVi (rest := []) ⟨hx, hb, hml, hown, ht⟩ (c_X0_isMan l D cy fu A_a a_name a_courage a_weight a_medals a_stood a_fled a_liked a_votes a_count a_living a_pride a_quota a_melted a_lost x2 z_24 e_z_24) (cV ht mv_X0_isMan tb_774 rfl rfl ⟨Nat.le_of_ble_eq_true rfl, Nat.le_of_ble_eq_true rfl⟩) (P_sub hP.1 [1] rfl) hX rfl rfl rfl hl.1 rfl (Nat.le_of_ble_eq_true rfl) dX11_voteOf_16 ⟨Nat.le_of_ble_eq_true rfl, Nat.le_of_ble_eq_true rfl⟩ ?_
    refine lv_if_eq (tgt := 29) hx hb dX11_voteOf_19 (by decide) (fun c_25 => ?_) (fun c_25 => ?_)
    · have h := it c_25 h
      refine lv_aload_n hx hb dX11_voteOf_29 rfl (lv_at hl 0 rfl) ?_
      refine lv_iconst (v := 1) hx hb dX11_voteOf_30 (by decide) ?_
      obtain ⟨z_26, e_z_26, h⟩ := bi h
      refine efVi (rest := []) ⟨hx, hb, hml, hown, ht⟩ (c_X11_refuse l D cy fu A_b r_b_trays (A_a 0) r_b_war r_b_draftArmy r_b_draftWar r_b_reader r_b_armyReader r_b_warReader r_b_markedArmies r_b_markedWars r_b_latest r_b_trial r_b_foresight r_b_pairs b_latestStatus b_fractionTop b_fractionBottom b_marks 1 z_26 e_z_26 _ rfl _ rfl) (cV ht mv_X11_refuse tb_543 rfl rfl ⟨Nat.le_of_ble_eq_true rfl, Nat.le_of_ble_eq_true rfl⟩) hP hS hX [0] rfl rfl rfl rfl rfl rfl hl.1 rfl (Nat.le_of_ble_eq_true rfl) dX11_voteOf_31 ⟨Nat.le_of_ble_eq_true rfl, Nat.le_of_ble_eq_true rfl⟩ (fun H locs hP hS => ?_)
      have hP : PD D A [bl_X11 cy A_b r_b_trays (A_a 0) r_b_war r_b_draftArmy r_b_draftWar r_b_reader r_b_armyReader r_b_warReader r_b_markedArmies r_b_markedWars r_b_latest r_b_trial r_b_foresight r_b_pairs z_26.2 b_fractionTop b_fractionBottom b_marks, bl_X0 cy A_a a_name a_courage a_weight a_medals a_stood a_fled a_liked a_votes a_count a_living a_pride a_quota a_melted a_lost] H := hP
      cases h
      subst hW1
      exact W.iret hx hb hr (fun _ ht9 _ => ⟨⟨_, (), rfl, rfl, hPt ht9 hP.1⟩, hS.F ht9⟩) hS.2.2 dX11_voteOf_34
    · have h := ie c_25 h
      refine lv_iload_n hx hb dX11_voteOf_22 rfl (lv_at hl 3 rfl) ?_
      obtain ⟨z_27, e_z_27, h⟩ := bi h
      refine roSi (rest := []) ⟨hx, hb, hml, hown, ht⟩ (c_X11_isSize l D cy fu  x3 z_27 e_z_27) (cS ht ms_X11_isSize tb_803 rfl rfl ⟨Nat.le_of_ble_eq_true rfl, Nat.le_of_ble_eq_true rfl⟩) (P_sub hP.1 [] rfl) hX rfl hl.1 rfl (Nat.le_of_ble_eq_true rfl) dX11_voteOf_23 ⟨Nat.le_of_ble_eq_true rfl, Nat.le_of_ble_eq_true rfl⟩ ?_
      refine lv_if_ne (tgt := 35) hx hb dX11_voteOf_26 (by decide) (fun c_28 => ?_) (fun c_28 => ?_)
      · have h := ie c_28 h
        refine lv_aload_n hx hb dX11_voteOf_35 rfl (lv_at hl 0 rfl) ?_
        refine xget (i := 0) (j := 0) (k := 4) (T := TX11) hx hb ht tb_iX11 hown hX hP.1 rfl rfl rfl (by decide) tb_433 rfl dX11_voteOf_36 ?_
        refine lv_iload_n hx hb dX11_voteOf_39 rfl (lv_at hl 1 rfl) ?_
        obtain ⟨z_29, e_z_29, h⟩ := bi h
        refine roVi (rest := []) ⟨hx, hb, hml, hown, ht⟩ (c_X0_lives l D cy fu A_a a_name a_courage a_weight a_medals a_stood a_fled a_liked a_votes a_count a_living a_pride a_quota a_melted a_lost x1 z_29 e_z_29) (cV ht mv_X0_lives tb_775 rfl rfl ⟨Nat.le_of_ble_eq_true rfl, Nat.le_of_ble_eq_true rfl⟩) (P_sub hP.1 [1] rfl) hX rfl rfl rfl hl.1 rfl (Nat.le_of_ble_eq_true rfl) dX11_voteOf_40 ⟨Nat.le_of_ble_eq_true rfl, Nat.le_of_ble_eq_true rfl⟩ ?_
        refine lv_if_eq (tgt := 57) hx hb dX11_voteOf_43 (by decide) (fun c_30 => ?_) (fun c_30 => ?_)
        · have h := it c_30 h
          refine lv_aload_n hx hb dX11_voteOf_57 rfl (lv_at hl 0 rfl) ?_
          refine lv_bipush (v := 7) hx hb dX11_voteOf_58 (by decide) ?_
          obtain ⟨z_31, e_z_31, h⟩ := bi h
          refine efVi (rest := []) ⟨hx, hb, hml, hown, ht⟩ (c_X11_refuse l D cy fu A_b r_b_trays (A_a 0) r_b_war r_b_draftArmy r_b_draftWar r_b_reader r_b_armyReader r_b_warReader r_b_markedArmies r_b_markedWars r_b_latest r_b_trial r_b_foresight r_b_pairs b_latestStatus b_fractionTop b_fractionBottom b_marks 7 z_31 e_z_31 _ rfl _ rfl) (cV ht mv_X11_refuse tb_543 rfl rfl ⟨Nat.le_of_ble_eq_true rfl, Nat.le_of_ble_eq_true rfl⟩) hP hS hX [0] rfl rfl rfl rfl rfl rfl hl.1 rfl (Nat.le_of_ble_eq_true rfl) dX11_voteOf_60 ⟨Nat.le_of_ble_eq_true rfl, Nat.le_of_ble_eq_true rfl⟩ (fun H locs hP hS => ?_)
          have hP : PD D A [bl_X11 cy A_b r_b_trays (A_a 0) r_b_war r_b_draftArmy r_b_draftWar r_b_reader r_b_armyReader r_b_warReader r_b_markedArmies r_b_markedWars r_b_latest r_b_trial r_b_foresight r_b_pairs z_31.2 b_fractionTop b_fractionBottom b_marks, bl_X0 cy A_a a_name a_courage a_weight a_medals a_stood a_fled a_liked a_votes a_count a_living a_pride a_quota a_melted a_lost] H := hP
          cases h
          subst hW1
          exact W.iret hx hb hr (fun _ ht9 _ => ⟨⟨_, (), rfl, rfl, hPt ht9 hP.1⟩, hS.F ht9⟩) hS.2.2 dX11_voteOf_63
        · have h := ie c_30 h
          refine lv_aload_n hx hb dX11_voteOf_46 rfl (lv_at hl 0 rfl) ?_
          refine xget (i := 0) (j := 0) (k := 4) (T := TX11) hx hb ht tb_iX11 hown hX hP.1 rfl rfl rfl (by decide) tb_433 rfl dX11_voteOf_47 ?_
          refine lv_iload_n hx hb dX11_voteOf_50 rfl (lv_at hl 2 rfl) ?_
          obtain ⟨z_32, e_z_32, h⟩ := bi h
          refine roVi (rest := []) ⟨hx, hb, hml, hown, ht⟩ (c_X0_lives l D cy fu A_a a_name a_courage a_weight a_medals a_stood a_fled a_liked a_votes a_count a_living a_pride a_quota a_melted a_lost x2 z_32 e_z_32) (cV ht mv_X0_lives tb_775 rfl rfl ⟨Nat.le_of_ble_eq_true rfl, Nat.le_of_ble_eq_true rfl⟩) (P_sub hP.1 [1] rfl) hX rfl rfl rfl hl.1 rfl (Nat.le_of_ble_eq_true rfl) dX11_voteOf_51 ⟨Nat.le_of_ble_eq_true rfl, Nat.le_of_ble_eq_true rfl⟩ ?_
          refine lv_if_ne (tgt := 64) hx hb dX11_voteOf_54 (by decide) (fun c_33 => ?_) (fun c_33 => ?_)
          · have h := ie c_33 h
            refine lv_aload_n hx hb dX11_voteOf_64 rfl (lv_at hl 0 rfl) ?_
            refine xget (i := 0) (j := 0) (k := 4) (T := TX11) hx hb ht tb_iX11 hown hX hP.1 rfl rfl rfl (by decide) tb_433 rfl dX11_voteOf_65 ?_
            refine lv_iload_n hx hb dX11_voteOf_68 rfl (lv_at hl 1 rfl) ?_
            refine lv_aload_n hx hb dX11_voteOf_69 rfl (lv_at hl 0 rfl) ?_
            refine xget (i := 0) (j := 0) (k := 4) (T := TX11) hx hb ht tb_iX11 hown hX hP.1 rfl rfl rfl (by decide) tb_433 rfl dX11_voteOf_70 ?_
            refine lv_iload_n hx hb dX11_voteOf_73 rfl (lv_at hl 2 rfl) ?_
            refine lv_iload_n hx hb dX11_voteOf_74 rfl (lv_at hl 3 rfl) ?_
            obtain ⟨z_34, e_z_34, h⟩ := bi h
            refine roVi (rest := [.int x1, .ref (A_a 0)]) ⟨hx, hb, hml, hown, ht⟩ (c_X0_othersWhoRun l D cy fu A_a a_name a_courage a_weight a_medals a_stood a_fled a_liked a_votes a_count a_living a_pride a_quota a_melted a_lost x2 x3 z_34 e_z_34) (cV ht mv_X0_othersWhoRun tb_893 rfl rfl ⟨Nat.le_of_ble_eq_true rfl, Nat.le_of_ble_eq_true rfl⟩) (P_sub hP.1 [1] rfl) hX rfl rfl rfl hl.1 rfl (Nat.le_of_ble_eq_true rfl) dX11_voteOf_75 ⟨Nat.le_of_ble_eq_true rfl, Nat.le_of_ble_eq_true rfl⟩ ?_
            obtain ⟨z_35, e_z_35, h⟩ := bi h
            refine roVi (rest := []) ⟨hx, hb, hml, hown, ht⟩ (c_X0_choiceOf l D cy fu A_a a_name a_courage a_weight a_medals a_stood a_fled a_liked a_votes a_count a_living a_pride a_quota a_melted a_lost x1 z_34 z_35 e_z_35) (cV ht mv_X0_choiceOf tb_901 rfl rfl ⟨Nat.le_of_ble_eq_true rfl, Nat.le_of_ble_eq_true rfl⟩) (P_sub hP.1 [1] rfl) hX rfl rfl rfl hl.1 rfl (Nat.le_of_ble_eq_true rfl) dX11_voteOf_78 ⟨Nat.le_of_ble_eq_true rfl, Nat.le_of_ble_eq_true rfl⟩ ?_
            refine lv_istore (lv' := [(4, .int z_35), (0, .ref (A_b 0)), (1, .int x1), (2, .int x2), (3, .int x3)]) hx hb dX11_voteOf_81 hl (by decide) rfl (fun ls hl => ?_)
            refine lv_iload hx hb dX11_voteOf_83 (lv_at hl 0 rfl) ?_
            refine lv_iconst (v := (-1)) hx hb dX11_voteOf_85 (by decide) ?_
            refine lv_icmp_ne (tgt := 98) hx hb dX11_voteOf_86 (by decide) (fun c_36 => ?_) (fun c_36 => ?_)
            · have h := ie c_36 h
              refine lv_aload_n hx hb dX11_voteOf_98 rfl (lv_at hl 1 rfl) ?_
              refine lv_iload hx hb dX11_voteOf_99 (lv_at hl 0 rfl) ?_
              obtain ⟨z_37, e_z_37, h⟩ := bi h
              refine efVi (rest := []) ⟨hx, hb, hml, hown, ht⟩ (c_X11_answer l D cy fu A_b r_b_trays (A_a 0) r_b_war r_b_draftArmy r_b_draftWar r_b_reader r_b_armyReader r_b_warReader r_b_markedArmies r_b_markedWars r_b_latest r_b_trial r_b_foresight r_b_pairs b_latestStatus b_fractionTop b_fractionBottom b_marks z_35 z_37 e_z_37 _ rfl _ rfl) (cV ht mv_X11_answer tb_696 rfl rfl ⟨Nat.le_of_ble_eq_true rfl, Nat.le_of_ble_eq_true rfl⟩) hP hS hX [0] rfl rfl rfl rfl rfl rfl hl.1 rfl (Nat.le_of_ble_eq_true rfl) dX11_voteOf_101 ⟨Nat.le_of_ble_eq_true rfl, Nat.le_of_ble_eq_true rfl⟩ (fun H locs hP hS => ?_)
              have hP : PD D A [bl_X11 cy A_b r_b_trays (A_a 0) r_b_war r_b_draftArmy r_b_draftWar r_b_reader r_b_armyReader r_b_warReader r_b_markedArmies r_b_markedWars r_b_latest r_b_trial r_b_foresight r_b_pairs z_37.2 b_fractionTop b_fractionBottom b_marks, bl_X0 cy A_a a_name a_courage a_weight a_medals a_stood a_fled a_liked a_votes a_count a_living a_pride a_quota a_melted a_lost] H := hP
              cases h
              subst hW1
              exact W.iret hx hb hr (fun _ ht9 _ => ⟨⟨_, (), rfl, rfl, hPt ht9 hP.1⟩, hS.F ht9⟩) hS.2.2 dX11_voteOf_104
            · have h := it c_36 h
              refine lv_aload_n hx hb dX11_voteOf_89 rfl (lv_at hl 1 rfl) ?_
              refine lv_bipush (v := 6) hx hb dX11_voteOf_90 (by decide) ?_
              obtain ⟨z_38, e_z_38, h⟩ := bi h
              refine efVi (rest := []) ⟨hx, hb, hml, hown, ht⟩ (c_X11_refuse l D cy fu A_b r_b_trays (A_a 0) r_b_war r_b_draftArmy r_b_draftWar r_b_reader r_b_armyReader r_b_warReader r_b_markedArmies r_b_markedWars r_b_latest r_b_trial r_b_foresight r_b_pairs b_latestStatus b_fractionTop b_fractionBottom b_marks 6 z_38 e_z_38 _ rfl _ rfl) (cV ht mv_X11_refuse tb_543 rfl rfl ⟨Nat.le_of_ble_eq_true rfl, Nat.le_of_ble_eq_true rfl⟩) hP hS hX [0] rfl rfl rfl rfl rfl rfl hl.1 rfl (Nat.le_of_ble_eq_true rfl) dX11_voteOf_92 ⟨Nat.le_of_ble_eq_true rfl, Nat.le_of_ble_eq_true rfl⟩ (fun H locs hP hS => ?_)
              have hP : PD D A [bl_X11 cy A_b r_b_trays (A_a 0) r_b_war r_b_draftArmy r_b_draftWar r_b_reader r_b_armyReader r_b_warReader r_b_markedArmies r_b_markedWars r_b_latest r_b_trial r_b_foresight r_b_pairs z_38.2 b_fractionTop b_fractionBottom b_marks, bl_X0 cy A_a a_name a_courage a_weight a_medals a_stood a_fled a_liked a_votes a_count a_living a_pride a_quota a_melted a_lost] H := hP
              refine lv_goto (tgt := 104) hx hb dX11_voteOf_95 (by decide) ?_
              cases h
              subst hW1
              exact W.iret hx hb hr (fun _ ht9 _ => ⟨⟨_, (), rfl, rfl, hPt ht9 hP.1⟩, hS.F ht9⟩) hS.2.2 dX11_voteOf_104
          · have h := it c_33 h
            refine lv_aload_n hx hb dX11_voteOf_57 rfl (lv_at hl 0 rfl) ?_
            refine lv_bipush (v := 7) hx hb dX11_voteOf_58 (by decide) ?_
            obtain ⟨z_39, e_z_39, h⟩ := bi h
            refine efVi (rest := []) ⟨hx, hb, hml, hown, ht⟩ (c_X11_refuse l D cy fu A_b r_b_trays (A_a 0) r_b_war r_b_draftArmy r_b_draftWar r_b_reader r_b_armyReader r_b_warReader r_b_markedArmies r_b_markedWars r_b_latest r_b_trial r_b_foresight r_b_pairs b_latestStatus b_fractionTop b_fractionBottom b_marks 7 z_39 e_z_39 _ rfl _ rfl) (cV ht mv_X11_refuse tb_543 rfl rfl ⟨Nat.le_of_ble_eq_true rfl, Nat.le_of_ble_eq_true rfl⟩) hP hS hX [0] rfl rfl rfl rfl rfl rfl hl.1 rfl (Nat.le_of_ble_eq_true rfl) dX11_voteOf_60 ⟨Nat.le_of_ble_eq_true rfl, Nat.le_of_ble_eq_true rfl⟩ (fun H locs hP hS => ?_)
            have hP : PD D A [bl_X11 cy A_b r_b_trays (A_a 0) r_b_war r_b_draftArmy r_b_draftWar r_b_reader r_b_armyReader r_b_warReader r_b_markedArmies r_b_markedWars r_b_latest r_b_trial r_b_foresight r_b_pairs z_39.2 b_fractionTop b_fractionBottom b_marks, bl_X0 cy A_a a_name a_courage a_weight a_medals a_stood a_fled a_liked a_votes a_count a_living a_pride a_quota a_melted a_lost] H := hP
            cases h
            subst hW1
            exact W.iret hx hb hr (fun _ ht9 _ => ⟨⟨_, (), rfl, rfl, hPt ht9 hP.1⟩, hS.F ht9⟩) hS.2.2 dX11_voteOf_63
      · have h := it c_28 h
        refine lv_aload_n hx hb dX11_voteOf_29 rfl (lv_at hl 0 rfl) ?_
        refine lv_iconst (v := 1) hx hb dX11_voteOf_30 (by decide) ?_
        obtain ⟨z_40, e_z_40, h⟩ := bi h
        refine efVi (rest := []) ⟨hx, hb, hml, hown, ht⟩ (c_X11_refuse l D cy fu A_b r_b_trays (A_a 0) r_b_war r_b_draftArmy r_b_draftWar r_b_reader r_b_armyReader r_b_warReader r_b_markedArmies r_b_markedWars r_b_latest r_b_trial r_b_foresight r_b_pairs b_latestStatus b_fractionTop b_fractionBottom b_marks 1 z_40 e_z_40 _ rfl _ rfl) (cV ht mv_X11_refuse tb_543 rfl rfl ⟨Nat.le_of_ble_eq_true rfl, Nat.le_of_ble_eq_true rfl⟩) hP hS hX [0] rfl rfl rfl rfl rfl rfl hl.1 rfl (Nat.le_of_ble_eq_true rfl) dX11_voteOf_31 ⟨Nat.le_of_ble_eq_true rfl, Nat.le_of_ble_eq_true rfl⟩ (fun H locs hP hS => ?_)
        have hP : PD D A [bl_X11 cy A_b r_b_trays (A_a 0) r_b_war r_b_draftArmy r_b_draftWar r_b_reader r_b_armyReader r_b_warReader r_b_markedArmies r_b_markedWars r_b_latest r_b_trial r_b_foresight r_b_pairs z_40.2 b_fractionTop b_fractionBottom b_marks, bl_X0 cy A_a a_name a_courage a_weight a_medals a_stood a_fled a_liked a_votes a_count a_living a_pride a_quota a_melted a_lost] H := hP
        cases h
        subst hW1
        exact W.iret hx hb hr (fun _ ht9 _ => ⟨⟨_, (), rfl, rfl, hPt ht9 hP.1⟩, hS.F ht9⟩) hS.2.2 dX11_voteOf_34
theorem dX11_holds_0 : decode cX11_holds 0 = .ok (.iload_n 1, 1) := by decide +kernel
theorem dX11_holds_1 : decode cX11_holds 1 = .ok (.iconst 0, 1) := by decide +kernel
theorem dX11_holds_2 : decode cX11_holds 2 = .ok (.bipush 30, 2) := by decide +kernel
theorem dX11_holds_4 : decode cX11_holds 4 = .ok (.invokestatic 115, 3) := by decide +kernel
theorem dX11_holds_7 : decode cX11_holds 7 = .ok (.ifCond .eq 15, 3) := by decide +kernel
theorem dX11_holds_10 : decode cX11_holds 10 = .ok (.iload_n 0, 1) := by decide +kernel
theorem dX11_holds_11 : decode cX11_holds 11 = .ok (.iload_n 1, 1) := by decide +kernel
theorem dX11_holds_12 : decode cX11_holds 12 = .ok (.ishr, 1) := by decide +kernel
theorem dX11_holds_13 : decode cX11_holds 13 = .ok (.iconst 1, 1) := by decide +kernel
theorem dX11_holds_14 : decode cX11_holds 14 = .ok (.iand, 1) := by decide +kernel
theorem dX11_holds_15 : decode cX11_holds 15 = .ok (.ifCond .eq 7, 3) := by decide +kernel
theorem dX11_holds_18 : decode cX11_holds 18 = .ok (.iconst 1, 1) := by decide +kernel
theorem dX11_holds_19 : decode cX11_holds 19 = .ok (.goto 4, 3) := by decide +kernel
theorem dX11_holds_22 : decode cX11_holds 22 = .ok (.iconst 0, 1) := by decide +kernel
theorem dX11_holds_23 : decode cX11_holds 23 = .ok (.ireturn, 1) := by decide +kernel
theorem ms_X11_holds : MS yX11_holds cX11_holds 2 (some .boolean) 2 := ⟨tb_908, tb_907, tb_1, by decide +kernel, by decide +kernel, by decide +kernel⟩
def f_X11_holds (fu : Nat) (x0 : Int32) (x1 : Int32) : Option (Int32) := (f_X11_within fu x1 0 30).bind fun z_4 => (if z_4 = 0 then some (0) else (if ((x0 >>> (x1 &&& 31)) &&& 1) = 0 then some (0) else some (1)))
abbrev rm_X11_holds : Room := { frames := 1, cells := 0, slots := 0, locals := 22 }
set_option maxHeartbeats 4000000 in
set_option maxRecDepth 100000 in
theorem c_X11_holds (l : Launch) (D : va_G) (cy : Nat → ClassId) (fu : Nat) (x0 : Int32) (x1 : Int32) (res : Int32) (h : f_X11_holds fu x0 x1 = some res) : Met l yX11_holds (WW yX11_holds cX11_holds 2 (some .boolean)) rm_X11_holds (Rd D cy [.int x0, .int x1] []) (vp_Si (fun v => v = res)) 0 0 (fun _ => False) := by
  refine Met.ofW (cc := cX11_holds) (maxL := 2) (ret := (some .boolean)) (by decide) rfl ?_
  intro p e s m args below meth c s₁ B hml hv
  obtain ⟨hargs, hP, hX⟩ := hv
  have hx := B.exec
  have hb := B.bytes
  have hr := B.returns
  have ht : ∀ w ∈ lw_gd, w.before args s = true := fun w hw => atoms_spec (ws := WW yX11_holds cX11_holds 2 (some .boolean)) B.pre w (List.mem_cons_of_mem _ hw)
  have hown : s.vm.findClass RX11 = some m.cls := findClass_of_methodNamed B.named
  have hlocks := B.notSynchronized
  have hP : PB D [] s.heap := hP
  obtain ⟨ls, hl, hent⟩ := ent (m := m) (n := 2) hargs (Nat.le_of_ble_eq_true rfl) (lv := [(0, .int x0), (1, .int x1)]) rfl
  rw [hent]
  clear hent
  unfold f_X11_holds at h
  refine lv_iload_n hx hb dX11_holds_0 rfl (lv_at hl 1 rfl) ?_
  refine lv_iconst (v := 0) hx hb dX11_holds_1 (by decide) ?_
  refine lv_bipush (v := 30) hx hb dX11_holds_2 (by decide) ?_
  obtain ⟨z_4, e_z_4, h⟩ := bi h
  refine roSi (rest := []) ⟨hx, hb, hml, hown, ht⟩ (c_X11_within l D cy fu  x1 0 30 z_4 e_z_4) (cS ht ms_X11_within tb_504 rfl rfl ⟨Nat.le_of_ble_eq_true rfl, Nat.le_of_ble_eq_true rfl⟩) (P_sub hP [] rfl) hX rfl hl.1 rfl (Nat.le_of_ble_eq_true rfl) dX11_holds_4 ⟨Nat.le_of_ble_eq_true rfl, Nat.le_of_ble_eq_true rfl⟩ ?_
  refine lv_if_eq (tgt := 22) hx hb dX11_holds_7 (by decide) (fun c_5 => ?_) (fun c_5 => ?_)
  · have h := it c_5 h
    refine lv_iconst (v := 0) hx hb dX11_holds_22 (by decide) ?_
    cases h
    exact W.zret hx hb hr rfl (fun _ ht9 _ => ⟨_, rfl, rfl, ht9⟩) (fun _ hq => by cases hq) dX11_holds_23
  · have h := ie c_5 h
    refine lv_iload_n hx hb dX11_holds_10 rfl (lv_at hl 0 rfl) ?_
    refine lv_iload_n hx hb dX11_holds_11 rfl (lv_at hl 1 rfl) ?_
    refine lv_ishr hx hb dX11_holds_12 ?_
    refine lv_iconst (v := 1) hx hb dX11_holds_13 (by decide) ?_
    refine lv_iand hx hb dX11_holds_14 ?_
    refine lv_if_eq (tgt := 22) hx hb dX11_holds_15 (by decide) (fun c_6 => ?_) (fun c_6 => ?_)
    · have h := it c_6 h
      refine lv_iconst (v := 0) hx hb dX11_holds_22 (by decide) ?_
      cases h
      exact W.zret hx hb hr rfl (fun _ ht9 _ => ⟨_, rfl, rfl, ht9⟩) (fun _ hq => by cases hq) dX11_holds_23
    · have h := ie c_6 h
      refine lv_iconst (v := 1) hx hb dX11_holds_18 (by decide) ?_
      refine lv_goto (tgt := 23) hx hb dX11_holds_19 (by decide) ?_
      cases h
      exact W.zret hx hb hr rfl (fun _ ht9 _ => ⟨_, rfl, rfl, ht9⟩) (fun _ hq => by cases hq) dX11_holds_23
theorem dX11_votes_0 : decode cX11_votes 0 = .ok (.aload_n 0, 1) := by decide +kernel
theorem dX11_votes_1 : decode cX11_votes 1 = .ok (.getfield 29, 3) := by decide +kernel
theorem dX11_votes_4 : decode cX11_votes 4 = .ok (.iload_n 1, 1) := by decide +kernel
theorem dX11_votes_5 : decode cX11_votes 5 = .ok (.invokevirtual 248, 3) := by decide +kernel
theorem dX11_votes_8 : decode cX11_votes 8 = .ok (.ifCond .eq 21, 3) := by decide +kernel
theorem dX11_votes_11 : decode cX11_votes 11 = .ok (.aload_n 0, 1) := by decide +kernel
theorem dX11_votes_12 : decode cX11_votes 12 = .ok (.getfield 29, 3) := by decide +kernel
theorem dX11_votes_15 : decode cX11_votes 15 = .ok (.iload_n 2, 1) := by decide +kernel
theorem dX11_votes_16 : decode cX11_votes 16 = .ok (.invokevirtual 248, 3) := by decide +kernel
theorem dX11_votes_19 : decode cX11_votes 19 = .ok (.ifCond .eq 10, 3) := by decide +kernel
theorem dX11_votes_22 : decode cX11_votes 22 = .ok (.iload_n 3, 1) := by decide +kernel
theorem dX11_votes_23 : decode cX11_votes 23 = .ok (.invokestatic 294, 3) := by decide +kernel
theorem dX11_votes_26 : decode cX11_votes 26 = .ok (.ifCond .ne 9, 3) := by decide +kernel
theorem dX11_votes_29 : decode cX11_votes 29 = .ok (.aload_n 0, 1) := by decide +kernel
theorem dX11_votes_30 : decode cX11_votes 30 = .ok (.iconst 1, 1) := by decide +kernel
theorem dX11_votes_31 : decode cX11_votes 31 = .ok (.invokevirtual 143, 3) := by decide +kernel
theorem dX11_votes_34 : decode cX11_votes 34 = .ok (.ireturn, 1) := by decide +kernel
theorem dX11_votes_35 : decode cX11_votes 35 = .ok (.aload_n 0, 1) := by decide +kernel
theorem dX11_votes_36 : decode cX11_votes 36 = .ok (.getfield 29, 3) := by decide +kernel
theorem dX11_votes_39 : decode cX11_votes 39 = .ok (.iload_n 2, 1) := by decide +kernel
theorem dX11_votes_40 : decode cX11_votes 40 = .ok (.invokevirtual 257, 3) := by decide +kernel
theorem dX11_votes_43 : decode cX11_votes 43 = .ok (.ifCond .ne 10, 3) := by decide +kernel
theorem dX11_votes_46 : decode cX11_votes 46 = .ok (.aload_n 0, 1) := by decide +kernel
theorem dX11_votes_47 : decode cX11_votes 47 = .ok (.bipush 7, 2) := by decide +kernel
theorem dX11_votes_49 : decode cX11_votes 49 = .ok (.invokevirtual 143, 3) := by decide +kernel
theorem dX11_votes_52 : decode cX11_votes 52 = .ok (.ireturn, 1) := by decide +kernel
theorem dX11_votes_53 : decode cX11_votes 53 = .ok (.aload_n 0, 1) := by decide +kernel
theorem dX11_votes_54 : decode cX11_votes 54 = .ok (.getfield 29, 3) := by decide +kernel
theorem dX11_votes_57 : decode cX11_votes 57 = .ok (.iload_n 2, 1) := by decide +kernel
theorem dX11_votes_58 : decode cX11_votes 58 = .ok (.iload_n 3, 1) := by decide +kernel
theorem dX11_votes_59 : decode cX11_votes 59 = .ok (.invokevirtual 300, 3) := by decide +kernel
theorem dX11_votes_62 : decode cX11_votes 62 = .ok (.istore 4, 2) := by decide +kernel
theorem dX11_votes_64 : decode cX11_votes 64 = .ok (.iload 4, 2) := by decide +kernel
theorem dX11_votes_66 : decode cX11_votes 66 = .ok (.iload_n 1, 1) := by decide +kernel
theorem dX11_votes_67 : decode cX11_votes 67 = .ok (.invokestatic 306, 3) := by decide +kernel
theorem dX11_votes_70 : decode cX11_votes 70 = .ok (.ifCond .ne 10, 3) := by decide +kernel
theorem dX11_votes_73 : decode cX11_votes 73 = .ok (.aload_n 0, 1) := by decide +kernel
theorem dX11_votes_74 : decode cX11_votes 74 = .ok (.bipush 7, 2) := by decide +kernel
theorem dX11_votes_76 : decode cX11_votes 76 = .ok (.invokevirtual 143, 3) := by decide +kernel
theorem dX11_votes_79 : decode cX11_votes 79 = .ok (.ireturn, 1) := by decide +kernel
theorem dX11_votes_80 : decode cX11_votes 80 = .ok (.aload_n 0, 1) := by decide +kernel
theorem dX11_votes_81 : decode cX11_votes 81 = .ok (.aload_n 0, 1) := by decide +kernel
theorem dX11_votes_82 : decode cX11_votes 82 = .ok (.getfield 29, 3) := by decide +kernel
theorem dX11_votes_85 : decode cX11_votes 85 = .ok (.iload_n 1, 1) := by decide +kernel
theorem dX11_votes_86 : decode cX11_votes 86 = .ok (.iload 4, 2) := by decide +kernel
theorem dX11_votes_88 : decode cX11_votes 88 = .ok (.invokevirtual 309, 3) := by decide +kernel
theorem dX11_votes_91 : decode cX11_votes 91 = .ok (.invokevirtual 193, 3) := by decide +kernel
theorem dX11_votes_94 : decode cX11_votes 94 = .ok (.ireturn, 1) := by decide +kernel
theorem mv_X11_votes : MV yX11_votes RX11 cX11_votes 5 (some .int) 3 := ⟨tb_905, tb_903, tb_904, tb_1, by decide +kernel, by decide +kernel, by decide +kernel⟩
def f_X11_votes (fu : Nat) (b_latestStatus : Int32) (a_courage : Nat → Int32) (a_weight : Nat → Int32) (a_medals : Nat → Int32) (a_liked : Nat → Int32) (a_count : Int32) (a_living : Int32) (a_pride : Int32) (x1 : Int32) (x2 : Int32) (x3 : Int32) : Option (Int32 × Int32) := (f_X0_isMan fu a_count x1).bind fun z_19 => (if z_19 = 0 then (f_X11_refuse fu b_latestStatus 1).bind fun z_21 => some (z_21.1, z_21.2) else (f_X0_isMan fu a_count x2).bind fun z_22 => (if z_22 = 0 then (f_X11_refuse fu b_latestStatus 1).bind fun z_24 => some (z_24.1, z_24.2) else (f_X11_isSize fu x3).bind fun z_25 => (if z_25 = 0 then (f_X11_refuse fu b_latestStatus 1).bind fun z_36 => some (z_36.1, z_36.2) else (f_X0_lives fu a_count a_living x2).bind fun z_27 => (if z_27 = 0 then (f_X11_refuse fu b_latestStatus 7).bind fun z_35 => some (z_35.1, z_35.2) else (f_X0_othersWhoRun fu a_courage a_medals a_count a_living a_pride x2 x3).bind fun z_29 => (f_X11_holds fu z_29 x1).bind fun z_30 => (if z_30 = 0 then (f_X11_refuse fu b_latestStatus 7).bind fun z_34 => some (z_34.1, z_34.2) else (f_X0_votesFor fu a_weight a_liked a_count a_living x1 z_29).bind fun z_32 => (f_X11_answer fu b_latestStatus z_32).bind fun z_33 => some (z_33.1, z_33.2))))))
abbrev rm_X11_votes : Room := { frames := 3, cells := 0, slots := 0, locals := 68 }
set_option maxHeartbeats 4000000 in
set_option maxRecDepth 100000 in
theorem c_X11_votes (l : Launch) (D : va_G) (cy : Nat → ClassId) (fu : Nat) (A_b : Nat → Nat) (r_b_trays : Nat) (r_b_war : Nat) (r_b_draftArmy : Nat) (r_b_draftWar : Nat) (r_b_reader : Nat) (r_b_armyReader : Nat) (r_b_warReader : Nat) (r_b_markedArmies : Nat) (r_b_markedWars : Nat) (r_b_latest : Nat) (r_b_trial : Nat) (r_b_foresight : Nat) (r_b_pairs : Nat) (b_latestStatus : Int32) (b_fractionTop : Int64) (b_fractionBottom : Int64) (b_marks : Int32) (A_a : Nat → Nat) (a_name : Nat → Int64) (a_courage : Nat → Int32) (a_weight : Nat → Int32) (a_medals : Nat → Int32) (a_stood : Nat → Int32) (a_fled : Nat → Int32) (a_liked : Nat → Int32) (a_votes : Nat → Int32) (a_count : Int32) (a_living : Int32) (a_pride : Int32) (a_quota : Int32) (a_melted : Int32) (a_lost : Int32) (x1 : Int32) (x2 : Int32) (x3 : Int32) (res : Int32 × Int32) (h : f_X11_votes fu b_latestStatus a_courage a_weight a_medals a_liked a_count a_living a_pride x1 x2 x3 = some res) (A : Nat → Prop) (hA : A = adr [bl_X11 cy A_b r_b_trays (A_a 0) r_b_war r_b_draftArmy r_b_draftWar r_b_reader r_b_armyReader r_b_warReader r_b_markedArmies r_b_markedWars r_b_latest r_b_trial r_b_foresight r_b_pairs b_latestStatus b_fractionTop b_fractionBottom b_marks, bl_X0 cy A_a a_name a_courage a_weight a_medals a_stood a_fled a_liked a_votes a_count a_living a_pride a_quota a_melted a_lost]) (W1 : List va_W) (hW1 : W1 = [bl_X11 cy A_b r_b_trays (A_a 0) r_b_war r_b_draftArmy r_b_draftWar r_b_reader r_b_armyReader r_b_warReader r_b_markedArmies r_b_markedWars r_b_latest r_b_trial r_b_foresight r_b_pairs res.2 b_fractionTop b_fractionBottom b_marks, bl_X0 cy A_a a_name a_courage a_weight a_medals a_stood a_fled a_liked a_votes a_count a_living a_pride a_quota a_melted a_lost]) : Met l yX11_votes (WW yX11_votes cX11_votes 5 (some .int)) rm_X11_votes (Ed D cy [.ref (A_b 0), .int x1, .int x2, .int x3] [bl_X11 cy A_b r_b_trays (A_a 0) r_b_war r_b_draftArmy r_b_draftWar r_b_reader r_b_armyReader r_b_warReader r_b_markedArmies r_b_markedWars r_b_latest r_b_trial r_b_foresight r_b_pairs b_latestStatus b_fractionTop b_fractionBottom b_marks, bl_X0 cy A_a a_name a_courage a_weight a_medals a_stood a_fled a_liked a_votes a_count a_living a_pride a_quota a_melted a_lost]) (Qei D res.1 A W1) 0 0 A := by
  refine Met.ofW (cc := cX11_votes) (maxL := 5) (ret := (some .int)) (by decide) rfl ?_
  intro p e s m args below meth c s₁ B hml hv
  obtain ⟨hargs, hP, hX, hD0⟩ := hv
  have hx := B.exec
  have hb := B.bytes
  have hr := B.returns
  have ht : ∀ w ∈ lw_gd, w.before args s = true := fun w hw => atoms_spec (ws := WW yX11_votes cX11_votes 5 (some .int)) B.pre w (List.mem_cons_of_mem _ hw)
  have hown : s.vm.findClass RX11 = some m.cls := findClass_of_methodNamed B.named
  have hlocks := B.notSynchronized
  have hP : PD D A [bl_X11 cy A_b r_b_trays (A_a 0) r_b_war r_b_draftArmy r_b_draftWar r_b_reader r_b_armyReader r_b_warReader r_b_markedArmies r_b_markedWars r_b_latest r_b_trial r_b_foresight r_b_pairs b_latestStatus b_fractionTop b_fractionBottom b_marks, bl_X0 cy A_a a_name a_courage a_weight a_medals a_stood a_fled a_liked a_votes a_count a_living a_pride a_quota a_melted a_lost] s.heap := ⟨hP, by rw [hA]; exact hD0.own⟩
  have hS : va_S A s.heap s.heap [] := va_S.rf
  obtain ⟨ls, hl, hent⟩ := ent (m := m) (n := 5) hargs (Nat.le_of_ble_eq_true rfl) (lv := [(0, .ref (A_b 0)), (1, .int x1), (2, .int x2), (3, .int x3)]) rfl
  rw [hent]
  clear hent
  unfold f_X11_votes at h
  refine lv_aload_n hx hb dX11_votes_0 rfl (lv_at hl 0 rfl) ?_
  refine xget (i := 0) (j := 0) (k := 4) (T := TX11) hx hb ht tb_iX11 hown hX hP.1 rfl rfl rfl (by decide) tb_433 rfl dX11_votes_1 ?_
  refine lv_iload_n hx hb dX11_votes_4 rfl (lv_at hl 1 rfl) ?_
  obtain ⟨z_19, e_z_19, h⟩ := bi h
  refine roVi (rest := []) ⟨hx, hb, hml, hown, ht⟩ (c_X0_isMan l D cy fu A_a a_name a_courage a_weight a_medals a_stood a_fled a_liked a_votes a_count a_living a_pride a_quota a_melted a_lost x1 z_19 e_z_19) (cV ht mv_X0_isMan tb_774 rfl rfl ⟨Nat.le_of_ble_eq_true rfl, Nat.le_of_ble_eq_true rfl⟩) (P_sub hP.1 [1] rfl) hX rfl rfl rfl hl.1 rfl (Nat.le_of_ble_eq_true rfl) dX11_votes_5 ⟨Nat.le_of_ble_eq_true rfl, Nat.le_of_ble_eq_true rfl⟩ ?_
  refine lv_if_eq (tgt := 29) hx hb dX11_votes_8 (by decide) (fun c_20 => ?_) (fun c_20 => ?_)
  · have h := it c_20 h
    refine lv_aload_n hx hb dX11_votes_29 rfl (lv_at hl 0 rfl) ?_
    refine lv_iconst (v := 1) hx hb dX11_votes_30 (by decide) ?_
    obtain ⟨z_21, e_z_21, h⟩ := bi h
    refine efVi (rest := []) ⟨hx, hb, hml, hown, ht⟩ (c_X11_refuse l D cy fu A_b r_b_trays (A_a 0) r_b_war r_b_draftArmy r_b_draftWar r_b_reader r_b_armyReader r_b_warReader r_b_markedArmies r_b_markedWars r_b_latest r_b_trial r_b_foresight r_b_pairs b_latestStatus b_fractionTop b_fractionBottom b_marks 1 z_21 e_z_21 _ rfl _ rfl) (cV ht mv_X11_refuse tb_543 rfl rfl ⟨Nat.le_of_ble_eq_true rfl, Nat.le_of_ble_eq_true rfl⟩) hP hS hX [0] rfl rfl rfl rfl rfl rfl hl.1 rfl (Nat.le_of_ble_eq_true rfl) dX11_votes_31 ⟨Nat.le_of_ble_eq_true rfl, Nat.le_of_ble_eq_true rfl⟩ (fun H locs hP hS => ?_)
    have hP : PD D A [bl_X11 cy A_b r_b_trays (A_a 0) r_b_war r_b_draftArmy r_b_draftWar r_b_reader r_b_armyReader r_b_warReader r_b_markedArmies r_b_markedWars r_b_latest r_b_trial r_b_foresight r_b_pairs z_21.2 b_fractionTop b_fractionBottom b_marks, bl_X0 cy A_a a_name a_courage a_weight a_medals a_stood a_fled a_liked a_votes a_count a_living a_pride a_quota a_melted a_lost] H := hP
    cases h
    subst hW1
    exact W.iret hx hb hr (fun _ ht9 _ => ⟨⟨_, (), rfl, rfl, hPt ht9 hP.1⟩, hS.F ht9⟩) hS.2.2 dX11_votes_34
  · have h := ie c_20 h
    refine lv_aload_n hx hb dX11_votes_11 rfl (lv_at hl 0 rfl) ?_
    refine xget (i := 0) (j := 0) (k := 4) (T := TX11) hx hb ht tb_iX11 hown hX hP.1 rfl rfl rfl (by decide) tb_433 rfl dX11_votes_12 ?_
    refine lv_iload_n hx hb dX11_votes_15 rfl (lv_at hl 2 rfl) ?_
    obtain ⟨z_22, e_z_22, h⟩ := bi h
    refine roVi (rest := []) ⟨hx, hb, hml, hown, ht⟩ (c_X0_isMan l D cy fu A_a a_name a_courage a_weight a_medals a_stood a_fled a_liked a_votes a_count a_living a_pride a_quota a_melted a_lost x2 z_22 e_z_22) (cV ht mv_X0_isMan tb_774 rfl rfl ⟨Nat.le_of_ble_eq_true rfl, Nat.le_of_ble_eq_true rfl⟩) (P_sub hP.1 [1] rfl) hX rfl rfl rfl hl.1 rfl (Nat.le_of_ble_eq_true rfl) dX11_votes_16 ⟨Nat.le_of_ble_eq_true rfl, Nat.le_of_ble_eq_true rfl⟩ ?_
    refine lv_if_eq (tgt := 29) hx hb dX11_votes_19 (by decide) (fun c_23 => ?_) (fun c_23 => ?_)
    · have h := it c_23 h
      refine lv_aload_n hx hb dX11_votes_29 rfl (lv_at hl 0 rfl) ?_
      refine lv_iconst (v := 1) hx hb dX11_votes_30 (by decide) ?_
      obtain ⟨z_24, e_z_24, h⟩ := bi h
      refine efVi (rest := []) ⟨hx, hb, hml, hown, ht⟩ (c_X11_refuse l D cy fu A_b r_b_trays (A_a 0) r_b_war r_b_draftArmy r_b_draftWar r_b_reader r_b_armyReader r_b_warReader r_b_markedArmies r_b_markedWars r_b_latest r_b_trial r_b_foresight r_b_pairs b_latestStatus b_fractionTop b_fractionBottom b_marks 1 z_24 e_z_24 _ rfl _ rfl) (cV ht mv_X11_refuse tb_543 rfl rfl ⟨Nat.le_of_ble_eq_true rfl, Nat.le_of_ble_eq_true rfl⟩) hP hS hX [0] rfl rfl rfl rfl rfl rfl hl.1 rfl (Nat.le_of_ble_eq_true rfl) dX11_votes_31 ⟨Nat.le_of_ble_eq_true rfl, Nat.le_of_ble_eq_true rfl⟩ (fun H locs hP hS => ?_)
      have hP : PD D A [bl_X11 cy A_b r_b_trays (A_a 0) r_b_war r_b_draftArmy r_b_draftWar r_b_reader r_b_armyReader r_b_warReader r_b_markedArmies r_b_markedWars r_b_latest r_b_trial r_b_foresight r_b_pairs z_24.2 b_fractionTop b_fractionBottom b_marks, bl_X0 cy A_a a_name a_courage a_weight a_medals a_stood a_fled a_liked a_votes a_count a_living a_pride a_quota a_melted a_lost] H := hP
      cases h
      subst hW1
      exact W.iret hx hb hr (fun _ ht9 _ => ⟨⟨_, (), rfl, rfl, hPt ht9 hP.1⟩, hS.F ht9⟩) hS.2.2 dX11_votes_34
    · have h := ie c_23 h
      refine lv_iload_n hx hb dX11_votes_22 rfl (lv_at hl 3 rfl) ?_
      obtain ⟨z_25, e_z_25, h⟩ := bi h
      refine roSi (rest := []) ⟨hx, hb, hml, hown, ht⟩ (c_X11_isSize l D cy fu  x3 z_25 e_z_25) (cS ht ms_X11_isSize tb_803 rfl rfl ⟨Nat.le_of_ble_eq_true rfl, Nat.le_of_ble_eq_true rfl⟩) (P_sub hP.1 [] rfl) hX rfl hl.1 rfl (Nat.le_of_ble_eq_true rfl) dX11_votes_23 ⟨Nat.le_of_ble_eq_true rfl, Nat.le_of_ble_eq_true rfl⟩ ?_
      refine lv_if_ne (tgt := 35) hx hb dX11_votes_26 (by decide) (fun c_26 => ?_) (fun c_26 => ?_)
      · have h := ie c_26 h
        refine lv_aload_n hx hb dX11_votes_35 rfl (lv_at hl 0 rfl) ?_
        refine xget (i := 0) (j := 0) (k := 4) (T := TX11) hx hb ht tb_iX11 hown hX hP.1 rfl rfl rfl (by decide) tb_433 rfl dX11_votes_36 ?_
        refine lv_iload_n hx hb dX11_votes_39 rfl (lv_at hl 2 rfl) ?_
        obtain ⟨z_27, e_z_27, h⟩ := bi h
        refine roVi (rest := []) ⟨hx, hb, hml, hown, ht⟩ (c_X0_lives l D cy fu A_a a_name a_courage a_weight a_medals a_stood a_fled a_liked a_votes a_count a_living a_pride a_quota a_melted a_lost x2 z_27 e_z_27) (cV ht mv_X0_lives tb_775 rfl rfl ⟨Nat.le_of_ble_eq_true rfl, Nat.le_of_ble_eq_true rfl⟩) (P_sub hP.1 [1] rfl) hX rfl rfl rfl hl.1 rfl (Nat.le_of_ble_eq_true rfl) dX11_votes_40 ⟨Nat.le_of_ble_eq_true rfl, Nat.le_of_ble_eq_true rfl⟩ ?_
        refine lv_if_ne (tgt := 53) hx hb dX11_votes_43 (by decide) (fun c_28 => ?_) (fun c_28 => ?_)
        · have h := ie c_28 h
          refine lv_aload_n hx hb dX11_votes_53 rfl (lv_at hl 0 rfl) ?_
          refine xget (i := 0) (j := 0) (k := 4) (T := TX11) hx hb ht tb_iX11 hown hX hP.1 rfl rfl rfl (by decide) tb_433 rfl dX11_votes_54 ?_
          refine lv_iload_n hx hb dX11_votes_57 rfl (lv_at hl 2 rfl) ?_
          refine lv_iload_n hx hb dX11_votes_58 rfl (lv_at hl 3 rfl) ?_
          obtain ⟨z_29, e_z_29, h⟩ := bi h
          refine roVi (rest := []) ⟨hx, hb, hml, hown, ht⟩ (c_X0_othersWhoRun l D cy fu A_a a_name a_courage a_weight a_medals a_stood a_fled a_liked a_votes a_count a_living a_pride a_quota a_melted a_lost x2 x3 z_29 e_z_29) (cV ht mv_X0_othersWhoRun tb_893 rfl rfl ⟨Nat.le_of_ble_eq_true rfl, Nat.le_of_ble_eq_true rfl⟩) (P_sub hP.1 [1] rfl) hX rfl rfl rfl hl.1 rfl (Nat.le_of_ble_eq_true rfl) dX11_votes_59 ⟨Nat.le_of_ble_eq_true rfl, Nat.le_of_ble_eq_true rfl⟩ ?_
          refine lv_istore (lv' := [(4, .int z_29), (0, .ref (A_b 0)), (1, .int x1), (2, .int x2), (3, .int x3)]) hx hb dX11_votes_62 hl (by decide) rfl (fun ls hl => ?_)
          refine lv_iload hx hb dX11_votes_64 (lv_at hl 0 rfl) ?_
          refine lv_iload_n hx hb dX11_votes_66 rfl (lv_at hl 2 rfl) ?_
          obtain ⟨z_30, e_z_30, h⟩ := bi h
          refine roSi (rest := []) ⟨hx, hb, hml, hown, ht⟩ (c_X11_holds l D cy fu  z_29 x1 z_30 e_z_30) (cS ht ms_X11_holds tb_906 rfl rfl ⟨Nat.le_of_ble_eq_true rfl, Nat.le_of_ble_eq_true rfl⟩) (P_sub hP.1 [] rfl) hX rfl hl.1 rfl (Nat.le_of_ble_eq_true rfl) dX11_votes_67 ⟨Nat.le_of_ble_eq_true rfl, Nat.le_of_ble_eq_true rfl⟩ ?_
          refine lv_if_ne (tgt := 80) hx hb dX11_votes_70 (by decide) (fun c_31 => ?_) (fun c_31 => ?_)
          · have h := ie c_31 h
            refine lv_aload_n hx hb dX11_votes_80 rfl (lv_at hl 1 rfl) ?_
            refine lv_aload_n hx hb dX11_votes_81 rfl (lv_at hl 1 rfl) ?_
            refine xget (i := 0) (j := 0) (k := 4) (T := TX11) hx hb ht tb_iX11 hown hX hP.1 rfl rfl rfl (by decide) tb_433 rfl dX11_votes_82 ?_
            refine lv_iload_n hx hb dX11_votes_85 rfl (lv_at hl 2 rfl) ?_
            refine lv_iload hx hb dX11_votes_86 (lv_at hl 0 rfl) ?_
            obtain ⟨z_32, e_z_32, h⟩ := bi h
            refine roVi (rest := [.ref (A_b 0)]) ⟨hx, hb, hml, hown, ht⟩ (c_X0_votesFor l D cy fu A_a a_name a_courage a_weight a_medals a_stood a_fled a_liked a_votes a_count a_living a_pride a_quota a_melted a_lost x1 z_29 z_32 e_z_32) (cV ht mv_X0_votesFor tb_909 rfl rfl ⟨Nat.le_of_ble_eq_true rfl, Nat.le_of_ble_eq_true rfl⟩) (P_sub hP.1 [1] rfl) hX rfl rfl rfl hl.1 rfl (Nat.le_of_ble_eq_true rfl) dX11_votes_88 ⟨Nat.le_of_ble_eq_true rfl, Nat.le_of_ble_eq_true rfl⟩ ?_
            obtain ⟨z_33, e_z_33, h⟩ := bi h
            refine efVi (rest := []) ⟨hx, hb, hml, hown, ht⟩ (c_X11_answer l D cy fu A_b r_b_trays (A_a 0) r_b_war r_b_draftArmy r_b_draftWar r_b_reader r_b_armyReader r_b_warReader r_b_markedArmies r_b_markedWars r_b_latest r_b_trial r_b_foresight r_b_pairs b_latestStatus b_fractionTop b_fractionBottom b_marks z_32 z_33 e_z_33 _ rfl _ rfl) (cV ht mv_X11_answer tb_696 rfl rfl ⟨Nat.le_of_ble_eq_true rfl, Nat.le_of_ble_eq_true rfl⟩) hP hS hX [0] rfl rfl rfl rfl rfl rfl hl.1 rfl (Nat.le_of_ble_eq_true rfl) dX11_votes_91 ⟨Nat.le_of_ble_eq_true rfl, Nat.le_of_ble_eq_true rfl⟩ (fun H locs hP hS => ?_)
            have hP : PD D A [bl_X11 cy A_b r_b_trays (A_a 0) r_b_war r_b_draftArmy r_b_draftWar r_b_reader r_b_armyReader r_b_warReader r_b_markedArmies r_b_markedWars r_b_latest r_b_trial r_b_foresight r_b_pairs z_33.2 b_fractionTop b_fractionBottom b_marks, bl_X0 cy A_a a_name a_courage a_weight a_medals a_stood a_fled a_liked a_votes a_count a_living a_pride a_quota a_melted a_lost] H := hP
            cases h
            subst hW1
            exact W.iret hx hb hr (fun _ ht9 _ => ⟨⟨_, (), rfl, rfl, hPt ht9 hP.1⟩, hS.F ht9⟩) hS.2.2 dX11_votes_94
          · have h := it c_31 h
            refine lv_aload_n hx hb dX11_votes_73 rfl (lv_at hl 1 rfl) ?_
            refine lv_bipush (v := 7) hx hb dX11_votes_74 (by decide) ?_
            obtain ⟨z_34, e_z_34, h⟩ := bi h
            refine efVi (rest := []) ⟨hx, hb, hml, hown, ht⟩ (c_X11_refuse l D cy fu A_b r_b_trays (A_a 0) r_b_war r_b_draftArmy r_b_draftWar r_b_reader r_b_armyReader r_b_warReader r_b_markedArmies r_b_markedWars r_b_latest r_b_trial r_b_foresight r_b_pairs b_latestStatus b_fractionTop b_fractionBottom b_marks 7 z_34 e_z_34 _ rfl _ rfl) (cV ht mv_X11_refuse tb_543 rfl rfl ⟨Nat.le_of_ble_eq_true rfl, Nat.le_of_ble_eq_true rfl⟩) hP hS hX [0] rfl rfl rfl rfl rfl rfl hl.1 rfl (Nat.le_of_ble_eq_true rfl) dX11_votes_76 ⟨Nat.le_of_ble_eq_true rfl, Nat.le_of_ble_eq_true rfl⟩ (fun H locs hP hS => ?_)
            have hP : PD D A [bl_X11 cy A_b r_b_trays (A_a 0) r_b_war r_b_draftArmy r_b_draftWar r_b_reader r_b_armyReader r_b_warReader r_b_markedArmies r_b_markedWars r_b_latest r_b_trial r_b_foresight r_b_pairs z_34.2 b_fractionTop b_fractionBottom b_marks, bl_X0 cy A_a a_name a_courage a_weight a_medals a_stood a_fled a_liked a_votes a_count a_living a_pride a_quota a_melted a_lost] H := hP
            cases h
            subst hW1
            exact W.iret hx hb hr (fun _ ht9 _ => ⟨⟨_, (), rfl, rfl, hPt ht9 hP.1⟩, hS.F ht9⟩) hS.2.2 dX11_votes_79
        · have h := it c_28 h
          refine lv_aload_n hx hb dX11_votes_46 rfl (lv_at hl 0 rfl) ?_
          refine lv_bipush (v := 7) hx hb dX11_votes_47 (by decide) ?_
          obtain ⟨z_35, e_z_35, h⟩ := bi h
          refine efVi (rest := []) ⟨hx, hb, hml, hown, ht⟩ (c_X11_refuse l D cy fu A_b r_b_trays (A_a 0) r_b_war r_b_draftArmy r_b_draftWar r_b_reader r_b_armyReader r_b_warReader r_b_markedArmies r_b_markedWars r_b_latest r_b_trial r_b_foresight r_b_pairs b_latestStatus b_fractionTop b_fractionBottom b_marks 7 z_35 e_z_35 _ rfl _ rfl) (cV ht mv_X11_refuse tb_543 rfl rfl ⟨Nat.le_of_ble_eq_true rfl, Nat.le_of_ble_eq_true rfl⟩) hP hS hX [0] rfl rfl rfl rfl rfl rfl hl.1 rfl (Nat.le_of_ble_eq_true rfl) dX11_votes_49 ⟨Nat.le_of_ble_eq_true rfl, Nat.le_of_ble_eq_true rfl⟩ (fun H locs hP hS => ?_)
          have hP : PD D A [bl_X11 cy A_b r_b_trays (A_a 0) r_b_war r_b_draftArmy r_b_draftWar r_b_reader r_b_armyReader r_b_warReader r_b_markedArmies r_b_markedWars r_b_latest r_b_trial r_b_foresight r_b_pairs z_35.2 b_fractionTop b_fractionBottom b_marks, bl_X0 cy A_a a_name a_courage a_weight a_medals a_stood a_fled a_liked a_votes a_count a_living a_pride a_quota a_melted a_lost] H := hP
          cases h
          subst hW1
          exact W.iret hx hb hr (fun _ ht9 _ => ⟨⟨_, (), rfl, rfl, hPt ht9 hP.1⟩, hS.F ht9⟩) hS.2.2 dX11_votes_52
      · have h := it c_26 h
        refine lv_aload_n hx hb dX11_votes_29 rfl (lv_at hl 0 rfl) ?_
        refine lv_iconst (v := 1) hx hb dX11_votes_30 (by decide) ?_
        obtain ⟨z_36, e_z_36, h⟩ := bi h
        refine efVi (rest := []) ⟨hx, hb, hml, hown, ht⟩ (c_X11_refuse l D cy fu A_b r_b_trays (A_a 0) r_b_war r_b_draftArmy r_b_draftWar r_b_reader r_b_armyReader r_b_warReader r_b_markedArmies r_b_markedWars r_b_latest r_b_trial r_b_foresight r_b_pairs b_latestStatus b_fractionTop b_fractionBottom b_marks 1 z_36 e_z_36 _ rfl _ rfl) (cV ht mv_X11_refuse tb_543 rfl rfl ⟨Nat.le_of_ble_eq_true rfl, Nat.le_of_ble_eq_true rfl⟩) hP hS hX [0] rfl rfl rfl rfl rfl rfl hl.1 rfl (Nat.le_of_ble_eq_true rfl) dX11_votes_31 ⟨Nat.le_of_ble_eq_true rfl, Nat.le_of_ble_eq_true rfl⟩ (fun H locs hP hS => ?_)
        have hP : PD D A [bl_X11 cy A_b r_b_trays (A_a 0) r_b_war r_b_draftArmy r_b_draftWar r_b_reader r_b_armyReader r_b_warReader r_b_markedArmies r_b_markedWars r_b_latest r_b_trial r_b_foresight r_b_pairs z_36.2 b_fractionTop b_fractionBottom b_marks, bl_X0 cy A_a a_name a_courage a_weight a_medals a_stood a_fled a_liked a_votes a_count a_living a_pride a_quota a_melted a_lost] H := hP
        cases h
        subst hW1
        exact W.iret hx hb hr (fun _ ht9 _ => ⟨⟨_, (), rfl, rfl, hPt ht9 hP.1⟩, hS.F ht9⟩) hS.2.2 dX11_votes_34
theorem dX11_goesTo_0 : decode cX11_goesTo 0 = .ok (.aload_n 0, 1) := by decide +kernel
theorem dX11_goesTo_1 : decode cX11_goesTo 1 = .ok (.iload_n 1, 1) := by decide +kernel
theorem dX11_goesTo_2 : decode cX11_goesTo 2 = .ok (.iload_n 2, 1) := by decide +kernel
theorem dX11_goesTo_3 : decode cX11_goesTo 3 = .ok (.invokevirtual 266, 3) := by decide +kernel
theorem dX11_goesTo_6 : decode cX11_goesTo 6 = .ok (.istore_n 3, 1) := by decide +kernel
theorem dX11_goesTo_7 : decode cX11_goesTo 7 = .ok (.iload_n 3, 1) := by decide +kernel
theorem dX11_goesTo_8 : decode cX11_goesTo 8 = .ok (.ifCond .eq 9, 3) := by decide +kernel
theorem dX11_goesTo_11 : decode cX11_goesTo 11 = .ok (.aload_n 0, 1) := by decide +kernel
theorem dX11_goesTo_12 : decode cX11_goesTo 12 = .ok (.iload_n 3, 1) := by decide +kernel
theorem dX11_goesTo_13 : decode cX11_goesTo 13 = .ok (.invokevirtual 143, 3) := by decide +kernel
theorem dX11_goesTo_16 : decode cX11_goesTo 16 = .ok (.ireturn, 1) := by decide +kernel
theorem dX11_goesTo_17 : decode cX11_goesTo 17 = .ok (.aload_n 0, 1) := by decide +kernel
theorem dX11_goesTo_18 : decode cX11_goesTo 18 = .ok (.getfield 29, 3) := by decide +kernel
theorem dX11_goesTo_21 : decode cX11_goesTo 21 = .ok (.aload_n 0, 1) := by decide +kernel
theorem dX11_goesTo_22 : decode cX11_goesTo 22 = .ok (.getfield 29, 3) := by decide +kernel
theorem dX11_goesTo_25 : decode cX11_goesTo 25 = .ok (.iload_n 1, 1) := by decide +kernel
theorem dX11_goesTo_26 : decode cX11_goesTo 26 = .ok (.iload_n 2, 1) := by decide +kernel
theorem dX11_goesTo_27 : decode cX11_goesTo 27 = .ok (.invokevirtual 300, 3) := by decide +kernel
theorem dX11_goesTo_30 : decode cX11_goesTo 30 = .ok (.invokevirtual 312, 3) := by decide +kernel
theorem dX11_goesTo_33 : decode cX11_goesTo 33 = .ok (.istore 4, 2) := by decide +kernel
theorem dX11_goesTo_35 : decode cX11_goesTo 35 = .ok (.iload 4, 2) := by decide +kernel
theorem dX11_goesTo_37 : decode cX11_goesTo 37 = .ok (.iconst (-1), 1) := by decide +kernel
theorem dX11_goesTo_38 : decode cX11_goesTo 38 = .ok (.if_icmp .ne 12, 3) := by decide +kernel
theorem dX11_goesTo_41 : decode cX11_goesTo 41 = .ok (.aload_n 0, 1) := by decide +kernel
theorem dX11_goesTo_42 : decode cX11_goesTo 42 = .ok (.bipush 6, 2) := by decide +kernel
theorem dX11_goesTo_44 : decode cX11_goesTo 44 = .ok (.invokevirtual 143, 3) := by decide +kernel
theorem dX11_goesTo_47 : decode cX11_goesTo 47 = .ok (.goto 9, 3) := by decide +kernel
theorem dX11_goesTo_50 : decode cX11_goesTo 50 = .ok (.aload_n 0, 1) := by decide +kernel
theorem dX11_goesTo_51 : decode cX11_goesTo 51 = .ok (.iload 4, 2) := by decide +kernel
theorem dX11_goesTo_53 : decode cX11_goesTo 53 = .ok (.invokevirtual 193, 3) := by decide +kernel
theorem dX11_goesTo_56 : decode cX11_goesTo 56 = .ok (.ireturn, 1) := by decide +kernel
theorem mv_X11_goesTo : MV yX11_goesTo RX11 cX11_goesTo 5 (some .int) 2 := ⟨tb_916, tb_914, tb_915, tb_1, by decide +kernel, by decide +kernel, by decide +kernel⟩
def f_X11_goesTo (fu : Nat) (b_latestStatus : Int32) (a_courage : Nat → Int32) (a_weight : Nat → Int32) (a_medals : Nat → Int32) (a_liked : Nat → Int32) (a_votes : Nat → Int32) (a_count : Int32) (a_living : Int32) (a_pride : Int32) (x1 : Int32) (x2 : Int32) : Option (Int32 × Int32 × (Nat → Int32)) := (f_X11_dangerRefusal fu a_count a_living x1 x2).bind fun z_9 => (if z_9 = 0 then (f_X0_othersWhoRun fu a_courage a_medals a_count a_living a_pride x1 x2).bind fun z_11 => (f_X0_winnerOf fu a_weight a_liked a_votes a_count a_living z_11).bind fun z_12 => (if z_12.1 = (-1) then (f_X11_refuse fu b_latestStatus 6).bind fun z_15 => some (z_15.1, z_15.2, z_12.2) else (f_X11_answer fu b_latestStatus z_12.1).bind fun z_14 => some (z_14.1, z_14.2, z_12.2)) else (f_X11_refuse fu b_latestStatus z_9).bind fun z_16 => some (z_16.1, z_16.2, a_votes))
abbrev rm_X11_goesTo : Room := { frames := 3, cells := 0, slots := 0, locals := 68 }
set_option maxHeartbeats 4000000 in
set_option maxRecDepth 100000 in
theorem c_X11_goesTo (l : Launch) (D : va_G) (cy : Nat → ClassId) (fu : Nat) (A_b : Nat → Nat) (r_b_trays : Nat) (r_b_war : Nat) (r_b_draftArmy : Nat) (r_b_draftWar : Nat) (r_b_reader : Nat) (r_b_armyReader : Nat) (r_b_warReader : Nat) (r_b_markedArmies : Nat) (r_b_markedWars : Nat) (r_b_latest : Nat) (r_b_trial : Nat) (r_b_foresight : Nat) (r_b_pairs : Nat) (b_latestStatus : Int32) (b_fractionTop : Int64) (b_fractionBottom : Int64) (b_marks : Int32) (A_a : Nat → Nat) (a_name : Nat → Int64) (a_courage : Nat → Int32) (a_weight : Nat → Int32) (a_medals : Nat → Int32) (a_stood : Nat → Int32) (a_fled : Nat → Int32) (a_liked : Nat → Int32) (a_votes : Nat → Int32) (a_count : Int32) (a_living : Int32) (a_pride : Int32) (a_quota : Int32) (a_melted : Int32) (a_lost : Int32) (x1 : Int32) (x2 : Int32) (res : Int32 × Int32 × (Nat → Int32)) (h : f_X11_goesTo fu b_latestStatus a_courage a_weight a_medals a_liked a_votes a_count a_living a_pride x1 x2 = some res) (A : Nat → Prop) (hA : A = adr [bl_X11 cy A_b r_b_trays (A_a 0) r_b_war r_b_draftArmy r_b_draftWar r_b_reader r_b_armyReader r_b_warReader r_b_markedArmies r_b_markedWars r_b_latest r_b_trial r_b_foresight r_b_pairs b_latestStatus b_fractionTop b_fractionBottom b_marks, bl_X0 cy A_a a_name a_courage a_weight a_medals a_stood a_fled a_liked a_votes a_count a_living a_pride a_quota a_melted a_lost]) (W1 : List va_W) (hW1 : W1 = [bl_X11 cy A_b r_b_trays (A_a 0) r_b_war r_b_draftArmy r_b_draftWar r_b_reader r_b_armyReader r_b_warReader r_b_markedArmies r_b_markedWars r_b_latest r_b_trial r_b_foresight r_b_pairs res.2.1 b_fractionTop b_fractionBottom b_marks, bl_X0 cy A_a a_name a_courage a_weight a_medals a_stood a_fled a_liked res.2.2 a_count a_living a_pride a_quota a_melted a_lost]) : Met l yX11_goesTo (WW yX11_goesTo cX11_goesTo 5 (some .int)) rm_X11_goesTo (Ed D cy [.ref (A_b 0), .int x1, .int x2] [bl_X11 cy A_b r_b_trays (A_a 0) r_b_war r_b_draftArmy r_b_draftWar r_b_reader r_b_armyReader r_b_warReader r_b_markedArmies r_b_markedWars r_b_latest r_b_trial r_b_foresight r_b_pairs b_latestStatus b_fractionTop b_fractionBottom b_marks, bl_X0 cy A_a a_name a_courage a_weight a_medals a_stood a_fled a_liked a_votes a_count a_living a_pride a_quota a_melted a_lost]) (Qei D res.1 A W1) 0 0 A := by
  refine Met.ofW (cc := cX11_goesTo) (maxL := 5) (ret := (some .int)) (by decide) rfl ?_
  intro p e s m args below meth c s₁ B hml hv
  obtain ⟨hargs, hP, hX, hD0⟩ := hv
  have hx := B.exec
  have hb := B.bytes
  have hr := B.returns
  have ht : ∀ w ∈ lw_gd, w.before args s = true := fun w hw => atoms_spec (ws := WW yX11_goesTo cX11_goesTo 5 (some .int)) B.pre w (List.mem_cons_of_mem _ hw)
  have hown : s.vm.findClass RX11 = some m.cls := findClass_of_methodNamed B.named
  have hlocks := B.notSynchronized
  have hP : PD D A [bl_X11 cy A_b r_b_trays (A_a 0) r_b_war r_b_draftArmy r_b_draftWar r_b_reader r_b_armyReader r_b_warReader r_b_markedArmies r_b_markedWars r_b_latest r_b_trial r_b_foresight r_b_pairs b_latestStatus b_fractionTop b_fractionBottom b_marks, bl_X0 cy A_a a_name a_courage a_weight a_medals a_stood a_fled a_liked a_votes a_count a_living a_pride a_quota a_melted a_lost] s.heap := ⟨hP, by rw [hA]; exact hD0.own⟩
  have hS : va_S A s.heap s.heap [] := va_S.rf
  obtain ⟨ls, hl, hent⟩ := ent (m := m) (n := 5) hargs (Nat.le_of_ble_eq_true rfl) (lv := [(0, .ref (A_b 0)), (1, .int x1), (2, .int x2)]) rfl
  rw [hent]
  clear hent
  unfold f_X11_goesTo at h
  refine lv_aload_n hx hb dX11_goesTo_0 rfl (lv_at hl 0 rfl) ?_
  refine lv_iload_n hx hb dX11_goesTo_1 rfl (lv_at hl 1 rfl) ?_
  refine lv_iload_n hx hb dX11_goesTo_2 rfl (lv_at hl 2 rfl) ?_
  obtain ⟨z_9, e_z_9, h⟩ := bi h
  refine roVi (rest := []) ⟨hx, hb, hml, hown, ht⟩ (c_X11_dangerRefusal l D cy fu A_b r_b_trays r_b_war r_b_draftArmy r_b_draftWar r_b_reader r_b_armyReader r_b_warReader r_b_markedArmies r_b_markedWars r_b_latest r_b_trial r_b_foresight r_b_pairs b_latestStatus b_fractionTop b_fractionBottom b_marks A_a a_name a_courage a_weight a_medals a_stood a_fled a_liked a_votes a_count a_living a_pride a_quota a_melted a_lost x1 x2 z_9 e_z_9) (cV ht mv_X11_dangerRefusal tb_799 rfl rfl ⟨Nat.le_of_ble_eq_true rfl, Nat.le_of_ble_eq_true rfl⟩) (P_sub hP.1 [0, 1] rfl) hX rfl rfl rfl hl.1 rfl (Nat.le_of_ble_eq_true rfl) dX11_goesTo_3 ⟨Nat.le_of_ble_eq_true rfl, Nat.le_of_ble_eq_true rfl⟩ ?_
  refine lv_istore_n (lv' := [(3, .int z_9), (0, .ref (A_b 0)), (1, .int x1), (2, .int x2)]) hx hb dX11_goesTo_6 rfl hl (by decide) rfl (fun ls hl => ?_)
  refine lv_iload_n hx hb dX11_goesTo_7 rfl (lv_at hl 0 rfl) ?_
  refine lv_if_eq (tgt := 17) hx hb dX11_goesTo_8 (by decide) (fun c_10 => ?_) (fun c_10 => ?_)
  · have h := it c_10 h
    refine lv_aload_n hx hb dX11_goesTo_17 rfl (lv_at hl 1 rfl) ?_
    refine xget (i := 0) (j := 0) (k := 4) (T := TX11) hx hb ht tb_iX11 hown hX hP.1 rfl rfl rfl (by decide) tb_433 rfl dX11_goesTo_18 ?_
    refine lv_aload_n hx hb dX11_goesTo_21 rfl (lv_at hl 1 rfl) ?_
    refine xget (i := 0) (j := 0) (k := 4) (T := TX11) hx hb ht tb_iX11 hown hX hP.1 rfl rfl rfl (by decide) tb_433 rfl dX11_goesTo_22 ?_
    refine lv_iload_n hx hb dX11_goesTo_25 rfl (lv_at hl 2 rfl) ?_
    refine lv_iload_n hx hb dX11_goesTo_26 rfl (lv_at hl 3 rfl) ?_
    obtain ⟨z_11, e_z_11, h⟩ := bi h
    refine roVi (rest := [.ref (A_a 0)]) ⟨hx, hb, hml, hown, ht⟩ (c_X0_othersWhoRun l D cy fu A_a a_name a_courage a_weight a_medals a_stood a_fled a_liked a_votes a_count a_living a_pride a_quota a_melted a_lost x1 x2 z_11 e_z_11) (cV ht mv_X0_othersWhoRun tb_893 rfl rfl ⟨Nat.le_of_ble_eq_true rfl, Nat.le_of_ble_eq_true rfl⟩) (P_sub hP.1 [1] rfl) hX rfl rfl rfl hl.1 rfl (Nat.le_of_ble_eq_true rfl) dX11_goesTo_27 ⟨Nat.le_of_ble_eq_true rfl, Nat.le_of_ble_eq_true rfl⟩ ?_
    obtain ⟨z_12, e_z_12, h⟩ := bi h
    refine efVi (rest := []) ⟨hx, hb, hml, hown, ht⟩ (c_X0_winnerOf l D cy fu A_a a_name a_courage a_weight a_medals a_stood a_fled a_liked a_votes a_count a_living a_pride a_quota a_melted a_lost z_11 z_12 e_z_12 _ rfl _ rfl) (cV ht mv_X0_winnerOf tb_917 rfl rfl ⟨Nat.le_of_ble_eq_true rfl, Nat.le_of_ble_eq_true rfl⟩) hP hS hX [1] rfl rfl rfl rfl rfl rfl hl.1 rfl (Nat.le_of_ble_eq_true rfl) dX11_goesTo_30 ⟨Nat.le_of_ble_eq_true rfl, Nat.le_of_ble_eq_true rfl⟩ (fun H locs hP hS => ?_)
    have hP : PD D A [bl_X11 cy A_b r_b_trays (A_a 0) r_b_war r_b_draftArmy r_b_draftWar r_b_reader r_b_armyReader r_b_warReader r_b_markedArmies r_b_markedWars r_b_latest r_b_trial r_b_foresight r_b_pairs b_latestStatus b_fractionTop b_fractionBottom b_marks, bl_X0 cy A_a a_name a_courage a_weight a_medals a_stood a_fled a_liked z_12.2 a_count a_living a_pride a_quota a_melted a_lost] H := hP
    refine lv_istore (lv' := [(4, .int z_12.1), (3, .int z_9), (0, .ref (A_b 0)), (1, .int x1), (2, .int x2)]) hx hb dX11_goesTo_33 hl (by decide) rfl (fun ls hl => ?_)
    refine lv_iload hx hb dX11_goesTo_35 (lv_at hl 0 rfl) ?_
    refine lv_iconst (v := (-1)) hx hb dX11_goesTo_37 (by decide) ?_
    refine lv_icmp_ne (tgt := 50) hx hb dX11_goesTo_38 (by decide) (fun c_13 => ?_) (fun c_13 => ?_)
    · have h := ie c_13 h
      refine lv_aload_n hx hb dX11_goesTo_50 rfl (lv_at hl 2 rfl) ?_
      refine lv_iload hx hb dX11_goesTo_51 (lv_at hl 0 rfl) ?_
      obtain ⟨z_14, e_z_14, h⟩ := bi h
      refine efVi (rest := []) ⟨hx, hb, hml, hown, ht⟩ (c_X11_answer l D cy fu A_b r_b_trays (A_a 0) r_b_war r_b_draftArmy r_b_draftWar r_b_reader r_b_armyReader r_b_warReader r_b_markedArmies r_b_markedWars r_b_latest r_b_trial r_b_foresight r_b_pairs b_latestStatus b_fractionTop b_fractionBottom b_marks z_12.1 z_14 e_z_14 _ rfl _ rfl) (cV ht mv_X11_answer tb_696 rfl rfl ⟨Nat.le_of_ble_eq_true rfl, Nat.le_of_ble_eq_true rfl⟩) hP hS hX [0] rfl rfl rfl rfl rfl rfl hl.1 rfl (Nat.le_of_ble_eq_true rfl) dX11_goesTo_53 ⟨Nat.le_of_ble_eq_true rfl, Nat.le_of_ble_eq_true rfl⟩ (fun H locs hP hS => ?_)
      have hP : PD D A [bl_X11 cy A_b r_b_trays (A_a 0) r_b_war r_b_draftArmy r_b_draftWar r_b_reader r_b_armyReader r_b_warReader r_b_markedArmies r_b_markedWars r_b_latest r_b_trial r_b_foresight r_b_pairs z_14.2 b_fractionTop b_fractionBottom b_marks, bl_X0 cy A_a a_name a_courage a_weight a_medals a_stood a_fled a_liked z_12.2 a_count a_living a_pride a_quota a_melted a_lost] H := hP
      cases h
      subst hW1
      exact W.iret hx hb hr (fun _ ht9 _ => ⟨⟨_, (), rfl, rfl, hPt ht9 hP.1⟩, hS.F ht9⟩) hS.2.2 dX11_goesTo_56
    · have h := it c_13 h
      refine lv_aload_n hx hb dX11_goesTo_41 rfl (lv_at hl 2 rfl) ?_
      refine lv_bipush (v := 6) hx hb dX11_goesTo_42 (by decide) ?_
      obtain ⟨z_15, e_z_15, h⟩ := bi h
      refine efVi (rest := []) ⟨hx, hb, hml, hown, ht⟩ (c_X11_refuse l D cy fu A_b r_b_trays (A_a 0) r_b_war r_b_draftArmy r_b_draftWar r_b_reader r_b_armyReader r_b_warReader r_b_markedArmies r_b_markedWars r_b_latest r_b_trial r_b_foresight r_b_pairs b_latestStatus b_fractionTop b_fractionBottom b_marks 6 z_15 e_z_15 _ rfl _ rfl) (cV ht mv_X11_refuse tb_543 rfl rfl ⟨Nat.le_of_ble_eq_true rfl, Nat.le_of_ble_eq_true rfl⟩) hP hS hX [0] rfl rfl rfl rfl rfl rfl hl.1 rfl (Nat.le_of_ble_eq_true rfl) dX11_goesTo_44 ⟨Nat.le_of_ble_eq_true rfl, Nat.le_of_ble_eq_true rfl⟩ (fun H locs hP hS => ?_)
      have hP : PD D A [bl_X11 cy A_b r_b_trays (A_a 0) r_b_war r_b_draftArmy r_b_draftWar r_b_reader r_b_armyReader r_b_warReader r_b_markedArmies r_b_markedWars r_b_latest r_b_trial r_b_foresight r_b_pairs z_15.2 b_fractionTop b_fractionBottom b_marks, bl_X0 cy A_a a_name a_courage a_weight a_medals a_stood a_fled a_liked z_12.2 a_count a_living a_pride a_quota a_melted a_lost] H := hP
      refine lv_goto (tgt := 56) hx hb dX11_goesTo_47 (by decide) ?_
      cases h
      subst hW1
      exact W.iret hx hb hr (fun _ ht9 _ => ⟨⟨_, (), rfl, rfl, hPt ht9 hP.1⟩, hS.F ht9⟩) hS.2.2 dX11_goesTo_56
  · have h := ie c_10 h
    refine lv_aload_n hx hb dX11_goesTo_11 rfl (lv_at hl 1 rfl) ?_
    refine lv_iload_n hx hb dX11_goesTo_12 rfl (lv_at hl 0 rfl) ?_
    obtain ⟨z_16, e_z_16, h⟩ := bi h
    refine efVi (rest := []) ⟨hx, hb, hml, hown, ht⟩ (c_X11_refuse l D cy fu A_b r_b_trays (A_a 0) r_b_war r_b_draftArmy r_b_draftWar r_b_reader r_b_armyReader r_b_warReader r_b_markedArmies r_b_markedWars r_b_latest r_b_trial r_b_foresight r_b_pairs b_latestStatus b_fractionTop b_fractionBottom b_marks z_9 z_16 e_z_16 _ rfl _ rfl) (cV ht mv_X11_refuse tb_543 rfl rfl ⟨Nat.le_of_ble_eq_true rfl, Nat.le_of_ble_eq_true rfl⟩) hP hS hX [0] rfl rfl rfl rfl rfl rfl hl.1 rfl (Nat.le_of_ble_eq_true rfl) dX11_goesTo_13 ⟨Nat.le_of_ble_eq_true rfl, Nat.le_of_ble_eq_true rfl⟩ (fun H locs hP hS => ?_)
    have hP : PD D A [bl_X11 cy A_b r_b_trays (A_a 0) r_b_war r_b_draftArmy r_b_draftWar r_b_reader r_b_armyReader r_b_warReader r_b_markedArmies r_b_markedWars r_b_latest r_b_trial r_b_foresight r_b_pairs z_16.2 b_fractionTop b_fractionBottom b_marks, bl_X0 cy A_a a_name a_courage a_weight a_medals a_stood a_fled a_liked a_votes a_count a_living a_pride a_quota a_melted a_lost] H := hP
    cases h
    subst hW1
    exact W.iret hx hb hr (fun _ ht9 _ => ⟨⟨_, (), rfl, rfl, hPt ht9 hP.1⟩, hS.F ht9⟩) hS.2.2 dX11_goesTo_16
theorem dX11_carries_0 : decode cX11_carries 0 = .ok (.iload_n 1, 1) := by decide +kernel
theorem dX11_carries_1 : decode cX11_carries 1 = .ok (.iconst 0, 1) := by decide +kernel
theorem dX11_carries_2 : decode cX11_carries 2 = .ok (.iconst 1, 1) := by decide +kernel
theorem dX11_carries_3 : decode cX11_carries 3 = .ok (.aload_n 0, 1) := by decide +kernel
theorem dX11_carries_4 : decode cX11_carries 4 = .ok (.getfield 29, 3) := by decide +kernel
theorem dX11_carries_7 : decode cX11_carries 7 = .ok (.getfield 190, 3) := by decide +kernel
theorem dX11_carries_10 : decode cX11_carries 10 = .ok (.ishl, 1) := by decide +kernel
theorem dX11_carries_11 : decode cX11_carries 11 = .ok (.iconst 1, 1) := by decide +kernel
theorem dX11_carries_12 : decode cX11_carries 12 = .ok (.isub, 1) := by decide +kernel
theorem dX11_carries_13 : decode cX11_carries 13 = .ok (.invokestatic 115, 3) := by decide +kernel
theorem dX11_carries_16 : decode cX11_carries 16 = .ok (.ifCond .ne 9, 3) := by decide +kernel
theorem dX11_carries_19 : decode cX11_carries 19 = .ok (.aload_n 0, 1) := by decide +kernel
theorem dX11_carries_20 : decode cX11_carries 20 = .ok (.iconst 1, 1) := by decide +kernel
theorem dX11_carries_21 : decode cX11_carries 21 = .ok (.invokevirtual 143, 3) := by decide +kernel
theorem dX11_carries_24 : decode cX11_carries 24 = .ok (.ireturn, 1) := by decide +kernel
theorem dX11_carries_25 : decode cX11_carries 25 = .ok (.iload_n 1, 1) := by decide +kernel
theorem dX11_carries_26 : decode cX11_carries 26 = .ok (.aload_n 0, 1) := by decide +kernel
theorem dX11_carries_27 : decode cX11_carries 27 = .ok (.getfield 29, 3) := by decide +kernel
theorem dX11_carries_30 : decode cX11_carries 30 = .ok (.getfield 221, 3) := by decide +kernel
theorem dX11_carries_33 : decode cX11_carries 33 = .ok (.iconst (-1), 1) := by decide +kernel
theorem dX11_carries_34 : decode cX11_carries 34 = .ok (.ixor, 1) := by decide +kernel
theorem dX11_carries_35 : decode cX11_carries 35 = .ok (.iand, 1) := by decide +kernel
theorem dX11_carries_36 : decode cX11_carries 36 = .ok (.ifCond .eq 10, 3) := by decide +kernel
theorem dX11_carries_39 : decode cX11_carries 39 = .ok (.aload_n 0, 1) := by decide +kernel
theorem dX11_carries_40 : decode cX11_carries 40 = .ok (.bipush 7, 2) := by decide +kernel
theorem dX11_carries_42 : decode cX11_carries 42 = .ok (.invokevirtual 143, 3) := by decide +kernel
theorem dX11_carries_45 : decode cX11_carries 45 = .ok (.ireturn, 1) := by decide +kernel
theorem dX11_carries_46 : decode cX11_carries 46 = .ok (.aload_n 0, 1) := by decide +kernel
theorem dX11_carries_47 : decode cX11_carries 47 = .ok (.aload_n 0, 1) := by decide +kernel
theorem dX11_carries_48 : decode cX11_carries 48 = .ok (.getfield 29, 3) := by decide +kernel
theorem dX11_carries_51 : decode cX11_carries 51 = .ok (.iload_n 1, 1) := by decide +kernel
theorem dX11_carries_52 : decode cX11_carries 52 = .ok (.invokevirtual 315, 3) := by decide +kernel
theorem dX11_carries_55 : decode cX11_carries 55 = .ok (.ifCond .eq 7, 3) := by decide +kernel
theorem dX11_carries_58 : decode cX11_carries 58 = .ok (.iconst 1, 1) := by decide +kernel
theorem dX11_carries_59 : decode cX11_carries 59 = .ok (.goto 4, 3) := by decide +kernel
theorem dX11_carries_62 : decode cX11_carries 62 = .ok (.iconst 0, 1) := by decide +kernel
theorem dX11_carries_63 : decode cX11_carries 63 = .ok (.invokevirtual 193, 3) := by decide +kernel
theorem dX11_carries_66 : decode cX11_carries 66 = .ok (.ireturn, 1) := by decide +kernel
theorem mv_X11_carries : MV yX11_carries RX11 cX11_carries 2 (some .int) 1 := ⟨tb_921, tb_919, tb_920, tb_1, by decide +kernel, by decide +kernel, by decide +kernel⟩
def f_X11_carries (fu : Nat) (b_latestStatus : Int32) (a_weight : Nat → Int32) (a_count : Int32) (a_living : Int32) (a_quota : Int32) (x1 : Int32) : Option (Int32 × Int32) := (f_X11_within fu x1 0 (((1 : Int32) <<< (a_count &&& 31)) - 1)).bind fun z_10 => (if z_10 = 0 then (f_X11_refuse fu b_latestStatus 1).bind fun z_18 => some (z_18.1, z_18.2) else (if (x1 &&& (a_living ^^^ (-1))) = 0 then (f_X0_isCarriedBy fu a_weight a_count a_living a_quota x1).bind fun z_13 => (if z_13 = 0 then (f_X11_answer fu b_latestStatus 0).bind fun z_15 => some (z_15.1, z_15.2) else (f_X11_answer fu b_latestStatus 1).bind fun z_16 => some (z_16.1, z_16.2)) else (f_X11_refuse fu b_latestStatus 7).bind fun z_17 => some (z_17.1, z_17.2)))
abbrev rm_X11_carries : Room := { frames := 2, cells := 0, slots := 0, locals := 44 }
set_option maxHeartbeats 4000000 in
set_option maxRecDepth 100000 in
theorem c_X11_carries (l : Launch) (D : va_G) (cy : Nat → ClassId) (fu : Nat) (A_b : Nat → Nat) (r_b_trays : Nat) (r_b_war : Nat) (r_b_draftArmy : Nat) (r_b_draftWar : Nat) (r_b_reader : Nat) (r_b_armyReader : Nat) (r_b_warReader : Nat) (r_b_markedArmies : Nat) (r_b_markedWars : Nat) (r_b_latest : Nat) (r_b_trial : Nat) (r_b_foresight : Nat) (r_b_pairs : Nat) (b_latestStatus : Int32) (b_fractionTop : Int64) (b_fractionBottom : Int64) (b_marks : Int32) (A_a : Nat → Nat) (a_name : Nat → Int64) (a_courage : Nat → Int32) (a_weight : Nat → Int32) (a_medals : Nat → Int32) (a_stood : Nat → Int32) (a_fled : Nat → Int32) (a_liked : Nat → Int32) (a_votes : Nat → Int32) (a_count : Int32) (a_living : Int32) (a_pride : Int32) (a_quota : Int32) (a_melted : Int32) (a_lost : Int32) (x1 : Int32) (res : Int32 × Int32) (h : f_X11_carries fu b_latestStatus a_weight a_count a_living a_quota x1 = some res) (A : Nat → Prop) (hA : A = adr [bl_X11 cy A_b r_b_trays (A_a 0) r_b_war r_b_draftArmy r_b_draftWar r_b_reader r_b_armyReader r_b_warReader r_b_markedArmies r_b_markedWars r_b_latest r_b_trial r_b_foresight r_b_pairs b_latestStatus b_fractionTop b_fractionBottom b_marks, bl_X0 cy A_a a_name a_courage a_weight a_medals a_stood a_fled a_liked a_votes a_count a_living a_pride a_quota a_melted a_lost]) (W1 : List va_W) (hW1 : W1 = [bl_X11 cy A_b r_b_trays (A_a 0) r_b_war r_b_draftArmy r_b_draftWar r_b_reader r_b_armyReader r_b_warReader r_b_markedArmies r_b_markedWars r_b_latest r_b_trial r_b_foresight r_b_pairs res.2 b_fractionTop b_fractionBottom b_marks, bl_X0 cy A_a a_name a_courage a_weight a_medals a_stood a_fled a_liked a_votes a_count a_living a_pride a_quota a_melted a_lost]) : Met l yX11_carries (WW yX11_carries cX11_carries 2 (some .int)) rm_X11_carries (Ed D cy [.ref (A_b 0), .int x1] [bl_X11 cy A_b r_b_trays (A_a 0) r_b_war r_b_draftArmy r_b_draftWar r_b_reader r_b_armyReader r_b_warReader r_b_markedArmies r_b_markedWars r_b_latest r_b_trial r_b_foresight r_b_pairs b_latestStatus b_fractionTop b_fractionBottom b_marks, bl_X0 cy A_a a_name a_courage a_weight a_medals a_stood a_fled a_liked a_votes a_count a_living a_pride a_quota a_melted a_lost]) (Qei D res.1 A W1) 0 0 A := by
  refine Met.ofW (cc := cX11_carries) (maxL := 2) (ret := (some .int)) (by decide) rfl ?_
  intro p e s m args below meth c s₁ B hml hv
  obtain ⟨hargs, hP, hX, hD0⟩ := hv
  have hx := B.exec
  have hb := B.bytes
  have hr := B.returns
  have ht : ∀ w ∈ lw_gd, w.before args s = true := fun w hw => atoms_spec (ws := WW yX11_carries cX11_carries 2 (some .int)) B.pre w (List.mem_cons_of_mem _ hw)
  have hown : s.vm.findClass RX11 = some m.cls := findClass_of_methodNamed B.named
  have hlocks := B.notSynchronized
  have hP : PD D A [bl_X11 cy A_b r_b_trays (A_a 0) r_b_war r_b_draftArmy r_b_draftWar r_b_reader r_b_armyReader r_b_warReader r_b_markedArmies r_b_markedWars r_b_latest r_b_trial r_b_foresight r_b_pairs b_latestStatus b_fractionTop b_fractionBottom b_marks, bl_X0 cy A_a a_name a_courage a_weight a_medals a_stood a_fled a_liked a_votes a_count a_living a_pride a_quota a_melted a_lost] s.heap := ⟨hP, by rw [hA]; exact hD0.own⟩
  have hS : va_S A s.heap s.heap [] := va_S.rf
  obtain ⟨ls, hl, hent⟩ := ent (m := m) (n := 2) hargs (Nat.le_of_ble_eq_true rfl) (lv := [(0, .ref (A_b 0)), (1, .int x1)]) rfl
  rw [hent]
  clear hent
  unfold f_X11_carries at h
  refine lv_iload_n hx hb dX11_carries_0 rfl (lv_at hl 1 rfl) ?_
  refine lv_iconst (v := 0) hx hb dX11_carries_1 (by decide) ?_
  refine lv_iconst (v := 1) hx hb dX11_carries_2 (by decide) ?_
  refine lv_aload_n hx hb dX11_carries_3 rfl (lv_at hl 0 rfl) ?_
  refine xget (i := 0) (j := 0) (k := 4) (T := TX11) hx hb ht tb_iX11 hown hX hP.1 rfl rfl rfl (by decide) tb_433 rfl dX11_carries_4 ?_
  refine xget (i := 1) (j := 0) (k := 8) (T := TX0) hx hb ht tb_iX0 hown hX hP.1 rfl rfl rfl (by decide) tb_60 rfl dX11_carries_7 ?_
  refine lv_ishl hx hb dX11_carries_10 ?_
  refine lv_iconst (v := 1) hx hb dX11_carries_11 (by decide) ?_
  refine lv_isub hx hb dX11_carries_12 ?_
  obtain ⟨z_10, e_z_10, h⟩ := bi h
  refine roSi (rest := []) ⟨hx, hb, hml, hown, ht⟩ (c_X11_within l D cy fu  x1 0 (((1 : Int32) <<< (a_count &&& 31)) - 1) z_10 e_z_10) (cS ht ms_X11_within tb_504 rfl rfl ⟨Nat.le_of_ble_eq_true rfl, Nat.le_of_ble_eq_true rfl⟩) (P_sub hP.1 [] rfl) hX rfl hl.1 rfl (Nat.le_of_ble_eq_true rfl) dX11_carries_13 ⟨Nat.le_of_ble_eq_true rfl, Nat.le_of_ble_eq_true rfl⟩ ?_
  refine lv_if_ne (tgt := 25) hx hb dX11_carries_16 (by decide) (fun c_11 => ?_) (fun c_11 => ?_)
  · have h := ie c_11 h
    refine lv_iload_n hx hb dX11_carries_25 rfl (lv_at hl 1 rfl) ?_
    refine lv_aload_n hx hb dX11_carries_26 rfl (lv_at hl 0 rfl) ?_
    refine xget (i := 0) (j := 0) (k := 4) (T := TX11) hx hb ht tb_iX11 hown hX hP.1 rfl rfl rfl (by decide) tb_433 rfl dX11_carries_27 ?_
    refine xget (i := 1) (j := 0) (k := 9) (T := TX0) hx hb ht tb_iX0 hown hX hP.1 rfl rfl rfl (by decide) tb_64 rfl dX11_carries_30 ?_
    refine lv_iconst (v := (-1)) hx hb dX11_carries_33 (by decide) ?_
    refine lv_ixor hx hb dX11_carries_34 ?_
    refine lv_iand hx hb dX11_carries_35 ?_
    refine lv_if_eq (tgt := 46) hx hb dX11_carries_36 (by decide) (fun c_12 => ?_) (fun c_12 => ?_)
    · have h := it c_12 h
      refine lv_aload_n hx hb dX11_carries_46 rfl (lv_at hl 0 rfl) ?_
      refine lv_aload_n hx hb dX11_carries_47 rfl (lv_at hl 0 rfl) ?_
      refine xget (i := 0) (j := 0) (k := 4) (T := TX11) hx hb ht tb_iX11 hown hX hP.1 rfl rfl rfl (by decide) tb_433 rfl dX11_carries_48 ?_
      refine lv_iload_n hx hb dX11_carries_51 rfl (lv_at hl 1 rfl) ?_
      obtain ⟨z_13, e_z_13, h⟩ := bi h
      refine roVi (rest := [.ref (A_b 0)]) ⟨hx, hb, hml, hown, ht⟩ (c_X0_isCarriedBy l D cy fu A_a a_name a_courage a_weight a_medals a_stood a_fled a_liked a_votes a_count a_living a_pride a_quota a_melted a_lost x1 z_13 e_z_13) (cV ht mv_X0_isCarriedBy tb_922 rfl rfl ⟨Nat.le_of_ble_eq_true rfl, Nat.le_of_ble_eq_true rfl⟩) (P_sub hP.1 [1] rfl) hX rfl rfl rfl hl.1 rfl (Nat.le_of_ble_eq_true rfl) dX11_carries_52 ⟨Nat.le_of_ble_eq_true rfl, Nat.le_of_ble_eq_true rfl⟩ ?_
      refine lv_if_eq (tgt := 62) hx hb dX11_carries_55 (by decide) (fun c_14 => ?_) (fun c_14 => ?_)
      · have h := it c_14 h
        refine lv_iconst (v := 0) hx hb dX11_carries_62 (by decide) ?_
        obtain ⟨z_15, e_z_15, h⟩ := bi h
        refine efVi (rest := []) ⟨hx, hb, hml, hown, ht⟩ (c_X11_answer l D cy fu A_b r_b_trays (A_a 0) r_b_war r_b_draftArmy r_b_draftWar r_b_reader r_b_armyReader r_b_warReader r_b_markedArmies r_b_markedWars r_b_latest r_b_trial r_b_foresight r_b_pairs b_latestStatus b_fractionTop b_fractionBottom b_marks 0 z_15 e_z_15 _ rfl _ rfl) (cV ht mv_X11_answer tb_696 rfl rfl ⟨Nat.le_of_ble_eq_true rfl, Nat.le_of_ble_eq_true rfl⟩) hP hS hX [0] rfl rfl rfl rfl rfl rfl hl.1 rfl (Nat.le_of_ble_eq_true rfl) dX11_carries_63 ⟨Nat.le_of_ble_eq_true rfl, Nat.le_of_ble_eq_true rfl⟩ (fun H locs hP hS => ?_)
        have hP : PD D A [bl_X11 cy A_b r_b_trays (A_a 0) r_b_war r_b_draftArmy r_b_draftWar r_b_reader r_b_armyReader r_b_warReader r_b_markedArmies r_b_markedWars r_b_latest r_b_trial r_b_foresight r_b_pairs z_15.2 b_fractionTop b_fractionBottom b_marks, bl_X0 cy A_a a_name a_courage a_weight a_medals a_stood a_fled a_liked a_votes a_count a_living a_pride a_quota a_melted a_lost] H := hP
        cases h
        subst hW1
        exact W.iret hx hb hr (fun _ ht9 _ => ⟨⟨_, (), rfl, rfl, hPt ht9 hP.1⟩, hS.F ht9⟩) hS.2.2 dX11_carries_66
      · have h := ie c_14 h
        refine lv_iconst (v := 1) hx hb dX11_carries_58 (by decide) ?_
        refine lv_goto (tgt := 63) hx hb dX11_carries_59 (by decide) ?_
        obtain ⟨z_16, e_z_16, h⟩ := bi h
        refine efVi (rest := []) ⟨hx, hb, hml, hown, ht⟩ (c_X11_answer l D cy fu A_b r_b_trays (A_a 0) r_b_war r_b_draftArmy r_b_draftWar r_b_reader r_b_armyReader r_b_warReader r_b_markedArmies r_b_markedWars r_b_latest r_b_trial r_b_foresight r_b_pairs b_latestStatus b_fractionTop b_fractionBottom b_marks 1 z_16 e_z_16 _ rfl _ rfl) (cV ht mv_X11_answer tb_696 rfl rfl ⟨Nat.le_of_ble_eq_true rfl, Nat.le_of_ble_eq_true rfl⟩) hP hS hX [0] rfl rfl rfl rfl rfl rfl hl.1 rfl (Nat.le_of_ble_eq_true rfl) dX11_carries_63 ⟨Nat.le_of_ble_eq_true rfl, Nat.le_of_ble_eq_true rfl⟩ (fun H locs hP hS => ?_)
        have hP : PD D A [bl_X11 cy A_b r_b_trays (A_a 0) r_b_war r_b_draftArmy r_b_draftWar r_b_reader r_b_armyReader r_b_warReader r_b_markedArmies r_b_markedWars r_b_latest r_b_trial r_b_foresight r_b_pairs z_16.2 b_fractionTop b_fractionBottom b_marks, bl_X0 cy A_a a_name a_courage a_weight a_medals a_stood a_fled a_liked a_votes a_count a_living a_pride a_quota a_melted a_lost] H := hP
        cases h
        subst hW1
        exact W.iret hx hb hr (fun _ ht9 _ => ⟨⟨_, (), rfl, rfl, hPt ht9 hP.1⟩, hS.F ht9⟩) hS.2.2 dX11_carries_66
    · have h := ie c_12 h
      refine lv_aload_n hx hb dX11_carries_39 rfl (lv_at hl 0 rfl) ?_
      refine lv_bipush (v := 7) hx hb dX11_carries_40 (by decide) ?_
      obtain ⟨z_17, e_z_17, h⟩ := bi h
      refine efVi (rest := []) ⟨hx, hb, hml, hown, ht⟩ (c_X11_refuse l D cy fu A_b r_b_trays (A_a 0) r_b_war r_b_draftArmy r_b_draftWar r_b_reader r_b_armyReader r_b_warReader r_b_markedArmies r_b_markedWars r_b_latest r_b_trial r_b_foresight r_b_pairs b_latestStatus b_fractionTop b_fractionBottom b_marks 7 z_17 e_z_17 _ rfl _ rfl) (cV ht mv_X11_refuse tb_543 rfl rfl ⟨Nat.le_of_ble_eq_true rfl, Nat.le_of_ble_eq_true rfl⟩) hP hS hX [0] rfl rfl rfl rfl rfl rfl hl.1 rfl (Nat.le_of_ble_eq_true rfl) dX11_carries_42 ⟨Nat.le_of_ble_eq_true rfl, Nat.le_of_ble_eq_true rfl⟩ (fun H locs hP hS => ?_)
      have hP : PD D A [bl_X11 cy A_b r_b_trays (A_a 0) r_b_war r_b_draftArmy r_b_draftWar r_b_reader r_b_armyReader r_b_warReader r_b_markedArmies r_b_markedWars r_b_latest r_b_trial r_b_foresight r_b_pairs z_17.2 b_fractionTop b_fractionBottom b_marks, bl_X0 cy A_a a_name a_courage a_weight a_medals a_stood a_fled a_liked a_votes a_count a_living a_pride a_quota a_melted a_lost] H := hP
      cases h
      subst hW1
      exact W.iret hx hb hr (fun _ ht9 _ => ⟨⟨_, (), rfl, rfl, hPt ht9 hP.1⟩, hS.F ht9⟩) hS.2.2 dX11_carries_45
  · have h := it c_11 h
    refine lv_aload_n hx hb dX11_carries_19 rfl (lv_at hl 0 rfl) ?_
    refine lv_iconst (v := 1) hx hb dX11_carries_20 (by decide) ?_
    obtain ⟨z_18, e_z_18, h⟩ := bi h
    refine efVi (rest := []) ⟨hx, hb, hml, hown, ht⟩ (c_X11_refuse l D cy fu A_b r_b_trays (A_a 0) r_b_war r_b_draftArmy r_b_draftWar r_b_reader r_b_armyReader r_b_warReader r_b_markedArmies r_b_markedWars r_b_latest r_b_trial r_b_foresight r_b_pairs b_latestStatus b_fractionTop b_fractionBottom b_marks 1 z_18 e_z_18 _ rfl _ rfl) (cV ht mv_X11_refuse tb_543 rfl rfl ⟨Nat.le_of_ble_eq_true rfl, Nat.le_of_ble_eq_true rfl⟩) hP hS hX [0] rfl rfl rfl rfl rfl rfl hl.1 rfl (Nat.le_of_ble_eq_true rfl) dX11_carries_21 ⟨Nat.le_of_ble_eq_true rfl, Nat.le_of_ble_eq_true rfl⟩ (fun H locs hP hS => ?_)
    have hP : PD D A [bl_X11 cy A_b r_b_trays (A_a 0) r_b_war r_b_draftArmy r_b_draftWar r_b_reader r_b_armyReader r_b_warReader r_b_markedArmies r_b_markedWars r_b_latest r_b_trial r_b_foresight r_b_pairs z_18.2 b_fractionTop b_fractionBottom b_marks, bl_X0 cy A_a a_name a_courage a_weight a_medals a_stood a_fled a_liked a_votes a_count a_living a_pride a_quota a_melted a_lost] H := hP
    cases h
    subst hW1
    exact W.iret hx hb hr (fun _ ht9 _ => ⟨⟨_, (), rfl, rfl, hPt ht9 hP.1⟩, hS.F ht9⟩) hS.2.2 dX11_carries_24
theorem dX3_fewestOf_0 : decode cX3_fewestOf 0 = .ok (.iconst (-1), 1) := by decide +kernel
theorem dX3_fewestOf_1 : decode cX3_fewestOf 1 = .ok (.istore_n 1, 1) := by decide +kernel
theorem dX3_fewestOf_2 : decode cX3_fewestOf 2 = .ok (.bipush 9, 2) := by decide +kernel
theorem dX3_fewestOf_4 : decode cX3_fewestOf 4 = .ok (.istore_n 2, 1) := by decide +kernel
theorem dX3_fewestOf_5 : decode cX3_fewestOf 5 = .ok (.iconst 1, 1) := by decide +kernel
theorem dX3_fewestOf_6 : decode cX3_fewestOf 6 = .ok (.istore_n 3, 1) := by decide +kernel
theorem dX3_fewestOf_7 : decode cX3_fewestOf 7 = .ok (.iload_n 3, 1) := by decide +kernel
theorem dX3_fewestOf_8 : decode cX3_fewestOf 8 = .ok (.aload_n 0, 1) := by decide +kernel
theorem dX3_fewestOf_9 : decode cX3_fewestOf 9 = .ok (.getfield 9, 3) := by decide +kernel
theorem dX3_fewestOf_12 : decode cX3_fewestOf 12 = .ok (.if_icmp .gt 45, 3) := by decide +kernel
theorem dX3_fewestOf_15 : decode cX3_fewestOf 15 = .ok (.iload_n 3, 1) := by decide +kernel
theorem dX3_fewestOf_16 : decode cX3_fewestOf 16 = .ok (.invokestatic 15, 3) := by decide +kernel
theorem dX3_fewestOf_19 : decode cX3_fewestOf 19 = .ok (.istore 4, 2) := by decide +kernel
theorem dX3_fewestOf_21 : decode cX3_fewestOf 21 = .ok (.iload_n 3, 1) := by decide +kernel
theorem dX3_fewestOf_22 : decode cX3_fewestOf 22 = .ok (.aload_n 0, 1) := by decide +kernel
theorem dX3_fewestOf_23 : decode cX3_fewestOf 23 = .ok (.getfield 9, 3) := by decide +kernel
theorem dX3_fewestOf_26 : decode cX3_fewestOf 26 = .ok (.iconst (-1), 1) := by decide +kernel
theorem dX3_fewestOf_27 : decode cX3_fewestOf 27 = .ok (.ixor, 1) := by decide +kernel
theorem dX3_fewestOf_28 : decode cX3_fewestOf 28 = .ok (.iand, 1) := by decide +kernel
theorem dX3_fewestOf_29 : decode cX3_fewestOf 29 = .ok (.ifCond .ne 22, 3) := by decide +kernel
theorem dX3_fewestOf_32 : decode cX3_fewestOf 32 = .ok (.iload 4, 2) := by decide +kernel
theorem dX3_fewestOf_34 : decode cX3_fewestOf 34 = .ok (.iload_n 2, 1) := by decide +kernel
theorem dX3_fewestOf_35 : decode cX3_fewestOf 35 = .ok (.if_icmp .ge 16, 3) := by decide +kernel
theorem dX3_fewestOf_38 : decode cX3_fewestOf 38 = .ok (.aload_n 0, 1) := by decide +kernel
theorem dX3_fewestOf_39 : decode cX3_fewestOf 39 = .ok (.iload_n 3, 1) := by decide +kernel
theorem dX3_fewestOf_40 : decode cX3_fewestOf 40 = .ok (.invokevirtual 21, 3) := by decide +kernel
theorem dX3_fewestOf_43 : decode cX3_fewestOf 43 = .ok (.ifCond .eq 8, 3) := by decide +kernel
theorem dX3_fewestOf_46 : decode cX3_fewestOf 46 = .ok (.iload 4, 2) := by decide +kernel
theorem dX3_fewestOf_48 : decode cX3_fewestOf 48 = .ok (.istore_n 2, 1) := by decide +kernel
theorem dX3_fewestOf_49 : decode cX3_fewestOf 49 = .ok (.iload_n 3, 1) := by decide +kernel
theorem dX3_fewestOf_50 : decode cX3_fewestOf 50 = .ok (.istore_n 1, 1) := by decide +kernel
theorem dX3_fewestOf_51 : decode cX3_fewestOf 51 = .ok (.iinc 3 1, 3) := by decide +kernel
theorem dX3_fewestOf_54 : decode cX3_fewestOf 54 = .ok (.goto (-47), 3) := by decide +kernel
theorem dX3_fewestOf_57 : decode cX3_fewestOf 57 = .ok (.iload_n 1, 1) := by decide +kernel
theorem dX3_fewestOf_58 : decode cX3_fewestOf 58 = .ok (.ireturn, 1) := by decide +kernel
theorem ms_X3_fewestOf : MS yX3_fewestOf cX3_fewestOf 5 (some .int) 1 := ⟨tb_936, tb_935, tb_21, by decide +kernel, by decide +kernel, by decide +kernel⟩
def f_X3_fewestOf_b7 (fu : Nat) (a_weight : Nat → Int32) (a_count : Int32) (a_living : Int32) (a_quota : Int32) (k7 : Int32 → Int32 → Int32 → Option (Int32)) (x1 : Int32) (x2 : Int32) (x3 : Int32) : Option (Int32) := (if a_living < x3 then some (x1) else (f_J6_bitCount_0f7a4 fu x3).bind fun z_12 => (if (x3 &&& (a_living ^^^ (-1))) = 0 then (if x2 ≤ z_12 then bnd (x3 + 1) fun x3_16 => k7 x1 x2 x3_16 else (f_X0_isCarriedBy fu a_weight a_count a_living a_quota x3).bind fun z_17 => (if z_17 = 0 then bnd (x3 + 1) fun x3_19 => k7 x1 x2 x3_19 else bnd (x3 + 1) fun x3_20 => k7 x3 z_12 x3_20)) else bnd (x3 + 1) fun x3_14 => k7 x1 x2 x3_14))
def f_X3_fewestOf_l7 (fu : Nat) (a_weight : Nat → Int32) (a_count : Int32) (a_living : Int32) (a_quota : Int32) : Nat → Int32 → Int32 → Int32 → Option (Int32)
  | 0, _, _, _ => none
  | n + 1, x1, x2, x3 => f_X3_fewestOf_b7 fu a_weight a_count a_living a_quota (f_X3_fewestOf_l7 fu a_weight a_count a_living a_quota n) x1 x2 x3
def f_X3_fewestOf (fu : Nat) (a_weight : Nat → Int32) (a_count : Int32) (a_living : Int32) (a_quota : Int32) : Option (Int32) := f_X3_fewestOf_l7 fu a_weight a_count a_living a_quota fu (-1) 9 1
abbrev rm_X3_fewestOf : Room := { frames := 2, cells := 0, slots := 0, locals := 44 }
set_option maxHeartbeats 4000000 in
set_option maxRecDepth 100000 in
theorem c_X3_fewestOf (l : Launch) (D : va_G) (cy : Nat → ClassId) (fu : Nat) (A_a : Nat → Nat) (a_name : Nat → Int64) (a_courage : Nat → Int32) (a_weight : Nat → Int32) (a_medals : Nat → Int32) (a_stood : Nat → Int32) (a_fled : Nat → Int32) (a_liked : Nat → Int32) (a_votes : Nat → Int32) (a_count : Int32) (a_living : Int32) (a_pride : Int32) (a_quota : Int32) (a_melted : Int32) (a_lost : Int32) (res : Int32) (h : f_X3_fewestOf fu a_weight a_count a_living a_quota = some res) : Met l yX3_fewestOf (WW yX3_fewestOf cX3_fewestOf 5 (some .int)) rm_X3_fewestOf (Rd D cy [.ref (A_a 0)] [bl_X0 cy A_a a_name a_courage a_weight a_medals a_stood a_fled a_liked a_votes a_count a_living a_pride a_quota a_melted a_lost]) (vp_Si (fun v => v = res)) 0 0 (fun _ => False) := by
  refine Met.ofW (cc := cX3_fewestOf) (maxL := 5) (ret := (some .int)) (by decide) rfl ?_
  intro p e s m args below meth c s₁ B hml hv
  obtain ⟨hargs, hP, hX⟩ := hv
  have hx := B.exec
  have hb := B.bytes
  have hr := B.returns
  have ht : ∀ w ∈ lw_gd, w.before args s = true := fun w hw => atoms_spec (ws := WW yX3_fewestOf cX3_fewestOf 5 (some .int)) B.pre w (List.mem_cons_of_mem _ hw)
  have hown : s.vm.findClass RX3 = some m.cls := findClass_of_methodNamed B.named
  have hlocks := B.notSynchronized
  have hP : PB D [bl_X0 cy A_a a_name a_courage a_weight a_medals a_stood a_fled a_liked a_votes a_count a_living a_pride a_quota a_melted a_lost] s.heap := hP
  obtain ⟨ls, hl, hent⟩ := ent (m := m) (n := 5) hargs (Nat.le_of_ble_eq_true rfl) (lv := [(0, .ref (A_a 0))]) rfl
  rw [hent]
  clear hent
  have l7 : ∀ (n7 : Nat) (x1 : Int32) (x2 : Int32) (x3 : Int32) (ls : Array Slot), lv_has ls 5 [(0, .ref (A_a 0)), (1, .int x1), (2, .int x2), (3, .int x3)] → f_X3_fewestOf_l7 fu a_weight a_count a_living a_quota n7 x1 x2 x3 = some res → W p l e (headSpec (WW yX3_fewestOf cX3_fewestOf 5 (some .int)) rm_X3_fewestOf).room s m args below meth c s.heap [] 0 0 (MQ below (vp_Si (fun v => v = res)) args s 0 0 (fun _ => False)) (F0 m 7 ls []) := by
    intro n7
    induction n7 with
    | zero => intro x1 x2 x3 ls hl h; cases h
    | succ n7 ih7 =>
      intro x1 x2 x3 ls hl h
      have h : f_X3_fewestOf_b7 fu a_weight a_count a_living a_quota (f_X3_fewestOf_l7 fu a_weight a_count a_living a_quota n7) x1 x2 x3 = some res := h
      unfold f_X3_fewestOf_b7 at h
      refine lv_iload_n hx hb dX3_fewestOf_7 rfl (lv_at hl 3 rfl) ?_
      refine lv_aload_n hx hb dX3_fewestOf_8 rfl (lv_at hl 0 rfl) ?_
      refine xget (i := 0) (j := 0) (k := 9) (T := TX0) hx hb ht tb_iX0 hown hX hP rfl rfl rfl (by decide) tb_62 rfl dX3_fewestOf_9 ?_
      refine lv_icmp_gt (tgt := 57) hx hb dX3_fewestOf_12 (by decide) (fun c_11 => ?_) (fun c_11 => ?_)
      · have h := it c_11 h
        refine lv_iload_n hx hb dX3_fewestOf_57 rfl (lv_at hl 1 rfl) ?_
        cases h
        exact W.iret hx hb hr (fun _ ht9 _ => ⟨_, rfl, rfl, ht9⟩) (fun _ hq => by cases hq) dX3_fewestOf_58
      · have h := ie c_11 h
        refine lv_iload_n hx hb dX3_fewestOf_15 rfl (lv_at hl 3 rfl) ?_
        obtain ⟨z_12, e_z_12, h⟩ := bi h
        refine roSi (rest := []) ⟨hx, hb, hml, hown, ht⟩ (c_J6_bitCount_0f7a4 l D cy fu  x3 z_12 e_z_12) (cS ht ms_J6_bitCount_0f7a4 tb_937 rfl rfl ⟨Nat.le_of_ble_eq_true rfl, Nat.le_of_ble_eq_true rfl⟩) (P_sub hP [] rfl) hX rfl hl.1 rfl (Nat.le_of_ble_eq_true rfl) dX3_fewestOf_16 ⟨Nat.le_of_ble_eq_true rfl, Nat.le_of_ble_eq_true rfl⟩ ?_
        refine lv_istore (lv' := [(4, .int z_12), (0, .ref (A_a 0)), (1, .int x1), (2, .int x2), (3, .int x3)]) hx hb dX3_fewestOf_19 hl (by decide) rfl (fun ls hl => ?_)
        refine lv_iload_n hx hb dX3_fewestOf_21 rfl (lv_at hl 4 rfl) ?_
        refine lv_aload_n hx hb dX3_fewestOf_22 rfl (lv_at hl 1 rfl) ?_
        refine xget (i := 0) (j := 0) (k := 9) (T := TX0) hx hb ht tb_iX0 hown hX hP rfl rfl rfl (by decide) tb_62 rfl dX3_fewestOf_23 ?_
        refine lv_iconst (v := (-1)) hx hb dX3_fewestOf_26 (by decide) ?_
        refine lv_ixor hx hb dX3_fewestOf_27 ?_
        refine lv_iand hx hb dX3_fewestOf_28 ?_
        refine lv_if_ne (tgt := 51) hx hb dX3_fewestOf_29 (by decide) (fun c_13 => ?_) (fun c_13 => ?_)
        · have h := ie c_13 h
          obtain ⟨x3_14, e_x3_14⟩ : ∃ y : Int32, y = x3 + 1 := ⟨_, rfl⟩
          have h := bn e_x3_14 h
          refine lv_iinc (v := x3_14) (lv' := [(3, .int x3_14), (4, .int z_12), (0, .ref (A_a 0)), (1, .int x1), (2, .int x2)]) hx hb dX3_fewestOf_51 hl (k := 4) rfl (by rw [e_x3_14]; rfl) (by decide) rfl (fun ls hl => ?_)
          refine lv_goto (tgt := 7) hx hb dX3_fewestOf_54 (by decide) ?_
          exact ih7 x1 x2 x3_14 ls (lv_sub hl [2, 3, 4, 0] rfl) h
        · have h := it c_13 h
          refine lv_iload hx hb dX3_fewestOf_32 (lv_at hl 0 rfl) ?_
          refine lv_iload_n hx hb dX3_fewestOf_34 rfl (lv_at hl 3 rfl) ?_
          refine lv_icmp_ge (tgt := 51) hx hb dX3_fewestOf_35 (by decide) (fun c_15 => ?_) (fun c_15 => ?_)
          · have h := it c_15 h
            obtain ⟨x3_16, e_x3_16⟩ : ∃ y : Int32, y = x3 + 1 := ⟨_, rfl⟩
            have h := bn e_x3_16 h
            refine lv_iinc (v := x3_16) (lv' := [(3, .int x3_16), (4, .int z_12), (0, .ref (A_a 0)), (1, .int x1), (2, .int x2)]) hx hb dX3_fewestOf_51 hl (k := 4) rfl (by rw [e_x3_16]; rfl) (by decide) rfl (fun ls hl => ?_)
            refine lv_goto (tgt := 7) hx hb dX3_fewestOf_54 (by decide) ?_
            exact ih7 x1 x2 x3_16 ls (lv_sub hl [2, 3, 4, 0] rfl) h
          · have h := ie c_15 h
            refine lv_aload_n hx hb dX3_fewestOf_38 rfl (lv_at hl 1 rfl) ?_
            refine lv_iload_n hx hb dX3_fewestOf_39 rfl (lv_at hl 4 rfl) ?_
            obtain ⟨z_17, e_z_17, h⟩ := bi h
            refine roVi (rest := []) ⟨hx, hb, hml, hown, ht⟩ (c_X0_isCarriedBy l D cy fu A_a a_name a_courage a_weight a_medals a_stood a_fled a_liked a_votes a_count a_living a_pride a_quota a_melted a_lost x3 z_17 e_z_17) (cV ht mv_X0_isCarriedBy tb_938 rfl rfl ⟨Nat.le_of_ble_eq_true rfl, Nat.le_of_ble_eq_true rfl⟩) (P_sub hP [0] rfl) hX rfl rfl rfl hl.1 rfl (Nat.le_of_ble_eq_true rfl) dX3_fewestOf_40 ⟨Nat.le_of_ble_eq_true rfl, Nat.le_of_ble_eq_true rfl⟩ ?_
            refine lv_if_eq (tgt := 51) hx hb dX3_fewestOf_43 (by decide) (fun c_18 => ?_) (fun c_18 => ?_)
            · have h := it c_18 h
              obtain ⟨x3_19, e_x3_19⟩ : ∃ y : Int32, y = x3 + 1 := ⟨_, rfl⟩
              have h := bn e_x3_19 h
              refine lv_iinc (v := x3_19) (lv' := [(3, .int x3_19), (4, .int z_12), (0, .ref (A_a 0)), (1, .int x1), (2, .int x2)]) hx hb dX3_fewestOf_51 hl (k := 4) rfl (by rw [e_x3_19]; rfl) (by decide) rfl (fun ls hl => ?_)
              refine lv_goto (tgt := 7) hx hb dX3_fewestOf_54 (by decide) ?_
              exact ih7 x1 x2 x3_19 ls (lv_sub hl [2, 3, 4, 0] rfl) h
            · have h := ie c_18 h
              refine lv_iload hx hb dX3_fewestOf_46 (lv_at hl 0 rfl) ?_
              refine lv_istore_n (lv' := [(2, .int z_12), (4, .int z_12), (0, .ref (A_a 0)), (1, .int x1), (3, .int x3)]) hx hb dX3_fewestOf_48 rfl hl (by decide) rfl (fun ls hl => ?_)
              refine lv_iload_n hx hb dX3_fewestOf_49 rfl (lv_at hl 4 rfl) ?_
              refine lv_istore_n (lv' := [(1, .int x3), (2, .int z_12), (4, .int z_12), (0, .ref (A_a 0)), (3, .int x3)]) hx hb dX3_fewestOf_50 rfl hl (by decide) rfl (fun ls hl => ?_)
              obtain ⟨x3_20, e_x3_20⟩ : ∃ y : Int32, y = x3 + 1 := ⟨_, rfl⟩
              have h := bn e_x3_20 h
              refine lv_iinc (v := x3_20) (lv' := [(3, .int x3_20), (1, .int x3), (2, .int z_12), (4, .int z_12), (0, .ref (A_a 0))]) hx hb dX3_fewestOf_51 hl (k := 4) rfl (by rw [e_x3_20]; rfl) (by decide) rfl (fun ls hl => ?_)
              refine lv_goto (tgt := 7) hx hb dX3_fewestOf_54 (by decide) ?_
              exact ih7 x3 z_12 x3_20 ls (lv_sub hl [4, 1, 2, 0] rfl) h
  unfold f_X3_fewestOf at h
  refine lv_iconst (v := (-1)) hx hb dX3_fewestOf_0 (by decide) ?_
  refine lv_istore_n (lv' := [(1, .int (-1)), (0, .ref (A_a 0))]) hx hb dX3_fewestOf_1 rfl hl (by decide) rfl (fun ls hl => ?_)
  refine lv_bipush (v := 9) hx hb dX3_fewestOf_2 (by decide) ?_
  refine lv_istore_n (lv' := [(2, .int 9), (1, .int (-1)), (0, .ref (A_a 0))]) hx hb dX3_fewestOf_4 rfl hl (by decide) rfl (fun ls hl => ?_)
  refine lv_iconst (v := 1) hx hb dX3_fewestOf_5 (by decide) ?_
  refine lv_istore_n (lv' := [(3, .int 1), (2, .int 9), (1, .int (-1)), (0, .ref (A_a 0))]) hx hb dX3_fewestOf_6 rfl hl (by decide) rfl (fun ls hl => ?_)
  exact l7 fu (-1) 9 1 ls (lv_sub hl [3, 2, 1, 0] rfl) h
theorem dX11_fewest_0 : decode cX11_fewest 0 = .ok (.aload_n 0, 1) := by decide +kernel
theorem dX11_fewest_1 : decode cX11_fewest 1 = .ok (.getfield 29, 3) := by decide +kernel
theorem dX11_fewest_4 : decode cX11_fewest 4 = .ok (.invokestatic 318, 3) := by decide +kernel
theorem dX11_fewest_7 : decode cX11_fewest 7 = .ok (.istore_n 1, 1) := by decide +kernel
theorem dX11_fewest_8 : decode cX11_fewest 8 = .ok (.iload_n 1, 1) := by decide +kernel
theorem dX11_fewest_9 : decode cX11_fewest 9 = .ok (.iconst (-1), 1) := by decide +kernel
theorem dX11_fewest_10 : decode cX11_fewest 10 = .ok (.if_icmp .ne 12, 3) := by decide +kernel
theorem dX11_fewest_13 : decode cX11_fewest 13 = .ok (.aload_n 0, 1) := by decide +kernel
theorem dX11_fewest_14 : decode cX11_fewest 14 = .ok (.bipush 6, 2) := by decide +kernel
theorem dX11_fewest_16 : decode cX11_fewest 16 = .ok (.invokevirtual 143, 3) := by decide +kernel
theorem dX11_fewest_19 : decode cX11_fewest 19 = .ok (.goto 11, 3) := by decide +kernel
theorem dX11_fewest_22 : decode cX11_fewest 22 = .ok (.aload_n 0, 1) := by decide +kernel
theorem dX11_fewest_23 : decode cX11_fewest 23 = .ok (.iload_n 1, 1) := by decide +kernel
theorem dX11_fewest_24 : decode cX11_fewest 24 = .ok (.invokestatic 281, 3) := by decide +kernel
theorem dX11_fewest_27 : decode cX11_fewest 27 = .ok (.invokevirtual 193, 3) := by decide +kernel
theorem dX11_fewest_30 : decode cX11_fewest 30 = .ok (.ireturn, 1) := by decide +kernel
theorem mv_X11_fewest : MV yX11_fewest RX11 cX11_fewest 2 (some .int) 0 := ⟨tb_933, tb_931, tb_932, tb_1, by decide +kernel, by decide +kernel, by decide +kernel⟩
def f_X11_fewest (fu : Nat) (b_latestStatus : Int32) (a_weight : Nat → Int32) (a_count : Int32) (a_living : Int32) (a_quota : Int32) : Option (Int32 × Int32) := (f_X3_fewestOf fu a_weight a_count a_living a_quota).bind fun z_6 => (if z_6 = (-1) then (f_X11_refuse fu b_latestStatus 6).bind fun z_10 => some (z_10.1, z_10.2) else (f_J6_bitCount_0f7a4 fu z_6).bind fun z_8 => (f_X11_answer fu b_latestStatus z_8).bind fun z_9 => some (z_9.1, z_9.2))
abbrev rm_X11_fewest : Room := { frames := 3, cells := 0, slots := 0, locals := 68 }
set_option maxHeartbeats 4000000 in
set_option maxRecDepth 100000 in
theorem c_X11_fewest (l : Launch) (D : va_G) (cy : Nat → ClassId) (fu : Nat) (A_b : Nat → Nat) (r_b_trays : Nat) (r_b_war : Nat) (r_b_draftArmy : Nat) (r_b_draftWar : Nat) (r_b_reader : Nat) (r_b_armyReader : Nat) (r_b_warReader : Nat) (r_b_markedArmies : Nat) (r_b_markedWars : Nat) (r_b_latest : Nat) (r_b_trial : Nat) (r_b_foresight : Nat) (r_b_pairs : Nat) (b_latestStatus : Int32) (b_fractionTop : Int64) (b_fractionBottom : Int64) (b_marks : Int32) (A_a : Nat → Nat) (a_name : Nat → Int64) (a_courage : Nat → Int32) (a_weight : Nat → Int32) (a_medals : Nat → Int32) (a_stood : Nat → Int32) (a_fled : Nat → Int32) (a_liked : Nat → Int32) (a_votes : Nat → Int32) (a_count : Int32) (a_living : Int32) (a_pride : Int32) (a_quota : Int32) (a_melted : Int32) (a_lost : Int32) (res : Int32 × Int32) (h : f_X11_fewest fu b_latestStatus a_weight a_count a_living a_quota = some res) (A : Nat → Prop) (hA : A = adr [bl_X11 cy A_b r_b_trays (A_a 0) r_b_war r_b_draftArmy r_b_draftWar r_b_reader r_b_armyReader r_b_warReader r_b_markedArmies r_b_markedWars r_b_latest r_b_trial r_b_foresight r_b_pairs b_latestStatus b_fractionTop b_fractionBottom b_marks, bl_X0 cy A_a a_name a_courage a_weight a_medals a_stood a_fled a_liked a_votes a_count a_living a_pride a_quota a_melted a_lost]) (W1 : List va_W) (hW1 : W1 = [bl_X11 cy A_b r_b_trays (A_a 0) r_b_war r_b_draftArmy r_b_draftWar r_b_reader r_b_armyReader r_b_warReader r_b_markedArmies r_b_markedWars r_b_latest r_b_trial r_b_foresight r_b_pairs res.2 b_fractionTop b_fractionBottom b_marks, bl_X0 cy A_a a_name a_courage a_weight a_medals a_stood a_fled a_liked a_votes a_count a_living a_pride a_quota a_melted a_lost]) : Met l yX11_fewest (WW yX11_fewest cX11_fewest 2 (some .int)) rm_X11_fewest (Ed D cy [.ref (A_b 0)] [bl_X11 cy A_b r_b_trays (A_a 0) r_b_war r_b_draftArmy r_b_draftWar r_b_reader r_b_armyReader r_b_warReader r_b_markedArmies r_b_markedWars r_b_latest r_b_trial r_b_foresight r_b_pairs b_latestStatus b_fractionTop b_fractionBottom b_marks, bl_X0 cy A_a a_name a_courage a_weight a_medals a_stood a_fled a_liked a_votes a_count a_living a_pride a_quota a_melted a_lost]) (Qei D res.1 A W1) 0 0 A := by
  refine Met.ofW (cc := cX11_fewest) (maxL := 2) (ret := (some .int)) (by decide) rfl ?_
  intro p e s m args below meth c s₁ B hml hv
  obtain ⟨hargs, hP, hX, hD0⟩ := hv
  have hx := B.exec
  have hb := B.bytes
  have hr := B.returns
  have ht : ∀ w ∈ lw_gd, w.before args s = true := fun w hw => atoms_spec (ws := WW yX11_fewest cX11_fewest 2 (some .int)) B.pre w (List.mem_cons_of_mem _ hw)
  have hown : s.vm.findClass RX11 = some m.cls := findClass_of_methodNamed B.named
  have hlocks := B.notSynchronized
  have hP : PD D A [bl_X11 cy A_b r_b_trays (A_a 0) r_b_war r_b_draftArmy r_b_draftWar r_b_reader r_b_armyReader r_b_warReader r_b_markedArmies r_b_markedWars r_b_latest r_b_trial r_b_foresight r_b_pairs b_latestStatus b_fractionTop b_fractionBottom b_marks, bl_X0 cy A_a a_name a_courage a_weight a_medals a_stood a_fled a_liked a_votes a_count a_living a_pride a_quota a_melted a_lost] s.heap := ⟨hP, by rw [hA]; exact hD0.own⟩
  have hS : va_S A s.heap s.heap [] := va_S.rf
  obtain ⟨ls, hl, hent⟩ := ent (m := m) (n := 2) hargs (Nat.le_of_ble_eq_true rfl) (lv := [(0, .ref (A_b 0))]) rfl
  rw [hent]
  clear hent
  unfold f_X11_fewest at h
  refine lv_aload_n hx hb dX11_fewest_0 rfl (lv_at hl 0 rfl) ?_
  refine xget (i := 0) (j := 0) (k := 4) (T := TX11) hx hb ht tb_iX11 hown hX hP.1 rfl rfl rfl (by decide) tb_433 rfl dX11_fewest_1 ?_
  obtain ⟨z_6, e_z_6, h⟩ := bi h
  refine roSi (rest := []) ⟨hx, hb, hml, hown, ht⟩ (c_X3_fewestOf l D cy fu A_a a_name a_courage a_weight a_medals a_stood a_fled a_liked a_votes a_count a_living a_pride a_quota a_melted a_lost z_6 e_z_6) (cS ht ms_X3_fewestOf tb_934 rfl rfl ⟨Nat.le_of_ble_eq_true rfl, Nat.le_of_ble_eq_true rfl⟩) (P_sub hP.1 [1] rfl) hX rfl hl.1 rfl (Nat.le_of_ble_eq_true rfl) dX11_fewest_4 ⟨Nat.le_of_ble_eq_true rfl, Nat.le_of_ble_eq_true rfl⟩ ?_
  refine lv_istore_n (lv' := [(1, .int z_6), (0, .ref (A_b 0))]) hx hb dX11_fewest_7 rfl hl (by decide) rfl (fun ls hl => ?_)
  refine lv_iload_n hx hb dX11_fewest_8 rfl (lv_at hl 0 rfl) ?_
  refine lv_iconst (v := (-1)) hx hb dX11_fewest_9 (by decide) ?_
  refine lv_icmp_ne (tgt := 22) hx hb dX11_fewest_10 (by decide) (fun c_7 => ?_) (fun c_7 => ?_)
  · have h := ie c_7 h
    refine lv_aload_n hx hb dX11_fewest_22 rfl (lv_at hl 1 rfl) ?_
    refine lv_iload_n hx hb dX11_fewest_23 rfl (lv_at hl 0 rfl) ?_
    obtain ⟨z_8, e_z_8, h⟩ := bi h
    refine roSi (rest := [.ref (A_b 0)]) ⟨hx, hb, hml, hown, ht⟩ (c_J6_bitCount_0f7a4 l D cy fu  z_6 z_8 e_z_8) (cS ht ms_J6_bitCount_0f7a4 tb_852 rfl rfl ⟨Nat.le_of_ble_eq_true rfl, Nat.le_of_ble_eq_true rfl⟩) (P_sub hP.1 [] rfl) hX rfl hl.1 rfl (Nat.le_of_ble_eq_true rfl) dX11_fewest_24 ⟨Nat.le_of_ble_eq_true rfl, Nat.le_of_ble_eq_true rfl⟩ ?_
    obtain ⟨z_9, e_z_9, h⟩ := bi h
    refine efVi (rest := []) ⟨hx, hb, hml, hown, ht⟩ (c_X11_answer l D cy fu A_b r_b_trays (A_a 0) r_b_war r_b_draftArmy r_b_draftWar r_b_reader r_b_armyReader r_b_warReader r_b_markedArmies r_b_markedWars r_b_latest r_b_trial r_b_foresight r_b_pairs b_latestStatus b_fractionTop b_fractionBottom b_marks z_8 z_9 e_z_9 _ rfl _ rfl) (cV ht mv_X11_answer tb_696 rfl rfl ⟨Nat.le_of_ble_eq_true rfl, Nat.le_of_ble_eq_true rfl⟩) hP hS hX [0] rfl rfl rfl rfl rfl rfl hl.1 rfl (Nat.le_of_ble_eq_true rfl) dX11_fewest_27 ⟨Nat.le_of_ble_eq_true rfl, Nat.le_of_ble_eq_true rfl⟩ (fun H locs hP hS => ?_)
    have hP : PD D A [bl_X11 cy A_b r_b_trays (A_a 0) r_b_war r_b_draftArmy r_b_draftWar r_b_reader r_b_armyReader r_b_warReader r_b_markedArmies r_b_markedWars r_b_latest r_b_trial r_b_foresight r_b_pairs z_9.2 b_fractionTop b_fractionBottom b_marks, bl_X0 cy A_a a_name a_courage a_weight a_medals a_stood a_fled a_liked a_votes a_count a_living a_pride a_quota a_melted a_lost] H := hP
    cases h
    subst hW1
    exact W.iret hx hb hr (fun _ ht9 _ => ⟨⟨_, (), rfl, rfl, hPt ht9 hP.1⟩, hS.F ht9⟩) hS.2.2 dX11_fewest_30
  · have h := it c_7 h
    refine lv_aload_n hx hb dX11_fewest_13 rfl (lv_at hl 1 rfl) ?_
    refine lv_bipush (v := 6) hx hb dX11_fewest_14 (by decide) ?_
    obtain ⟨z_10, e_z_10, h⟩ := bi h
    refine efVi (rest := []) ⟨hx, hb, hml, hown, ht⟩ (c_X11_refuse l D cy fu A_b r_b_trays (A_a 0) r_b_war r_b_draftArmy r_b_draftWar r_b_reader r_b_armyReader r_b_warReader r_b_markedArmies r_b_markedWars r_b_latest r_b_trial r_b_foresight r_b_pairs b_latestStatus b_fractionTop b_fractionBottom b_marks 6 z_10 e_z_10 _ rfl _ rfl) (cV ht mv_X11_refuse tb_543 rfl rfl ⟨Nat.le_of_ble_eq_true rfl, Nat.le_of_ble_eq_true rfl⟩) hP hS hX [0] rfl rfl rfl rfl rfl rfl hl.1 rfl (Nat.le_of_ble_eq_true rfl) dX11_fewest_16 ⟨Nat.le_of_ble_eq_true rfl, Nat.le_of_ble_eq_true rfl⟩ (fun H locs hP hS => ?_)
    have hP : PD D A [bl_X11 cy A_b r_b_trays (A_a 0) r_b_war r_b_draftArmy r_b_draftWar r_b_reader r_b_armyReader r_b_warReader r_b_markedArmies r_b_markedWars r_b_latest r_b_trial r_b_foresight r_b_pairs z_10.2 b_fractionTop b_fractionBottom b_marks, bl_X0 cy A_a a_name a_courage a_weight a_medals a_stood a_fled a_liked a_votes a_count a_living a_pride a_quota a_melted a_lost] H := hP
    refine lv_goto (tgt := 30) hx hb dX11_fewest_19 (by decide) ?_
    cases h
    subst hW1
    exact W.iret hx hb hr (fun _ ht9 _ => ⟨⟨_, (), rfl, rfl, hPt ht9 hP.1⟩, hS.F ht9⟩) hS.2.2 dX11_fewest_30
theorem dX11_fewestSet_0 : decode cX11_fewestSet 0 = .ok (.aload_n 0, 1) := by decide +kernel
theorem dX11_fewestSet_1 : decode cX11_fewestSet 1 = .ok (.getfield 29, 3) := by decide +kernel
theorem dX11_fewestSet_4 : decode cX11_fewestSet 4 = .ok (.invokestatic 318, 3) := by decide +kernel
theorem dX11_fewestSet_7 : decode cX11_fewestSet 7 = .ok (.istore_n 1, 1) := by decide +kernel
theorem dX11_fewestSet_8 : decode cX11_fewestSet 8 = .ok (.iload_n 1, 1) := by decide +kernel
theorem dX11_fewestSet_9 : decode cX11_fewestSet 9 = .ok (.iconst (-1), 1) := by decide +kernel
theorem dX11_fewestSet_10 : decode cX11_fewestSet 10 = .ok (.if_icmp .ne 12, 3) := by decide +kernel
theorem dX11_fewestSet_13 : decode cX11_fewestSet 13 = .ok (.aload_n 0, 1) := by decide +kernel
theorem dX11_fewestSet_14 : decode cX11_fewestSet 14 = .ok (.bipush 6, 2) := by decide +kernel
theorem dX11_fewestSet_16 : decode cX11_fewestSet 16 = .ok (.invokevirtual 143, 3) := by decide +kernel
theorem dX11_fewestSet_19 : decode cX11_fewestSet 19 = .ok (.goto 8, 3) := by decide +kernel
theorem dX11_fewestSet_22 : decode cX11_fewestSet 22 = .ok (.aload_n 0, 1) := by decide +kernel
theorem dX11_fewestSet_23 : decode cX11_fewestSet 23 = .ok (.iload_n 1, 1) := by decide +kernel
theorem dX11_fewestSet_24 : decode cX11_fewestSet 24 = .ok (.invokevirtual 193, 3) := by decide +kernel
theorem dX11_fewestSet_27 : decode cX11_fewestSet 27 = .ok (.ireturn, 1) := by decide +kernel
theorem mv_X11_fewestSet : MV yX11_fewestSet RX11 cX11_fewestSet 2 (some .int) 0 := ⟨tb_942, tb_940, tb_941, tb_1, by decide +kernel, by decide +kernel, by decide +kernel⟩
def f_X11_fewestSet (fu : Nat) (b_latestStatus : Int32) (a_weight : Nat → Int32) (a_count : Int32) (a_living : Int32) (a_quota : Int32) : Option (Int32 × Int32) := (f_X3_fewestOf fu a_weight a_count a_living a_quota).bind fun z_5 => (if z_5 = (-1) then (f_X11_refuse fu b_latestStatus 6).bind fun z_8 => some (z_8.1, z_8.2) else (f_X11_answer fu b_latestStatus z_5).bind fun z_7 => some (z_7.1, z_7.2))
abbrev rm_X11_fewestSet : Room := { frames := 3, cells := 0, slots := 0, locals := 68 }
set_option maxHeartbeats 4000000 in
set_option maxRecDepth 100000 in
theorem c_X11_fewestSet (l : Launch) (D : va_G) (cy : Nat → ClassId) (fu : Nat) (A_b : Nat → Nat) (r_b_trays : Nat) (r_b_war : Nat) (r_b_draftArmy : Nat) (r_b_draftWar : Nat) (r_b_reader : Nat) (r_b_armyReader : Nat) (r_b_warReader : Nat) (r_b_markedArmies : Nat) (r_b_markedWars : Nat) (r_b_latest : Nat) (r_b_trial : Nat) (r_b_foresight : Nat) (r_b_pairs : Nat) (b_latestStatus : Int32) (b_fractionTop : Int64) (b_fractionBottom : Int64) (b_marks : Int32) (A_a : Nat → Nat) (a_name : Nat → Int64) (a_courage : Nat → Int32) (a_weight : Nat → Int32) (a_medals : Nat → Int32) (a_stood : Nat → Int32) (a_fled : Nat → Int32) (a_liked : Nat → Int32) (a_votes : Nat → Int32) (a_count : Int32) (a_living : Int32) (a_pride : Int32) (a_quota : Int32) (a_melted : Int32) (a_lost : Int32) (res : Int32 × Int32) (h : f_X11_fewestSet fu b_latestStatus a_weight a_count a_living a_quota = some res) (A : Nat → Prop) (hA : A = adr [bl_X11 cy A_b r_b_trays (A_a 0) r_b_war r_b_draftArmy r_b_draftWar r_b_reader r_b_armyReader r_b_warReader r_b_markedArmies r_b_markedWars r_b_latest r_b_trial r_b_foresight r_b_pairs b_latestStatus b_fractionTop b_fractionBottom b_marks, bl_X0 cy A_a a_name a_courage a_weight a_medals a_stood a_fled a_liked a_votes a_count a_living a_pride a_quota a_melted a_lost]) (W1 : List va_W) (hW1 : W1 = [bl_X11 cy A_b r_b_trays (A_a 0) r_b_war r_b_draftArmy r_b_draftWar r_b_reader r_b_armyReader r_b_warReader r_b_markedArmies r_b_markedWars r_b_latest r_b_trial r_b_foresight r_b_pairs res.2 b_fractionTop b_fractionBottom b_marks, bl_X0 cy A_a a_name a_courage a_weight a_medals a_stood a_fled a_liked a_votes a_count a_living a_pride a_quota a_melted a_lost]) : Met l yX11_fewestSet (WW yX11_fewestSet cX11_fewestSet 2 (some .int)) rm_X11_fewestSet (Ed D cy [.ref (A_b 0)] [bl_X11 cy A_b r_b_trays (A_a 0) r_b_war r_b_draftArmy r_b_draftWar r_b_reader r_b_armyReader r_b_warReader r_b_markedArmies r_b_markedWars r_b_latest r_b_trial r_b_foresight r_b_pairs b_latestStatus b_fractionTop b_fractionBottom b_marks, bl_X0 cy A_a a_name a_courage a_weight a_medals a_stood a_fled a_liked a_votes a_count a_living a_pride a_quota a_melted a_lost]) (Qei D res.1 A W1) 0 0 A := by
  refine Met.ofW (cc := cX11_fewestSet) (maxL := 2) (ret := (some .int)) (by decide) rfl ?_
  intro p e s m args below meth c s₁ B hml hv
  obtain ⟨hargs, hP, hX, hD0⟩ := hv
  have hx := B.exec
  have hb := B.bytes
  have hr := B.returns
  have ht : ∀ w ∈ lw_gd, w.before args s = true := fun w hw => atoms_spec (ws := WW yX11_fewestSet cX11_fewestSet 2 (some .int)) B.pre w (List.mem_cons_of_mem _ hw)
  have hown : s.vm.findClass RX11 = some m.cls := findClass_of_methodNamed B.named
  have hlocks := B.notSynchronized
  have hP : PD D A [bl_X11 cy A_b r_b_trays (A_a 0) r_b_war r_b_draftArmy r_b_draftWar r_b_reader r_b_armyReader r_b_warReader r_b_markedArmies r_b_markedWars r_b_latest r_b_trial r_b_foresight r_b_pairs b_latestStatus b_fractionTop b_fractionBottom b_marks, bl_X0 cy A_a a_name a_courage a_weight a_medals a_stood a_fled a_liked a_votes a_count a_living a_pride a_quota a_melted a_lost] s.heap := ⟨hP, by rw [hA]; exact hD0.own⟩
  have hS : va_S A s.heap s.heap [] := va_S.rf
  obtain ⟨ls, hl, hent⟩ := ent (m := m) (n := 2) hargs (Nat.le_of_ble_eq_true rfl) (lv := [(0, .ref (A_b 0))]) rfl
  rw [hent]
  clear hent
  unfold f_X11_fewestSet at h
  refine lv_aload_n hx hb dX11_fewestSet_0 rfl (lv_at hl 0 rfl) ?_
  refine xget (i := 0) (j := 0) (k := 4) (T := TX11) hx hb ht tb_iX11 hown hX hP.1 rfl rfl rfl (by decide) tb_433 rfl dX11_fewestSet_1 ?_
  obtain ⟨z_5, e_z_5, h⟩ := bi h
  refine roSi (rest := []) ⟨hx, hb, hml, hown, ht⟩ (c_X3_fewestOf l D cy fu A_a a_name a_courage a_weight a_medals a_stood a_fled a_liked a_votes a_count a_living a_pride a_quota a_melted a_lost z_5 e_z_5) (cS ht ms_X3_fewestOf tb_934 rfl rfl ⟨Nat.le_of_ble_eq_true rfl, Nat.le_of_ble_eq_true rfl⟩) (P_sub hP.1 [1] rfl) hX rfl hl.1 rfl (Nat.le_of_ble_eq_true rfl) dX11_fewestSet_4 ⟨Nat.le_of_ble_eq_true rfl, Nat.le_of_ble_eq_true rfl⟩ ?_
  refine lv_istore_n (lv' := [(1, .int z_5), (0, .ref (A_b 0))]) hx hb dX11_fewestSet_7 rfl hl (by decide) rfl (fun ls hl => ?_)
  refine lv_iload_n hx hb dX11_fewestSet_8 rfl (lv_at hl 0 rfl) ?_
  refine lv_iconst (v := (-1)) hx hb dX11_fewestSet_9 (by decide) ?_
  refine lv_icmp_ne (tgt := 22) hx hb dX11_fewestSet_10 (by decide) (fun c_6 => ?_) (fun c_6 => ?_)
  · have h := ie c_6 h
    refine lv_aload_n hx hb dX11_fewestSet_22 rfl (lv_at hl 1 rfl) ?_
    refine lv_iload_n hx hb dX11_fewestSet_23 rfl (lv_at hl 0 rfl) ?_
    obtain ⟨z_7, e_z_7, h⟩ := bi h
    refine efVi (rest := []) ⟨hx, hb, hml, hown, ht⟩ (c_X11_answer l D cy fu A_b r_b_trays (A_a 0) r_b_war r_b_draftArmy r_b_draftWar r_b_reader r_b_armyReader r_b_warReader r_b_markedArmies r_b_markedWars r_b_latest r_b_trial r_b_foresight r_b_pairs b_latestStatus b_fractionTop b_fractionBottom b_marks z_5 z_7 e_z_7 _ rfl _ rfl) (cV ht mv_X11_answer tb_696 rfl rfl ⟨Nat.le_of_ble_eq_true rfl, Nat.le_of_ble_eq_true rfl⟩) hP hS hX [0] rfl rfl rfl rfl rfl rfl hl.1 rfl (Nat.le_of_ble_eq_true rfl) dX11_fewestSet_24 ⟨Nat.le_of_ble_eq_true rfl, Nat.le_of_ble_eq_true rfl⟩ (fun H locs hP hS => ?_)
    have hP : PD D A [bl_X11 cy A_b r_b_trays (A_a 0) r_b_war r_b_draftArmy r_b_draftWar r_b_reader r_b_armyReader r_b_warReader r_b_markedArmies r_b_markedWars r_b_latest r_b_trial r_b_foresight r_b_pairs z_7.2 b_fractionTop b_fractionBottom b_marks, bl_X0 cy A_a a_name a_courage a_weight a_medals a_stood a_fled a_liked a_votes a_count a_living a_pride a_quota a_melted a_lost] H := hP
    cases h
    subst hW1
    exact W.iret hx hb hr (fun _ ht9 _ => ⟨⟨_, (), rfl, rfl, hPt ht9 hP.1⟩, hS.F ht9⟩) hS.2.2 dX11_fewestSet_27
  · have h := it c_6 h
    refine lv_aload_n hx hb dX11_fewestSet_13 rfl (lv_at hl 1 rfl) ?_
    refine lv_bipush (v := 6) hx hb dX11_fewestSet_14 (by decide) ?_
    obtain ⟨z_8, e_z_8, h⟩ := bi h
    refine efVi (rest := []) ⟨hx, hb, hml, hown, ht⟩ (c_X11_refuse l D cy fu A_b r_b_trays (A_a 0) r_b_war r_b_draftArmy r_b_draftWar r_b_reader r_b_armyReader r_b_warReader r_b_markedArmies r_b_markedWars r_b_latest r_b_trial r_b_foresight r_b_pairs b_latestStatus b_fractionTop b_fractionBottom b_marks 6 z_8 e_z_8 _ rfl _ rfl) (cV ht mv_X11_refuse tb_543 rfl rfl ⟨Nat.le_of_ble_eq_true rfl, Nat.le_of_ble_eq_true rfl⟩) hP hS hX [0] rfl rfl rfl rfl rfl rfl hl.1 rfl (Nat.le_of_ble_eq_true rfl) dX11_fewestSet_16 ⟨Nat.le_of_ble_eq_true rfl, Nat.le_of_ble_eq_true rfl⟩ (fun H locs hP hS => ?_)
    have hP : PD D A [bl_X11 cy A_b r_b_trays (A_a 0) r_b_war r_b_draftArmy r_b_draftWar r_b_reader r_b_armyReader r_b_warReader r_b_markedArmies r_b_markedWars r_b_latest r_b_trial r_b_foresight r_b_pairs z_8.2 b_fractionTop b_fractionBottom b_marks, bl_X0 cy A_a a_name a_courage a_weight a_medals a_stood a_fled a_liked a_votes a_count a_living a_pride a_quota a_melted a_lost] H := hP
    refine lv_goto (tgt := 27) hx hb dX11_fewestSet_19 (by decide) ?_
    cases h
    subst hW1
    exact W.iret hx hb hr (fun _ ht9 _ => ⟨⟨_, (), rfl, rfl, hPt ht9 hP.1⟩, hS.F ht9⟩) hS.2.2 dX11_fewestSet_27
theorem dX11_commonDivisor_0 : decode cX11_commonDivisor 0 = .ok (.lload_n 0, 1) := by decide +kernel
theorem dX11_commonDivisor_1 : decode cX11_commonDivisor 1 = .ok (.lstore 4, 2) := by decide +kernel
theorem dX11_commonDivisor_3 : decode cX11_commonDivisor 3 = .ok (.lload_n 2, 1) := by decide +kernel
theorem dX11_commonDivisor_4 : decode cX11_commonDivisor 4 = .ok (.lstore 6, 2) := by decide +kernel
theorem dX11_commonDivisor_6 : decode cX11_commonDivisor 6 = .ok (.iconst 0, 1) := by decide +kernel
theorem dX11_commonDivisor_7 : decode cX11_commonDivisor 7 = .ok (.istore 8, 2) := by decide +kernel
theorem dX11_commonDivisor_9 : decode cX11_commonDivisor 9 = .ok (.iload 8, 2) := by decide +kernel
theorem dX11_commonDivisor_11 : decode cX11_commonDivisor 11 = .ok (.sipush 200, 3) := by decide +kernel
theorem dX11_commonDivisor_14 : decode cX11_commonDivisor 14 = .ok (.if_icmp .ge 31, 3) := by decide +kernel
theorem dX11_commonDivisor_17 : decode cX11_commonDivisor 17 = .ok (.lload 6, 2) := by decide +kernel
theorem dX11_commonDivisor_19 : decode cX11_commonDivisor 19 = .ok (.lconst 0, 1) := by decide +kernel
theorem dX11_commonDivisor_20 : decode cX11_commonDivisor 20 = .ok (.lcmp, 1) := by decide +kernel
theorem dX11_commonDivisor_21 : decode cX11_commonDivisor 21 = .ok (.ifCond .eq 24, 3) := by decide +kernel
theorem dX11_commonDivisor_24 : decode cX11_commonDivisor 24 = .ok (.lload 4, 2) := by decide +kernel
theorem dX11_commonDivisor_26 : decode cX11_commonDivisor 26 = .ok (.lload 6, 2) := by decide +kernel
theorem dX11_commonDivisor_28 : decode cX11_commonDivisor 28 = .ok (.lrem, 1) := by decide +kernel
theorem dX11_commonDivisor_29 : decode cX11_commonDivisor 29 = .ok (.lstore 9, 2) := by decide +kernel
theorem dX11_commonDivisor_31 : decode cX11_commonDivisor 31 = .ok (.lload 6, 2) := by decide +kernel
theorem dX11_commonDivisor_33 : decode cX11_commonDivisor 33 = .ok (.lstore 4, 2) := by decide +kernel
theorem dX11_commonDivisor_35 : decode cX11_commonDivisor 35 = .ok (.lload 9, 2) := by decide +kernel
theorem dX11_commonDivisor_37 : decode cX11_commonDivisor 37 = .ok (.lstore 6, 2) := by decide +kernel
theorem dX11_commonDivisor_39 : decode cX11_commonDivisor 39 = .ok (.iinc 8 1, 3) := by decide +kernel
theorem dX11_commonDivisor_42 : decode cX11_commonDivisor 42 = .ok (.goto (-33), 3) := by decide +kernel
theorem dX11_commonDivisor_45 : decode cX11_commonDivisor 45 = .ok (.lload 4, 2) := by decide +kernel
theorem dX11_commonDivisor_47 : decode cX11_commonDivisor 47 = .ok (.lreturn, 1) := by decide +kernel
theorem ms_X11_commonDivisor : MS yX11_commonDivisor cX11_commonDivisor 11 (some .long) 2 := ⟨tb_963, tb_962, tb_1, by decide +kernel, by decide +kernel, by decide +kernel⟩
def f_X11_commonDivisor_b9 (fu : Nat) (x0 : Int64) (x2 : Int64) (k9 : Int64 → Int64 → Int32 → Option (Int64)) (x4 : Int64) (x6 : Int64) (x8 : Int32) : Option (Int64) := (if 200 ≤ x8 then some (x4) else (if (lg_cmp x6 0) = 0 then some (x4) else (nzJ x6).bind fun y_8 => bnd (x4 - x4 / x6 * x6) fun x9_9 => bnd (x8 + 1) fun x8_10 => k9 x6 x9_9 x8_10))
def f_X11_commonDivisor_l9 (fu : Nat) (x0 : Int64) (x2 : Int64) : Nat → Int64 → Int64 → Int32 → Option (Int64)
  | 0, _, _, _ => none
  | n + 1, x4, x6, x8 => f_X11_commonDivisor_b9 fu x0 x2 (f_X11_commonDivisor_l9 fu x0 x2 n) x4 x6 x8
def f_X11_commonDivisor (fu : Nat) (x0 : Int64) (x2 : Int64) : Option (Int64) := f_X11_commonDivisor_l9 fu x0 x2 fu x0 x2 0
abbrev rm_X11_commonDivisor : Room := { frames := 0, cells := 0, slots := 0, locals := 0 }
set_option maxHeartbeats 4000000 in
set_option maxRecDepth 100000 in
theorem c_X11_commonDivisor (l : Launch) (D : va_G) (cy : Nat → ClassId) (fu : Nat) (x0 : Int64) (x2 : Int64) (res : Int64) (h : f_X11_commonDivisor fu x0 x2 = some res) : Met l yX11_commonDivisor (WW yX11_commonDivisor cX11_commonDivisor 11 (some .long)) rm_X11_commonDivisor (Rd D cy [.long x0, .long x2] []) (vp_Sl (fun v => v = res)) 0 0 (fun _ => False) := by
  refine Met.ofW (cc := cX11_commonDivisor) (maxL := 11) (ret := (some .long)) (by decide) rfl ?_
  intro p e s m args below meth c s₁ B hml hv
  obtain ⟨hargs, hP, hX⟩ := hv
  have hx := B.exec
  have hb := B.bytes
  have hr := B.returns
  have ht : ∀ w ∈ lw_gd, w.before args s = true := fun w hw => atoms_spec (ws := WW yX11_commonDivisor cX11_commonDivisor 11 (some .long)) B.pre w (List.mem_cons_of_mem _ hw)
  have hown : s.vm.findClass RX11 = some m.cls := findClass_of_methodNamed B.named
  have hlocks := B.notSynchronized
  have hP : PB D [] s.heap := hP
  obtain ⟨ls, hl, hent⟩ := ent (m := m) (n := 11) hargs (Nat.le_of_ble_eq_true rfl) (lv := [(0, .long x0), (2, .long x2)]) rfl
  rw [hent]
  clear hent
  have l9 : ∀ (n9 : Nat) (x4 : Int64) (x6 : Int64) (x8 : Int32) (ls : Array Slot), lv_has ls 11 [(4, .long x4), (6, .long x6), (8, .int x8)] → f_X11_commonDivisor_l9 fu x0 x2 n9 x4 x6 x8 = some res → W p l e (headSpec (WW yX11_commonDivisor cX11_commonDivisor 11 (some .long)) rm_X11_commonDivisor).room s m args below meth c s.heap [] 0 0 (MQ below (vp_Sl (fun v => v = res)) args s 0 0 (fun _ => False)) (F0 m 9 ls []) := by
    intro n9
    induction n9 with
    | zero => intro x4 x6 x8 ls hl h; cases h
    | succ n9 ih9 =>
      intro x4 x6 x8 ls hl h
      have h : f_X11_commonDivisor_b9 fu x0 x2 (f_X11_commonDivisor_l9 fu x0 x2 n9) x4 x6 x8 = some res := h
      unfold f_X11_commonDivisor_b9 at h
      refine lv_iload hx hb dX11_commonDivisor_9 (lv_at hl 2 rfl) ?_
      refine lv_sipush (v := 200) hx hb dX11_commonDivisor_11 (by decide) ?_
      refine lv_icmp_ge (tgt := 45) hx hb dX11_commonDivisor_14 (by decide) (fun c_6 => ?_) (fun c_6 => ?_)
      · have h := it c_6 h
        refine lv_lload hx hb dX11_commonDivisor_45 (lv_at hl 0 rfl) ?_
        cases h
        exact W.lret hx hb hr (fun _ ht9 _ => ⟨_, rfl, rfl, ht9⟩) (fun _ hq => by cases hq) dX11_commonDivisor_47
      · have h := ie c_6 h
        refine lv_lload hx hb dX11_commonDivisor_17 (lv_at hl 1 rfl) ?_
        refine lv_lconst (v := 0) hx hb dX11_commonDivisor_19 (by decide) ?_
        refine W.lcmp hx hb dX11_commonDivisor_20 ?_
        refine lv_if_eq (tgt := 45) hx hb dX11_commonDivisor_21 (by decide) (fun c_7 => ?_) (fun c_7 => ?_)
        · have h := it c_7 h
          refine lv_lload hx hb dX11_commonDivisor_45 (lv_at hl 0 rfl) ?_
          cases h
          exact W.lret hx hb hr (fun _ ht9 _ => ⟨_, rfl, rfl, ht9⟩) (fun _ hq => by cases hq) dX11_commonDivisor_47
        · have h := ie c_7 h
          refine lv_lload hx hb dX11_commonDivisor_24 (lv_at hl 0 rfl) ?_
          refine lv_lload hx hb dX11_commonDivisor_26 (lv_at hl 1 rfl) ?_
          obtain ⟨y_8, e_y_8, h⟩ := bi h
          refine lv_lrem hx hb dX11_commonDivisor_28 (nzJ_ok e_y_8).1 ?_
          refine lv_topl (fun x9_9 e_x9_9 => ?_)
          have h := bn e_x9_9 h
          refine lv_lstore (lv' := [(9, .long x9_9), (4, .long x4), (6, .long x6), (8, .int x8)]) hx hb dX11_commonDivisor_29 hl (by decide) rfl (fun ls hl => ?_)
          refine lv_lload hx hb dX11_commonDivisor_31 (lv_at hl 2 rfl) ?_
          refine lv_lstore (lv' := [(4, .long x6), (9, .long x9_9), (6, .long x6), (8, .int x8)]) hx hb dX11_commonDivisor_33 hl (by decide) rfl (fun ls hl => ?_)
          refine lv_lload hx hb dX11_commonDivisor_35 (lv_at hl 1 rfl) ?_
          refine lv_lstore (lv' := [(6, .long x9_9), (4, .long x6), (9, .long x9_9), (8, .int x8)]) hx hb dX11_commonDivisor_37 hl (by decide) rfl (fun ls hl => ?_)
          obtain ⟨x8_10, e_x8_10⟩ : ∃ y : Int32, y = x8 + 1 := ⟨_, rfl⟩
          have h := bn e_x8_10 h
          refine lv_iinc (v := x8_10) (lv' := [(8, .int x8_10), (6, .long x9_9), (4, .long x6), (9, .long x9_9)]) hx hb dX11_commonDivisor_39 hl (k := 3) rfl (by rw [e_x8_10]; rfl) (by decide) rfl (fun ls hl => ?_)
          refine lv_goto (tgt := 9) hx hb dX11_commonDivisor_42 (by decide) ?_
          exact ih9 x6 x9_9 x8_10 ls (lv_sub hl [2, 1, 0] rfl) h
  unfold f_X11_commonDivisor at h
  refine lv_lload_n hx hb dX11_commonDivisor_0 rfl (lv_at hl 0 rfl) ?_
  refine lv_lstore (lv' := [(4, .long x0), (0, .long x0), (2, .long x2)]) hx hb dX11_commonDivisor_1 hl (by decide) rfl (fun ls hl => ?_)
  refine lv_lload_n hx hb dX11_commonDivisor_3 rfl (lv_at hl 2 rfl) ?_
  refine lv_lstore (lv' := [(6, .long x2), (4, .long x0), (0, .long x0), (2, .long x2)]) hx hb dX11_commonDivisor_4 hl (by decide) rfl (fun ls hl => ?_)
  refine lv_iconst (v := 0) hx hb dX11_commonDivisor_6 (by decide) ?_
  refine lv_istore (lv' := [(8, .int 0), (6, .long x2), (4, .long x0), (0, .long x0), (2, .long x2)]) hx hb dX11_commonDivisor_7 hl (by decide) rfl (fun ls hl => ?_)
  exact l9 fu x0 x2 0 ls (lv_sub hl [2, 1, 0] rfl) h
theorem dX11_tell_0 : decode cX11_tell 0 = .ok (.lload_n 1, 1) := by decide +kernel
theorem dX11_tell_1 : decode cX11_tell 1 = .ok (.lload_n 3, 1) := by decide +kernel
theorem dX11_tell_2 : decode cX11_tell 2 = .ok (.invokestatic 415, 3) := by decide +kernel
theorem dX11_tell_5 : decode cX11_tell 5 = .ok (.lstore 5, 2) := by decide +kernel
theorem dX11_tell_7 : decode cX11_tell 7 = .ok (.lload 5, 2) := by decide +kernel
theorem dX11_tell_9 : decode cX11_tell 9 = .ok (.lconst 0, 1) := by decide +kernel
theorem dX11_tell_10 : decode cX11_tell 10 = .ok (.lcmp, 1) := by decide +kernel
theorem dX11_tell_11 : decode cX11_tell 11 = .ok (.ifCond .le 19, 3) := by decide +kernel
theorem dX11_tell_14 : decode cX11_tell 14 = .ok (.aload_n 0, 1) := by decide +kernel
theorem dX11_tell_15 : decode cX11_tell 15 = .ok (.lload_n 1, 1) := by decide +kernel
theorem dX11_tell_16 : decode cX11_tell 16 = .ok (.lload 5, 2) := by decide +kernel
theorem dX11_tell_18 : decode cX11_tell 18 = .ok (.ldiv, 1) := by decide +kernel
theorem dX11_tell_19 : decode cX11_tell 19 = .ok (.putfield 13, 3) := by decide +kernel
theorem dX11_tell_22 : decode cX11_tell 22 = .ok (.aload_n 0, 1) := by decide +kernel
theorem dX11_tell_23 : decode cX11_tell 23 = .ok (.lload_n 3, 1) := by decide +kernel
theorem dX11_tell_24 : decode cX11_tell 24 = .ok (.lload 5, 2) := by decide +kernel
theorem dX11_tell_26 : decode cX11_tell 26 = .ok (.ldiv, 1) := by decide +kernel
theorem dX11_tell_27 : decode cX11_tell 27 = .ok (.putfield 17, 3) := by decide +kernel
theorem dX11_tell_30 : decode cX11_tell 30 = .ok (.return_, 1) := by decide +kernel
theorem mv_X11_tell : MV yX11_tell RX11 cX11_tell 7 none 2 := ⟨tb_960, tb_959, ts_20, tb_1, by decide +kernel, by decide +kernel, by decide +kernel⟩
def f_X11_tell (fu : Nat) (b_fractionTop : Int64) (b_fractionBottom : Int64) (x1 : Int64) (x3 : Int64) : Option (Int64 × Int64) := (f_X11_commonDivisor fu x1 x3).bind fun z_7 => (if (lg_cmp z_7 0) ≤ 0 then some (b_fractionTop, b_fractionBottom) else (nzJ z_7).bind fun y_9 => bnd (x1 / z_7) fun b_fractionTop_10 => (nzJ z_7).bind fun y_11 => bnd (x3 / z_7) fun b_fractionBottom_12 => some (b_fractionTop_10, b_fractionBottom_12))
abbrev rm_X11_tell : Room := { frames := 1, cells := 0, slots := 0, locals := 30 }
set_option maxHeartbeats 4000000 in
set_option maxRecDepth 100000 in
theorem c_X11_tell (l : Launch) (D : va_G) (cy : Nat → ClassId) (fu : Nat) (A_b : Nat → Nat) (r_b_trays : Nat) (r_b_army : Nat) (r_b_war : Nat) (r_b_draftArmy : Nat) (r_b_draftWar : Nat) (r_b_reader : Nat) (r_b_armyReader : Nat) (r_b_warReader : Nat) (r_b_markedArmies : Nat) (r_b_markedWars : Nat) (r_b_latest : Nat) (r_b_trial : Nat) (r_b_foresight : Nat) (r_b_pairs : Nat) (b_latestStatus : Int32) (b_fractionTop : Int64) (b_fractionBottom : Int64) (b_marks : Int32) (x1 : Int64) (x3 : Int64) (res : Int64 × Int64) (h : f_X11_tell fu b_fractionTop b_fractionBottom x1 x3 = some res) (A : Nat → Prop) (hA : A = adr [bl_X11 cy A_b r_b_trays r_b_army r_b_war r_b_draftArmy r_b_draftWar r_b_reader r_b_armyReader r_b_warReader r_b_markedArmies r_b_markedWars r_b_latest r_b_trial r_b_foresight r_b_pairs b_latestStatus b_fractionTop b_fractionBottom b_marks]) (W1 : List va_W) (hW1 : W1 = [bl_X11 cy A_b r_b_trays r_b_army r_b_war r_b_draftArmy r_b_draftWar r_b_reader r_b_armyReader r_b_warReader r_b_markedArmies r_b_markedWars r_b_latest r_b_trial r_b_foresight r_b_pairs b_latestStatus res.1 res.2 b_marks]) : Met l yX11_tell (WW yX11_tell cX11_tell 7 none) rm_X11_tell (Ed D cy [.ref (A_b 0), .long x1, .long x3] [bl_X11 cy A_b r_b_trays r_b_army r_b_war r_b_draftArmy r_b_draftWar r_b_reader r_b_armyReader r_b_warReader r_b_markedArmies r_b_markedWars r_b_latest r_b_trial r_b_foresight r_b_pairs b_latestStatus b_fractionTop b_fractionBottom b_marks]) (Qev D A W1) 0 0 A := by
  refine Met.ofW (cc := cX11_tell) (maxL := 7) (ret := none) (by decide) rfl ?_
  intro p e s m args below meth c s₁ B hml hv
  obtain ⟨hargs, hP, hX, hD0⟩ := hv
  have hx := B.exec
  have hb := B.bytes
  have hr := B.returns
  have ht : ∀ w ∈ lw_gd, w.before args s = true := fun w hw => atoms_spec (ws := WW yX11_tell cX11_tell 7 none) B.pre w (List.mem_cons_of_mem _ hw)
  have hown : s.vm.findClass RX11 = some m.cls := findClass_of_methodNamed B.named
  have hlocks := B.notSynchronized
  have hP : PD D A [bl_X11 cy A_b r_b_trays r_b_army r_b_war r_b_draftArmy r_b_draftWar r_b_reader r_b_armyReader r_b_warReader r_b_markedArmies r_b_markedWars r_b_latest r_b_trial r_b_foresight r_b_pairs b_latestStatus b_fractionTop b_fractionBottom b_marks] s.heap := ⟨hP, by rw [hA]; exact hD0.own⟩
  have hS : va_S A s.heap s.heap [] := va_S.rf
  obtain ⟨ls, hl, hent⟩ := ent (m := m) (n := 7) hargs (Nat.le_of_ble_eq_true rfl) (lv := [(0, .ref (A_b 0)), (1, .long x1), (3, .long x3)]) rfl
  rw [hent]
  clear hent
  unfold f_X11_tell at h
  refine lv_lload_n hx hb dX11_tell_0 rfl (lv_at hl 1 rfl) ?_
  refine lv_lload_n hx hb dX11_tell_1 rfl (lv_at hl 2 rfl) ?_
  obtain ⟨z_7, e_z_7, h⟩ := bi h
  refine roSl (rest := []) ⟨hx, hb, hml, hown, ht⟩ (c_X11_commonDivisor l D cy fu  x1 x3 z_7 e_z_7) (cS ht ms_X11_commonDivisor tb_961 rfl rfl ⟨Nat.le_of_ble_eq_true rfl, Nat.le_of_ble_eq_true rfl⟩) (P_sub hP.1 [] rfl) hX rfl hl.1 rfl (Nat.le_of_ble_eq_true rfl) dX11_tell_2 ⟨Nat.le_of_ble_eq_true rfl, Nat.le_of_ble_eq_true rfl⟩ ?_
  refine lv_lstore (lv' := [(5, .long z_7), (0, .ref (A_b 0)), (1, .long x1), (3, .long x3)]) hx hb dX11_tell_5 hl (by decide) rfl (fun ls hl => ?_)
  refine lv_lload hx hb dX11_tell_7 (lv_at hl 0 rfl) ?_
  refine lv_lconst (v := 0) hx hb dX11_tell_9 (by decide) ?_
  refine W.lcmp hx hb dX11_tell_10 ?_
  refine lv_if_le (tgt := 30) hx hb dX11_tell_11 (by decide) (fun c_8 => ?_) (fun c_8 => ?_)
  · have h := it c_8 h
    cases h
    subst hW1
    exact W.vret hx hb hr (fun _ ht9 _ => ⟨⟨(), rfl, trivial, hPt ht9 hP.1⟩, hS.F ht9⟩) hS.2.2 dX11_tell_30
  · have h := ie c_8 h
    refine lv_aload_n hx hb dX11_tell_14 rfl (lv_at hl 1 rfl) ?_
    refine lv_lload_n hx hb dX11_tell_15 rfl (lv_at hl 2 rfl) ?_
    refine lv_lload hx hb dX11_tell_16 (lv_at hl 0 rfl) ?_
    obtain ⟨y_9, e_y_9, h⟩ := bi h
    refine lv_ldiv hx hb dX11_tell_18 (nzJ_ok e_y_9).1 ?_
    refine lv_topl (fun b_fractionTop_10 e_b_fractionTop_10 => ?_)
    have h := bn e_b_fractionTop_10 h
    refine xput (i := 0) (j := 0) (k := 1) (T := TX11) tyX11 tyX11_ok nmX11 hx hb ht tb_iX11 hown hX hP hS rfl rfl rfl (by decide) tb_430 rfl rfl rfl (Nat.le_of_ble_eq_true rfl) dX11_tell_19 (fun H locs hP hS => ?_)
    have hP : PD D A [bl_X11 cy A_b r_b_trays r_b_army r_b_war r_b_draftArmy r_b_draftWar r_b_reader r_b_armyReader r_b_warReader r_b_markedArmies r_b_markedWars r_b_latest r_b_trial r_b_foresight r_b_pairs b_latestStatus b_fractionTop_10 b_fractionBottom b_marks] H := hP
    refine lv_aload_n hx hb dX11_tell_22 rfl (lv_at hl 1 rfl) ?_
    refine lv_lload_n hx hb dX11_tell_23 rfl (lv_at hl 3 rfl) ?_
    refine lv_lload hx hb dX11_tell_24 (lv_at hl 0 rfl) ?_
    obtain ⟨y_11, e_y_11, h⟩ := bi h
    refine lv_ldiv hx hb dX11_tell_26 (nzJ_ok e_y_11).1 ?_
    refine lv_topl (fun b_fractionBottom_12 e_b_fractionBottom_12 => ?_)
    have h := bn e_b_fractionBottom_12 h
    refine xput (i := 0) (j := 0) (k := 2) (T := TX11) tyX11 tyX11_ok nmX11 hx hb ht tb_iX11 hown hX hP hS rfl rfl rfl (by decide) tb_431 rfl rfl rfl (Nat.le_of_ble_eq_true rfl) dX11_tell_27 (fun H locs hP hS => ?_)
    have hP : PD D A [bl_X11 cy A_b r_b_trays r_b_army r_b_war r_b_draftArmy r_b_draftWar r_b_reader r_b_armyReader r_b_warReader r_b_markedArmies r_b_markedWars r_b_latest r_b_trial r_b_foresight r_b_pairs b_latestStatus b_fractionTop_10 b_fractionBottom_12 b_marks] H := hP
    cases h
    subst hW1
    exact W.vret hx hb hr (fun _ ht9 _ => ⟨⟨(), rfl, trivial, hPt ht9 hP.1⟩, hS.F ht9⟩) hS.2.2 dX11_tell_30
theorem dX11_power_0 : decode cX11_power 0 = .ok (.aload_n 0, 1) := by decide +kernel
theorem dX11_power_1 : decode cX11_power 1 = .ok (.getfield 29, 3) := by decide +kernel
theorem dX11_power_4 : decode cX11_power 4 = .ok (.iload_n 1, 1) := by decide +kernel
theorem dX11_power_5 : decode cX11_power 5 = .ok (.invokevirtual 248, 3) := by decide +kernel
theorem dX11_power_8 : decode cX11_power 8 = .ok (.ifCond .ne 9, 3) := by decide +kernel
theorem dX11_power_11 : decode cX11_power 11 = .ok (.aload_n 0, 1) := by decide +kernel
theorem dX11_power_12 : decode cX11_power 12 = .ok (.iconst 1, 1) := by decide +kernel
theorem dX11_power_13 : decode cX11_power 13 = .ok (.invokevirtual 119, 3) := by decide +kernel
theorem dX11_power_16 : decode cX11_power 16 = .ok (.ireturn, 1) := by decide +kernel
theorem dX11_power_17 : decode cX11_power 17 = .ok (.aload_n 0, 1) := by decide +kernel
theorem dX11_power_18 : decode cX11_power 18 = .ok (.getfield 29, 3) := by decide +kernel
theorem dX11_power_21 : decode cX11_power 21 = .ok (.iload_n 1, 1) := by decide +kernel
theorem dX11_power_22 : decode cX11_power 22 = .ok (.invokevirtual 257, 3) := by decide +kernel
theorem dX11_power_25 : decode cX11_power 25 = .ok (.ifCond .ne 10, 3) := by decide +kernel
theorem dX11_power_28 : decode cX11_power 28 = .ok (.aload_n 0, 1) := by decide +kernel
theorem dX11_power_29 : decode cX11_power 29 = .ok (.bipush 7, 2) := by decide +kernel
theorem dX11_power_31 : decode cX11_power 31 = .ok (.invokevirtual 119, 3) := by decide +kernel
theorem dX11_power_34 : decode cX11_power 34 = .ok (.ireturn, 1) := by decide +kernel
theorem dX11_power_35 : decode cX11_power 35 = .ok (.aload_n 0, 1) := by decide +kernel
theorem dX11_power_36 : decode cX11_power 36 = .ok (.aload_n 0, 1) := by decide +kernel
theorem dX11_power_37 : decode cX11_power 37 = .ok (.getfield 29, 3) := by decide +kernel
theorem dX11_power_40 : decode cX11_power 40 = .ok (.iload_n 1, 1) := by decide +kernel
theorem dX11_power_41 : decode cX11_power 41 = .ok (.invokestatic 324, 3) := by decide +kernel
theorem dX11_power_44 : decode cX11_power 44 = .ok (.i2l, 1) := by decide +kernel
theorem dX11_power_45 : decode cX11_power 45 = .ok (.aload_n 0, 1) := by decide +kernel
theorem dX11_power_46 : decode cX11_power 46 = .ok (.getfield 29, 3) := by decide +kernel
theorem dX11_power_49 : decode cX11_power 49 = .ok (.getfield 221, 3) := by decide +kernel
theorem dX11_power_52 : decode cX11_power 52 = .ok (.invokestatic 281, 3) := by decide +kernel
theorem dX11_power_55 : decode cX11_power 55 = .ok (.invokestatic 328, 3) := by decide +kernel
theorem dX11_power_58 : decode cX11_power 58 = .ok (.i2l, 1) := by decide +kernel
theorem dX11_power_59 : decode cX11_power 59 = .ok (.invokevirtual 331, 3) := by decide +kernel
theorem dX11_power_62 : decode cX11_power 62 = .ok (.aload_n 0, 1) := by decide +kernel
theorem dX11_power_63 : decode cX11_power 63 = .ok (.invokevirtual 127, 3) := by decide +kernel
theorem dX11_power_66 : decode cX11_power 66 = .ok (.ireturn, 1) := by decide +kernel
theorem mv_X11_power : MV yX11_power RX11 cX11_power 2 (some .boolean) 1 := ⟨tb_946, tb_944, tb_945, tb_1, by decide +kernel, by decide +kernel, by decide +kernel⟩
def f_X11_power (fu : Nat) (b_latestStatus : Int32) (b_fractionTop : Int64) (b_fractionBottom : Int64) (a_weight : Nat → Int32) (a_count : Int32) (a_living : Int32) (a_quota : Int32) (x1 : Int32) : Option (Int32 × Int32 × Int64 × Int64) := (f_X0_isMan fu a_count x1).bind fun z_15 => (if z_15 = 0 then (f_X11_deny fu b_latestStatus 1).bind fun z_27 => (bz z_27.1).bind fun _ => some (z_27.1, z_27.2, b_fractionTop, b_fractionBottom) else (f_X0_lives fu a_count a_living x1).bind fun z_17 => (if z_17 = 0 then (f_X11_deny fu b_latestStatus 7).bind fun z_25 => (bz z_25.1).bind fun _ => some (z_25.1, z_25.2, b_fractionTop, b_fractionBottom) else (f_X3_ordersCarriedBy fu a_weight a_count a_living a_quota x1).bind fun z_19 => (f_J6_bitCount_0f7a4 fu a_living).bind fun z_20 => (f_X3_ordersOf fu z_20).bind fun z_21 => (f_X11_tell fu b_fractionTop b_fractionBottom (Int32.toInt64 z_19) (Int32.toInt64 z_21)).bind fun z_22 => (f_X11_allow fu b_latestStatus).bind fun z_23 => (bz z_23.1).bind fun _ => some (z_23.1, z_23.2, z_22.1, z_22.2)))
abbrev rm_X11_power : Room := { frames := 3, cells := 0, slots := 0, locals := 71 }
set_option maxHeartbeats 4000000 in
set_option maxRecDepth 100000 in
theorem c_X11_power (l : Launch) (D : va_G) (cy : Nat → ClassId) (fu : Nat) (tO : Nat) (aK aV : Nat → Nat) (A_b : Nat → Nat) (r_b_trays : Nat) (r_b_war : Nat) (r_b_draftArmy : Nat) (r_b_draftWar : Nat) (r_b_reader : Nat) (r_b_armyReader : Nat) (r_b_warReader : Nat) (r_b_markedArmies : Nat) (r_b_markedWars : Nat) (r_b_latest : Nat) (r_b_trial : Nat) (r_b_foresight : Nat) (r_b_pairs : Nat) (b_latestStatus : Int32) (b_fractionTop : Int64) (b_fractionBottom : Int64) (b_marks : Int32) (A_a : Nat → Nat) (a_name : Nat → Int64) (a_courage : Nat → Int32) (a_weight : Nat → Int32) (a_medals : Nat → Int32) (a_stood : Nat → Int32) (a_fled : Nat → Int32) (a_liked : Nat → Int32) (a_votes : Nat → Int32) (a_count : Int32) (a_living : Int32) (a_pride : Int32) (a_quota : Int32) (a_melted : Int32) (a_lost : Int32) (x1 : Int32) (res : Int32 × Int32 × Int64 × Int64) (h : f_X11_power fu b_latestStatus b_fractionTop b_fractionBottom a_weight a_count a_living a_quota x1 = some res) (A : Nat → Prop) (hA : A = adr [bl_X11 cy A_b r_b_trays (A_a 0) r_b_war r_b_draftArmy r_b_draftWar r_b_reader r_b_armyReader r_b_warReader r_b_markedArmies r_b_markedWars r_b_latest r_b_trial r_b_foresight r_b_pairs b_latestStatus b_fractionTop b_fractionBottom b_marks, bl_X0 cy A_a a_name a_courage a_weight a_medals a_stood a_fled a_liked a_votes a_count a_living a_pride a_quota a_melted a_lost]) (W1 : List va_W) (hW1 : W1 = [bl_X11 cy A_b r_b_trays (A_a 0) r_b_war r_b_draftArmy r_b_draftWar r_b_reader r_b_armyReader r_b_warReader r_b_markedArmies r_b_markedWars r_b_latest r_b_trial r_b_foresight r_b_pairs res.2.1 res.2.2.1 res.2.2.2 b_marks, bl_X0 cy A_a a_name a_courage a_weight a_medals a_stood a_fled a_liked a_votes a_count a_living a_pride a_quota a_melted a_lost]) : Met l yX11_power (WW yX11_power cX11_power 2 (some .boolean)) rm_X11_power (EdX D cy tO aK aV A [.ref (A_b 0), .int x1] [bl_X11 cy A_b r_b_trays (A_a 0) r_b_war r_b_draftArmy r_b_draftWar r_b_reader r_b_armyReader r_b_warReader r_b_markedArmies r_b_markedWars r_b_latest r_b_trial r_b_foresight r_b_pairs b_latestStatus b_fractionTop b_fractionBottom b_marks, bl_X0 cy A_a a_name a_courage a_weight a_medals a_stood a_fled a_liked a_votes a_count a_living a_pride a_quota a_melted a_lost]) (Qei D res.1 A W1) 0 0 A := by
  refine Met.ofW (cc := cX11_power) (maxL := 2) (ret := (some .boolean)) (by decide) rfl ?_
  intro p e s m args below meth c s₁ B hml hv
  obtain ⟨hargs, hP, hX, hD0, hE⟩ := hv
  have hx := B.exec
  have hb := B.bytes
  have hr := B.returns
  have ht : ∀ w ∈ lw_gd, w.before args s = true := fun w hw => atoms_spec (ws := WW yX11_power cX11_power 2 (some .boolean)) B.pre w (List.mem_cons_of_mem _ hw)
  have hown : s.vm.findClass RX11 = some m.cls := findClass_of_methodNamed B.named
  have hlocks := B.notSynchronized
  have hP : PD D A [bl_X11 cy A_b r_b_trays (A_a 0) r_b_war r_b_draftArmy r_b_draftWar r_b_reader r_b_armyReader r_b_warReader r_b_markedArmies r_b_markedWars r_b_latest r_b_trial r_b_foresight r_b_pairs b_latestStatus b_fractionTop b_fractionBottom b_marks, bl_X0 cy A_a a_name a_courage a_weight a_medals a_stood a_fled a_liked a_votes a_count a_living a_pride a_quota a_melted a_lost] s.heap := ⟨hP, by rw [hA]; exact hD0.own⟩
  have hS : va_S A s.heap s.heap [] := va_S.rf
  obtain ⟨ls, hl, hent⟩ := ent (m := m) (n := 2) hargs (Nat.le_of_ble_eq_true rfl) (lv := [(0, .ref (A_b 0)), (1, .int x1)]) rfl
  rw [hent]
  clear hent
  unfold f_X11_power at h
  refine lv_aload_n hx hb dX11_power_0 rfl (lv_at hl 0 rfl) ?_
  refine xget (i := 0) (j := 0) (k := 4) (T := TX11) hx hb ht tb_iX11 hown hX hP.1 rfl rfl rfl (by decide) tb_433 rfl dX11_power_1 ?_
  refine lv_iload_n hx hb dX11_power_4 rfl (lv_at hl 1 rfl) ?_
  obtain ⟨z_15, e_z_15, h⟩ := bi h
  refine roVi (rest := []) ⟨hx, hb, hml, hown, ht⟩ (c_X0_isMan l D cy fu A_a a_name a_courage a_weight a_medals a_stood a_fled a_liked a_votes a_count a_living a_pride a_quota a_melted a_lost x1 z_15 e_z_15) (cV ht mv_X0_isMan tb_774 rfl rfl ⟨Nat.le_of_ble_eq_true rfl, Nat.le_of_ble_eq_true rfl⟩) (P_sub hP.1 [1] rfl) hX rfl rfl rfl hl.1 rfl (Nat.le_of_ble_eq_true rfl) dX11_power_5 ⟨Nat.le_of_ble_eq_true rfl, Nat.le_of_ble_eq_true rfl⟩ ?_
  refine lv_if_ne (tgt := 17) hx hb dX11_power_8 (by decide) (fun c_16 => ?_) (fun c_16 => ?_)
  · have h := ie c_16 h
    refine lv_aload_n hx hb dX11_power_17 rfl (lv_at hl 0 rfl) ?_
    refine xget (i := 0) (j := 0) (k := 4) (T := TX11) hx hb ht tb_iX11 hown hX hP.1 rfl rfl rfl (by decide) tb_433 rfl dX11_power_18 ?_
    refine lv_iload_n hx hb dX11_power_21 rfl (lv_at hl 1 rfl) ?_
    obtain ⟨z_17, e_z_17, h⟩ := bi h
    refine roVi (rest := []) ⟨hx, hb, hml, hown, ht⟩ (c_X0_lives l D cy fu A_a a_name a_courage a_weight a_medals a_stood a_fled a_liked a_votes a_count a_living a_pride a_quota a_melted a_lost x1 z_17 e_z_17) (cV ht mv_X0_lives tb_775 rfl rfl ⟨Nat.le_of_ble_eq_true rfl, Nat.le_of_ble_eq_true rfl⟩) (P_sub hP.1 [1] rfl) hX rfl rfl rfl hl.1 rfl (Nat.le_of_ble_eq_true rfl) dX11_power_22 ⟨Nat.le_of_ble_eq_true rfl, Nat.le_of_ble_eq_true rfl⟩ ?_
    refine lv_if_ne (tgt := 35) hx hb dX11_power_25 (by decide) (fun c_18 => ?_) (fun c_18 => ?_)
    · have h := ie c_18 h
      refine lv_aload_n hx hb dX11_power_35 rfl (lv_at hl 0 rfl) ?_
      refine lv_aload_n hx hb dX11_power_36 rfl (lv_at hl 0 rfl) ?_
      refine xget (i := 0) (j := 0) (k := 4) (T := TX11) hx hb ht tb_iX11 hown hX hP.1 rfl rfl rfl (by decide) tb_433 rfl dX11_power_37 ?_
      refine lv_iload_n hx hb dX11_power_40 rfl (lv_at hl 1 rfl) ?_
      obtain ⟨z_19, e_z_19, h⟩ := bi h
      refine roSiX (rest := [.ref (A_b 0)]) ⟨hx, hb, hml, hown, ht⟩ (c_X3_ordersCarriedBy l D cy fu tO aK aV A_a a_name a_courage a_weight a_medals a_stood a_fled a_liked a_votes a_count a_living a_pride a_quota a_melted a_lost x1 z_19 e_z_19) (cS ht ms_X3_ordersCarriedBy tb_947 rfl rfl ⟨Nat.le_of_ble_eq_true rfl, Nat.le_of_ble_eq_true rfl⟩) (P_sub hP.1 [1] rfl) hX hE hS rfl hl.1 rfl (Nat.le_of_ble_eq_true rfl) dX11_power_41 ⟨Nat.le_of_ble_eq_true rfl, Nat.le_of_ble_eq_true rfl⟩ ?_
      refine lv_i2l (v := Int32.toInt64 z_19) hx hb dX11_power_44 rfl ?_
      refine lv_aload_n hx hb dX11_power_45 rfl (lv_at hl 0 rfl) ?_
      refine xget (i := 0) (j := 0) (k := 4) (T := TX11) hx hb ht tb_iX11 hown hX hP.1 rfl rfl rfl (by decide) tb_433 rfl dX11_power_46 ?_
      refine xget (i := 1) (j := 0) (k := 9) (T := TX0) hx hb ht tb_iX0 hown hX hP.1 rfl rfl rfl (by decide) tb_64 rfl dX11_power_49 ?_
      obtain ⟨z_20, e_z_20, h⟩ := bi h
      refine roSi (rest := [.long (Int32.toInt64 z_19), .ref (A_b 0)]) ⟨hx, hb, hml, hown, ht⟩ (c_J6_bitCount_0f7a4 l D cy fu  a_living z_20 e_z_20) (cS ht ms_J6_bitCount_0f7a4 tb_852 rfl rfl ⟨Nat.le_of_ble_eq_true rfl, Nat.le_of_ble_eq_true rfl⟩) (P_sub hP.1 [] rfl) hX rfl hl.1 rfl (Nat.le_of_ble_eq_true rfl) dX11_power_52 ⟨Nat.le_of_ble_eq_true rfl, Nat.le_of_ble_eq_true rfl⟩ ?_
      obtain ⟨z_21, e_z_21, h⟩ := bi h
      refine roSiX (rest := [.long (Int32.toInt64 z_19), .ref (A_b 0)]) ⟨hx, hb, hml, hown, ht⟩ (c_X3_ordersOf l D cy fu tO aK aV  z_20 z_21 e_z_21) (cS ht ms_X3_ordersOf tb_956 rfl rfl ⟨Nat.le_of_ble_eq_true rfl, Nat.le_of_ble_eq_true rfl⟩) (P_sub hP.1 [] rfl) hX hE hS rfl hl.1 rfl (Nat.le_of_ble_eq_true rfl) dX11_power_55 ⟨Nat.le_of_ble_eq_true rfl, Nat.le_of_ble_eq_true rfl⟩ ?_
      refine lv_i2l (v := Int32.toInt64 z_21) hx hb dX11_power_58 rfl ?_
      obtain ⟨z_22, e_z_22, h⟩ := bi h
      refine efVv (rest := []) ⟨hx, hb, hml, hown, ht⟩ (c_X11_tell l D cy fu A_b r_b_trays (A_a 0) r_b_war r_b_draftArmy r_b_draftWar r_b_reader r_b_armyReader r_b_warReader r_b_markedArmies r_b_markedWars r_b_latest r_b_trial r_b_foresight r_b_pairs b_latestStatus b_fractionTop b_fractionBottom b_marks (Int32.toInt64 z_19) (Int32.toInt64 z_21) z_22 e_z_22 _ rfl _ rfl) (cV ht mv_X11_tell tb_957 rfl rfl ⟨Nat.le_of_ble_eq_true rfl, Nat.le_of_ble_eq_true rfl⟩) hP hS hX [0] rfl rfl rfl rfl rfl rfl hl.1 rfl (Nat.le_of_ble_eq_true rfl) dX11_power_59 ⟨Nat.le_of_ble_eq_true rfl, Nat.le_of_ble_eq_true rfl⟩ (fun H locs hP hS => ?_)
      have hP : PD D A [bl_X11 cy A_b r_b_trays (A_a 0) r_b_war r_b_draftArmy r_b_draftWar r_b_reader r_b_armyReader r_b_warReader r_b_markedArmies r_b_markedWars r_b_latest r_b_trial r_b_foresight r_b_pairs b_latestStatus z_22.1 z_22.2 b_marks, bl_X0 cy A_a a_name a_courage a_weight a_medals a_stood a_fled a_liked a_votes a_count a_living a_pride a_quota a_melted a_lost] H := hP
      refine lv_aload_n hx hb dX11_power_62 rfl (lv_at hl 0 rfl) ?_
      obtain ⟨z_23, e_z_23, h⟩ := bi h
      refine efVi (rest := []) ⟨hx, hb, hml, hown, ht⟩ (c_X11_allow l D cy fu A_b r_b_trays (A_a 0) r_b_war r_b_draftArmy r_b_draftWar r_b_reader r_b_armyReader r_b_warReader r_b_markedArmies r_b_markedWars r_b_latest r_b_trial r_b_foresight r_b_pairs b_latestStatus z_22.1 z_22.2 b_marks z_23 e_z_23 _ rfl _ rfl) (cV ht mv_X11_allow tb_518 rfl rfl ⟨Nat.le_of_ble_eq_true rfl, Nat.le_of_ble_eq_true rfl⟩) hP hS hX [0] rfl rfl rfl rfl rfl rfl hl.1 rfl (Nat.le_of_ble_eq_true rfl) dX11_power_63 ⟨Nat.le_of_ble_eq_true rfl, Nat.le_of_ble_eq_true rfl⟩ (fun H locs hP hS => ?_)
      have hP : PD D A [bl_X11 cy A_b r_b_trays (A_a 0) r_b_war r_b_draftArmy r_b_draftWar r_b_reader r_b_armyReader r_b_warReader r_b_markedArmies r_b_markedWars r_b_latest r_b_trial r_b_foresight r_b_pairs z_23.2 z_22.1 z_22.2 b_marks, bl_X0 cy A_a a_name a_courage a_weight a_medals a_stood a_fled a_liked a_votes a_count a_living a_pride a_quota a_melted a_lost] H := hP
      obtain ⟨b_24, e_b_24, h⟩ := bi h
      obtain ⟨-, n_b_24, -⟩ := bz_ok e_b_24
      cases h
      subst hW1
      exact W.zret hx hb hr n_b_24 (fun _ ht9 _ => ⟨⟨_, (), rfl, rfl, hPt ht9 hP.1⟩, hS.F ht9⟩) hS.2.2 dX11_power_66
    · have h := it c_18 h
      refine lv_aload_n hx hb dX11_power_28 rfl (lv_at hl 0 rfl) ?_
      refine lv_bipush (v := 7) hx hb dX11_power_29 (by decide) ?_
      obtain ⟨z_25, e_z_25, h⟩ := bi h
      refine efVi (rest := []) ⟨hx, hb, hml, hown, ht⟩ (c_X11_deny l D cy fu A_b r_b_trays (A_a 0) r_b_war r_b_draftArmy r_b_draftWar r_b_reader r_b_armyReader r_b_warReader r_b_markedArmies r_b_markedWars r_b_latest r_b_trial r_b_foresight r_b_pairs b_latestStatus b_fractionTop b_fractionBottom b_marks 7 z_25 e_z_25 _ rfl _ rfl) (cV ht mv_X11_deny tb_507 rfl rfl ⟨Nat.le_of_ble_eq_true rfl, Nat.le_of_ble_eq_true rfl⟩) hP hS hX [0] rfl rfl rfl rfl rfl rfl hl.1 rfl (Nat.le_of_ble_eq_true rfl) dX11_power_31 ⟨Nat.le_of_ble_eq_true rfl, Nat.le_of_ble_eq_true rfl⟩ (fun H locs hP hS => ?_)
      have hP : PD D A [bl_X11 cy A_b r_b_trays (A_a 0) r_b_war r_b_draftArmy r_b_draftWar r_b_reader r_b_armyReader r_b_warReader r_b_markedArmies r_b_markedWars r_b_latest r_b_trial r_b_foresight r_b_pairs z_25.2 b_fractionTop b_fractionBottom b_marks, bl_X0 cy A_a a_name a_courage a_weight a_medals a_stood a_fled a_liked a_votes a_count a_living a_pride a_quota a_melted a_lost] H := hP
      obtain ⟨b_26, e_b_26, h⟩ := bi h
      obtain ⟨-, n_b_26, -⟩ := bz_ok e_b_26
      cases h
      subst hW1
      exact W.zret hx hb hr n_b_26 (fun _ ht9 _ => ⟨⟨_, (), rfl, rfl, hPt ht9 hP.1⟩, hS.F ht9⟩) hS.2.2 dX11_power_34
  · have h := it c_16 h
    refine lv_aload_n hx hb dX11_power_11 rfl (lv_at hl 0 rfl) ?_
    refine lv_iconst (v := 1) hx hb dX11_power_12 (by decide) ?_
    obtain ⟨z_27, e_z_27, h⟩ := bi h
    refine efVi (rest := []) ⟨hx, hb, hml, hown, ht⟩ (c_X11_deny l D cy fu A_b r_b_trays (A_a 0) r_b_war r_b_draftArmy r_b_draftWar r_b_reader r_b_armyReader r_b_warReader r_b_markedArmies r_b_markedWars r_b_latest r_b_trial r_b_foresight r_b_pairs b_latestStatus b_fractionTop b_fractionBottom b_marks 1 z_27 e_z_27 _ rfl _ rfl) (cV ht mv_X11_deny tb_507 rfl rfl ⟨Nat.le_of_ble_eq_true rfl, Nat.le_of_ble_eq_true rfl⟩) hP hS hX [0] rfl rfl rfl rfl rfl rfl hl.1 rfl (Nat.le_of_ble_eq_true rfl) dX11_power_13 ⟨Nat.le_of_ble_eq_true rfl, Nat.le_of_ble_eq_true rfl⟩ (fun H locs hP hS => ?_)
    have hP : PD D A [bl_X11 cy A_b r_b_trays (A_a 0) r_b_war r_b_draftArmy r_b_draftWar r_b_reader r_b_armyReader r_b_warReader r_b_markedArmies r_b_markedWars r_b_latest r_b_trial r_b_foresight r_b_pairs z_27.2 b_fractionTop b_fractionBottom b_marks, bl_X0 cy A_a a_name a_courage a_weight a_medals a_stood a_fled a_liked a_votes a_count a_living a_pride a_quota a_melted a_lost] H := hP
    obtain ⟨b_28, e_b_28, h⟩ := bi h
    obtain ⟨-, n_b_28, -⟩ := bz_ok e_b_28
    cases h
    subst hW1
    exact W.zret hx hb hr n_b_28 (fun _ ht9 _ => ⟨⟨_, (), rfl, rfl, hPt ht9 hP.1⟩, hS.F ht9⟩) hS.2.2 dX11_power_16
theorem dX11_mightiest_0 : decode cX11_mightiest 0 = .ok (.aload_n 0, 1) := by decide +kernel
theorem dX11_mightiest_1 : decode cX11_mightiest 1 = .ok (.getfield 29, 3) := by decide +kernel
theorem dX11_mightiest_4 : decode cX11_mightiest 4 = .ok (.invokestatic 335, 3) := by decide +kernel
theorem dX11_mightiest_7 : decode cX11_mightiest 7 = .ok (.istore_n 1, 1) := by decide +kernel
theorem dX11_mightiest_8 : decode cX11_mightiest 8 = .ok (.iload_n 1, 1) := by decide +kernel
theorem dX11_mightiest_9 : decode cX11_mightiest 9 = .ok (.iconst (-1), 1) := by decide +kernel
theorem dX11_mightiest_10 : decode cX11_mightiest 10 = .ok (.if_icmp .ne 12, 3) := by decide +kernel
theorem dX11_mightiest_13 : decode cX11_mightiest 13 = .ok (.aload_n 0, 1) := by decide +kernel
theorem dX11_mightiest_14 : decode cX11_mightiest 14 = .ok (.bipush 6, 2) := by decide +kernel
theorem dX11_mightiest_16 : decode cX11_mightiest 16 = .ok (.invokevirtual 143, 3) := by decide +kernel
theorem dX11_mightiest_19 : decode cX11_mightiest 19 = .ok (.goto 8, 3) := by decide +kernel
theorem dX11_mightiest_22 : decode cX11_mightiest 22 = .ok (.aload_n 0, 1) := by decide +kernel
theorem dX11_mightiest_23 : decode cX11_mightiest 23 = .ok (.iload_n 1, 1) := by decide +kernel
theorem dX11_mightiest_24 : decode cX11_mightiest 24 = .ok (.invokevirtual 193, 3) := by decide +kernel
theorem dX11_mightiest_27 : decode cX11_mightiest 27 = .ok (.ireturn, 1) := by decide +kernel
theorem mv_X11_mightiest : MV yX11_mightiest RX11 cX11_mightiest 2 (some .int) 0 := ⟨tb_967, tb_965, tb_966, tb_1, by decide +kernel, by decide +kernel, by decide +kernel⟩
def f_X11_mightiest (fu : Nat) (b_latestStatus : Int32) (a_weight : Nat → Int32) (a_count : Int32) (a_living : Int32) (a_quota : Int32) : Option (Int32 × Int32) := (f_X3_mightiestOf fu a_weight a_count a_living a_quota).bind fun z_5 => (if z_5 = (-1) then (f_X11_refuse fu b_latestStatus 6).bind fun z_8 => some (z_8.1, z_8.2) else (f_X11_answer fu b_latestStatus z_5).bind fun z_7 => some (z_7.1, z_7.2))
abbrev rm_X11_mightiest : Room := { frames := 4, cells := 0, slots := 0, locals := 95 }
set_option maxHeartbeats 4000000 in
set_option maxRecDepth 100000 in
theorem c_X11_mightiest (l : Launch) (D : va_G) (cy : Nat → ClassId) (fu : Nat) (tO : Nat) (aK aV : Nat → Nat) (A_b : Nat → Nat) (r_b_trays : Nat) (r_b_war : Nat) (r_b_draftArmy : Nat) (r_b_draftWar : Nat) (r_b_reader : Nat) (r_b_armyReader : Nat) (r_b_warReader : Nat) (r_b_markedArmies : Nat) (r_b_markedWars : Nat) (r_b_latest : Nat) (r_b_trial : Nat) (r_b_foresight : Nat) (r_b_pairs : Nat) (b_latestStatus : Int32) (b_fractionTop : Int64) (b_fractionBottom : Int64) (b_marks : Int32) (A_a : Nat → Nat) (a_name : Nat → Int64) (a_courage : Nat → Int32) (a_weight : Nat → Int32) (a_medals : Nat → Int32) (a_stood : Nat → Int32) (a_fled : Nat → Int32) (a_liked : Nat → Int32) (a_votes : Nat → Int32) (a_count : Int32) (a_living : Int32) (a_pride : Int32) (a_quota : Int32) (a_melted : Int32) (a_lost : Int32) (res : Int32 × Int32) (h : f_X11_mightiest fu b_latestStatus a_weight a_count a_living a_quota = some res) (A : Nat → Prop) (hA : A = adr [bl_X11 cy A_b r_b_trays (A_a 0) r_b_war r_b_draftArmy r_b_draftWar r_b_reader r_b_armyReader r_b_warReader r_b_markedArmies r_b_markedWars r_b_latest r_b_trial r_b_foresight r_b_pairs b_latestStatus b_fractionTop b_fractionBottom b_marks, bl_X0 cy A_a a_name a_courage a_weight a_medals a_stood a_fled a_liked a_votes a_count a_living a_pride a_quota a_melted a_lost]) (W1 : List va_W) (hW1 : W1 = [bl_X11 cy A_b r_b_trays (A_a 0) r_b_war r_b_draftArmy r_b_draftWar r_b_reader r_b_armyReader r_b_warReader r_b_markedArmies r_b_markedWars r_b_latest r_b_trial r_b_foresight r_b_pairs res.2 b_fractionTop b_fractionBottom b_marks, bl_X0 cy A_a a_name a_courage a_weight a_medals a_stood a_fled a_liked a_votes a_count a_living a_pride a_quota a_melted a_lost]) : Met l yX11_mightiest (WW yX11_mightiest cX11_mightiest 2 (some .int)) rm_X11_mightiest (EdX D cy tO aK aV A [.ref (A_b 0)] [bl_X11 cy A_b r_b_trays (A_a 0) r_b_war r_b_draftArmy r_b_draftWar r_b_reader r_b_armyReader r_b_warReader r_b_markedArmies r_b_markedWars r_b_latest r_b_trial r_b_foresight r_b_pairs b_latestStatus b_fractionTop b_fractionBottom b_marks, bl_X0 cy A_a a_name a_courage a_weight a_medals a_stood a_fled a_liked a_votes a_count a_living a_pride a_quota a_melted a_lost]) (Qei D res.1 A W1) 0 0 A := by
  refine Met.ofW (cc := cX11_mightiest) (maxL := 2) (ret := (some .int)) (by decide) rfl ?_
  intro p e s m args below meth c s₁ B hml hv
  obtain ⟨hargs, hP, hX, hD0, hE⟩ := hv
  have hx := B.exec
  have hb := B.bytes
  have hr := B.returns
  have ht : ∀ w ∈ lw_gd, w.before args s = true := fun w hw => atoms_spec (ws := WW yX11_mightiest cX11_mightiest 2 (some .int)) B.pre w (List.mem_cons_of_mem _ hw)
  have hown : s.vm.findClass RX11 = some m.cls := findClass_of_methodNamed B.named
  have hlocks := B.notSynchronized
  have hP : PD D A [bl_X11 cy A_b r_b_trays (A_a 0) r_b_war r_b_draftArmy r_b_draftWar r_b_reader r_b_armyReader r_b_warReader r_b_markedArmies r_b_markedWars r_b_latest r_b_trial r_b_foresight r_b_pairs b_latestStatus b_fractionTop b_fractionBottom b_marks, bl_X0 cy A_a a_name a_courage a_weight a_medals a_stood a_fled a_liked a_votes a_count a_living a_pride a_quota a_melted a_lost] s.heap := ⟨hP, by rw [hA]; exact hD0.own⟩
  have hS : va_S A s.heap s.heap [] := va_S.rf
  obtain ⟨ls, hl, hent⟩ := ent (m := m) (n := 2) hargs (Nat.le_of_ble_eq_true rfl) (lv := [(0, .ref (A_b 0))]) rfl
  rw [hent]
  clear hent
  unfold f_X11_mightiest at h
  refine lv_aload_n hx hb dX11_mightiest_0 rfl (lv_at hl 0 rfl) ?_
  refine xget (i := 0) (j := 0) (k := 4) (T := TX11) hx hb ht tb_iX11 hown hX hP.1 rfl rfl rfl (by decide) tb_433 rfl dX11_mightiest_1 ?_
  obtain ⟨z_5, e_z_5, h⟩ := bi h
  refine roSiX (rest := []) ⟨hx, hb, hml, hown, ht⟩ (c_X3_mightiestOf l D cy fu tO aK aV A_a a_name a_courage a_weight a_medals a_stood a_fled a_liked a_votes a_count a_living a_pride a_quota a_melted a_lost z_5 e_z_5) (cS ht ms_X3_mightiestOf tb_968 rfl rfl ⟨Nat.le_of_ble_eq_true rfl, Nat.le_of_ble_eq_true rfl⟩) (P_sub hP.1 [1] rfl) hX hE hS rfl hl.1 rfl (Nat.le_of_ble_eq_true rfl) dX11_mightiest_4 ⟨Nat.le_of_ble_eq_true rfl, Nat.le_of_ble_eq_true rfl⟩ ?_
  refine lv_istore_n (lv' := [(1, .int z_5), (0, .ref (A_b 0))]) hx hb dX11_mightiest_7 rfl hl (by decide) rfl (fun ls hl => ?_)
  refine lv_iload_n hx hb dX11_mightiest_8 rfl (lv_at hl 0 rfl) ?_
  refine lv_iconst (v := (-1)) hx hb dX11_mightiest_9 (by decide) ?_
  refine lv_icmp_ne (tgt := 22) hx hb dX11_mightiest_10 (by decide) (fun c_6 => ?_) (fun c_6 => ?_)
  · have h := ie c_6 h
    refine lv_aload_n hx hb dX11_mightiest_22 rfl (lv_at hl 1 rfl) ?_
    refine lv_iload_n hx hb dX11_mightiest_23 rfl (lv_at hl 0 rfl) ?_
    obtain ⟨z_7, e_z_7, h⟩ := bi h
    refine efVi (rest := []) ⟨hx, hb, hml, hown, ht⟩ (c_X11_answer l D cy fu A_b r_b_trays (A_a 0) r_b_war r_b_draftArmy r_b_draftWar r_b_reader r_b_armyReader r_b_warReader r_b_markedArmies r_b_markedWars r_b_latest r_b_trial r_b_foresight r_b_pairs b_latestStatus b_fractionTop b_fractionBottom b_marks z_5 z_7 e_z_7 _ rfl _ rfl) (cV ht mv_X11_answer tb_696 rfl rfl ⟨Nat.le_of_ble_eq_true rfl, Nat.le_of_ble_eq_true rfl⟩) hP hS hX [0] rfl rfl rfl rfl rfl rfl hl.1 rfl (Nat.le_of_ble_eq_true rfl) dX11_mightiest_24 ⟨Nat.le_of_ble_eq_true rfl, Nat.le_of_ble_eq_true rfl⟩ (fun H locs hP hS => ?_)
    have hP : PD D A [bl_X11 cy A_b r_b_trays (A_a 0) r_b_war r_b_draftArmy r_b_draftWar r_b_reader r_b_armyReader r_b_warReader r_b_markedArmies r_b_markedWars r_b_latest r_b_trial r_b_foresight r_b_pairs z_7.2 b_fractionTop b_fractionBottom b_marks, bl_X0 cy A_a a_name a_courage a_weight a_medals a_stood a_fled a_liked a_votes a_count a_living a_pride a_quota a_melted a_lost] H := hP
    cases h
    subst hW1
    exact W.iret hx hb hr (fun _ ht9 _ => ⟨⟨_, (), rfl, rfl, hPt ht9 hP.1⟩, hS.F ht9⟩) hS.2.2 dX11_mightiest_27
  · have h := it c_6 h
    refine lv_aload_n hx hb dX11_mightiest_13 rfl (lv_at hl 1 rfl) ?_
    refine lv_bipush (v := 6) hx hb dX11_mightiest_14 (by decide) ?_
    obtain ⟨z_8, e_z_8, h⟩ := bi h
    refine efVi (rest := []) ⟨hx, hb, hml, hown, ht⟩ (c_X11_refuse l D cy fu A_b r_b_trays (A_a 0) r_b_war r_b_draftArmy r_b_draftWar r_b_reader r_b_armyReader r_b_warReader r_b_markedArmies r_b_markedWars r_b_latest r_b_trial r_b_foresight r_b_pairs b_latestStatus b_fractionTop b_fractionBottom b_marks 6 z_8 e_z_8 _ rfl _ rfl) (cV ht mv_X11_refuse tb_543 rfl rfl ⟨Nat.le_of_ble_eq_true rfl, Nat.le_of_ble_eq_true rfl⟩) hP hS hX [0] rfl rfl rfl rfl rfl rfl hl.1 rfl (Nat.le_of_ble_eq_true rfl) dX11_mightiest_16 ⟨Nat.le_of_ble_eq_true rfl, Nat.le_of_ble_eq_true rfl⟩ (fun H locs hP hS => ?_)
    have hP : PD D A [bl_X11 cy A_b r_b_trays (A_a 0) r_b_war r_b_draftArmy r_b_draftWar r_b_reader r_b_armyReader r_b_warReader r_b_markedArmies r_b_markedWars r_b_latest r_b_trial r_b_foresight r_b_pairs z_8.2 b_fractionTop b_fractionBottom b_marks, bl_X0 cy A_a a_name a_courage a_weight a_medals a_stood a_fled a_liked a_votes a_count a_living a_pride a_quota a_melted a_lost] H := hP
    refine lv_goto (tgt := 27) hx hb dX11_mightiest_19 (by decide) ?_
    cases h
    subst hW1
    exact W.iret hx hb hr (fun _ ht9 _ => ⟨⟨_, (), rfl, rfl, hPt ht9 hP.1⟩, hS.F ht9⟩) hS.2.2 dX11_mightiest_27
theorem dX11_veto_0 : decode cX11_veto 0 = .ok (.aload_n 0, 1) := by decide +kernel
theorem dX11_veto_1 : decode cX11_veto 1 = .ok (.getfield 29, 3) := by decide +kernel
theorem dX11_veto_4 : decode cX11_veto 4 = .ok (.iload_n 1, 1) := by decide +kernel
theorem dX11_veto_5 : decode cX11_veto 5 = .ok (.invokevirtual 248, 3) := by decide +kernel
theorem dX11_veto_8 : decode cX11_veto 8 = .ok (.ifCond .ne 9, 3) := by decide +kernel
theorem dX11_veto_11 : decode cX11_veto 11 = .ok (.aload_n 0, 1) := by decide +kernel
theorem dX11_veto_12 : decode cX11_veto 12 = .ok (.iconst 1, 1) := by decide +kernel
theorem dX11_veto_13 : decode cX11_veto 13 = .ok (.invokevirtual 143, 3) := by decide +kernel
theorem dX11_veto_16 : decode cX11_veto 16 = .ok (.ireturn, 1) := by decide +kernel
theorem dX11_veto_17 : decode cX11_veto 17 = .ok (.aload_n 0, 1) := by decide +kernel
theorem dX11_veto_18 : decode cX11_veto 18 = .ok (.getfield 29, 3) := by decide +kernel
theorem dX11_veto_21 : decode cX11_veto 21 = .ok (.iload_n 1, 1) := by decide +kernel
theorem dX11_veto_22 : decode cX11_veto 22 = .ok (.invokevirtual 257, 3) := by decide +kernel
theorem dX11_veto_25 : decode cX11_veto 25 = .ok (.ifCond .ne 10, 3) := by decide +kernel
theorem dX11_veto_28 : decode cX11_veto 28 = .ok (.aload_n 0, 1) := by decide +kernel
theorem dX11_veto_29 : decode cX11_veto 29 = .ok (.bipush 7, 2) := by decide +kernel
theorem dX11_veto_31 : decode cX11_veto 31 = .ok (.invokevirtual 143, 3) := by decide +kernel
theorem dX11_veto_34 : decode cX11_veto 34 = .ok (.ireturn, 1) := by decide +kernel
theorem dX11_veto_35 : decode cX11_veto 35 = .ok (.aload_n 0, 1) := by decide +kernel
theorem dX11_veto_36 : decode cX11_veto 36 = .ok (.getfield 29, 3) := by decide +kernel
theorem dX11_veto_39 : decode cX11_veto 39 = .ok (.aload_n 0, 1) := by decide +kernel
theorem dX11_veto_40 : decode cX11_veto 40 = .ok (.getfield 29, 3) := by decide +kernel
theorem dX11_veto_43 : decode cX11_veto 43 = .ok (.getfield 221, 3) := by decide +kernel
theorem dX11_veto_46 : decode cX11_veto 46 = .ok (.iconst 1, 1) := by decide +kernel
theorem dX11_veto_47 : decode cX11_veto 47 = .ok (.iload_n 1, 1) := by decide +kernel
theorem dX11_veto_48 : decode cX11_veto 48 = .ok (.ishl, 1) := by decide +kernel
theorem dX11_veto_49 : decode cX11_veto 49 = .ok (.iconst (-1), 1) := by decide +kernel
theorem dX11_veto_50 : decode cX11_veto 50 = .ok (.ixor, 1) := by decide +kernel
theorem dX11_veto_51 : decode cX11_veto 51 = .ok (.iand, 1) := by decide +kernel
theorem dX11_veto_52 : decode cX11_veto 52 = .ok (.invokevirtual 315, 3) := by decide +kernel
theorem dX11_veto_55 : decode cX11_veto 55 = .ok (.istore_n 2, 1) := by decide +kernel
theorem dX11_veto_56 : decode cX11_veto 56 = .ok (.aload_n 0, 1) := by decide +kernel
theorem dX11_veto_57 : decode cX11_veto 57 = .ok (.iload_n 2, 1) := by decide +kernel
theorem dX11_veto_58 : decode cX11_veto 58 = .ok (.ifCond .ne 24, 3) := by decide +kernel
theorem dX11_veto_61 : decode cX11_veto 61 = .ok (.aload_n 0, 1) := by decide +kernel
theorem dX11_veto_62 : decode cX11_veto 62 = .ok (.getfield 29, 3) := by decide +kernel
theorem dX11_veto_65 : decode cX11_veto 65 = .ok (.aload_n 0, 1) := by decide +kernel
theorem dX11_veto_66 : decode cX11_veto 66 = .ok (.getfield 29, 3) := by decide +kernel
theorem dX11_veto_69 : decode cX11_veto 69 = .ok (.getfield 221, 3) := by decide +kernel
theorem dX11_veto_72 : decode cX11_veto 72 = .ok (.invokevirtual 315, 3) := by decide +kernel
theorem dX11_veto_75 : decode cX11_veto 75 = .ok (.ifCond .eq 7, 3) := by decide +kernel
theorem dX11_veto_78 : decode cX11_veto 78 = .ok (.iconst 1, 1) := by decide +kernel
theorem dX11_veto_79 : decode cX11_veto 79 = .ok (.goto 4, 3) := by decide +kernel
theorem dX11_veto_82 : decode cX11_veto 82 = .ok (.iconst 0, 1) := by decide +kernel
theorem dX11_veto_83 : decode cX11_veto 83 = .ok (.invokevirtual 193, 3) := by decide +kernel
theorem dX11_veto_86 : decode cX11_veto 86 = .ok (.ireturn, 1) := by decide +kernel
theorem mv_X11_veto : MV yX11_veto RX11 cX11_veto 3 (some .int) 1 := ⟨tb_976, tb_974, tb_975, tb_1, by decide +kernel, by decide +kernel, by decide +kernel⟩
def f_X11_veto (fu : Nat) (b_latestStatus : Int32) (a_weight : Nat → Int32) (a_count : Int32) (a_living : Int32) (a_quota : Int32) (x1 : Int32) : Option (Int32 × Int32) := (f_X0_isMan fu a_count x1).bind fun z_14 => (if z_14 = 0 then (f_X11_refuse fu b_latestStatus 1).bind fun z_26 => some (z_26.1, z_26.2) else (f_X0_lives fu a_count a_living x1).bind fun z_16 => (if z_16 = 0 then (f_X11_refuse fu b_latestStatus 7).bind fun z_25 => some (z_25.1, z_25.2) else (f_X0_isCarriedBy fu a_weight a_count a_living a_quota (a_living &&& (((1 : Int32) <<< (x1 &&& 31)) ^^^ (-1)))).bind fun z_18 => (if z_18 = 0 then (f_X0_isCarriedBy fu a_weight a_count a_living a_quota a_living).bind fun z_21 => (if z_21 = 0 then (f_X11_answer fu b_latestStatus 0).bind fun z_23 => some (z_23.1, z_23.2) else (f_X11_answer fu b_latestStatus 1).bind fun z_24 => some (z_24.1, z_24.2)) else (f_X11_answer fu b_latestStatus 0).bind fun z_20 => some (z_20.1, z_20.2))))
abbrev rm_X11_veto : Room := { frames := 2, cells := 0, slots := 0, locals := 44 }
set_option maxHeartbeats 4000000 in
set_option maxRecDepth 100000 in
theorem c_X11_veto (l : Launch) (D : va_G) (cy : Nat → ClassId) (fu : Nat) (A_b : Nat → Nat) (r_b_trays : Nat) (r_b_war : Nat) (r_b_draftArmy : Nat) (r_b_draftWar : Nat) (r_b_reader : Nat) (r_b_armyReader : Nat) (r_b_warReader : Nat) (r_b_markedArmies : Nat) (r_b_markedWars : Nat) (r_b_latest : Nat) (r_b_trial : Nat) (r_b_foresight : Nat) (r_b_pairs : Nat) (b_latestStatus : Int32) (b_fractionTop : Int64) (b_fractionBottom : Int64) (b_marks : Int32) (A_a : Nat → Nat) (a_name : Nat → Int64) (a_courage : Nat → Int32) (a_weight : Nat → Int32) (a_medals : Nat → Int32) (a_stood : Nat → Int32) (a_fled : Nat → Int32) (a_liked : Nat → Int32) (a_votes : Nat → Int32) (a_count : Int32) (a_living : Int32) (a_pride : Int32) (a_quota : Int32) (a_melted : Int32) (a_lost : Int32) (x1 : Int32) (res : Int32 × Int32) (h : f_X11_veto fu b_latestStatus a_weight a_count a_living a_quota x1 = some res) (A : Nat → Prop) (hA : A = adr [bl_X11 cy A_b r_b_trays (A_a 0) r_b_war r_b_draftArmy r_b_draftWar r_b_reader r_b_armyReader r_b_warReader r_b_markedArmies r_b_markedWars r_b_latest r_b_trial r_b_foresight r_b_pairs b_latestStatus b_fractionTop b_fractionBottom b_marks, bl_X0 cy A_a a_name a_courage a_weight a_medals a_stood a_fled a_liked a_votes a_count a_living a_pride a_quota a_melted a_lost]) (W1 : List va_W) (hW1 : W1 = [bl_X11 cy A_b r_b_trays (A_a 0) r_b_war r_b_draftArmy r_b_draftWar r_b_reader r_b_armyReader r_b_warReader r_b_markedArmies r_b_markedWars r_b_latest r_b_trial r_b_foresight r_b_pairs res.2 b_fractionTop b_fractionBottom b_marks, bl_X0 cy A_a a_name a_courage a_weight a_medals a_stood a_fled a_liked a_votes a_count a_living a_pride a_quota a_melted a_lost]) : Met l yX11_veto (WW yX11_veto cX11_veto 3 (some .int)) rm_X11_veto (Ed D cy [.ref (A_b 0), .int x1] [bl_X11 cy A_b r_b_trays (A_a 0) r_b_war r_b_draftArmy r_b_draftWar r_b_reader r_b_armyReader r_b_warReader r_b_markedArmies r_b_markedWars r_b_latest r_b_trial r_b_foresight r_b_pairs b_latestStatus b_fractionTop b_fractionBottom b_marks, bl_X0 cy A_a a_name a_courage a_weight a_medals a_stood a_fled a_liked a_votes a_count a_living a_pride a_quota a_melted a_lost]) (Qei D res.1 A W1) 0 0 A := by
  refine Met.ofW (cc := cX11_veto) (maxL := 3) (ret := (some .int)) (by decide) rfl ?_
  intro p e s m args below meth c s₁ B hml hv
  obtain ⟨hargs, hP, hX, hD0⟩ := hv
  have hx := B.exec
  have hb := B.bytes
  have hr := B.returns
  have ht : ∀ w ∈ lw_gd, w.before args s = true := fun w hw => atoms_spec (ws := WW yX11_veto cX11_veto 3 (some .int)) B.pre w (List.mem_cons_of_mem _ hw)
  have hown : s.vm.findClass RX11 = some m.cls := findClass_of_methodNamed B.named
  have hlocks := B.notSynchronized
  have hP : PD D A [bl_X11 cy A_b r_b_trays (A_a 0) r_b_war r_b_draftArmy r_b_draftWar r_b_reader r_b_armyReader r_b_warReader r_b_markedArmies r_b_markedWars r_b_latest r_b_trial r_b_foresight r_b_pairs b_latestStatus b_fractionTop b_fractionBottom b_marks, bl_X0 cy A_a a_name a_courage a_weight a_medals a_stood a_fled a_liked a_votes a_count a_living a_pride a_quota a_melted a_lost] s.heap := ⟨hP, by rw [hA]; exact hD0.own⟩
  have hS : va_S A s.heap s.heap [] := va_S.rf
  obtain ⟨ls, hl, hent⟩ := ent (m := m) (n := 3) hargs (Nat.le_of_ble_eq_true rfl) (lv := [(0, .ref (A_b 0)), (1, .int x1)]) rfl
  rw [hent]
  clear hent
  unfold f_X11_veto at h
  refine lv_aload_n hx hb dX11_veto_0 rfl (lv_at hl 0 rfl) ?_
  refine xget (i := 0) (j := 0) (k := 4) (T := TX11) hx hb ht tb_iX11 hown hX hP.1 rfl rfl rfl (by decide) tb_433 rfl dX11_veto_1 ?_
  refine lv_iload_n hx hb dX11_veto_4 rfl (lv_at hl 1 rfl) ?_
  obtain ⟨z_14, e_z_14, h⟩ := bi h
  refine roVi (rest := []) ⟨hx, hb, hml, hown, ht⟩ (c_X0_isMan l D cy fu A_a a_name a_courage a_weight a_medals a_stood a_fled a_liked a_votes a_count a_living a_pride a_quota a_melted a_lost x1 z_14 e_z_14) (cV ht mv_X0_isMan tb_774 rfl rfl ⟨Nat.le_of_ble_eq_true rfl, Nat.le_of_ble_eq_true rfl⟩) (P_sub hP.1 [1] rfl) hX rfl rfl rfl hl.1 rfl (Nat.le_of_ble_eq_true rfl) dX11_veto_5 ⟨Nat.le_of_ble_eq_true rfl, Nat.le_of_ble_eq_true rfl⟩ ?_
  refine lv_if_ne (tgt := 17) hx hb dX11_veto_8 (by decide) (fun c_15 => ?_) (fun c_15 => ?_)
  · have h := ie c_15 h
    refine lv_aload_n hx hb dX11_veto_17 rfl (lv_at hl 0 rfl) ?_
    refine xget (i := 0) (j := 0) (k := 4) (T := TX11) hx hb ht tb_iX11 hown hX hP.1 rfl rfl rfl (by decide) tb_433 rfl dX11_veto_18 ?_
    refine lv_iload_n hx hb dX11_veto_21 rfl (lv_at hl 1 rfl) ?_
    obtain ⟨z_16, e_z_16, h⟩ := bi h
    refine roVi (rest := []) ⟨hx, hb, hml, hown, ht⟩ (c_X0_lives l D cy fu A_a a_name a_courage a_weight a_medals a_stood a_fled a_liked a_votes a_count a_living a_pride a_quota a_melted a_lost x1 z_16 e_z_16) (cV ht mv_X0_lives tb_775 rfl rfl ⟨Nat.le_of_ble_eq_true rfl, Nat.le_of_ble_eq_true rfl⟩) (P_sub hP.1 [1] rfl) hX rfl rfl rfl hl.1 rfl (Nat.le_of_ble_eq_true rfl) dX11_veto_22 ⟨Nat.le_of_ble_eq_true rfl, Nat.le_of_ble_eq_true rfl⟩ ?_
    refine lv_if_ne (tgt := 35) hx hb dX11_veto_25 (by decide) (fun c_17 => ?_) (fun c_17 => ?_)
    · have h := ie c_17 h
      refine lv_aload_n hx hb dX11_veto_35 rfl (lv_at hl 0 rfl) ?_
      refine xget (i := 0) (j := 0) (k := 4) (T := TX11) hx hb ht tb_iX11 hown hX hP.1 rfl rfl rfl (by decide) tb_433 rfl dX11_veto_36 ?_
      refine lv_aload_n hx hb dX11_veto_39 rfl (lv_at hl 0 rfl) ?_
      refine xget (i := 0) (j := 0) (k := 4) (T := TX11) hx hb ht tb_iX11 hown hX hP.1 rfl rfl rfl (by decide) tb_433 rfl dX11_veto_40 ?_
      refine xget (i := 1) (j := 0) (k := 9) (T := TX0) hx hb ht tb_iX0 hown hX hP.1 rfl rfl rfl (by decide) tb_64 rfl dX11_veto_43 ?_
      refine lv_iconst (v := 1) hx hb dX11_veto_46 (by decide) ?_
      refine lv_iload_n hx hb dX11_veto_47 rfl (lv_at hl 1 rfl) ?_
      refine lv_ishl hx hb dX11_veto_48 ?_
      refine lv_iconst (v := (-1)) hx hb dX11_veto_49 (by decide) ?_
      refine lv_ixor hx hb dX11_veto_50 ?_
      refine lv_iand hx hb dX11_veto_51 ?_
      obtain ⟨z_18, e_z_18, h⟩ := bi h
      refine roVi (rest := []) ⟨hx, hb, hml, hown, ht⟩ (c_X0_isCarriedBy l D cy fu A_a a_name a_courage a_weight a_medals a_stood a_fled a_liked a_votes a_count a_living a_pride a_quota a_melted a_lost (a_living &&& (((1 : Int32) <<< (x1 &&& 31)) ^^^ (-1))) z_18 e_z_18) (cV ht mv_X0_isCarriedBy tb_922 rfl rfl ⟨Nat.le_of_ble_eq_true rfl, Nat.le_of_ble_eq_true rfl⟩) (P_sub hP.1 [1] rfl) hX rfl rfl rfl hl.1 rfl (Nat.le_of_ble_eq_true rfl) dX11_veto_52 ⟨Nat.le_of_ble_eq_true rfl, Nat.le_of_ble_eq_true rfl⟩ ?_
      refine lv_istore_n (lv' := [(2, .int z_18), (0, .ref (A_b 0)), (1, .int x1)]) hx hb dX11_veto_55 rfl hl (by decide) rfl (fun ls hl => ?_)
      refine lv_aload_n hx hb dX11_veto_56 rfl (lv_at hl 1 rfl) ?_
      refine lv_iload_n hx hb dX11_veto_57 rfl (lv_at hl 0 rfl) ?_
      refine lv_if_ne (tgt := 82) hx hb dX11_veto_58 (by decide) (fun c_19 => ?_) (fun c_19 => ?_)
      · have h := ie c_19 h
        refine lv_iconst (v := 0) hx hb dX11_veto_82 (by decide) ?_
        obtain ⟨z_20, e_z_20, h⟩ := bi h
        refine efVi (rest := []) ⟨hx, hb, hml, hown, ht⟩ (c_X11_answer l D cy fu A_b r_b_trays (A_a 0) r_b_war r_b_draftArmy r_b_draftWar r_b_reader r_b_armyReader r_b_warReader r_b_markedArmies r_b_markedWars r_b_latest r_b_trial r_b_foresight r_b_pairs b_latestStatus b_fractionTop b_fractionBottom b_marks 0 z_20 e_z_20 _ rfl _ rfl) (cV ht mv_X11_answer tb_696 rfl rfl ⟨Nat.le_of_ble_eq_true rfl, Nat.le_of_ble_eq_true rfl⟩) hP hS hX [0] rfl rfl rfl rfl rfl rfl hl.1 rfl (Nat.le_of_ble_eq_true rfl) dX11_veto_83 ⟨Nat.le_of_ble_eq_true rfl, Nat.le_of_ble_eq_true rfl⟩ (fun H locs hP hS => ?_)
        have hP : PD D A [bl_X11 cy A_b r_b_trays (A_a 0) r_b_war r_b_draftArmy r_b_draftWar r_b_reader r_b_armyReader r_b_warReader r_b_markedArmies r_b_markedWars r_b_latest r_b_trial r_b_foresight r_b_pairs z_20.2 b_fractionTop b_fractionBottom b_marks, bl_X0 cy A_a a_name a_courage a_weight a_medals a_stood a_fled a_liked a_votes a_count a_living a_pride a_quota a_melted a_lost] H := hP
        cases h
        subst hW1
        exact W.iret hx hb hr (fun _ ht9 _ => ⟨⟨_, (), rfl, rfl, hPt ht9 hP.1⟩, hS.F ht9⟩) hS.2.2 dX11_veto_86
      · have h := it c_19 h
        refine lv_aload_n hx hb dX11_veto_61 rfl (lv_at hl 1 rfl) ?_
        refine xget (i := 0) (j := 0) (k := 4) (T := TX11) hx hb ht tb_iX11 hown hX hP.1 rfl rfl rfl (by decide) tb_433 rfl dX11_veto_62 ?_
        refine lv_aload_n hx hb dX11_veto_65 rfl (lv_at hl 1 rfl) ?_
        refine xget (i := 0) (j := 0) (k := 4) (T := TX11) hx hb ht tb_iX11 hown hX hP.1 rfl rfl rfl (by decide) tb_433 rfl dX11_veto_66 ?_
        refine xget (i := 1) (j := 0) (k := 9) (T := TX0) hx hb ht tb_iX0 hown hX hP.1 rfl rfl rfl (by decide) tb_64 rfl dX11_veto_69 ?_
        obtain ⟨z_21, e_z_21, h⟩ := bi h
        refine roVi (rest := [.ref (A_b 0)]) ⟨hx, hb, hml, hown, ht⟩ (c_X0_isCarriedBy l D cy fu A_a a_name a_courage a_weight a_medals a_stood a_fled a_liked a_votes a_count a_living a_pride a_quota a_melted a_lost a_living z_21 e_z_21) (cV ht mv_X0_isCarriedBy tb_922 rfl rfl ⟨Nat.le_of_ble_eq_true rfl, Nat.le_of_ble_eq_true rfl⟩) (P_sub hP.1 [1] rfl) hX rfl rfl rfl hl.1 rfl (Nat.le_of_ble_eq_true rfl) dX11_veto_72 ⟨Nat.le_of_ble_eq_true rfl, Nat.le_of_ble_eq_true rfl⟩ ?_
        refine lv_if_eq (tgt := 82) hx hb dX11_veto_75 (by decide) (fun c_22 => ?_) (fun c_22 => ?_)
        · have h := it c_22 h
          refine lv_iconst (v := 0) hx hb dX11_veto_82 (by decide) ?_
          obtain ⟨z_23, e_z_23, h⟩ := bi h
          refine efVi (rest := []) ⟨hx, hb, hml, hown, ht⟩ (c_X11_answer l D cy fu A_b r_b_trays (A_a 0) r_b_war r_b_draftArmy r_b_draftWar r_b_reader r_b_armyReader r_b_warReader r_b_markedArmies r_b_markedWars r_b_latest r_b_trial r_b_foresight r_b_pairs b_latestStatus b_fractionTop b_fractionBottom b_marks 0 z_23 e_z_23 _ rfl _ rfl) (cV ht mv_X11_answer tb_696 rfl rfl ⟨Nat.le_of_ble_eq_true rfl, Nat.le_of_ble_eq_true rfl⟩) hP hS hX [0] rfl rfl rfl rfl rfl rfl hl.1 rfl (Nat.le_of_ble_eq_true rfl) dX11_veto_83 ⟨Nat.le_of_ble_eq_true rfl, Nat.le_of_ble_eq_true rfl⟩ (fun H locs hP hS => ?_)
          have hP : PD D A [bl_X11 cy A_b r_b_trays (A_a 0) r_b_war r_b_draftArmy r_b_draftWar r_b_reader r_b_armyReader r_b_warReader r_b_markedArmies r_b_markedWars r_b_latest r_b_trial r_b_foresight r_b_pairs z_23.2 b_fractionTop b_fractionBottom b_marks, bl_X0 cy A_a a_name a_courage a_weight a_medals a_stood a_fled a_liked a_votes a_count a_living a_pride a_quota a_melted a_lost] H := hP
          cases h
          subst hW1
          exact W.iret hx hb hr (fun _ ht9 _ => ⟨⟨_, (), rfl, rfl, hPt ht9 hP.1⟩, hS.F ht9⟩) hS.2.2 dX11_veto_86
        · have h := ie c_22 h
          refine lv_iconst (v := 1) hx hb dX11_veto_78 (by decide) ?_
          refine lv_goto (tgt := 83) hx hb dX11_veto_79 (by decide) ?_
          obtain ⟨z_24, e_z_24, h⟩ := bi h
          refine efVi (rest := []) ⟨hx, hb, hml, hown, ht⟩ (c_X11_answer l D cy fu A_b r_b_trays (A_a 0) r_b_war r_b_draftArmy r_b_draftWar r_b_reader r_b_armyReader r_b_warReader r_b_markedArmies r_b_markedWars r_b_latest r_b_trial r_b_foresight r_b_pairs b_latestStatus b_fractionTop b_fractionBottom b_marks 1 z_24 e_z_24 _ rfl _ rfl) (cV ht mv_X11_answer tb_696 rfl rfl ⟨Nat.le_of_ble_eq_true rfl, Nat.le_of_ble_eq_true rfl⟩) hP hS hX [0] rfl rfl rfl rfl rfl rfl hl.1 rfl (Nat.le_of_ble_eq_true rfl) dX11_veto_83 ⟨Nat.le_of_ble_eq_true rfl, Nat.le_of_ble_eq_true rfl⟩ (fun H locs hP hS => ?_)
          have hP : PD D A [bl_X11 cy A_b r_b_trays (A_a 0) r_b_war r_b_draftArmy r_b_draftWar r_b_reader r_b_armyReader r_b_warReader r_b_markedArmies r_b_markedWars r_b_latest r_b_trial r_b_foresight r_b_pairs z_24.2 b_fractionTop b_fractionBottom b_marks, bl_X0 cy A_a a_name a_courage a_weight a_medals a_stood a_fled a_liked a_votes a_count a_living a_pride a_quota a_melted a_lost] H := hP
          cases h
          subst hW1
          exact W.iret hx hb hr (fun _ ht9 _ => ⟨⟨_, (), rfl, rfl, hPt ht9 hP.1⟩, hS.F ht9⟩) hS.2.2 dX11_veto_86
    · have h := it c_17 h
      refine lv_aload_n hx hb dX11_veto_28 rfl (lv_at hl 0 rfl) ?_
      refine lv_bipush (v := 7) hx hb dX11_veto_29 (by decide) ?_
      obtain ⟨z_25, e_z_25, h⟩ := bi h
      refine efVi (rest := []) ⟨hx, hb, hml, hown, ht⟩ (c_X11_refuse l D cy fu A_b r_b_trays (A_a 0) r_b_war r_b_draftArmy r_b_draftWar r_b_reader r_b_armyReader r_b_warReader r_b_markedArmies r_b_markedWars r_b_latest r_b_trial r_b_foresight r_b_pairs b_latestStatus b_fractionTop b_fractionBottom b_marks 7 z_25 e_z_25 _ rfl _ rfl) (cV ht mv_X11_refuse tb_543 rfl rfl ⟨Nat.le_of_ble_eq_true rfl, Nat.le_of_ble_eq_true rfl⟩) hP hS hX [0] rfl rfl rfl rfl rfl rfl hl.1 rfl (Nat.le_of_ble_eq_true rfl) dX11_veto_31 ⟨Nat.le_of_ble_eq_true rfl, Nat.le_of_ble_eq_true rfl⟩ (fun H locs hP hS => ?_)
      have hP : PD D A [bl_X11 cy A_b r_b_trays (A_a 0) r_b_war r_b_draftArmy r_b_draftWar r_b_reader r_b_armyReader r_b_warReader r_b_markedArmies r_b_markedWars r_b_latest r_b_trial r_b_foresight r_b_pairs z_25.2 b_fractionTop b_fractionBottom b_marks, bl_X0 cy A_a a_name a_courage a_weight a_medals a_stood a_fled a_liked a_votes a_count a_living a_pride a_quota a_melted a_lost] H := hP
      cases h
      subst hW1
      exact W.iret hx hb hr (fun _ ht9 _ => ⟨⟨_, (), rfl, rfl, hPt ht9 hP.1⟩, hS.F ht9⟩) hS.2.2 dX11_veto_34
  · have h := it c_15 h
    refine lv_aload_n hx hb dX11_veto_11 rfl (lv_at hl 0 rfl) ?_
    refine lv_iconst (v := 1) hx hb dX11_veto_12 (by decide) ?_
    obtain ⟨z_26, e_z_26, h⟩ := bi h
    refine efVi (rest := []) ⟨hx, hb, hml, hown, ht⟩ (c_X11_refuse l D cy fu A_b r_b_trays (A_a 0) r_b_war r_b_draftArmy r_b_draftWar r_b_reader r_b_armyReader r_b_warReader r_b_markedArmies r_b_markedWars r_b_latest r_b_trial r_b_foresight r_b_pairs b_latestStatus b_fractionTop b_fractionBottom b_marks 1 z_26 e_z_26 _ rfl _ rfl) (cV ht mv_X11_refuse tb_543 rfl rfl ⟨Nat.le_of_ble_eq_true rfl, Nat.le_of_ble_eq_true rfl⟩) hP hS hX [0] rfl rfl rfl rfl rfl rfl hl.1 rfl (Nat.le_of_ble_eq_true rfl) dX11_veto_13 ⟨Nat.le_of_ble_eq_true rfl, Nat.le_of_ble_eq_true rfl⟩ (fun H locs hP hS => ?_)
    have hP : PD D A [bl_X11 cy A_b r_b_trays (A_a 0) r_b_war r_b_draftArmy r_b_draftWar r_b_reader r_b_armyReader r_b_warReader r_b_markedArmies r_b_markedWars r_b_latest r_b_trial r_b_foresight r_b_pairs z_26.2 b_fractionTop b_fractionBottom b_marks, bl_X0 cy A_a a_name a_courage a_weight a_medals a_stood a_fled a_liked a_votes a_count a_living a_pride a_quota a_melted a_lost] H := hP
    cases h
    subst hW1
    exact W.iret hx hb hr (fun _ ht9 _ => ⟨⟨_, (), rfl, rfl, hPt ht9 hP.1⟩, hS.F ht9⟩) hS.2.2 dX11_veto_16
theorem dX11_ordersRefusal_0 : decode cX11_ordersRefusal 0 = .ok (.aload_n 0, 1) := by decide +kernel
theorem dX11_ordersRefusal_1 : decode cX11_ordersRefusal 1 = .ok (.getfield 29, 3) := by decide +kernel
theorem dX11_ordersRefusal_4 : decode cX11_ordersRefusal 4 = .ok (.iload_n 1, 1) := by decide +kernel
theorem dX11_ordersRefusal_5 : decode cX11_ordersRefusal 5 = .ok (.invokevirtual 248, 3) := by decide +kernel
theorem dX11_ordersRefusal_8 : decode cX11_ordersRefusal 8 = .ok (.ifCond .eq 16, 3) := by decide +kernel
theorem dX11_ordersRefusal_11 : decode cX11_ordersRefusal 11 = .ok (.aload_n 2, 1) := by decide +kernel
theorem dX11_ordersRefusal_12 : decode cX11_ordersRefusal 12 = .ok (.ifnull 12, 3) := by decide +kernel
theorem dX11_ordersRefusal_15 : decode cX11_ordersRefusal 15 = .ok (.iload_n 3, 1) := by decide +kernel
theorem dX11_ordersRefusal_16 : decode cX11_ordersRefusal 16 = .ok (.iconst 1, 1) := by decide +kernel
theorem dX11_ordersRefusal_17 : decode cX11_ordersRefusal 17 = .ok (.iconst 4, 1) := by decide +kernel
theorem dX11_ordersRefusal_18 : decode cX11_ordersRefusal 18 = .ok (.invokestatic 115, 3) := by decide +kernel
theorem dX11_ordersRefusal_21 : decode cX11_ordersRefusal 21 = .ok (.ifCond .ne 5, 3) := by decide +kernel
theorem dX11_ordersRefusal_24 : decode cX11_ordersRefusal 24 = .ok (.iconst 1, 1) := by decide +kernel
theorem dX11_ordersRefusal_25 : decode cX11_ordersRefusal 25 = .ok (.ireturn, 1) := by decide +kernel
theorem dX11_ordersRefusal_26 : decode cX11_ordersRefusal 26 = .ok (.aload_n 2, 1) := by decide +kernel
theorem dX11_ordersRefusal_27 : decode cX11_ordersRefusal 27 = .ok (.iload_n 3, 1) := by decide +kernel
theorem dX11_ordersRefusal_28 : decode cX11_ordersRefusal 28 = .ok (.iconst 1, 1) := by decide +kernel
theorem dX11_ordersRefusal_29 : decode cX11_ordersRefusal 29 = .ok (.invokevirtual 419, 3) := by decide +kernel
theorem dX11_ordersRefusal_32 : decode cX11_ordersRefusal 32 = .ok (.istore 4, 2) := by decide +kernel
theorem dX11_ordersRefusal_34 : decode cX11_ordersRefusal 34 = .ok (.iload 4, 2) := by decide +kernel
theorem dX11_ordersRefusal_36 : decode cX11_ordersRefusal 36 = .ok (.ifCond .eq 6, 3) := by decide +kernel
theorem dX11_ordersRefusal_39 : decode cX11_ordersRefusal 39 = .ok (.iload 4, 2) := by decide +kernel
theorem dX11_ordersRefusal_41 : decode cX11_ordersRefusal 41 = .ok (.ireturn, 1) := by decide +kernel
theorem dX11_ordersRefusal_42 : decode cX11_ordersRefusal 42 = .ok (.aload_n 0, 1) := by decide +kernel
theorem dX11_ordersRefusal_43 : decode cX11_ordersRefusal 43 = .ok (.getfield 29, 3) := by decide +kernel
theorem dX11_ordersRefusal_46 : decode cX11_ordersRefusal 46 = .ok (.iload_n 1, 1) := by decide +kernel
theorem dX11_ordersRefusal_47 : decode cX11_ordersRefusal 47 = .ok (.invokevirtual 257, 3) := by decide +kernel
theorem dX11_ordersRefusal_50 : decode cX11_ordersRefusal 50 = .ok (.ifCond .eq 7, 3) := by decide +kernel
theorem dX11_ordersRefusal_53 : decode cX11_ordersRefusal 53 = .ok (.iconst 0, 1) := by decide +kernel
theorem dX11_ordersRefusal_54 : decode cX11_ordersRefusal 54 = .ok (.goto 5, 3) := by decide +kernel
theorem dX11_ordersRefusal_57 : decode cX11_ordersRefusal 57 = .ok (.bipush 7, 2) := by decide +kernel
theorem dX11_ordersRefusal_59 : decode cX11_ordersRefusal 59 = .ok (.ireturn, 1) := by decide +kernel
theorem mv_X11_ordersRefusal : MV yX11_ordersRefusal RX11 cX11_ordersRefusal 5 (some .int) 3 := ⟨tb_984, tb_983, ts_21, tb_1, by decide +kernel, by decide +kernel, by decide +kernel⟩
def f_X11_ordersRefusal (fu : Nat) (y_row : Nat → Int64) (y_missing : Int32) (y_many : Int32) (a_count : Int32) (a_living : Int32) (x1 : Int32) (x3 : Int32) : Option (Int32) := (f_X0_isMan fu a_count x1).bind fun z_9 => (if z_9 = 0 then some (1) else (f_X11_within fu x3 1 4).bind fun z_11 => (if z_11 = 0 then some (1) else (f_X8_sizesRefusal fu y_row y_missing y_many x3 1).bind fun z_13 => (if z_13 = 0 then (f_X0_lives fu a_count a_living x1).bind fun z_15 => (if z_15 = 0 then some (7) else some (0)) else some (z_13))))
abbrev rm_X11_ordersRefusal : Room := { frames := 3, cells := 0, slots := 0, locals := 68 }
set_option maxHeartbeats 4000000 in
set_option maxRecDepth 100000 in
theorem c_X11_ordersRefusal (l : Launch) (D : va_G) (cy : Nat → ClassId) (fu : Nat) (A_b : Nat → Nat) (r_b_trays : Nat) (r_b_war : Nat) (r_b_draftArmy : Nat) (r_b_draftWar : Nat) (r_b_reader : Nat) (r_b_armyReader : Nat) (r_b_warReader : Nat) (r_b_markedArmies : Nat) (r_b_markedWars : Nat) (r_b_latest : Nat) (r_b_trial : Nat) (r_b_foresight : Nat) (r_b_pairs : Nat) (b_latestStatus : Int32) (b_fractionTop : Int64) (b_fractionBottom : Int64) (b_marks : Int32) (A_y : Nat → Nat) (y_row : Nat → Int64) (y_missing : Int32) (y_sort : Int32) (y_many : Int32) (A_a : Nat → Nat) (a_name : Nat → Int64) (a_courage : Nat → Int32) (a_weight : Nat → Int32) (a_medals : Nat → Int32) (a_stood : Nat → Int32) (a_fled : Nat → Int32) (a_liked : Nat → Int32) (a_votes : Nat → Int32) (a_count : Int32) (a_living : Int32) (a_pride : Int32) (a_quota : Int32) (a_melted : Int32) (a_lost : Int32) (x1 : Int32) (x3 : Int32) (res : Int32) (h : f_X11_ordersRefusal fu y_row y_missing y_many a_count a_living x1 x3 = some res) : Met l yX11_ordersRefusal (WW yX11_ordersRefusal cX11_ordersRefusal 5 (some .int)) rm_X11_ordersRefusal (Rd D cy [.ref (A_b 0), .int x1, .ref (A_y 0), .int x3] [bl_X11 cy A_b r_b_trays (A_a 0) r_b_war r_b_draftArmy r_b_draftWar r_b_reader r_b_armyReader r_b_warReader r_b_markedArmies r_b_markedWars r_b_latest r_b_trial r_b_foresight r_b_pairs b_latestStatus b_fractionTop b_fractionBottom b_marks, bl_X8 cy A_y y_row y_missing y_sort y_many, bl_X0 cy A_a a_name a_courage a_weight a_medals a_stood a_fled a_liked a_votes a_count a_living a_pride a_quota a_melted a_lost]) (vp_Si (fun v => v = res)) 0 0 (fun _ => False) := by
  refine Met.ofW (cc := cX11_ordersRefusal) (maxL := 5) (ret := (some .int)) (by decide) rfl ?_
  intro p e s m args below meth c s₁ B hml hv
  obtain ⟨hargs, hP, hX⟩ := hv
  have hx := B.exec
  have hb := B.bytes
  have hr := B.returns
  have ht : ∀ w ∈ lw_gd, w.before args s = true := fun w hw => atoms_spec (ws := WW yX11_ordersRefusal cX11_ordersRefusal 5 (some .int)) B.pre w (List.mem_cons_of_mem _ hw)
  have hown : s.vm.findClass RX11 = some m.cls := findClass_of_methodNamed B.named
  have hlocks := B.notSynchronized
  have hP : PB D [bl_X11 cy A_b r_b_trays (A_a 0) r_b_war r_b_draftArmy r_b_draftWar r_b_reader r_b_armyReader r_b_warReader r_b_markedArmies r_b_markedWars r_b_latest r_b_trial r_b_foresight r_b_pairs b_latestStatus b_fractionTop b_fractionBottom b_marks, bl_X8 cy A_y y_row y_missing y_sort y_many, bl_X0 cy A_a a_name a_courage a_weight a_medals a_stood a_fled a_liked a_votes a_count a_living a_pride a_quota a_melted a_lost] s.heap := hP
  obtain ⟨ls, hl, hent⟩ := ent (m := m) (n := 5) hargs (Nat.le_of_ble_eq_true rfl) (lv := [(0, .ref (A_b 0)), (1, .int x1), (2, .ref (A_y 0)), (3, .int x3)]) rfl
  rw [hent]
  clear hent
  unfold f_X11_ordersRefusal at h
  refine lv_aload_n hx hb dX11_ordersRefusal_0 rfl (lv_at hl 0 rfl) ?_
  refine xget (i := 0) (j := 0) (k := 4) (T := TX11) hx hb ht tb_iX11 hown hX hP rfl rfl rfl (by decide) tb_433 rfl dX11_ordersRefusal_1 ?_
  refine lv_iload_n hx hb dX11_ordersRefusal_4 rfl (lv_at hl 1 rfl) ?_
  obtain ⟨z_9, e_z_9, h⟩ := bi h
  refine roVi (rest := []) ⟨hx, hb, hml, hown, ht⟩ (c_X0_isMan l D cy fu A_a a_name a_courage a_weight a_medals a_stood a_fled a_liked a_votes a_count a_living a_pride a_quota a_melted a_lost x1 z_9 e_z_9) (cV ht mv_X0_isMan tb_774 rfl rfl ⟨Nat.le_of_ble_eq_true rfl, Nat.le_of_ble_eq_true rfl⟩) (P_sub hP [2] rfl) hX rfl rfl rfl hl.1 rfl (Nat.le_of_ble_eq_true rfl) dX11_ordersRefusal_5 ⟨Nat.le_of_ble_eq_true rfl, Nat.le_of_ble_eq_true rfl⟩ ?_
  refine lv_if_eq (tgt := 24) hx hb dX11_ordersRefusal_8 (by decide) (fun c_10 => ?_) (fun c_10 => ?_)
  · have h := it c_10 h
    refine lv_iconst (v := 1) hx hb dX11_ordersRefusal_24 (by decide) ?_
    cases h
    exact W.iret hx hb hr (fun _ ht9 _ => ⟨_, rfl, rfl, ht9⟩) (fun _ hq => by cases hq) dX11_ordersRefusal_25
  · have h := ie c_10 h
    refine lv_aload_n hx hb dX11_ordersRefusal_11 rfl (lv_at hl 2 rfl) ?_
    refine lv_ifnull hx hb dX11_ordersRefusal_12 ?_
    refine lv_iload_n hx hb dX11_ordersRefusal_15 rfl (lv_at hl 3 rfl) ?_
    refine lv_iconst (v := 1) hx hb dX11_ordersRefusal_16 (by decide) ?_
    refine lv_iconst (v := 4) hx hb dX11_ordersRefusal_17 (by decide) ?_
    obtain ⟨z_11, e_z_11, h⟩ := bi h
    refine roSi (rest := []) ⟨hx, hb, hml, hown, ht⟩ (c_X11_within l D cy fu  x3 1 4 z_11 e_z_11) (cS ht ms_X11_within tb_504 rfl rfl ⟨Nat.le_of_ble_eq_true rfl, Nat.le_of_ble_eq_true rfl⟩) (P_sub hP [] rfl) hX rfl hl.1 rfl (Nat.le_of_ble_eq_true rfl) dX11_ordersRefusal_18 ⟨Nat.le_of_ble_eq_true rfl, Nat.le_of_ble_eq_true rfl⟩ ?_
    refine lv_if_ne (tgt := 26) hx hb dX11_ordersRefusal_21 (by decide) (fun c_12 => ?_) (fun c_12 => ?_)
    · have h := ie c_12 h
      refine lv_aload_n hx hb dX11_ordersRefusal_26 rfl (lv_at hl 2 rfl) ?_
      refine lv_iload_n hx hb dX11_ordersRefusal_27 rfl (lv_at hl 3 rfl) ?_
      refine lv_iconst (v := 1) hx hb dX11_ordersRefusal_28 (by decide) ?_
      obtain ⟨z_13, e_z_13, h⟩ := bi h
      refine roVi (rest := []) ⟨hx, hb, hml, hown, ht⟩ (c_X8_sizesRefusal l D cy fu A_y y_row y_missing y_sort y_many x3 1 z_13 e_z_13) (cV ht mv_X8_sizesRefusal tb_985 rfl rfl ⟨Nat.le_of_ble_eq_true rfl, Nat.le_of_ble_eq_true rfl⟩) (P_sub hP [1] rfl) hX rfl rfl rfl hl.1 rfl (Nat.le_of_ble_eq_true rfl) dX11_ordersRefusal_29 ⟨Nat.le_of_ble_eq_true rfl, Nat.le_of_ble_eq_true rfl⟩ ?_
      refine lv_istore (lv' := [(4, .int z_13), (0, .ref (A_b 0)), (1, .int x1), (2, .ref (A_y 0)), (3, .int x3)]) hx hb dX11_ordersRefusal_32 hl (by decide) rfl (fun ls hl => ?_)
      refine lv_iload hx hb dX11_ordersRefusal_34 (lv_at hl 0 rfl) ?_
      refine lv_if_eq (tgt := 42) hx hb dX11_ordersRefusal_36 (by decide) (fun c_14 => ?_) (fun c_14 => ?_)
      · have h := it c_14 h
        refine lv_aload_n hx hb dX11_ordersRefusal_42 rfl (lv_at hl 1 rfl) ?_
        refine xget (i := 0) (j := 0) (k := 4) (T := TX11) hx hb ht tb_iX11 hown hX hP rfl rfl rfl (by decide) tb_433 rfl dX11_ordersRefusal_43 ?_
        refine lv_iload_n hx hb dX11_ordersRefusal_46 rfl (lv_at hl 2 rfl) ?_
        obtain ⟨z_15, e_z_15, h⟩ := bi h
        refine roVi (rest := []) ⟨hx, hb, hml, hown, ht⟩ (c_X0_lives l D cy fu A_a a_name a_courage a_weight a_medals a_stood a_fled a_liked a_votes a_count a_living a_pride a_quota a_melted a_lost x1 z_15 e_z_15) (cV ht mv_X0_lives tb_775 rfl rfl ⟨Nat.le_of_ble_eq_true rfl, Nat.le_of_ble_eq_true rfl⟩) (P_sub hP [2] rfl) hX rfl rfl rfl hl.1 rfl (Nat.le_of_ble_eq_true rfl) dX11_ordersRefusal_47 ⟨Nat.le_of_ble_eq_true rfl, Nat.le_of_ble_eq_true rfl⟩ ?_
        refine lv_if_eq (tgt := 57) hx hb dX11_ordersRefusal_50 (by decide) (fun c_16 => ?_) (fun c_16 => ?_)
        · have h := it c_16 h
          refine lv_bipush (v := 7) hx hb dX11_ordersRefusal_57 (by decide) ?_
          cases h
          exact W.iret hx hb hr (fun _ ht9 _ => ⟨_, rfl, rfl, ht9⟩) (fun _ hq => by cases hq) dX11_ordersRefusal_59
        · have h := ie c_16 h
          refine lv_iconst (v := 0) hx hb dX11_ordersRefusal_53 (by decide) ?_
          refine lv_goto (tgt := 59) hx hb dX11_ordersRefusal_54 (by decide) ?_
          cases h
          exact W.iret hx hb hr (fun _ ht9 _ => ⟨_, rfl, rfl, ht9⟩) (fun _ hq => by cases hq) dX11_ordersRefusal_59
      · have h := ie c_14 h
        refine lv_iload hx hb dX11_ordersRefusal_39 (lv_at hl 0 rfl) ?_
        cases h
        exact W.iret hx hb hr (fun _ ht9 _ => ⟨_, rfl, rfl, ht9⟩) (fun _ hq => by cases hq) dX11_ordersRefusal_41
    · have h := it c_12 h
      refine lv_iconst (v := 1) hx hb dX11_ordersRefusal_24 (by decide) ?_
      cases h
      exact W.iret hx hb hr (fun _ ht9 _ => ⟨_, rfl, rfl, ht9⟩) (fun _ hq => by cases hq) dX11_ordersRefusal_25
theorem dX4_look_0 : decode cX4_look 0 = .ok (.aload_n 0, 1) := by decide +kernel
theorem dX4_look_1 : decode cX4_look 1 = .ok (.getfield 12, 3) := by decide +kernel
theorem dX4_look_4 : decode cX4_look 4 = .ok (.aload_n 1, 1) := by decide +kernel
theorem dX4_look_5 : decode cX4_look 5 = .ok (.invokevirtual 26, 3) := by decide +kernel
theorem dX4_look_8 : decode cX4_look 8 = .ok (.aload_n 0, 1) := by decide +kernel
theorem dX4_look_9 : decode cX4_look 9 = .ok (.aload_n 2, 1) := by decide +kernel
theorem dX4_look_10 : decode cX4_look 10 = .ok (.ifnonnull 7, 3) := by decide +kernel
theorem dX4_look_13 : decode cX4_look 13 = .ok (.iconst 0, 1) := by decide +kernel
theorem dX4_look_14 : decode cX4_look 14 = .ok (.goto 12, 3) := by decide +kernel
theorem dX4_look_17 : decode cX4_look 17 = .ok (.iconst 0, 1) := by decide +kernel
theorem dX4_look_18 : decode cX4_look 18 = .ok (.iload_n 3, 1) := by decide +kernel
theorem dX4_look_19 : decode cX4_look 19 = .ok (.iconst 4, 1) := by decide +kernel
theorem dX4_look_20 : decode cX4_look 20 = .ok (.invokestatic 30, 3) := by decide +kernel
theorem dX4_look_23 : decode cX4_look 23 = .ok (.invokestatic 36, 3) := by decide +kernel
theorem dX4_look_26 : decode cX4_look 26 = .ok (.putfield 22, 3) := by decide +kernel
theorem dX4_look_29 : decode cX4_look 29 = .ok (.iconst 0, 1) := by decide +kernel
theorem dX4_look_30 : decode cX4_look 30 = .ok (.istore 4, 2) := by decide +kernel
theorem dX4_look_32 : decode cX4_look 32 = .ok (.iload 4, 2) := by decide +kernel
theorem dX4_look_34 : decode cX4_look 34 = .ok (.aload_n 0, 1) := by decide +kernel
theorem dX4_look_35 : decode cX4_look 35 = .ok (.getfield 22, 3) := by decide +kernel
theorem dX4_look_38 : decode cX4_look 38 = .ok (.if_icmp .ge 23, 3) := by decide +kernel
theorem dX4_look_41 : decode cX4_look 41 = .ok (.aload_n 0, 1) := by decide +kernel
theorem dX4_look_42 : decode cX4_look 42 = .ok (.getfield 18, 3) := by decide +kernel
theorem dX4_look_45 : decode cX4_look 45 = .ok (.iload 4, 2) := by decide +kernel
theorem dX4_look_47 : decode cX4_look 47 = .ok (.aload_n 2, 1) := by decide +kernel
theorem dX4_look_48 : decode cX4_look 48 = .ok (.iload 4, 2) := by decide +kernel
theorem dX4_look_50 : decode cX4_look 50 = .ok (.invokevirtual 39, 3) := by decide +kernel
theorem dX4_look_53 : decode cX4_look 53 = .ok (.l2i, 1) := by decide +kernel
theorem dX4_look_54 : decode cX4_look 54 = .ok (.iastore, 1) := by decide +kernel
theorem dX4_look_55 : decode cX4_look 55 = .ok (.iinc 4 1, 3) := by decide +kernel
theorem dX4_look_58 : decode cX4_look 58 = .ok (.goto (-26), 3) := by decide +kernel
theorem dX4_look_61 : decode cX4_look 61 = .ok (.return_, 1) := by decide +kernel
theorem mv_X4_look : MV yX4_look RX4 cX4_look 5 none 3 := ⟨tb_994, tb_992, tb_993, tb_13, by decide +kernel, by decide +kernel, by decide +kernel⟩
def f_X4_look_b32 (fu : Nat) (o_name : Nat → Int64) (o_courage : Nat → Int32) (o_weight : Nat → Int32) (o_medals : Nat → Int32) (o_stood : Nat → Int32) (o_fled : Nat → Int32) (o_liked : Nat → Int32) (o_count : Int32) (o_living : Int32) (o_pride : Int32) (o_quota : Int32) (o_melted : Int32) (o_lost : Int32) (y_row : Nat → Int64) (y_many : Int32) (x3 : Int32) (k32 : (Nat → Int32) → Int32 → (Nat → Int64) → (Nat → Int32) → (Nat → Int32) → (Nat → Int32) → (Nat → Int32) → (Nat → Int32) → (Nat → Int32) → Int32 → Int32 → Int32 → Int32 → Int32 → Int32 → Int32 → (Option ((Nat → Int32) × Int32 × (Nat → Int64) × (Nat → Int32) × (Nat → Int32) × (Nat → Int32) × (Nat → Int32) × (Nat → Int32) × (Nat → Int32) × Int32 × Int32 × Int32 × Int32 × Int32 × Int32))) (f_sizes : Nat → Int32) (f_dangers : Int32) (a_name : Nat → Int64) (a_courage : Nat → Int32) (a_weight : Nat → Int32) (a_medals : Nat → Int32) (a_stood : Nat → Int32) (a_fled : Nat → Int32) (a_liked : Nat → Int32) (a_count : Int32) (a_living : Int32) (a_pride : Int32) (a_quota : Int32) (a_melted : Int32) (a_lost : Int32) (x4 : Int32) : Option ((Nat → Int32) × Int32 × (Nat → Int64) × (Nat → Int32) × (Nat → Int32) × (Nat → Int32) × (Nat → Int32) × (Nat → Int32) × (Nat → Int32) × Int32 × Int32 × Int32 × Int32 × Int32 × Int32) := (if f_dangers ≤ x4 then some (f_sizes, f_dangers, a_name, a_courage, a_weight, a_medals, a_stood, a_fled, a_liked, a_count, a_living, a_pride, a_quota, a_melted, a_lost) else (f_X8_at fu y_row y_many x4).bind fun z_8 => (wrI f_sizes 4 x4 (Int64.toInt32 z_8)).bind fun f_sizes_9 => bnd (x4 + 1) fun x4_10 => k32 f_sizes_9 f_dangers a_name a_courage a_weight a_medals a_stood a_fled a_liked a_count a_living a_pride a_quota a_melted a_lost x4_10)
def f_X4_look_l32 (fu : Nat) (o_name : Nat → Int64) (o_courage : Nat → Int32) (o_weight : Nat → Int32) (o_medals : Nat → Int32) (o_stood : Nat → Int32) (o_fled : Nat → Int32) (o_liked : Nat → Int32) (o_count : Int32) (o_living : Int32) (o_pride : Int32) (o_quota : Int32) (o_melted : Int32) (o_lost : Int32) (y_row : Nat → Int64) (y_many : Int32) (x3 : Int32) : Nat → (Nat → Int32) → Int32 → (Nat → Int64) → (Nat → Int32) → (Nat → Int32) → (Nat → Int32) → (Nat → Int32) → (Nat → Int32) → (Nat → Int32) → Int32 → Int32 → Int32 → Int32 → Int32 → Int32 → Int32 → (Option ((Nat → Int32) × Int32 × (Nat → Int64) × (Nat → Int32) × (Nat → Int32) × (Nat → Int32) × (Nat → Int32) × (Nat → Int32) × (Nat → Int32) × Int32 × Int32 × Int32 × Int32 × Int32 × Int32))
  | 0, _, _, _, _, _, _, _, _, _, _, _, _, _, _, _, _ => none
  | n + 1, f_sizes, f_dangers, a_name, a_courage, a_weight, a_medals, a_stood, a_fled, a_liked, a_count, a_living, a_pride, a_quota, a_melted, a_lost, x4 => f_X4_look_b32 fu o_name o_courage o_weight o_medals o_stood o_fled o_liked o_count o_living o_pride o_quota o_melted o_lost y_row y_many x3 (f_X4_look_l32 fu o_name o_courage o_weight o_medals o_stood o_fled o_liked o_count o_living o_pride o_quota o_melted o_lost y_row y_many x3 n) f_sizes f_dangers a_name a_courage a_weight a_medals a_stood a_fled a_liked a_count a_living a_pride a_quota a_melted a_lost x4
def f_X4_look (fu : Nat) (f_sizes : Nat → Int32) (f_dangers : Int32) (a_name : Nat → Int64) (a_courage : Nat → Int32) (a_weight : Nat → Int32) (a_medals : Nat → Int32) (a_stood : Nat → Int32) (a_fled : Nat → Int32) (a_liked : Nat → Int32) (a_count : Int32) (a_living : Int32) (a_pride : Int32) (a_quota : Int32) (a_melted : Int32) (a_lost : Int32) (o_name : Nat → Int64) (o_courage : Nat → Int32) (o_weight : Nat → Int32) (o_medals : Nat → Int32) (o_stood : Nat → Int32) (o_fled : Nat → Int32) (o_liked : Nat → Int32) (o_count : Int32) (o_living : Int32) (o_pride : Int32) (o_quota : Int32) (o_melted : Int32) (o_lost : Int32) (y_row : Nat → Int64) (y_many : Int32) (x3 : Int32) : Option ((Nat → Int32) × Int32 × (Nat → Int64) × (Nat → Int32) × (Nat → Int32) × (Nat → Int32) × (Nat → Int32) × (Nat → Int32) × (Nat → Int32) × Int32 × Int32 × Int32 × Int32 × Int32 × Int32) := (f_X0_become fu a_name a_courage a_weight a_medals a_stood a_fled a_liked a_count a_living a_pride a_quota a_melted a_lost o_name o_courage o_weight o_medals o_stood o_fled o_liked o_count o_living o_pride o_quota o_melted o_lost).bind fun z_11 => bnd (if 0 < (if 4 < x3 then 4 else x3) then (if 4 < x3 then 4 else x3) else 0) fun f_dangers_12 => f_X4_look_l32 fu o_name o_courage o_weight o_medals o_stood o_fled o_liked o_count o_living o_pride o_quota o_melted o_lost y_row y_many x3 fu f_sizes f_dangers_12 z_11.1 z_11.2.1 z_11.2.2.1 z_11.2.2.2.1 z_11.2.2.2.2.1 z_11.2.2.2.2.2.1 z_11.2.2.2.2.2.2.1 z_11.2.2.2.2.2.2.2.1 z_11.2.2.2.2.2.2.2.2.1 z_11.2.2.2.2.2.2.2.2.2.1 z_11.2.2.2.2.2.2.2.2.2.2.1 z_11.2.2.2.2.2.2.2.2.2.2.2.1 z_11.2.2.2.2.2.2.2.2.2.2.2.2 0
abbrev rm_X4_look : Room := { frames := 2, cells := 0, slots := 0, locals := 81 }
set_option maxHeartbeats 4000000 in
set_option maxRecDepth 100000 in
theorem c_X4_look (l : Launch) (D : va_G) (cy : Nat → ClassId) (fu : Nat) (A_f : Nat → Nat) (f_sizes : Nat → Int32) (f_dangers : Int32) (A_a : Nat → Nat) (a_name : Nat → Int64) (a_courage : Nat → Int32) (a_weight : Nat → Int32) (a_medals : Nat → Int32) (a_stood : Nat → Int32) (a_fled : Nat → Int32) (a_liked : Nat → Int32) (a_votes : Nat → Int32) (a_count : Int32) (a_living : Int32) (a_pride : Int32) (a_quota : Int32) (a_melted : Int32) (a_lost : Int32) (A_o : Nat → Nat) (o_name : Nat → Int64) (o_courage : Nat → Int32) (o_weight : Nat → Int32) (o_medals : Nat → Int32) (o_stood : Nat → Int32) (o_fled : Nat → Int32) (o_liked : Nat → Int32) (o_votes : Nat → Int32) (o_count : Int32) (o_living : Int32) (o_pride : Int32) (o_quota : Int32) (o_melted : Int32) (o_lost : Int32) (A_y : Nat → Nat) (y_row : Nat → Int64) (y_missing : Int32) (y_sort : Int32) (y_many : Int32) (x3 : Int32) (res : (Nat → Int32) × Int32 × (Nat → Int64) × (Nat → Int32) × (Nat → Int32) × (Nat → Int32) × (Nat → Int32) × (Nat → Int32) × (Nat → Int32) × Int32 × Int32 × Int32 × Int32 × Int32 × Int32) (h : f_X4_look fu f_sizes f_dangers a_name a_courage a_weight a_medals a_stood a_fled a_liked a_count a_living a_pride a_quota a_melted a_lost o_name o_courage o_weight o_medals o_stood o_fled o_liked o_count o_living o_pride o_quota o_melted o_lost y_row y_many x3 = some res) (A : Nat → Prop) (hA : A = adr [bl_X4 cy A_f (A_a 0) f_sizes f_dangers, bl_X0 cy A_a a_name a_courage a_weight a_medals a_stood a_fled a_liked a_votes a_count a_living a_pride a_quota a_melted a_lost, bl_X0 cy A_o o_name o_courage o_weight o_medals o_stood o_fled o_liked o_votes o_count o_living o_pride o_quota o_melted o_lost, bl_X8 cy A_y y_row y_missing y_sort y_many]) (W1 : List va_W) (hW1 : W1 = [bl_X4 cy A_f (A_a 0) res.1 res.2.1, bl_X0 cy A_a res.2.2.1 res.2.2.2.1 res.2.2.2.2.1 res.2.2.2.2.2.1 res.2.2.2.2.2.2.1 res.2.2.2.2.2.2.2.1 res.2.2.2.2.2.2.2.2.1 a_votes res.2.2.2.2.2.2.2.2.2.1 res.2.2.2.2.2.2.2.2.2.2.1 res.2.2.2.2.2.2.2.2.2.2.2.1 res.2.2.2.2.2.2.2.2.2.2.2.2.1 res.2.2.2.2.2.2.2.2.2.2.2.2.2.1 res.2.2.2.2.2.2.2.2.2.2.2.2.2.2, bl_X0 cy A_o o_name o_courage o_weight o_medals o_stood o_fled o_liked o_votes o_count o_living o_pride o_quota o_melted o_lost, bl_X8 cy A_y y_row y_missing y_sort y_many]) : Met l yX4_look (WW yX4_look cX4_look 5 none) rm_X4_look (Ed D cy [.ref (A_f 0), .ref (A_o 0), .ref (A_y 0), .int x3] [bl_X4 cy A_f (A_a 0) f_sizes f_dangers, bl_X0 cy A_a a_name a_courage a_weight a_medals a_stood a_fled a_liked a_votes a_count a_living a_pride a_quota a_melted a_lost, bl_X0 cy A_o o_name o_courage o_weight o_medals o_stood o_fled o_liked o_votes o_count o_living o_pride o_quota o_melted o_lost, bl_X8 cy A_y y_row y_missing y_sort y_many]) (Qev D A W1) 0 0 A := by
  refine Met.ofW (cc := cX4_look) (maxL := 5) (ret := none) (by decide) rfl ?_
  intro p e s m args below meth c s₁ B hml hv
  obtain ⟨hargs, hP, hX, hD0⟩ := hv
  have hx := B.exec
  have hb := B.bytes
  have hr := B.returns
  have ht : ∀ w ∈ lw_gd, w.before args s = true := fun w hw => atoms_spec (ws := WW yX4_look cX4_look 5 none) B.pre w (List.mem_cons_of_mem _ hw)
  have hown : s.vm.findClass RX4 = some m.cls := findClass_of_methodNamed B.named
  have hlocks := B.notSynchronized
  have hP : PD D A [bl_X4 cy A_f (A_a 0) f_sizes f_dangers, bl_X0 cy A_a a_name a_courage a_weight a_medals a_stood a_fled a_liked a_votes a_count a_living a_pride a_quota a_melted a_lost, bl_X0 cy A_o o_name o_courage o_weight o_medals o_stood o_fled o_liked o_votes o_count o_living o_pride o_quota o_melted o_lost, bl_X8 cy A_y y_row y_missing y_sort y_many] s.heap := ⟨hP, by rw [hA]; exact hD0.own⟩
  have hS : va_S A s.heap s.heap [] := va_S.rf
  obtain ⟨ls, hl, hent⟩ := ent (m := m) (n := 5) hargs (Nat.le_of_ble_eq_true rfl) (lv := [(0, .ref (A_f 0)), (1, .ref (A_o 0)), (2, .ref (A_y 0)), (3, .int x3)]) rfl
  rw [hent]
  clear hent
  have l32 : ∀ (n32 : Nat) (f_sizes : Nat → Int32) (f_dangers : Int32) (a_name : Nat → Int64) (a_courage : Nat → Int32) (a_weight : Nat → Int32) (a_medals : Nat → Int32) (a_stood : Nat → Int32) (a_fled : Nat → Int32) (a_liked : Nat → Int32) (a_count : Int32) (a_living : Int32) (a_pride : Int32) (a_quota : Int32) (a_melted : Int32) (a_lost : Int32) (x4 : Int32) (H : Heap) (locs : List Loc) (_ : PD D A [bl_X4 cy A_f (A_a 0) f_sizes f_dangers, bl_X0 cy A_a a_name a_courage a_weight a_medals a_stood a_fled a_liked a_votes a_count a_living a_pride a_quota a_melted a_lost, bl_X0 cy A_o o_name o_courage o_weight o_medals o_stood o_fled o_liked o_votes o_count o_living o_pride o_quota o_melted o_lost, bl_X8 cy A_y y_row y_missing y_sort y_many] H) (_ : va_S A s.heap H locs) (ls : Array Slot), lv_has ls 5 [(0, .ref (A_f 0)), (2, .ref (A_y 0)), (4, .int x4)] → f_X4_look_l32 fu o_name o_courage o_weight o_medals o_stood o_fled o_liked o_count o_living o_pride o_quota o_melted o_lost y_row y_many x3 n32 f_sizes f_dangers a_name a_courage a_weight a_medals a_stood a_fled a_liked a_count a_living a_pride a_quota a_melted a_lost x4 = some res → W p l e (headSpec (WW yX4_look cX4_look 5 none) rm_X4_look).room s m args below meth c H locs 0 0 (MQ below (Qev D A W1) args s 0 0 A) (F0 m 32 ls []) := by
    intro n32
    induction n32 with
    | zero => intro f_sizes f_dangers a_name a_courage a_weight a_medals a_stood a_fled a_liked a_count a_living a_pride a_quota a_melted a_lost x4 H locs hP hS ls hl h; cases h
    | succ n32 ih32 =>
      intro f_sizes f_dangers a_name a_courage a_weight a_medals a_stood a_fled a_liked a_count a_living a_pride a_quota a_melted a_lost x4 H locs hP hS ls hl h
      have h : f_X4_look_b32 fu o_name o_courage o_weight o_medals o_stood o_fled o_liked o_count o_living o_pride o_quota o_melted o_lost y_row y_many x3 (f_X4_look_l32 fu o_name o_courage o_weight o_medals o_stood o_fled o_liked o_count o_living o_pride o_quota o_melted o_lost y_row y_many x3 n32) f_sizes f_dangers a_name a_courage a_weight a_medals a_stood a_fled a_liked a_count a_living a_pride a_quota a_melted a_lost x4 = some res := h
      unfold f_X4_look_b32 at h
      refine lv_iload hx hb dX4_look_32 (lv_at hl 2 rfl) ?_
      refine lv_aload_n hx hb dX4_look_34 rfl (lv_at hl 0 rfl) ?_
      refine xget (i := 0) (j := 0) (k := 2) (T := TX4) hx hb ht tb_iX4 hown hX hP.1 rfl rfl rfl (by decide) tb_370 rfl dX4_look_35 ?_
      refine lv_icmp_ge (tgt := 61) hx hb dX4_look_38 (by decide) (fun c_7 => ?_) (fun c_7 => ?_)
      · have h := it c_7 h
        cases h
        subst hW1
        exact W.vret hx hb hr (fun _ ht9 _ => ⟨⟨(), rfl, trivial, hPt ht9 hP.1⟩, hS.F ht9⟩) hS.2.2 dX4_look_61
      · have h := ie c_7 h
        refine lv_aload_n hx hb dX4_look_41 rfl (lv_at hl 0 rfl) ?_
        refine xget (i := 0) (j := 0) (k := 1) (T := TX4) hx hb ht tb_iX4 hown hX hP.1 rfl rfl rfl (by decide) tb_369 rfl dX4_look_42 ?_
        refine lv_iload hx hb dX4_look_45 (lv_at hl 2 rfl) ?_
        refine lv_aload_n hx hb dX4_look_47 rfl (lv_at hl 1 rfl) ?_
        refine lv_iload hx hb dX4_look_48 (lv_at hl 2 rfl) ?_
        obtain ⟨z_8, e_z_8, h⟩ := bi h
        refine roVl (rest := [.int x4, .ref (A_f 1)]) ⟨hx, hb, hml, hown, ht⟩ (c_X8_at l D cy fu A_y y_row y_missing y_sort y_many x4 z_8 e_z_8) (cV ht mv_X8_at tb_998 rfl rfl ⟨Nat.le_of_ble_eq_true rfl, Nat.le_of_ble_eq_true rfl⟩) (P_sub hP.1 [3] rfl) hX rfl rfl rfl hl.1 rfl (Nat.le_of_ble_eq_true rfl) dX4_look_50 ⟨Nat.le_of_ble_eq_true rfl, Nat.le_of_ble_eq_true rfl⟩ ?_
        refine lv_l2i (v := Int64.toInt32 z_8) hx hb dX4_look_53 rfl ?_
        obtain ⟨f_sizes_9, e_f_sizes_9, h⟩ := bi h
        refine xiast (i0 := 0) (j0 := 1) hx hb hX hP hS rfl rfl e_f_sizes_9 dX4_look_54 (fun H locs hP hS => ?_)
        have hP : PD D A [bl_X4 cy A_f (A_a 0) f_sizes_9 f_dangers, bl_X0 cy A_a a_name a_courage a_weight a_medals a_stood a_fled a_liked a_votes a_count a_living a_pride a_quota a_melted a_lost, bl_X0 cy A_o o_name o_courage o_weight o_medals o_stood o_fled o_liked o_votes o_count o_living o_pride o_quota o_melted o_lost, bl_X8 cy A_y y_row y_missing y_sort y_many] H := hP
        obtain ⟨x4_10, e_x4_10⟩ : ∃ y : Int32, y = x4 + 1 := ⟨_, rfl⟩
        have h := bn e_x4_10 h
        refine lv_iinc (v := x4_10) (lv' := [(4, .int x4_10), (0, .ref (A_f 0)), (2, .ref (A_y 0))]) hx hb dX4_look_55 hl (k := 2) rfl (by rw [e_x4_10]; rfl) (by decide) rfl (fun ls hl => ?_)
        refine lv_goto (tgt := 32) hx hb dX4_look_58 (by decide) ?_
        exact ih32 f_sizes_9 f_dangers a_name a_courage a_weight a_medals a_stood a_fled a_liked a_count a_living a_pride a_quota a_melted a_lost x4_10 _ _ hP hS ls (lv_sub hl [1, 2, 0] rfl) h
  unfold f_X4_look at h
  refine lv_aload_n hx hb dX4_look_0 rfl (lv_at hl 0 rfl) ?_
  refine xget (i := 0) (j := 0) (k := 0) (T := TX4) hx hb ht tb_iX4 hown hX hP.1 rfl rfl rfl (by decide) tb_368 rfl dX4_look_1 ?_
  refine lv_aload_n hx hb dX4_look_4 rfl (lv_at hl 1 rfl) ?_
  obtain ⟨z_11, e_z_11, h⟩ := bi h
  refine efVv (rest := []) ⟨hx, hb, hml, hown, ht⟩ (c_X0_become l D cy fu A_a a_name a_courage a_weight a_medals a_stood a_fled a_liked a_votes a_count a_living a_pride a_quota a_melted a_lost A_o o_name o_courage o_weight o_medals o_stood o_fled o_liked o_votes o_count o_living o_pride o_quota o_melted o_lost z_11 e_z_11 _ rfl _ rfl) (cV ht mv_X0_become tb_995 rfl rfl ⟨Nat.le_of_ble_eq_true rfl, Nat.le_of_ble_eq_true rfl⟩) hP hS hX [1, 2] rfl rfl rfl rfl rfl rfl hl.1 rfl (Nat.le_of_ble_eq_true rfl) dX4_look_5 ⟨Nat.le_of_ble_eq_true rfl, Nat.le_of_ble_eq_true rfl⟩ (fun H locs hP hS => ?_)
  have hP : PD D A [bl_X4 cy A_f (A_a 0) f_sizes f_dangers, bl_X0 cy A_a z_11.1 z_11.2.1 z_11.2.2.1 z_11.2.2.2.1 z_11.2.2.2.2.1 z_11.2.2.2.2.2.1 z_11.2.2.2.2.2.2.1 a_votes z_11.2.2.2.2.2.2.2.1 z_11.2.2.2.2.2.2.2.2.1 z_11.2.2.2.2.2.2.2.2.2.1 z_11.2.2.2.2.2.2.2.2.2.2.1 z_11.2.2.2.2.2.2.2.2.2.2.2.1 z_11.2.2.2.2.2.2.2.2.2.2.2.2, bl_X0 cy A_o o_name o_courage o_weight o_medals o_stood o_fled o_liked o_votes o_count o_living o_pride o_quota o_melted o_lost, bl_X8 cy A_y y_row y_missing y_sort y_many] H := hP
  refine lv_aload_n hx hb dX4_look_8 rfl (lv_at hl 0 rfl) ?_
  refine lv_aload_n hx hb dX4_look_9 rfl (lv_at hl 2 rfl) ?_
  refine lv_ifnonnull (tgt := 17) hx hb dX4_look_10 (by decide) ?_
  refine lv_iconst (v := 0) hx hb dX4_look_17 (by decide) ?_
  refine lv_iload_n hx hb dX4_look_18 rfl (lv_at hl 3 rfl) ?_
  refine lv_iconst (v := 4) hx hb dX4_look_19 (by decide) ?_
  refine va_mmin hx hb (hml.trans hl.1.symm) hown (ht _ tb_996) (ht _ tb_583) (ht _ tb_19) (ht _ tb_584) (Nat.le_of_ble_eq_true rfl) (Nat.le_of_ble_eq_true rfl) (Nat.le_of_ble_eq_true rfl) (Nat.le_of_ble_eq_true rfl) dX4_look_20 ?_
  refine va_mmax hx hb (hml.trans hl.1.symm) hown (ht _ tb_997) (ht _ tb_586) (ht _ tb_19) (ht _ tb_587) (Nat.le_of_ble_eq_true rfl) (Nat.le_of_ble_eq_true rfl) (Nat.le_of_ble_eq_true rfl) (Nat.le_of_ble_eq_true rfl) dX4_look_23 ?_
  refine lv_topi (fun f_dangers_12 e_f_dangers_12 => ?_)
  have h := bn e_f_dangers_12 h
  refine xput (i := 0) (j := 0) (k := 2) (T := TX4) tyX4 tyX4_ok nmX4 hx hb ht tb_iX4 hown hX hP hS rfl rfl rfl (by decide) tb_370 rfl rfl rfl (Nat.le_of_ble_eq_true rfl) dX4_look_26 (fun H locs hP hS => ?_)
  have hP : PD D A [bl_X4 cy A_f (A_a 0) f_sizes f_dangers_12, bl_X0 cy A_a z_11.1 z_11.2.1 z_11.2.2.1 z_11.2.2.2.1 z_11.2.2.2.2.1 z_11.2.2.2.2.2.1 z_11.2.2.2.2.2.2.1 a_votes z_11.2.2.2.2.2.2.2.1 z_11.2.2.2.2.2.2.2.2.1 z_11.2.2.2.2.2.2.2.2.2.1 z_11.2.2.2.2.2.2.2.2.2.2.1 z_11.2.2.2.2.2.2.2.2.2.2.2.1 z_11.2.2.2.2.2.2.2.2.2.2.2.2, bl_X0 cy A_o o_name o_courage o_weight o_medals o_stood o_fled o_liked o_votes o_count o_living o_pride o_quota o_melted o_lost, bl_X8 cy A_y y_row y_missing y_sort y_many] H := hP
  refine lv_iconst (v := 0) hx hb dX4_look_29 (by decide) ?_
  refine lv_istore (lv' := [(4, .int 0), (0, .ref (A_f 0)), (1, .ref (A_o 0)), (2, .ref (A_y 0)), (3, .int x3)]) hx hb dX4_look_30 hl (by decide) rfl (fun ls hl => ?_)
  exact l32 fu f_sizes f_dangers_12 z_11.1 z_11.2.1 z_11.2.2.1 z_11.2.2.2.1 z_11.2.2.2.2.1 z_11.2.2.2.2.2.1 z_11.2.2.2.2.2.2.1 z_11.2.2.2.2.2.2.2.1 z_11.2.2.2.2.2.2.2.2.1 z_11.2.2.2.2.2.2.2.2.2.1 z_11.2.2.2.2.2.2.2.2.2.2.1 z_11.2.2.2.2.2.2.2.2.2.2.2.1 z_11.2.2.2.2.2.2.2.2.2.2.2.2 0 _ _ hP hS ls (lv_sub hl [1, 3, 0] rfl) h
theorem dX4_mostIfStood_0 : decode cX4_mostIfStood 0 = .ok (.aload_n 0, 1) := by decide +kernel
theorem dX4_mostIfStood_1 : decode cX4_mostIfStood 1 = .ok (.getfield 12, 3) := by decide +kernel
theorem dX4_mostIfStood_4 : decode cX4_mostIfStood 4 = .ok (.iload_n 3, 1) := by decide +kernel
theorem dX4_mostIfStood_5 : decode cX4_mostIfStood 5 = .ok (.invokevirtual 66, 3) := by decide +kernel
theorem dX4_mostIfStood_8 : decode cX4_mostIfStood 8 = .ok (.istore 4, 2) := by decide +kernel
theorem dX4_mostIfStood_10 : decode cX4_mostIfStood 10 = .ok (.aload_n 0, 1) := by decide +kernel
theorem dX4_mostIfStood_11 : decode cX4_mostIfStood 11 = .ok (.getfield 12, 3) := by decide +kernel
theorem dX4_mostIfStood_14 : decode cX4_mostIfStood 14 = .ok (.iload 4, 2) := by decide +kernel
theorem dX4_mostIfStood_16 : decode cX4_mostIfStood 16 = .ok (.invokevirtual 69, 3) := by decide +kernel
theorem dX4_mostIfStood_19 : decode cX4_mostIfStood 19 = .ok (.istore 5, 2) := by decide +kernel
theorem dX4_mostIfStood_21 : decode cX4_mostIfStood 21 = .ok (.aload_n 0, 1) := by decide +kernel
theorem dX4_mostIfStood_22 : decode cX4_mostIfStood 22 = .ok (.iload_n 1, 1) := by decide +kernel
theorem dX4_mostIfStood_23 : decode cX4_mostIfStood 23 = .ok (.iload_n 2, 1) := by decide +kernel
theorem dX4_mostIfStood_24 : decode cX4_mostIfStood 24 = .ok (.iconst 1, 1) := by decide +kernel
theorem dX4_mostIfStood_25 : decode cX4_mostIfStood 25 = .ok (.iadd, 1) := by decide +kernel
theorem dX4_mostIfStood_26 : decode cX4_mostIfStood 26 = .ok (.invokevirtual 49, 3) := by decide +kernel
theorem dX4_mostIfStood_29 : decode cX4_mostIfStood 29 = .ok (.istore 6, 2) := by decide +kernel
theorem dX4_mostIfStood_31 : decode cX4_mostIfStood 31 = .ok (.iload 5, 2) := by decide +kernel
theorem dX4_mostIfStood_33 : decode cX4_mostIfStood 33 = .ok (.ifCond .eq 12, 3) := by decide +kernel
theorem dX4_mostIfStood_36 : decode cX4_mostIfStood 36 = .ok (.aload_n 0, 1) := by decide +kernel
theorem dX4_mostIfStood_37 : decode cX4_mostIfStood 37 = .ok (.getfield 12, 3) := by decide +kernel
theorem dX4_mostIfStood_40 : decode cX4_mostIfStood 40 = .ok (.iload 4, 2) := by decide +kernel
theorem dX4_mostIfStood_42 : decode cX4_mostIfStood 42 = .ok (.invokevirtual 82, 3) := by decide +kernel
theorem dX4_mostIfStood_45 : decode cX4_mostIfStood 45 = .ok (.iload 6, 2) := by decide +kernel
theorem dX4_mostIfStood_47 : decode cX4_mostIfStood 47 = .ok (.ireturn, 1) := by decide +kernel
theorem mv_X4_mostIfStood : MV yX4_mostIfStood RX4 cX4_mostIfStood 7 (some .int) 3 := ⟨tb_1012, tb_1011, ts_23, tb_13, by decide +kernel, by decide +kernel, by decide +kernel⟩
theorem dX4_mostFrom_0 : decode cX4_mostFrom 0 = .ok (.iload_n 2, 1) := by decide +kernel
theorem dX4_mostFrom_1 : decode cX4_mostFrom 1 = .ok (.aload_n 0, 1) := by decide +kernel
theorem dX4_mostFrom_2 : decode cX4_mostFrom 2 = .ok (.getfield 22, 3) := by decide +kernel
theorem dX4_mostFrom_5 : decode cX4_mostFrom 5 = .ok (.if_icmp .lt 13, 3) := by decide +kernel
theorem dX4_mostFrom_8 : decode cX4_mostFrom 8 = .ok (.aload_n 0, 1) := by decide +kernel
theorem dX4_mostFrom_9 : decode cX4_mostFrom 9 = .ok (.getfield 12, 3) := by decide +kernel
theorem dX4_mostFrom_12 : decode cX4_mostFrom 12 = .ok (.getfield 52, 3) := by decide +kernel
theorem dX4_mostFrom_15 : decode cX4_mostFrom 15 = .ok (.iload_n 1, 1) := by decide +kernel
theorem dX4_mostFrom_16 : decode cX4_mostFrom 16 = .ok (.iaload, 1) := by decide +kernel
theorem dX4_mostFrom_17 : decode cX4_mostFrom 17 = .ok (.ireturn, 1) := by decide +kernel
theorem dX4_mostFrom_18 : decode cX4_mostFrom 18 = .ok (.aload_n 0, 1) := by decide +kernel
theorem dX4_mostFrom_19 : decode cX4_mostFrom 19 = .ok (.getfield 12, 3) := by decide +kernel
theorem dX4_mostFrom_22 : decode cX4_mostFrom 22 = .ok (.aload_n 0, 1) := by decide +kernel
theorem dX4_mostFrom_23 : decode cX4_mostFrom 23 = .ok (.getfield 18, 3) := by decide +kernel
theorem dX4_mostFrom_26 : decode cX4_mostFrom 26 = .ok (.iload_n 2, 1) := by decide +kernel
theorem dX4_mostFrom_27 : decode cX4_mostFrom 27 = .ok (.iaload, 1) := by decide +kernel
theorem dX4_mostFrom_28 : decode cX4_mostFrom 28 = .ok (.invokevirtual 62, 3) := by decide +kernel
theorem dX4_mostFrom_31 : decode cX4_mostFrom 31 = .ok (.istore_n 3, 1) := by decide +kernel
theorem dX4_mostFrom_32 : decode cX4_mostFrom 32 = .ok (.iload_n 3, 1) := by decide +kernel
theorem dX4_mostFrom_33 : decode cX4_mostFrom 33 = .ok (.ifCond .ne 7, 3) := by decide +kernel
theorem dX4_mostFrom_36 : decode cX4_mostFrom 36 = .ok (.iconst (-1), 1) := by decide +kernel
theorem dX4_mostFrom_37 : decode cX4_mostFrom 37 = .ok (.goto 11, 3) := by decide +kernel
theorem dX4_mostFrom_40 : decode cX4_mostFrom 40 = .ok (.aload_n 0, 1) := by decide +kernel
theorem dX4_mostFrom_41 : decode cX4_mostFrom 41 = .ok (.iload_n 1, 1) := by decide +kernel
theorem dX4_mostFrom_42 : decode cX4_mostFrom 42 = .ok (.iload_n 2, 1) := by decide +kernel
theorem dX4_mostFrom_43 : decode cX4_mostFrom 43 = .ok (.iconst 1, 1) := by decide +kernel
theorem dX4_mostFrom_44 : decode cX4_mostFrom 44 = .ok (.iadd, 1) := by decide +kernel
theorem dX4_mostFrom_45 : decode cX4_mostFrom 45 = .ok (.invokevirtual 49, 3) := by decide +kernel
theorem dX4_mostFrom_48 : decode cX4_mostFrom 48 = .ok (.istore 4, 2) := by decide +kernel
theorem dX4_mostFrom_50 : decode cX4_mostFrom 50 = .ok (.iload_n 3, 1) := by decide +kernel
theorem dX4_mostFrom_51 : decode cX4_mostFrom 51 = .ok (.aload_n 0, 1) := by decide +kernel
theorem dX4_mostFrom_52 : decode cX4_mostFrom 52 = .ok (.getfield 12, 3) := by decide +kernel
theorem dX4_mostFrom_55 : decode cX4_mostFrom 55 = .ok (.getfield 75, 3) := by decide +kernel
theorem dX4_mostFrom_58 : decode cX4_mostFrom 58 = .ok (.if_icmp .ne 7, 3) := by decide +kernel
theorem dX4_mostFrom_61 : decode cX4_mostFrom 61 = .ok (.iconst (-1), 1) := by decide +kernel
theorem dX4_mostFrom_62 : decode cX4_mostFrom 62 = .ok (.goto 10, 3) := by decide +kernel
theorem dX4_mostFrom_65 : decode cX4_mostFrom 65 = .ok (.aload_n 0, 1) := by decide +kernel
theorem dX4_mostFrom_66 : decode cX4_mostFrom 66 = .ok (.iload_n 1, 1) := by decide +kernel
theorem dX4_mostFrom_67 : decode cX4_mostFrom 67 = .ok (.iload_n 2, 1) := by decide +kernel
theorem dX4_mostFrom_68 : decode cX4_mostFrom 68 = .ok (.iload_n 3, 1) := by decide +kernel
theorem dX4_mostFrom_69 : decode cX4_mostFrom 69 = .ok (.invokevirtual 78, 3) := by decide +kernel
theorem dX4_mostFrom_72 : decode cX4_mostFrom 72 = .ok (.istore 5, 2) := by decide +kernel
theorem dX4_mostFrom_74 : decode cX4_mostFrom 74 = .ok (.iload 4, 2) := by decide +kernel
theorem dX4_mostFrom_76 : decode cX4_mostFrom 76 = .ok (.iload 5, 2) := by decide +kernel
theorem dX4_mostFrom_78 : decode cX4_mostFrom 78 = .ok (.invokestatic 36, 3) := by decide +kernel
theorem dX4_mostFrom_81 : decode cX4_mostFrom 81 = .ok (.ireturn, 1) := by decide +kernel
theorem mv_X4_mostFrom : MV yX4_mostFrom RX4 cX4_mostFrom 6 (some .int) 2 := ⟨tb_1007, tb_1006, ts_22, tb_13, by decide +kernel, by decide +kernel, by decide +kernel⟩
def f_X4_mostIfStood (fu : Nat) (rec : (Nat → Int32) → Int32 → (Nat → Int32) → (Nat → Int32) → (Nat → Int32) → (Nat → Int32) → (Nat → Int32) → Int32 → Int32 → Int32 → Int32 → Int32 → (Option (Int32 × (Nat → Int32) × (Nat → Int32)))) (f_sizes : Nat → Int32) (f_dangers : Int32) (a_courage : Nat → Int32) (a_weight : Nat → Int32) (a_medals : Nat → Int32) (a_liked : Nat → Int32) (a_votes : Nat → Int32) (a_count : Int32) (a_living : Int32) (a_pride : Int32) (x1 : Int32) (x2 : Int32) (x3 : Int32) : Option (Int32 × (Nat → Int32) × (Nat → Int32)) := (f_X0_winnerOf fu a_weight a_liked a_votes a_count a_living x3).bind fun z_6 => (f_X0_pin fu a_medals a_count z_6.1).bind fun z_7 => (rec f_sizes f_dangers a_courage a_weight z_7.2 a_liked z_6.2 a_count a_living a_pride x1 (x2 + 1)).bind fun z_8 => (if z_7.1 = 0 then some (z_8.1, z_8.2.1, z_8.2.2) else (f_X0_unpin fu z_8.2.1 a_count z_6.1).bind fun z_10 => some (z_8.1, z_10, z_8.2.2))
abbrev rm_X4_mostIfStood (F L : Nat) : Room := { frames := F + 2, cells := 0, slots := 0, locals := L + 50 }
set_option maxHeartbeats 4000000 in
set_option maxRecDepth 100000 in
theorem c_X4_mostIfStood (l : Launch) (D : va_G) (cy : Nat → ClassId) (fu : Nat) (rec : (Nat → Int32) → Int32 → (Nat → Int32) → (Nat → Int32) → (Nat → Int32) → (Nat → Int32) → (Nat → Int32) → Int32 → Int32 → Int32 → Int32 → Int32 → (Option (Int32 × (Nat → Int32) × (Nat → Int32)))) (F L : Nat) (hrec : ∀ (A_f : Nat → Nat) (f_sizes : Nat → Int32) (f_dangers : Int32) (A_a : Nat → Nat) (a_name : Nat → Int64) (a_courage : Nat → Int32) (a_weight : Nat → Int32) (a_medals : Nat → Int32) (a_stood : Nat → Int32) (a_fled : Nat → Int32) (a_liked : Nat → Int32) (a_votes : Nat → Int32) (a_count : Int32) (a_living : Int32) (a_pride : Int32) (a_quota : Int32) (a_melted : Int32) (a_lost : Int32) (x1 : Int32) (x2 : Int32) (res : Int32 × (Nat → Int32) × (Nat → Int32)) (h : rec f_sizes f_dangers a_courage a_weight a_medals a_liked a_votes a_count a_living a_pride x1 x2 = some res) (A : Nat → Prop) (hA : A = adr [bl_X4 cy A_f (A_a 0) f_sizes f_dangers, bl_X0 cy A_a a_name a_courage a_weight a_medals a_stood a_fled a_liked a_votes a_count a_living a_pride a_quota a_melted a_lost]) (W1 : List va_W) (hW1 : W1 = [bl_X4 cy A_f (A_a 0) f_sizes f_dangers, bl_X0 cy A_a a_name a_courage a_weight res.2.1 a_stood a_fled a_liked res.2.2 a_count a_living a_pride a_quota a_melted a_lost]), Met l yX4_mostFrom (WW yX4_mostFrom cX4_mostFrom 6 (some .int)) { frames := F, cells := 0, slots := 0, locals := L } (Ed D cy [.ref (A_f 0), .int x1, .int x2] [bl_X4 cy A_f (A_a 0) f_sizes f_dangers, bl_X0 cy A_a a_name a_courage a_weight a_medals a_stood a_fled a_liked a_votes a_count a_living a_pride a_quota a_melted a_lost]) (Qei D res.1 A W1) 0 0 A) (A_f : Nat → Nat) (f_sizes : Nat → Int32) (f_dangers : Int32) (A_a : Nat → Nat) (a_name : Nat → Int64) (a_courage : Nat → Int32) (a_weight : Nat → Int32) (a_medals : Nat → Int32) (a_stood : Nat → Int32) (a_fled : Nat → Int32) (a_liked : Nat → Int32) (a_votes : Nat → Int32) (a_count : Int32) (a_living : Int32) (a_pride : Int32) (a_quota : Int32) (a_melted : Int32) (a_lost : Int32) (x1 : Int32) (x2 : Int32) (x3 : Int32) (res : Int32 × (Nat → Int32) × (Nat → Int32)) (h : f_X4_mostIfStood fu rec f_sizes f_dangers a_courage a_weight a_medals a_liked a_votes a_count a_living a_pride x1 x2 x3 = some res) (A : Nat → Prop) (hA : A = adr [bl_X4 cy A_f (A_a 0) f_sizes f_dangers, bl_X0 cy A_a a_name a_courage a_weight a_medals a_stood a_fled a_liked a_votes a_count a_living a_pride a_quota a_melted a_lost]) (W1 : List va_W) (hW1 : W1 = [bl_X4 cy A_f (A_a 0) f_sizes f_dangers, bl_X0 cy A_a a_name a_courage a_weight res.2.1 a_stood a_fled a_liked res.2.2 a_count a_living a_pride a_quota a_melted a_lost]) : Met l yX4_mostIfStood (WW yX4_mostIfStood cX4_mostIfStood 7 (some .int)) (rm_X4_mostIfStood F L) (Ed D cy [.ref (A_f 0), .int x1, .int x2, .int x3] [bl_X4 cy A_f (A_a 0) f_sizes f_dangers, bl_X0 cy A_a a_name a_courage a_weight a_medals a_stood a_fled a_liked a_votes a_count a_living a_pride a_quota a_melted a_lost]) (Qei D res.1 A W1) 0 0 A := by
  refine Met.ofW (cc := cX4_mostIfStood) (maxL := 7) (ret := (some .int)) (by decide) rfl ?_
  intro p e s m args below meth c s₁ B hml hv
  obtain ⟨hargs, hP, hX, hD0⟩ := hv
  have hx := B.exec
  have hb := B.bytes
  have hr := B.returns
  have ht : ∀ w ∈ lw_gd, w.before args s = true := fun w hw => atoms_spec (ws := WW yX4_mostIfStood cX4_mostIfStood 7 (some .int)) B.pre w (List.mem_cons_of_mem _ hw)
  have hown : s.vm.findClass RX4 = some m.cls := findClass_of_methodNamed B.named
  have hlocks := B.notSynchronized
  have hP : PD D A [bl_X4 cy A_f (A_a 0) f_sizes f_dangers, bl_X0 cy A_a a_name a_courage a_weight a_medals a_stood a_fled a_liked a_votes a_count a_living a_pride a_quota a_melted a_lost] s.heap := ⟨hP, by rw [hA]; exact hD0.own⟩
  have hS : va_S A s.heap s.heap [] := va_S.rf
  obtain ⟨ls, hl, hent⟩ := ent (m := m) (n := 7) hargs (Nat.le_of_ble_eq_true rfl) (lv := [(0, .ref (A_f 0)), (1, .int x1), (2, .int x2), (3, .int x3)]) rfl
  rw [hent]
  clear hent
  unfold f_X4_mostIfStood at h
  refine lv_aload_n hx hb dX4_mostIfStood_0 rfl (lv_at hl 0 rfl) ?_
  refine xget (i := 0) (j := 0) (k := 0) (T := TX4) hx hb ht tb_iX4 hown hX hP.1 rfl rfl rfl (by decide) tb_368 rfl dX4_mostIfStood_1 ?_
  refine lv_iload_n hx hb dX4_mostIfStood_4 rfl (lv_at hl 3 rfl) ?_
  obtain ⟨z_6, e_z_6, h⟩ := bi h
  refine efVi (rest := []) ⟨hx, hb, hml, hown, ht⟩ (c_X0_winnerOf l D cy fu A_a a_name a_courage a_weight a_medals a_stood a_fled a_liked a_votes a_count a_living a_pride a_quota a_melted a_lost x3 z_6 e_z_6 _ rfl _ rfl) (cV ht mv_X0_winnerOf tb_1013 rfl rfl ⟨by show 1 + 1 ≤ F + 2; omega, by show 8 + (5 + 11) + (26) ≤ L + 50; omega⟩) hP hS hX [1] rfl rfl rfl rfl rfl rfl hl.1 rfl (Nat.le_of_ble_eq_true rfl) dX4_mostIfStood_5 ⟨Nat.le_of_ble_eq_true rfl, Nat.le_of_ble_eq_true rfl⟩ (fun H locs hP hS => ?_)
  have hP : PD D A [bl_X4 cy A_f (A_a 0) f_sizes f_dangers, bl_X0 cy A_a a_name a_courage a_weight a_medals a_stood a_fled a_liked z_6.2 a_count a_living a_pride a_quota a_melted a_lost] H := hP
  refine lv_istore (lv' := [(4, .int z_6.1), (0, .ref (A_f 0)), (1, .int x1), (2, .int x2), (3, .int x3)]) hx hb dX4_mostIfStood_8 hl (by decide) rfl (fun ls hl => ?_)
  refine lv_aload_n hx hb dX4_mostIfStood_10 rfl (lv_at hl 1 rfl) ?_
  refine xget (i := 0) (j := 0) (k := 0) (T := TX4) hx hb ht tb_iX4 hown hX hP.1 rfl rfl rfl (by decide) tb_368 rfl dX4_mostIfStood_11 ?_
  refine lv_iload hx hb dX4_mostIfStood_14 (lv_at hl 0 rfl) ?_
  obtain ⟨z_7, e_z_7, h⟩ := bi h
  refine efVi (rest := []) ⟨hx, hb, hml, hown, ht⟩ (c_X0_pin l D cy fu A_a a_name a_courage a_weight a_medals a_stood a_fled a_liked z_6.2 a_count a_living a_pride a_quota a_melted a_lost z_6.1 z_7 e_z_7 _ rfl _ rfl) (cV ht mv_X0_pin tb_1014 rfl rfl ⟨by show 1 + 1 ≤ F + 2; omega, by show 8 + (2 + 11) + (21) ≤ L + 50; omega⟩) hP hS hX [1] rfl rfl rfl rfl rfl rfl hl.1 rfl (Nat.le_of_ble_eq_true rfl) dX4_mostIfStood_16 ⟨Nat.le_of_ble_eq_true rfl, Nat.le_of_ble_eq_true rfl⟩ (fun H locs hP hS => ?_)
  have hP : PD D A [bl_X4 cy A_f (A_a 0) f_sizes f_dangers, bl_X0 cy A_a a_name a_courage a_weight z_7.2 a_stood a_fled a_liked z_6.2 a_count a_living a_pride a_quota a_melted a_lost] H := hP
  refine lv_istore (lv' := [(5, .int z_7.1), (4, .int z_6.1), (0, .ref (A_f 0)), (1, .int x1), (2, .int x2), (3, .int x3)]) hx hb dX4_mostIfStood_19 hl (by decide) rfl (fun ls hl => ?_)
  refine lv_aload_n hx hb dX4_mostIfStood_21 rfl (lv_at hl 2 rfl) ?_
  refine lv_iload_n hx hb dX4_mostIfStood_22 rfl (lv_at hl 3 rfl) ?_
  refine lv_iload_n hx hb dX4_mostIfStood_23 rfl (lv_at hl 4 rfl) ?_
  refine lv_iconst (v := 1) hx hb dX4_mostIfStood_24 (by decide) ?_
  refine lv_iadd hx hb dX4_mostIfStood_25 ?_
  obtain ⟨z_8, e_z_8, h⟩ := bi h
  refine efVi (rest := []) ⟨hx, hb, hml, hown, ht⟩ (hrec A_f f_sizes f_dangers A_a a_name a_courage a_weight z_7.2 a_stood a_fled a_liked z_6.2 a_count a_living a_pride a_quota a_melted a_lost x1 (x2 + 1) z_8 e_z_8 _ rfl _ rfl) (cV ht mv_X4_mostFrom tb_1004 rfl rfl ⟨by show F + 1 ≤ F + 2; omega, by show 8 + (6 + 11) + (L) ≤ L + 50; omega⟩) hP hS hX [0, 1] rfl rfl rfl rfl rfl rfl hl.1 rfl (Nat.le_of_ble_eq_true rfl) dX4_mostIfStood_26 ⟨Nat.le_of_ble_eq_true rfl, Nat.le_of_ble_eq_true rfl⟩ (fun H locs hP hS => ?_)
  have hP : PD D A [bl_X4 cy A_f (A_a 0) f_sizes f_dangers, bl_X0 cy A_a a_name a_courage a_weight z_8.2.1 a_stood a_fled a_liked z_8.2.2 a_count a_living a_pride a_quota a_melted a_lost] H := hP
  refine lv_istore (lv' := [(6, .int z_8.1), (5, .int z_7.1), (4, .int z_6.1), (0, .ref (A_f 0)), (1, .int x1), (2, .int x2), (3, .int x3)]) hx hb dX4_mostIfStood_29 hl (by decide) rfl (fun ls hl => ?_)
  refine lv_iload hx hb dX4_mostIfStood_31 (lv_at hl 1 rfl) ?_
  refine lv_if_eq (tgt := 45) hx hb dX4_mostIfStood_33 (by decide) (fun c_9 => ?_) (fun c_9 => ?_)
  · have h := it c_9 h
    refine lv_iload hx hb dX4_mostIfStood_45 (lv_at hl 0 rfl) ?_
    cases h
    subst hW1
    exact W.iret hx hb hr (fun _ ht9 _ => ⟨⟨_, (), rfl, rfl, hPt ht9 hP.1⟩, hS.F ht9⟩) hS.2.2 dX4_mostIfStood_47
  · have h := ie c_9 h
    refine lv_aload_n hx hb dX4_mostIfStood_36 rfl (lv_at hl 3 rfl) ?_
    refine xget (i := 0) (j := 0) (k := 0) (T := TX4) hx hb ht tb_iX4 hown hX hP.1 rfl rfl rfl (by decide) tb_368 rfl dX4_mostIfStood_37 ?_
    refine lv_iload hx hb dX4_mostIfStood_40 (lv_at hl 2 rfl) ?_
    obtain ⟨z_10, e_z_10, h⟩ := bi h
    refine efVv (rest := []) ⟨hx, hb, hml, hown, ht⟩ (c_X0_unpin l D cy fu A_a a_name a_courage a_weight z_8.2.1 a_stood a_fled a_liked z_8.2.2 a_count a_living a_pride a_quota a_melted a_lost z_6.1 z_10 e_z_10 _ rfl _ rfl) (cV ht mv_X0_unpin tb_1015 rfl rfl ⟨by show 1 + 1 ≤ F + 2; omega, by show 8 + (2 + 11) + (21) ≤ L + 50; omega⟩) hP hS hX [1] rfl rfl rfl rfl rfl rfl hl.1 rfl (Nat.le_of_ble_eq_true rfl) dX4_mostIfStood_42 ⟨Nat.le_of_ble_eq_true rfl, Nat.le_of_ble_eq_true rfl⟩ (fun H locs hP hS => ?_)
    have hP : PD D A [bl_X4 cy A_f (A_a 0) f_sizes f_dangers, bl_X0 cy A_a a_name a_courage a_weight z_10 a_stood a_fled a_liked z_8.2.2 a_count a_living a_pride a_quota a_melted a_lost] H := hP
    refine lv_iload hx hb dX4_mostIfStood_45 (lv_at hl 0 rfl) ?_
    cases h
    subst hW1
    exact W.iret hx hb hr (fun _ ht9 _ => ⟨⟨_, (), rfl, rfl, hPt ht9 hP.1⟩, hS.F ht9⟩) hS.2.2 dX4_mostIfStood_47
def f_X4_mostFrom_B_j48 (fu : Nat) (rec : (Nat → Int32) → Int32 → (Nat → Int32) → (Nat → Int32) → (Nat → Int32) → (Nat → Int32) → (Nat → Int32) → Int32 → Int32 → Int32 → Int32 → Int32 → (Option (Int32 × (Nat → Int32) × (Nat → Int32)))) (f_sizes : Nat → Int32) (f_dangers : Int32) (a_courage : Nat → Int32) (a_weight : Nat → Int32) (a_liked : Nat → Int32) (a_count : Int32) (a_living : Int32) (a_pride : Int32) (x1 : Int32) (x2 : Int32) (a_medals : Nat → Int32) (a_votes : Nat → Int32) (x3 : Int32) (s0 : Int32) : Option (Int32 × (Nat → Int32) × (Nat → Int32)) := (if x3 = a_living then some (if s0 < (-1) then (-1) else s0, a_medals, a_votes) else (f_X4_mostIfStood fu rec f_sizes f_dangers a_courage a_weight a_medals a_liked a_votes a_count a_living a_pride x1 x2 x3).bind fun z_10 => some (if s0 < z_10.1 then z_10.1 else s0, z_10.2.1, z_10.2.2))
def f_X4_mostFrom_B (fu : Nat) (rec : (Nat → Int32) → Int32 → (Nat → Int32) → (Nat → Int32) → (Nat → Int32) → (Nat → Int32) → (Nat → Int32) → Int32 → Int32 → Int32 → Int32 → Int32 → (Option (Int32 × (Nat → Int32) × (Nat → Int32)))) (f_sizes : Nat → Int32) (f_dangers : Int32) (a_courage : Nat → Int32) (a_weight : Nat → Int32) (a_medals : Nat → Int32) (a_liked : Nat → Int32) (a_votes : Nat → Int32) (a_count : Int32) (a_living : Int32) (a_pride : Int32) (x1 : Int32) (x2 : Int32) : Option (Int32 × (Nat → Int32) × (Nat → Int32)) := (if x2 < f_dangers then (rdI f_sizes 4 x2).bind fun y_12 => (f_X0_runners fu a_courage a_medals a_count a_living a_pride y_12).bind fun z_13 => (if z_13 = 0 then f_X4_mostFrom_B_j48 fu rec f_sizes f_dangers a_courage a_weight a_liked a_count a_living a_pride x1 x2 a_medals a_votes z_13 (-1) else (rec f_sizes f_dangers a_courage a_weight a_medals a_liked a_votes a_count a_living a_pride x1 (x2 + 1)).bind fun z_15 => f_X4_mostFrom_B_j48 fu rec f_sizes f_dangers a_courage a_weight a_liked a_count a_living a_pride x1 x2 z_15.2.1 z_15.2.2 z_13 z_15.1) else (rdI a_medals 8 x1).bind fun y_16 => some (y_16, a_medals, a_votes))
abbrev rm_X4_mostFrom_B (F L : Nat) : Room := { frames := F + 3, cells := 0, slots := 0, locals := L + 76 }
set_option maxHeartbeats 4000000 in
set_option maxRecDepth 100000 in
theorem c_X4_mostFrom_B (l : Launch) (D : va_G) (cy : Nat → ClassId) (fu : Nat) (rec : (Nat → Int32) → Int32 → (Nat → Int32) → (Nat → Int32) → (Nat → Int32) → (Nat → Int32) → (Nat → Int32) → Int32 → Int32 → Int32 → Int32 → Int32 → (Option (Int32 × (Nat → Int32) × (Nat → Int32)))) (F L : Nat) (hrec : ∀ (A_f : Nat → Nat) (f_sizes : Nat → Int32) (f_dangers : Int32) (A_a : Nat → Nat) (a_name : Nat → Int64) (a_courage : Nat → Int32) (a_weight : Nat → Int32) (a_medals : Nat → Int32) (a_stood : Nat → Int32) (a_fled : Nat → Int32) (a_liked : Nat → Int32) (a_votes : Nat → Int32) (a_count : Int32) (a_living : Int32) (a_pride : Int32) (a_quota : Int32) (a_melted : Int32) (a_lost : Int32) (x1 : Int32) (x2 : Int32) (res : Int32 × (Nat → Int32) × (Nat → Int32)) (h : rec f_sizes f_dangers a_courage a_weight a_medals a_liked a_votes a_count a_living a_pride x1 x2 = some res) (A : Nat → Prop) (hA : A = adr [bl_X4 cy A_f (A_a 0) f_sizes f_dangers, bl_X0 cy A_a a_name a_courage a_weight a_medals a_stood a_fled a_liked a_votes a_count a_living a_pride a_quota a_melted a_lost]) (W1 : List va_W) (hW1 : W1 = [bl_X4 cy A_f (A_a 0) f_sizes f_dangers, bl_X0 cy A_a a_name a_courage a_weight res.2.1 a_stood a_fled a_liked res.2.2 a_count a_living a_pride a_quota a_melted a_lost]), Met l yX4_mostFrom (WW yX4_mostFrom cX4_mostFrom 6 (some .int)) { frames := F, cells := 0, slots := 0, locals := L } (Ed D cy [.ref (A_f 0), .int x1, .int x2] [bl_X4 cy A_f (A_a 0) f_sizes f_dangers, bl_X0 cy A_a a_name a_courage a_weight a_medals a_stood a_fled a_liked a_votes a_count a_living a_pride a_quota a_melted a_lost]) (Qei D res.1 A W1) 0 0 A) (A_f : Nat → Nat) (f_sizes : Nat → Int32) (f_dangers : Int32) (A_a : Nat → Nat) (a_name : Nat → Int64) (a_courage : Nat → Int32) (a_weight : Nat → Int32) (a_medals : Nat → Int32) (a_stood : Nat → Int32) (a_fled : Nat → Int32) (a_liked : Nat → Int32) (a_votes : Nat → Int32) (a_count : Int32) (a_living : Int32) (a_pride : Int32) (a_quota : Int32) (a_melted : Int32) (a_lost : Int32) (x1 : Int32) (x2 : Int32) (res : Int32 × (Nat → Int32) × (Nat → Int32)) (h : f_X4_mostFrom_B fu rec f_sizes f_dangers a_courage a_weight a_medals a_liked a_votes a_count a_living a_pride x1 x2 = some res) (A : Nat → Prop) (hA : A = adr [bl_X4 cy A_f (A_a 0) f_sizes f_dangers, bl_X0 cy A_a a_name a_courage a_weight a_medals a_stood a_fled a_liked a_votes a_count a_living a_pride a_quota a_melted a_lost]) (W1 : List va_W) (hW1 : W1 = [bl_X4 cy A_f (A_a 0) f_sizes f_dangers, bl_X0 cy A_a a_name a_courage a_weight res.2.1 a_stood a_fled a_liked res.2.2 a_count a_living a_pride a_quota a_melted a_lost]) : Met l yX4_mostFrom (WW yX4_mostFrom cX4_mostFrom 6 (some .int)) (rm_X4_mostFrom_B F L) (Ed D cy [.ref (A_f 0), .int x1, .int x2] [bl_X4 cy A_f (A_a 0) f_sizes f_dangers, bl_X0 cy A_a a_name a_courage a_weight a_medals a_stood a_fled a_liked a_votes a_count a_living a_pride a_quota a_melted a_lost]) (Qei D res.1 A W1) 0 0 A := by
  refine Met.ofW (cc := cX4_mostFrom) (maxL := 6) (ret := (some .int)) (by decide) rfl ?_
  intro p e s m args below meth c s₁ B hml hv
  obtain ⟨hargs, hP, hX, hD0⟩ := hv
  have hx := B.exec
  have hb := B.bytes
  have hr := B.returns
  have ht : ∀ w ∈ lw_gd, w.before args s = true := fun w hw => atoms_spec (ws := WW yX4_mostFrom cX4_mostFrom 6 (some .int)) B.pre w (List.mem_cons_of_mem _ hw)
  have hown : s.vm.findClass RX4 = some m.cls := findClass_of_methodNamed B.named
  have hlocks := B.notSynchronized
  have hP : PD D A [bl_X4 cy A_f (A_a 0) f_sizes f_dangers, bl_X0 cy A_a a_name a_courage a_weight a_medals a_stood a_fled a_liked a_votes a_count a_living a_pride a_quota a_melted a_lost] s.heap := ⟨hP, by rw [hA]; exact hD0.own⟩
  have hS : va_S A s.heap s.heap [] := va_S.rf
  obtain ⟨ls, hl, hent⟩ := ent (m := m) (n := 6) hargs (Nat.le_of_ble_eq_true rfl) (lv := [(0, .ref (A_f 0)), (1, .int x1), (2, .int x2)]) rfl
  rw [hent]
  clear hent
  have j48 : ∀ (a_medals : Nat → Int32) (a_votes : Nat → Int32) (x3 : Int32) (s0 : Int32) (H : Heap) (locs : List Loc) (_ : PD D A [bl_X4 cy A_f (A_a 0) f_sizes f_dangers, bl_X0 cy A_a a_name a_courage a_weight a_medals a_stood a_fled a_liked a_votes a_count a_living a_pride a_quota a_melted a_lost] H) (_ : va_S A s.heap H locs) (ls : Array Slot), lv_has ls 6 [(0, .ref (A_f 0)), (1, .int x1), (2, .int x2), (3, .int x3)] → f_X4_mostFrom_B_j48 fu rec f_sizes f_dangers a_courage a_weight a_liked a_count a_living a_pride x1 x2 a_medals a_votes x3 s0 = some res → W p l e (headSpec (WW yX4_mostFrom cX4_mostFrom 6 (some .int)) (rm_X4_mostFrom_B F L)).room s m args below meth c H locs 0 0 (MQ below (Qei D res.1 A W1) args s 0 0 A) (F0 m 48 ls [.int s0]) := by
    intro a_medals a_votes x3 s0 H locs hP hS ls hl h
    unfold f_X4_mostFrom_B_j48 at h
    refine lv_istore (lv' := [(4, .int s0), (0, .ref (A_f 0)), (1, .int x1), (2, .int x2), (3, .int x3)]) hx hb dX4_mostFrom_48 hl (by decide) rfl (fun ls hl => ?_)
    refine lv_iload_n hx hb dX4_mostFrom_50 rfl (lv_at hl 4 rfl) ?_
    refine lv_aload_n hx hb dX4_mostFrom_51 rfl (lv_at hl 1 rfl) ?_
    refine xget (i := 0) (j := 0) (k := 0) (T := TX4) hx hb ht tb_iX4 hown hX hP.1 rfl rfl rfl (by decide) tb_368 rfl dX4_mostFrom_52 ?_
    refine xget (i := 1) (j := 0) (k := 9) (T := TX0) hx hb ht tb_iX0 hown hX hP.1 rfl rfl rfl (by decide) tb_63 rfl dX4_mostFrom_55 ?_
    refine lv_icmp_ne (tgt := 65) hx hb dX4_mostFrom_58 (by decide) (fun c_9 => ?_) (fun c_9 => ?_)
    · have h := ie c_9 h
      refine lv_aload_n hx hb dX4_mostFrom_65 rfl (lv_at hl 1 rfl) ?_
      refine lv_iload_n hx hb dX4_mostFrom_66 rfl (lv_at hl 2 rfl) ?_
      refine lv_iload_n hx hb dX4_mostFrom_67 rfl (lv_at hl 3 rfl) ?_
      refine lv_iload_n hx hb dX4_mostFrom_68 rfl (lv_at hl 4 rfl) ?_
      obtain ⟨z_10, e_z_10, h⟩ := bi h
      refine efVi (rest := []) ⟨hx, hb, hml, hown, ht⟩ (c_X4_mostIfStood l D cy fu rec F L hrec A_f f_sizes f_dangers A_a a_name a_courage a_weight a_medals a_stood a_fled a_liked a_votes a_count a_living a_pride a_quota a_melted a_lost x1 x2 x3 z_10 e_z_10 _ rfl _ rfl) (cV ht mv_X4_mostIfStood tb_1009 rfl rfl ⟨by show F + 2 + 1 ≤ F + 3; omega, by show 8 + (7 + 11) + (L + 50) ≤ L + 76; omega⟩) hP hS hX [0, 1] rfl rfl rfl rfl rfl rfl hl.1 rfl (Nat.le_of_ble_eq_true rfl) dX4_mostFrom_69 ⟨Nat.le_of_ble_eq_true rfl, Nat.le_of_ble_eq_true rfl⟩ (fun H locs hP hS => ?_)
      have hP : PD D A [bl_X4 cy A_f (A_a 0) f_sizes f_dangers, bl_X0 cy A_a a_name a_courage a_weight z_10.2.1 a_stood a_fled a_liked z_10.2.2 a_count a_living a_pride a_quota a_melted a_lost] H := hP
      refine lv_istore (lv' := [(5, .int z_10.1), (4, .int s0), (0, .ref (A_f 0)), (1, .int x1), (2, .int x2), (3, .int x3)]) hx hb dX4_mostFrom_72 hl (by decide) rfl (fun ls hl => ?_)
      refine lv_iload hx hb dX4_mostFrom_74 (lv_at hl 1 rfl) ?_
      refine lv_iload hx hb dX4_mostFrom_76 (lv_at hl 0 rfl) ?_
      refine va_mmax hx hb (hml.trans hl.1.symm) hown (ht _ tb_997) (ht _ tb_586) (ht _ tb_19) (ht _ tb_587) (by show 1 ≤ F + 3; omega) (by show 0 + 13 ≤ L + 76; omega) (Nat.le_of_ble_eq_true rfl) (Nat.le_of_ble_eq_true rfl) dX4_mostFrom_78 ?_
      cases h
      subst hW1
      exact W.iret hx hb hr (fun _ ht9 _ => ⟨⟨_, (), rfl, rfl, hPt ht9 hP.1⟩, hS.F ht9⟩) hS.2.2 dX4_mostFrom_81
    · have h := it c_9 h
      refine lv_iconst (v := (-1)) hx hb dX4_mostFrom_61 (by decide) ?_
      refine lv_goto (tgt := 72) hx hb dX4_mostFrom_62 (by decide) ?_
      refine lv_istore (lv' := [(5, .int (-1)), (4, .int s0), (0, .ref (A_f 0)), (1, .int x1), (2, .int x2), (3, .int x3)]) hx hb dX4_mostFrom_72 hl (by decide) rfl (fun ls hl => ?_)
      refine lv_iload hx hb dX4_mostFrom_74 (lv_at hl 1 rfl) ?_
      refine lv_iload hx hb dX4_mostFrom_76 (lv_at hl 0 rfl) ?_
      refine va_mmax hx hb (hml.trans hl.1.symm) hown (ht _ tb_997) (ht _ tb_586) (ht _ tb_19) (ht _ tb_587) (by show 1 ≤ F + 3; omega) (by show 0 + 13 ≤ L + 76; omega) (Nat.le_of_ble_eq_true rfl) (Nat.le_of_ble_eq_true rfl) dX4_mostFrom_78 ?_
      cases h
      subst hW1
      exact W.iret hx hb hr (fun _ ht9 _ => ⟨⟨_, (), rfl, rfl, hPt ht9 hP.1⟩, hS.F ht9⟩) hS.2.2 dX4_mostFrom_81
  unfold f_X4_mostFrom_B at h
  refine lv_iload_n hx hb dX4_mostFrom_0 rfl (lv_at hl 2 rfl) ?_
  refine lv_aload_n hx hb dX4_mostFrom_1 rfl (lv_at hl 0 rfl) ?_
  refine xget (i := 0) (j := 0) (k := 2) (T := TX4) hx hb ht tb_iX4 hown hX hP.1 rfl rfl rfl (by decide) tb_370 rfl dX4_mostFrom_2 ?_
  refine lv_icmp_lt (tgt := 18) hx hb dX4_mostFrom_5 (by decide) (fun c_11 => ?_) (fun c_11 => ?_)
  · have h := it c_11 h
    refine lv_aload_n hx hb dX4_mostFrom_18 rfl (lv_at hl 0 rfl) ?_
    refine xget (i := 0) (j := 0) (k := 0) (T := TX4) hx hb ht tb_iX4 hown hX hP.1 rfl rfl rfl (by decide) tb_368 rfl dX4_mostFrom_19 ?_
    refine lv_aload_n hx hb dX4_mostFrom_22 rfl (lv_at hl 0 rfl) ?_
    refine xget (i := 0) (j := 0) (k := 1) (T := TX4) hx hb ht tb_iX4 hown hX hP.1 rfl rfl rfl (by decide) tb_369 rfl dX4_mostFrom_23 ?_
    refine lv_iload_n hx hb dX4_mostFrom_26 rfl (lv_at hl 2 rfl) ?_
    obtain ⟨y_12, e_y_12, h⟩ := bi h
    refine xiald (i0 := 0) (j0 := 1) hx hb hX hP.1 rfl rfl e_y_12 dX4_mostFrom_27 ?_
    obtain ⟨z_13, e_z_13, h⟩ := bi h
    refine roVi (rest := []) ⟨hx, hb, hml, hown, ht⟩ (c_X0_runners l D cy fu A_a a_name a_courage a_weight a_medals a_stood a_fled a_liked a_votes a_count a_living a_pride a_quota a_melted a_lost y_12 z_13 e_z_13) (cV ht mv_X0_runners tb_1008 rfl rfl ⟨by show 1 + 1 ≤ F + 3; omega, by show 8 + (4 + 11) + (23) ≤ L + 76; omega⟩) (P_sub hP.1 [1] rfl) hX rfl rfl rfl hl.1 rfl (Nat.le_of_ble_eq_true rfl) dX4_mostFrom_28 ⟨Nat.le_of_ble_eq_true rfl, Nat.le_of_ble_eq_true rfl⟩ ?_
    refine lv_istore_n (lv' := [(3, .int z_13), (0, .ref (A_f 0)), (1, .int x1), (2, .int x2)]) hx hb dX4_mostFrom_31 rfl hl (by decide) rfl (fun ls hl => ?_)
    refine lv_iload_n hx hb dX4_mostFrom_32 rfl (lv_at hl 0 rfl) ?_
    refine lv_if_ne (tgt := 40) hx hb dX4_mostFrom_33 (by decide) (fun c_14 => ?_) (fun c_14 => ?_)
    · have h := ie c_14 h
      refine lv_aload_n hx hb dX4_mostFrom_40 rfl (lv_at hl 1 rfl) ?_
      refine lv_iload_n hx hb dX4_mostFrom_41 rfl (lv_at hl 2 rfl) ?_
      refine lv_iload_n hx hb dX4_mostFrom_42 rfl (lv_at hl 3 rfl) ?_
      refine lv_iconst (v := 1) hx hb dX4_mostFrom_43 (by decide) ?_
      refine lv_iadd hx hb dX4_mostFrom_44 ?_
      obtain ⟨z_15, e_z_15, h⟩ := bi h
      refine efVi (rest := []) ⟨hx, hb, hml, hown, ht⟩ (hrec A_f f_sizes f_dangers A_a a_name a_courage a_weight a_medals a_stood a_fled a_liked a_votes a_count a_living a_pride a_quota a_melted a_lost x1 (x2 + 1) z_15 e_z_15 _ rfl _ rfl) (cV ht mv_X4_mostFrom tb_1004 rfl rfl ⟨by show F + 1 ≤ F + 3; omega, by show 8 + (6 + 11) + (L) ≤ L + 76; omega⟩) hP hS hX [0, 1] rfl rfl rfl rfl rfl rfl hl.1 rfl (Nat.le_of_ble_eq_true rfl) dX4_mostFrom_45 ⟨Nat.le_of_ble_eq_true rfl, Nat.le_of_ble_eq_true rfl⟩ (fun H locs hP hS => ?_)
      have hP : PD D A [bl_X4 cy A_f (A_a 0) f_sizes f_dangers, bl_X0 cy A_a a_name a_courage a_weight z_15.2.1 a_stood a_fled a_liked z_15.2.2 a_count a_living a_pride a_quota a_melted a_lost] H := hP
      exact j48 z_15.2.1 z_15.2.2 z_13 z_15.1 _ _ hP hS ls (lv_sub hl [1, 2, 3, 0] rfl) h
    · have h := it c_14 h
      refine lv_iconst (v := (-1)) hx hb dX4_mostFrom_36 (by decide) ?_
      refine lv_goto (tgt := 48) hx hb dX4_mostFrom_37 (by decide) ?_
      exact j48 a_medals a_votes z_13 (-1) _ _ hP hS ls (lv_sub hl [1, 2, 3, 0] rfl) h
  · have h := ie c_11 h
    refine lv_aload_n hx hb dX4_mostFrom_8 rfl (lv_at hl 0 rfl) ?_
    refine xget (i := 0) (j := 0) (k := 0) (T := TX4) hx hb ht tb_iX4 hown hX hP.1 rfl rfl rfl (by decide) tb_368 rfl dX4_mostFrom_9 ?_
    refine xget (i := 1) (j := 0) (k := 3) (T := TX0) hx hb ht tb_iX0 hown hX hP.1 rfl rfl rfl (by decide) tb_44 rfl dX4_mostFrom_12 ?_
    refine lv_iload_n hx hb dX4_mostFrom_15 rfl (lv_at hl 1 rfl) ?_
    obtain ⟨y_16, e_y_16, h⟩ := bi h
    refine xiald (i0 := 1) (j0 := 4) hx hb hX hP.1 rfl rfl e_y_16 dX4_mostFrom_16 ?_
    cases h
    subst hW1
    exact W.iret hx hb hr (fun _ ht9 _ => ⟨⟨_, (), rfl, rfl, hPt ht9 hP.1⟩, hS.F ht9⟩) hS.2.2 dX4_mostFrom_17
def f_X4_mostFrom (fu : Nat) : Nat → (Nat → Int32) → Int32 → (Nat → Int32) → (Nat → Int32) → (Nat → Int32) → (Nat → Int32) → (Nat → Int32) → Int32 → Int32 → Int32 → Int32 → Int32 → (Option (Int32 × (Nat → Int32) × (Nat → Int32)))
  | 0, _, _, _, _, _, _, _, _, _, _, _, _ => none
  | d + 1, f_sizes, f_dangers, a_courage, a_weight, a_medals, a_liked, a_votes, a_count, a_living, a_pride, x1, x2 => f_X4_mostFrom_B fu (f_X4_mostFrom fu d) f_sizes f_dangers a_courage a_weight a_medals a_liked a_votes a_count a_living a_pride x1 x2
set_option maxHeartbeats 4000000 in
set_option maxRecDepth 100000 in
theorem c_X4_mostFrom (l : Launch) (D : va_G) (cy : Nat → ClassId) (fu : Nat) (d : Nat) : ∀ (A_f : Nat → Nat) (f_sizes : Nat → Int32) (f_dangers : Int32) (A_a : Nat → Nat) (a_name : Nat → Int64) (a_courage : Nat → Int32) (a_weight : Nat → Int32) (a_medals : Nat → Int32) (a_stood : Nat → Int32) (a_fled : Nat → Int32) (a_liked : Nat → Int32) (a_votes : Nat → Int32) (a_count : Int32) (a_living : Int32) (a_pride : Int32) (a_quota : Int32) (a_melted : Int32) (a_lost : Int32) (x1 : Int32) (x2 : Int32) (res : Int32 × (Nat → Int32) × (Nat → Int32)) (h : f_X4_mostFrom fu d f_sizes f_dangers a_courage a_weight a_medals a_liked a_votes a_count a_living a_pride x1 x2 = some res) (A : Nat → Prop) (hA : A = adr [bl_X4 cy A_f (A_a 0) f_sizes f_dangers, bl_X0 cy A_a a_name a_courage a_weight a_medals a_stood a_fled a_liked a_votes a_count a_living a_pride a_quota a_melted a_lost]) (W1 : List va_W) (hW1 : W1 = [bl_X4 cy A_f (A_a 0) f_sizes f_dangers, bl_X0 cy A_a a_name a_courage a_weight res.2.1 a_stood a_fled a_liked res.2.2 a_count a_living a_pride a_quota a_melted a_lost]), Met l yX4_mostFrom (WW yX4_mostFrom cX4_mostFrom 6 (some .int)) { frames := 3 * d, cells := 0, slots := 0, locals := 76 * d } (Ed D cy [.ref (A_f 0), .int x1, .int x2] [bl_X4 cy A_f (A_a 0) f_sizes f_dangers, bl_X0 cy A_a a_name a_courage a_weight a_medals a_stood a_fled a_liked a_votes a_count a_living a_pride a_quota a_melted a_lost]) (Qei D res.1 A W1) 0 0 A := by
  induction d with
  | zero => intro A_f f_sizes f_dangers A_a a_name a_courage a_weight a_medals a_stood a_fled a_liked a_votes a_count a_living a_pride a_quota a_melted a_lost x1 x2 res h A hA W1 hW1; cases h
  | succ d ih => intro A_f f_sizes f_dangers A_a a_name a_courage a_weight a_medals a_stood a_fled a_liked a_votes a_count a_living a_pride a_quota a_melted a_lost x1 x2 res h A hA W1 hW1; exact c_X4_mostFrom_B l D cy fu (f_X4_mostFrom fu d) (3 * d) (76 * d) ih A_f f_sizes f_dangers A_a a_name a_courage a_weight a_medals a_stood a_fled a_liked a_votes a_count a_living a_pride a_quota a_melted a_lost x1 x2 res h A hA W1 hW1
def f_X4_mostIfStood_C (fu : Nat) (f_sizes : Nat → Int32) (f_dangers : Int32) (a_courage : Nat → Int32) (a_weight : Nat → Int32) (a_medals : Nat → Int32) (a_liked : Nat → Int32) (a_votes : Nat → Int32) (a_count : Int32) (a_living : Int32) (a_pride : Int32) (x1 : Int32) (x2 : Int32) (x3 : Int32) : Option (Int32 × (Nat → Int32) × (Nat → Int32)) := f_X4_mostIfStood fu (f_X4_mostFrom fu 6) f_sizes f_dangers a_courage a_weight a_medals a_liked a_votes a_count a_living a_pride x1 x2 x3
abbrev c_X4_mostIfStood_C (l : Launch) (D : va_G) (cy : Nat → ClassId) (fu : Nat) := c_X4_mostIfStood l D cy fu (f_X4_mostFrom fu 6) (3 * 6) (76 * 6) (c_X4_mostFrom l D cy fu 6)
theorem dX4_mostFor_0 : decode cX4_mostFor 0 = .ok (.aload_n 0, 1) := by decide +kernel
theorem dX4_mostFor_1 : decode cX4_mostFor 1 = .ok (.getfield 12, 3) := by decide +kernel
theorem dX4_mostFor_4 : decode cX4_mostFor 4 = .ok (.iload_n 1, 1) := by decide +kernel
theorem dX4_mostFor_5 : decode cX4_mostFor 5 = .ok (.invokevirtual 45, 3) := by decide +kernel
theorem dX4_mostFor_8 : decode cX4_mostFor 8 = .ok (.ifCond .eq 22, 3) := by decide +kernel
theorem dX4_mostFor_11 : decode cX4_mostFor 11 = .ok (.aload_n 0, 1) := by decide +kernel
theorem dX4_mostFor_12 : decode cX4_mostFor 12 = .ok (.iload_n 1, 1) := by decide +kernel
theorem dX4_mostFor_13 : decode cX4_mostFor 13 = .ok (.iconst 0, 1) := by decide +kernel
theorem dX4_mostFor_14 : decode cX4_mostFor 14 = .ok (.invokevirtual 49, 3) := by decide +kernel
theorem dX4_mostFor_17 : decode cX4_mostFor 17 = .ok (.aload_n 0, 1) := by decide +kernel
theorem dX4_mostFor_18 : decode cX4_mostFor 18 = .ok (.getfield 12, 3) := by decide +kernel
theorem dX4_mostFor_21 : decode cX4_mostFor 21 = .ok (.getfield 52, 3) := by decide +kernel
theorem dX4_mostFor_24 : decode cX4_mostFor 24 = .ok (.iload_n 1, 1) := by decide +kernel
theorem dX4_mostFor_25 : decode cX4_mostFor 25 = .ok (.iaload, 1) := by decide +kernel
theorem dX4_mostFor_26 : decode cX4_mostFor 26 = .ok (.isub, 1) := by decide +kernel
theorem dX4_mostFor_27 : decode cX4_mostFor 27 = .ok (.goto 4, 3) := by decide +kernel
theorem dX4_mostFor_30 : decode cX4_mostFor 30 = .ok (.iconst 0, 1) := by decide +kernel
theorem dX4_mostFor_31 : decode cX4_mostFor 31 = .ok (.ireturn, 1) := by decide +kernel
theorem mv_X4_mostFor : MV yX4_mostFor RX4 cX4_mostFor 2 (some .int) 1 := ⟨tb_1002, tb_1000, tb_1001, tb_13, by decide +kernel, by decide +kernel, by decide +kernel⟩
def f_X4_mostFor (fu : Nat) (f_sizes : Nat → Int32) (f_dangers : Int32) (a_courage : Nat → Int32) (a_weight : Nat → Int32) (a_medals : Nat → Int32) (a_liked : Nat → Int32) (a_votes : Nat → Int32) (a_count : Int32) (a_living : Int32) (a_pride : Int32) (x1 : Int32) : Option (Int32 × (Nat → Int32) × (Nat → Int32)) := (f_X0_isMan fu a_count x1).bind fun z_5 => (if z_5 = 0 then some (0, a_medals, a_votes) else (f_X4_mostFrom fu 6 f_sizes f_dangers a_courage a_weight a_medals a_liked a_votes a_count a_living a_pride x1 0).bind fun z_7 => (rdI z_7.2.1 8 x1).bind fun y_8 => some (z_7.1 - y_8, z_7.2.1, z_7.2.2))
abbrev rm_X4_mostFor : Room := { frames := 19, cells := 0, slots := 0, locals := 481 }
set_option maxHeartbeats 4000000 in
set_option maxRecDepth 100000 in
theorem c_X4_mostFor (l : Launch) (D : va_G) (cy : Nat → ClassId) (fu : Nat) (A_f : Nat → Nat) (f_sizes : Nat → Int32) (f_dangers : Int32) (A_a : Nat → Nat) (a_name : Nat → Int64) (a_courage : Nat → Int32) (a_weight : Nat → Int32) (a_medals : Nat → Int32) (a_stood : Nat → Int32) (a_fled : Nat → Int32) (a_liked : Nat → Int32) (a_votes : Nat → Int32) (a_count : Int32) (a_living : Int32) (a_pride : Int32) (a_quota : Int32) (a_melted : Int32) (a_lost : Int32) (x1 : Int32) (res : Int32 × (Nat → Int32) × (Nat → Int32)) (h : f_X4_mostFor fu f_sizes f_dangers a_courage a_weight a_medals a_liked a_votes a_count a_living a_pride x1 = some res) (A : Nat → Prop) (hA : A = adr [bl_X4 cy A_f (A_a 0) f_sizes f_dangers, bl_X0 cy A_a a_name a_courage a_weight a_medals a_stood a_fled a_liked a_votes a_count a_living a_pride a_quota a_melted a_lost]) (W1 : List va_W) (hW1 : W1 = [bl_X4 cy A_f (A_a 0) f_sizes f_dangers, bl_X0 cy A_a a_name a_courage a_weight res.2.1 a_stood a_fled a_liked res.2.2 a_count a_living a_pride a_quota a_melted a_lost]) : Met l yX4_mostFor (WW yX4_mostFor cX4_mostFor 2 (some .int)) rm_X4_mostFor (Ed D cy [.ref (A_f 0), .int x1] [bl_X4 cy A_f (A_a 0) f_sizes f_dangers, bl_X0 cy A_a a_name a_courage a_weight a_medals a_stood a_fled a_liked a_votes a_count a_living a_pride a_quota a_melted a_lost]) (Qei D res.1 A W1) 0 0 A := by
  refine Met.ofW (cc := cX4_mostFor) (maxL := 2) (ret := (some .int)) (by decide) rfl ?_
  intro p e s m args below meth c s₁ B hml hv
  obtain ⟨hargs, hP, hX, hD0⟩ := hv
  have hx := B.exec
  have hb := B.bytes
  have hr := B.returns
  have ht : ∀ w ∈ lw_gd, w.before args s = true := fun w hw => atoms_spec (ws := WW yX4_mostFor cX4_mostFor 2 (some .int)) B.pre w (List.mem_cons_of_mem _ hw)
  have hown : s.vm.findClass RX4 = some m.cls := findClass_of_methodNamed B.named
  have hlocks := B.notSynchronized
  have hP : PD D A [bl_X4 cy A_f (A_a 0) f_sizes f_dangers, bl_X0 cy A_a a_name a_courage a_weight a_medals a_stood a_fled a_liked a_votes a_count a_living a_pride a_quota a_melted a_lost] s.heap := ⟨hP, by rw [hA]; exact hD0.own⟩
  have hS : va_S A s.heap s.heap [] := va_S.rf
  obtain ⟨ls, hl, hent⟩ := ent (m := m) (n := 2) hargs (Nat.le_of_ble_eq_true rfl) (lv := [(0, .ref (A_f 0)), (1, .int x1)]) rfl
  rw [hent]
  clear hent
  unfold f_X4_mostFor at h
  refine lv_aload_n hx hb dX4_mostFor_0 rfl (lv_at hl 0 rfl) ?_
  refine xget (i := 0) (j := 0) (k := 0) (T := TX4) hx hb ht tb_iX4 hown hX hP.1 rfl rfl rfl (by decide) tb_368 rfl dX4_mostFor_1 ?_
  refine lv_iload_n hx hb dX4_mostFor_4 rfl (lv_at hl 1 rfl) ?_
  obtain ⟨z_5, e_z_5, h⟩ := bi h
  refine roVi (rest := []) ⟨hx, hb, hml, hown, ht⟩ (c_X0_isMan l D cy fu A_a a_name a_courage a_weight a_medals a_stood a_fled a_liked a_votes a_count a_living a_pride a_quota a_melted a_lost x1 z_5 e_z_5) (cV ht mv_X0_isMan tb_1003 rfl rfl ⟨Nat.le_of_ble_eq_true rfl, Nat.le_of_ble_eq_true rfl⟩) (P_sub hP.1 [1] rfl) hX rfl rfl rfl hl.1 rfl (Nat.le_of_ble_eq_true rfl) dX4_mostFor_5 ⟨Nat.le_of_ble_eq_true rfl, Nat.le_of_ble_eq_true rfl⟩ ?_
  refine lv_if_eq (tgt := 30) hx hb dX4_mostFor_8 (by decide) (fun c_6 => ?_) (fun c_6 => ?_)
  · have h := it c_6 h
    refine lv_iconst (v := 0) hx hb dX4_mostFor_30 (by decide) ?_
    cases h
    subst hW1
    exact W.iret hx hb hr (fun _ ht9 _ => ⟨⟨_, (), rfl, rfl, hPt ht9 hP.1⟩, hS.F ht9⟩) hS.2.2 dX4_mostFor_31
  · have h := ie c_6 h
    refine lv_aload_n hx hb dX4_mostFor_11 rfl (lv_at hl 0 rfl) ?_
    refine lv_iload_n hx hb dX4_mostFor_12 rfl (lv_at hl 1 rfl) ?_
    refine lv_iconst (v := 0) hx hb dX4_mostFor_13 (by decide) ?_
    obtain ⟨z_7, e_z_7, h⟩ := bi h
    refine efVi (rest := []) ⟨hx, hb, hml, hown, ht⟩ (c_X4_mostFrom l D cy fu 6 A_f f_sizes f_dangers A_a a_name a_courage a_weight a_medals a_stood a_fled a_liked a_votes a_count a_living a_pride a_quota a_melted a_lost x1 0 z_7 e_z_7 _ rfl _ rfl) (cV ht mv_X4_mostFrom tb_1004 rfl rfl ⟨Nat.le_of_ble_eq_true rfl, Nat.le_of_ble_eq_true rfl⟩) hP hS hX [0, 1] rfl rfl rfl rfl rfl rfl hl.1 rfl (Nat.le_of_ble_eq_true rfl) dX4_mostFor_14 ⟨Nat.le_of_ble_eq_true rfl, Nat.le_of_ble_eq_true rfl⟩ (fun H locs hP hS => ?_)
    have hP : PD D A [bl_X4 cy A_f (A_a 0) f_sizes f_dangers, bl_X0 cy A_a a_name a_courage a_weight z_7.2.1 a_stood a_fled a_liked z_7.2.2 a_count a_living a_pride a_quota a_melted a_lost] H := hP
    refine lv_aload_n hx hb dX4_mostFor_17 rfl (lv_at hl 0 rfl) ?_
    refine xget (i := 0) (j := 0) (k := 0) (T := TX4) hx hb ht tb_iX4 hown hX hP.1 rfl rfl rfl (by decide) tb_368 rfl dX4_mostFor_18 ?_
    refine xget (i := 1) (j := 0) (k := 3) (T := TX0) hx hb ht tb_iX0 hown hX hP.1 rfl rfl rfl (by decide) tb_44 rfl dX4_mostFor_21 ?_
    refine lv_iload_n hx hb dX4_mostFor_24 rfl (lv_at hl 1 rfl) ?_
    obtain ⟨y_8, e_y_8, h⟩ := bi h
    refine xiald (i0 := 1) (j0 := 4) hx hb hX hP.1 rfl rfl e_y_8 dX4_mostFor_25 ?_
    refine lv_isub hx hb dX4_mostFor_26 ?_
    refine lv_goto (tgt := 31) hx hb dX4_mostFor_27 (by decide) ?_
    cases h
    subst hW1
    exact W.iret hx hb hr (fun _ ht9 _ => ⟨⟨_, (), rfl, rfl, hPt ht9 hP.1⟩, hS.F ht9⟩) hS.2.2 dX4_mostFor_31
def f_X11_ordersRefusal_n2 (fu : Nat) (a_count : Int32) (x1 : Int32) (x3 : Int32) : Option (Int32) := (f_X0_isMan fu a_count x1).bind fun z_3 => (if z_3 = 0 then some (1) else some (1))
abbrev rm_X11_ordersRefusal_n2 : Room := { frames := 1, cells := 0, slots := 0, locals := 21 }
set_option maxHeartbeats 4000000 in
set_option maxRecDepth 100000 in
theorem c_X11_ordersRefusal_n2 (l : Launch) (D : va_G) (cy : Nat → ClassId) (fu : Nat) (A_b : Nat → Nat) (r_b_trays : Nat) (r_b_war : Nat) (r_b_draftArmy : Nat) (r_b_draftWar : Nat) (r_b_reader : Nat) (r_b_armyReader : Nat) (r_b_warReader : Nat) (r_b_markedArmies : Nat) (r_b_markedWars : Nat) (r_b_latest : Nat) (r_b_trial : Nat) (r_b_foresight : Nat) (r_b_pairs : Nat) (b_latestStatus : Int32) (b_fractionTop : Int64) (b_fractionBottom : Int64) (b_marks : Int32) (A_a : Nat → Nat) (a_name : Nat → Int64) (a_courage : Nat → Int32) (a_weight : Nat → Int32) (a_medals : Nat → Int32) (a_stood : Nat → Int32) (a_fled : Nat → Int32) (a_liked : Nat → Int32) (a_votes : Nat → Int32) (a_count : Int32) (a_living : Int32) (a_pride : Int32) (a_quota : Int32) (a_melted : Int32) (a_lost : Int32) (x1 : Int32) (x3 : Int32) (res : Int32) (h : f_X11_ordersRefusal_n2 fu a_count x1 x3 = some res) : Met l yX11_ordersRefusal (WW yX11_ordersRefusal cX11_ordersRefusal 5 (some .int)) rm_X11_ordersRefusal_n2 (Rd D cy [.ref (A_b 0), .int x1, .null, .int x3] [bl_X11 cy A_b r_b_trays (A_a 0) r_b_war r_b_draftArmy r_b_draftWar r_b_reader r_b_armyReader r_b_warReader r_b_markedArmies r_b_markedWars r_b_latest r_b_trial r_b_foresight r_b_pairs b_latestStatus b_fractionTop b_fractionBottom b_marks, bl_X0 cy A_a a_name a_courage a_weight a_medals a_stood a_fled a_liked a_votes a_count a_living a_pride a_quota a_melted a_lost]) (vp_Si (fun v => v = res)) 0 0 (fun _ => False) := by
  refine Met.ofW (cc := cX11_ordersRefusal) (maxL := 5) (ret := (some .int)) (by decide) rfl ?_
  intro p e s m args below meth c s₁ B hml hv
  obtain ⟨hargs, hP, hX⟩ := hv
  have hx := B.exec
  have hb := B.bytes
  have hr := B.returns
  have ht : ∀ w ∈ lw_gd, w.before args s = true := fun w hw => atoms_spec (ws := WW yX11_ordersRefusal cX11_ordersRefusal 5 (some .int)) B.pre w (List.mem_cons_of_mem _ hw)
  have hown : s.vm.findClass RX11 = some m.cls := findClass_of_methodNamed B.named
  have hlocks := B.notSynchronized
  have hP : PB D [bl_X11 cy A_b r_b_trays (A_a 0) r_b_war r_b_draftArmy r_b_draftWar r_b_reader r_b_armyReader r_b_warReader r_b_markedArmies r_b_markedWars r_b_latest r_b_trial r_b_foresight r_b_pairs b_latestStatus b_fractionTop b_fractionBottom b_marks, bl_X0 cy A_a a_name a_courage a_weight a_medals a_stood a_fled a_liked a_votes a_count a_living a_pride a_quota a_melted a_lost] s.heap := hP
  obtain ⟨ls, hl, hent⟩ := ent (m := m) (n := 5) hargs (Nat.le_of_ble_eq_true rfl) (lv := [(0, .ref (A_b 0)), (1, .int x1), (2, .null), (3, .int x3)]) rfl
  rw [hent]
  clear hent
  unfold f_X11_ordersRefusal_n2 at h
  refine lv_aload_n hx hb dX11_ordersRefusal_0 rfl (lv_at hl 0 rfl) ?_
  refine xget (i := 0) (j := 0) (k := 4) (T := TX11) hx hb ht tb_iX11 hown hX hP rfl rfl rfl (by decide) tb_433 rfl dX11_ordersRefusal_1 ?_
  refine lv_iload_n hx hb dX11_ordersRefusal_4 rfl (lv_at hl 1 rfl) ?_
  obtain ⟨z_3, e_z_3, h⟩ := bi h
  refine roVi (rest := []) ⟨hx, hb, hml, hown, ht⟩ (c_X0_isMan l D cy fu A_a a_name a_courage a_weight a_medals a_stood a_fled a_liked a_votes a_count a_living a_pride a_quota a_melted a_lost x1 z_3 e_z_3) (cV ht mv_X0_isMan tb_774 rfl rfl ⟨Nat.le_of_ble_eq_true rfl, Nat.le_of_ble_eq_true rfl⟩) (P_sub hP [1] rfl) hX rfl rfl rfl hl.1 rfl (Nat.le_of_ble_eq_true rfl) dX11_ordersRefusal_5 ⟨Nat.le_of_ble_eq_true rfl, Nat.le_of_ble_eq_true rfl⟩ ?_
  refine lv_if_eq (tgt := 24) hx hb dX11_ordersRefusal_8 (by decide) (fun c_4 => ?_) (fun c_4 => ?_)
  · have h := it c_4 h
    refine lv_iconst (v := 1) hx hb dX11_ordersRefusal_24 (by decide) ?_
    cases h
    exact W.iret hx hb hr (fun _ ht9 _ => ⟨_, rfl, rfl, ht9⟩) (fun _ hq => by cases hq) dX11_ordersRefusal_25
  · have h := ie c_4 h
    refine lv_aload_nN hx hb dX11_ordersRefusal_11 rfl (lv_at hl 2 rfl) ?_
    refine lv_ifnullN (tgt := 24) hx hb dX11_ordersRefusal_12 (by decide) ?_
    refine lv_iconst (v := 1) hx hb dX11_ordersRefusal_24 (by decide) ?_
    cases h
    exact W.iret hx hb hr (fun _ ht9 _ => ⟨_, rfl, rfl, ht9⟩) (fun _ hq => by cases hq) dX11_ordersRefusal_25
def f_X4_look_n2_b32 (fu : Nat) (o_name : Nat → Int64) (o_courage : Nat → Int32) (o_weight : Nat → Int32) (o_medals : Nat → Int32) (o_stood : Nat → Int32) (o_fled : Nat → Int32) (o_liked : Nat → Int32) (o_count : Int32) (o_living : Int32) (o_pride : Int32) (o_quota : Int32) (o_melted : Int32) (o_lost : Int32) (x3 : Int32) (k32 : Int32 → (Nat → Int64) → (Nat → Int32) → (Nat → Int32) → (Nat → Int32) → (Nat → Int32) → (Nat → Int32) → (Nat → Int32) → Int32 → Int32 → Int32 → Int32 → Int32 → Int32 → Int32 → (Option (Int32 × (Nat → Int64) × (Nat → Int32) × (Nat → Int32) × (Nat → Int32) × (Nat → Int32) × (Nat → Int32) × (Nat → Int32) × Int32 × Int32 × Int32 × Int32 × Int32 × Int32))) (f_dangers : Int32) (a_name : Nat → Int64) (a_courage : Nat → Int32) (a_weight : Nat → Int32) (a_medals : Nat → Int32) (a_stood : Nat → Int32) (a_fled : Nat → Int32) (a_liked : Nat → Int32) (a_count : Int32) (a_living : Int32) (a_pride : Int32) (a_quota : Int32) (a_melted : Int32) (a_lost : Int32) (x4 : Int32) : Option (Int32 × (Nat → Int64) × (Nat → Int32) × (Nat → Int32) × (Nat → Int32) × (Nat → Int32) × (Nat → Int32) × (Nat → Int32) × Int32 × Int32 × Int32 × Int32 × Int32 × Int32) := (if f_dangers ≤ x4 then some (f_dangers, a_name, a_courage, a_weight, a_medals, a_stood, a_fled, a_liked, a_count, a_living, a_pride, a_quota, a_melted, a_lost) else none)
def f_X4_look_n2_l32 (fu : Nat) (o_name : Nat → Int64) (o_courage : Nat → Int32) (o_weight : Nat → Int32) (o_medals : Nat → Int32) (o_stood : Nat → Int32) (o_fled : Nat → Int32) (o_liked : Nat → Int32) (o_count : Int32) (o_living : Int32) (o_pride : Int32) (o_quota : Int32) (o_melted : Int32) (o_lost : Int32) (x3 : Int32) : Nat → Int32 → (Nat → Int64) → (Nat → Int32) → (Nat → Int32) → (Nat → Int32) → (Nat → Int32) → (Nat → Int32) → (Nat → Int32) → Int32 → Int32 → Int32 → Int32 → Int32 → Int32 → Int32 → (Option (Int32 × (Nat → Int64) × (Nat → Int32) × (Nat → Int32) × (Nat → Int32) × (Nat → Int32) × (Nat → Int32) × (Nat → Int32) × Int32 × Int32 × Int32 × Int32 × Int32 × Int32))
  | 0, _, _, _, _, _, _, _, _, _, _, _, _, _, _, _ => none
  | n + 1, f_dangers, a_name, a_courage, a_weight, a_medals, a_stood, a_fled, a_liked, a_count, a_living, a_pride, a_quota, a_melted, a_lost, x4 => f_X4_look_n2_b32 fu o_name o_courage o_weight o_medals o_stood o_fled o_liked o_count o_living o_pride o_quota o_melted o_lost x3 (f_X4_look_n2_l32 fu o_name o_courage o_weight o_medals o_stood o_fled o_liked o_count o_living o_pride o_quota o_melted o_lost x3 n) f_dangers a_name a_courage a_weight a_medals a_stood a_fled a_liked a_count a_living a_pride a_quota a_melted a_lost x4
def f_X4_look_n2 (fu : Nat) (f_dangers : Int32) (a_name : Nat → Int64) (a_courage : Nat → Int32) (a_weight : Nat → Int32) (a_medals : Nat → Int32) (a_stood : Nat → Int32) (a_fled : Nat → Int32) (a_liked : Nat → Int32) (a_count : Int32) (a_living : Int32) (a_pride : Int32) (a_quota : Int32) (a_melted : Int32) (a_lost : Int32) (o_name : Nat → Int64) (o_courage : Nat → Int32) (o_weight : Nat → Int32) (o_medals : Nat → Int32) (o_stood : Nat → Int32) (o_fled : Nat → Int32) (o_liked : Nat → Int32) (o_count : Int32) (o_living : Int32) (o_pride : Int32) (o_quota : Int32) (o_melted : Int32) (o_lost : Int32) (x3 : Int32) : Option (Int32 × (Nat → Int64) × (Nat → Int32) × (Nat → Int32) × (Nat → Int32) × (Nat → Int32) × (Nat → Int32) × (Nat → Int32) × Int32 × Int32 × Int32 × Int32 × Int32 × Int32) := (f_X0_become fu a_name a_courage a_weight a_medals a_stood a_fled a_liked a_count a_living a_pride a_quota a_melted a_lost o_name o_courage o_weight o_medals o_stood o_fled o_liked o_count o_living o_pride o_quota o_melted o_lost).bind fun z_4 => f_X4_look_n2_l32 fu o_name o_courage o_weight o_medals o_stood o_fled o_liked o_count o_living o_pride o_quota o_melted o_lost x3 fu 0 z_4.1 z_4.2.1 z_4.2.2.1 z_4.2.2.2.1 z_4.2.2.2.2.1 z_4.2.2.2.2.2.1 z_4.2.2.2.2.2.2.1 z_4.2.2.2.2.2.2.2.1 z_4.2.2.2.2.2.2.2.2.1 z_4.2.2.2.2.2.2.2.2.2.1 z_4.2.2.2.2.2.2.2.2.2.2.1 z_4.2.2.2.2.2.2.2.2.2.2.2.1 z_4.2.2.2.2.2.2.2.2.2.2.2.2 0
abbrev rm_X4_look_n2 : Room := { frames := 2, cells := 0, slots := 0, locals := 81 }
set_option maxHeartbeats 4000000 in
set_option maxRecDepth 100000 in
theorem c_X4_look_n2 (l : Launch) (D : va_G) (cy : Nat → ClassId) (fu : Nat) (A_f : Nat → Nat) (f_sizes : Nat → Int32) (f_dangers : Int32) (A_a : Nat → Nat) (a_name : Nat → Int64) (a_courage : Nat → Int32) (a_weight : Nat → Int32) (a_medals : Nat → Int32) (a_stood : Nat → Int32) (a_fled : Nat → Int32) (a_liked : Nat → Int32) (a_votes : Nat → Int32) (a_count : Int32) (a_living : Int32) (a_pride : Int32) (a_quota : Int32) (a_melted : Int32) (a_lost : Int32) (A_o : Nat → Nat) (o_name : Nat → Int64) (o_courage : Nat → Int32) (o_weight : Nat → Int32) (o_medals : Nat → Int32) (o_stood : Nat → Int32) (o_fled : Nat → Int32) (o_liked : Nat → Int32) (o_votes : Nat → Int32) (o_count : Int32) (o_living : Int32) (o_pride : Int32) (o_quota : Int32) (o_melted : Int32) (o_lost : Int32) (x3 : Int32) (res : Int32 × (Nat → Int64) × (Nat → Int32) × (Nat → Int32) × (Nat → Int32) × (Nat → Int32) × (Nat → Int32) × (Nat → Int32) × Int32 × Int32 × Int32 × Int32 × Int32 × Int32) (h : f_X4_look_n2 fu f_dangers a_name a_courage a_weight a_medals a_stood a_fled a_liked a_count a_living a_pride a_quota a_melted a_lost o_name o_courage o_weight o_medals o_stood o_fled o_liked o_count o_living o_pride o_quota o_melted o_lost x3 = some res) (A : Nat → Prop) (hA : A = adr [bl_X4 cy A_f (A_a 0) f_sizes f_dangers, bl_X0 cy A_a a_name a_courage a_weight a_medals a_stood a_fled a_liked a_votes a_count a_living a_pride a_quota a_melted a_lost, bl_X0 cy A_o o_name o_courage o_weight o_medals o_stood o_fled o_liked o_votes o_count o_living o_pride o_quota o_melted o_lost]) (W1 : List va_W) (hW1 : W1 = [bl_X4 cy A_f (A_a 0) f_sizes res.1, bl_X0 cy A_a res.2.1 res.2.2.1 res.2.2.2.1 res.2.2.2.2.1 res.2.2.2.2.2.1 res.2.2.2.2.2.2.1 res.2.2.2.2.2.2.2.1 a_votes res.2.2.2.2.2.2.2.2.1 res.2.2.2.2.2.2.2.2.2.1 res.2.2.2.2.2.2.2.2.2.2.1 res.2.2.2.2.2.2.2.2.2.2.2.1 res.2.2.2.2.2.2.2.2.2.2.2.2.1 res.2.2.2.2.2.2.2.2.2.2.2.2.2, bl_X0 cy A_o o_name o_courage o_weight o_medals o_stood o_fled o_liked o_votes o_count o_living o_pride o_quota o_melted o_lost]) : Met l yX4_look (WW yX4_look cX4_look 5 none) rm_X4_look_n2 (Ed D cy [.ref (A_f 0), .ref (A_o 0), .null, .int x3] [bl_X4 cy A_f (A_a 0) f_sizes f_dangers, bl_X0 cy A_a a_name a_courage a_weight a_medals a_stood a_fled a_liked a_votes a_count a_living a_pride a_quota a_melted a_lost, bl_X0 cy A_o o_name o_courage o_weight o_medals o_stood o_fled o_liked o_votes o_count o_living o_pride o_quota o_melted o_lost]) (Qev D A W1) 0 0 A := by
  refine Met.ofW (cc := cX4_look) (maxL := 5) (ret := none) (by decide) rfl ?_
  intro p e s m args below meth c s₁ B hml hv
  obtain ⟨hargs, hP, hX, hD0⟩ := hv
  have hx := B.exec
  have hb := B.bytes
  have hr := B.returns
  have ht : ∀ w ∈ lw_gd, w.before args s = true := fun w hw => atoms_spec (ws := WW yX4_look cX4_look 5 none) B.pre w (List.mem_cons_of_mem _ hw)
  have hown : s.vm.findClass RX4 = some m.cls := findClass_of_methodNamed B.named
  have hlocks := B.notSynchronized
  have hP : PD D A [bl_X4 cy A_f (A_a 0) f_sizes f_dangers, bl_X0 cy A_a a_name a_courage a_weight a_medals a_stood a_fled a_liked a_votes a_count a_living a_pride a_quota a_melted a_lost, bl_X0 cy A_o o_name o_courage o_weight o_medals o_stood o_fled o_liked o_votes o_count o_living o_pride o_quota o_melted o_lost] s.heap := ⟨hP, by rw [hA]; exact hD0.own⟩
  have hS : va_S A s.heap s.heap [] := va_S.rf
  obtain ⟨ls, hl, hent⟩ := ent (m := m) (n := 5) hargs (Nat.le_of_ble_eq_true rfl) (lv := [(0, .ref (A_f 0)), (1, .ref (A_o 0)), (2, .null), (3, .int x3)]) rfl
  rw [hent]
  clear hent
  have l32 : ∀ (n32 : Nat) (f_dangers : Int32) (a_name : Nat → Int64) (a_courage : Nat → Int32) (a_weight : Nat → Int32) (a_medals : Nat → Int32) (a_stood : Nat → Int32) (a_fled : Nat → Int32) (a_liked : Nat → Int32) (a_count : Int32) (a_living : Int32) (a_pride : Int32) (a_quota : Int32) (a_melted : Int32) (a_lost : Int32) (x4 : Int32) (H : Heap) (locs : List Loc) (_ : PD D A [bl_X4 cy A_f (A_a 0) f_sizes f_dangers, bl_X0 cy A_a a_name a_courage a_weight a_medals a_stood a_fled a_liked a_votes a_count a_living a_pride a_quota a_melted a_lost, bl_X0 cy A_o o_name o_courage o_weight o_medals o_stood o_fled o_liked o_votes o_count o_living o_pride o_quota o_melted o_lost] H) (_ : va_S A s.heap H locs) (ls : Array Slot), lv_has ls 5 [(0, .ref (A_f 0)), (2, .null), (4, .int x4)] → f_X4_look_n2_l32 fu o_name o_courage o_weight o_medals o_stood o_fled o_liked o_count o_living o_pride o_quota o_melted o_lost x3 n32 f_dangers a_name a_courage a_weight a_medals a_stood a_fled a_liked a_count a_living a_pride a_quota a_melted a_lost x4 = some res → W p l e (headSpec (WW yX4_look cX4_look 5 none) rm_X4_look_n2).room s m args below meth c H locs 0 0 (MQ below (Qev D A W1) args s 0 0 A) (F0 m 32 ls []) := by
    intro n32
    induction n32 with
    | zero => intro f_dangers a_name a_courage a_weight a_medals a_stood a_fled a_liked a_count a_living a_pride a_quota a_melted a_lost x4 H locs hP hS ls hl h; cases h
    | succ n32 ih32 =>
      intro f_dangers a_name a_courage a_weight a_medals a_stood a_fled a_liked a_count a_living a_pride a_quota a_melted a_lost x4 H locs hP hS ls hl h
      have h : f_X4_look_n2_b32 fu o_name o_courage o_weight o_medals o_stood o_fled o_liked o_count o_living o_pride o_quota o_melted o_lost x3 (f_X4_look_n2_l32 fu o_name o_courage o_weight o_medals o_stood o_fled o_liked o_count o_living o_pride o_quota o_melted o_lost x3 n32) f_dangers a_name a_courage a_weight a_medals a_stood a_fled a_liked a_count a_living a_pride a_quota a_melted a_lost x4 = some res := h
      unfold f_X4_look_n2_b32 at h
      refine lv_iload hx hb dX4_look_32 (lv_at hl 2 rfl) ?_
      refine lv_aload_n hx hb dX4_look_34 rfl (lv_at hl 0 rfl) ?_
      refine xget (i := 0) (j := 0) (k := 2) (T := TX4) hx hb ht tb_iX4 hown hX hP.1 rfl rfl rfl (by decide) tb_370 rfl dX4_look_35 ?_
      refine lv_icmp_ge (tgt := 61) hx hb dX4_look_38 (by decide) (fun c_3 => ?_) (fun c_3 => ?_)
      · have h := it c_3 h
        cases h
        subst hW1
        exact W.vret hx hb hr (fun _ ht9 _ => ⟨⟨(), rfl, trivial, hPt ht9 hP.1⟩, hS.F ht9⟩) hS.2.2 dX4_look_61
      · have h := ie c_3 h
        refine lv_aload_n hx hb dX4_look_41 rfl (lv_at hl 0 rfl) ?_
        refine xget (i := 0) (j := 0) (k := 1) (T := TX4) hx hb ht tb_iX4 hown hX hP.1 rfl rfl rfl (by decide) tb_369 rfl dX4_look_42 ?_
        refine lv_iload hx hb dX4_look_45 (lv_at hl 2 rfl) ?_
        refine lv_aload_nN hx hb dX4_look_47 rfl (lv_at hl 1 rfl) ?_
        refine lv_iload hx hb dX4_look_48 (lv_at hl 2 rfl) ?_
        cases h
  unfold f_X4_look_n2 at h
  refine lv_aload_n hx hb dX4_look_0 rfl (lv_at hl 0 rfl) ?_
  refine xget (i := 0) (j := 0) (k := 0) (T := TX4) hx hb ht tb_iX4 hown hX hP.1 rfl rfl rfl (by decide) tb_368 rfl dX4_look_1 ?_
  refine lv_aload_n hx hb dX4_look_4 rfl (lv_at hl 1 rfl) ?_
  obtain ⟨z_4, e_z_4, h⟩ := bi h
  refine efVv (rest := []) ⟨hx, hb, hml, hown, ht⟩ (c_X0_become l D cy fu A_a a_name a_courage a_weight a_medals a_stood a_fled a_liked a_votes a_count a_living a_pride a_quota a_melted a_lost A_o o_name o_courage o_weight o_medals o_stood o_fled o_liked o_votes o_count o_living o_pride o_quota o_melted o_lost z_4 e_z_4 _ rfl _ rfl) (cV ht mv_X0_become tb_995 rfl rfl ⟨Nat.le_of_ble_eq_true rfl, Nat.le_of_ble_eq_true rfl⟩) hP hS hX [1, 2] rfl rfl rfl rfl rfl rfl hl.1 rfl (Nat.le_of_ble_eq_true rfl) dX4_look_5 ⟨Nat.le_of_ble_eq_true rfl, Nat.le_of_ble_eq_true rfl⟩ (fun H locs hP hS => ?_)
  have hP : PD D A [bl_X4 cy A_f (A_a 0) f_sizes f_dangers, bl_X0 cy A_a z_4.1 z_4.2.1 z_4.2.2.1 z_4.2.2.2.1 z_4.2.2.2.2.1 z_4.2.2.2.2.2.1 z_4.2.2.2.2.2.2.1 a_votes z_4.2.2.2.2.2.2.2.1 z_4.2.2.2.2.2.2.2.2.1 z_4.2.2.2.2.2.2.2.2.2.1 z_4.2.2.2.2.2.2.2.2.2.2.1 z_4.2.2.2.2.2.2.2.2.2.2.2.1 z_4.2.2.2.2.2.2.2.2.2.2.2.2, bl_X0 cy A_o o_name o_courage o_weight o_medals o_stood o_fled o_liked o_votes o_count o_living o_pride o_quota o_melted o_lost] H := hP
  refine lv_aload_n hx hb dX4_look_8 rfl (lv_at hl 0 rfl) ?_
  refine lv_aload_nN hx hb dX4_look_9 rfl (lv_at hl 2 rfl) ?_
  refine lv_ifnonnullN hx hb dX4_look_10 ?_
  refine lv_iconst (v := 0) hx hb dX4_look_13 (by decide) ?_
  refine lv_goto (tgt := 26) hx hb dX4_look_14 (by decide) ?_
  refine xput (i := 0) (j := 0) (k := 2) (T := TX4) tyX4 tyX4_ok nmX4 hx hb ht tb_iX4 hown hX hP hS rfl rfl rfl (by decide) tb_370 rfl rfl rfl (Nat.le_of_ble_eq_true rfl) dX4_look_26 (fun H locs hP hS => ?_)
  have hP : PD D A [bl_X4 cy A_f (A_a 0) f_sizes 0, bl_X0 cy A_a z_4.1 z_4.2.1 z_4.2.2.1 z_4.2.2.2.1 z_4.2.2.2.2.1 z_4.2.2.2.2.2.1 z_4.2.2.2.2.2.2.1 a_votes z_4.2.2.2.2.2.2.2.1 z_4.2.2.2.2.2.2.2.2.1 z_4.2.2.2.2.2.2.2.2.2.1 z_4.2.2.2.2.2.2.2.2.2.2.1 z_4.2.2.2.2.2.2.2.2.2.2.2.1 z_4.2.2.2.2.2.2.2.2.2.2.2.2, bl_X0 cy A_o o_name o_courage o_weight o_medals o_stood o_fled o_liked o_votes o_count o_living o_pride o_quota o_melted o_lost] H := hP
  refine lv_iconst (v := 0) hx hb dX4_look_29 (by decide) ?_
  refine lv_istore (lv' := [(4, .int 0), (0, .ref (A_f 0)), (1, .ref (A_o 0)), (2, .null), (3, .int x3)]) hx hb dX4_look_30 hl (by decide) rfl (fun ls hl => ?_)
  exact l32 fu 0 z_4.1 z_4.2.1 z_4.2.2.1 z_4.2.2.2.1 z_4.2.2.2.2.1 z_4.2.2.2.2.2.1 z_4.2.2.2.2.2.2.1 z_4.2.2.2.2.2.2.2.1 z_4.2.2.2.2.2.2.2.2.1 z_4.2.2.2.2.2.2.2.2.2.1 z_4.2.2.2.2.2.2.2.2.2.2.1 z_4.2.2.2.2.2.2.2.2.2.2.2.1 z_4.2.2.2.2.2.2.2.2.2.2.2.2 0 _ _ hP hS ls (lv_sub hl [1, 3, 0] rfl) h
