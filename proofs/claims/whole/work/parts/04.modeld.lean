theorem dX12_votes_0 : decode cX12_votes 0 = .ok (.aload_n 0, 1) := by decide +kernel
theorem dX12_votes_1 : decode cX12_votes 1 = .ok (.iload_n 1, 1) := by decide +kernel
theorem dX12_votes_2 : decode cX12_votes 2 = .ok (.invokevirtual 241, 3) := by decide +kernel
theorem dX12_votes_5 : decode cX12_votes 5 = .ok (.ifCond .eq 19, 3) := by decide +kernel
theorem dX12_votes_8 : decode cX12_votes 8 = .ok (.aload_n 0, 1) := by decide +kernel
theorem dX12_votes_9 : decode cX12_votes 9 = .ok (.iload_n 2, 1) := by decide +kernel
theorem dX12_votes_10 : decode cX12_votes 10 = .ok (.invokevirtual 241, 3) := by decide +kernel
theorem dX12_votes_13 : decode cX12_votes 13 = .ok (.ifCond .eq 11, 3) := by decide +kernel
theorem dX12_votes_16 : decode cX12_votes 16 = .ok (.iload_n 3, 1) := by decide +kernel
theorem dX12_votes_17 : decode cX12_votes 17 = .ok (.i2l, 1) := by decide +kernel
theorem dX12_votes_18 : decode cX12_votes 18 = .ok (.invokestatic 292, 3) := by decide +kernel
theorem dX12_votes_21 : decode cX12_votes 21 = .ok (.ifCond .ne 9, 3) := by decide +kernel
theorem dX12_votes_24 : decode cX12_votes 24 = .ok (.aload_n 0, 1) := by decide +kernel
theorem dX12_votes_25 : decode cX12_votes 25 = .ok (.iconst 1, 1) := by decide +kernel
theorem dX12_votes_26 : decode cX12_votes 26 = .ok (.invokevirtual 85, 3) := by decide +kernel
theorem dX12_votes_29 : decode cX12_votes 29 = .ok (.ireturn, 1) := by decide +kernel
theorem dX12_votes_30 : decode cX12_votes 30 = .ok (.aload_n 0, 1) := by decide +kernel
theorem dX12_votes_31 : decode cX12_votes 31 = .ok (.iload_n 2, 1) := by decide +kernel
theorem dX12_votes_32 : decode cX12_votes 32 = .ok (.iload_n 3, 1) := by decide +kernel
theorem dX12_votes_33 : decode cX12_votes 33 = .ok (.invokevirtual 280, 3) := by decide +kernel
theorem dX12_votes_36 : decode cX12_votes 36 = .ok (.istore 4, 2) := by decide +kernel
theorem dX12_votes_38 : decode cX12_votes 38 = .ok (.aload_n 0, 1) := by decide +kernel
theorem dX12_votes_39 : decode cX12_votes 39 = .ok (.iload_n 2, 1) := by decide +kernel
theorem dX12_votes_40 : decode cX12_votes 40 = .ok (.invokevirtual 253, 3) := by decide +kernel
theorem dX12_votes_43 : decode cX12_votes 43 = .ok (.ifCond .eq 27, 3) := by decide +kernel
theorem dX12_votes_46 : decode cX12_votes 46 = .ok (.aload_n 0, 1) := by decide +kernel
theorem dX12_votes_47 : decode cX12_votes 47 = .ok (.iload 4, 2) := by decide +kernel
theorem dX12_votes_49 : decode cX12_votes 49 = .ok (.iload_n 1, 1) := by decide +kernel
theorem dX12_votes_50 : decode cX12_votes 50 = .ok (.invokevirtual 274, 3) := by decide +kernel
theorem dX12_votes_53 : decode cX12_votes 53 = .ok (.ifCond .eq 17, 3) := by decide +kernel
theorem dX12_votes_56 : decode cX12_votes 56 = .ok (.aload_n 0, 1) := by decide +kernel
theorem dX12_votes_57 : decode cX12_votes 57 = .ok (.aload_n 0, 1) := by decide +kernel
theorem dX12_votes_58 : decode cX12_votes 58 = .ok (.iload_n 1, 1) := by decide +kernel
theorem dX12_votes_59 : decode cX12_votes 59 = .ok (.iload 4, 2) := by decide +kernel
theorem dX12_votes_61 : decode cX12_votes 61 = .ok (.invokevirtual 283, 3) := by decide +kernel
theorem dX12_votes_64 : decode cX12_votes 64 = .ok (.invokevirtual 88, 3) := by decide +kernel
theorem dX12_votes_67 : decode cX12_votes 67 = .ok (.goto 9, 3) := by decide +kernel
theorem dX12_votes_70 : decode cX12_votes 70 = .ok (.aload_n 0, 1) := by decide +kernel
theorem dX12_votes_71 : decode cX12_votes 71 = .ok (.bipush 7, 2) := by decide +kernel
theorem dX12_votes_73 : decode cX12_votes 73 = .ok (.invokevirtual 85, 3) := by decide +kernel
theorem dX12_votes_76 : decode cX12_votes 76 = .ok (.ireturn, 1) := by decide +kernel
theorem mv_X12_votes : MV yX12_votes RX12 cX12_votes 5 (some .int) 3 := ⟨tb_1686, tb_1684, tb_1685, tb_16, by decide +kernel, by decide +kernel, by decide +kernel⟩
def f_X12_votes (fu : Nat) (m_at : Nat → Int32) (m_status : Int32) (x1 : Int32) (x2 : Int32) (x3 : Int32) : Option (Int32 × Int32) := (f_X12_isMan fu m_at x1).bind fun z_19 => (if z_19 = 0 then (f_X12_refuse fu m_status 1).bind fun z_21 => some (z_21.1, z_21.2) else (f_X12_isMan fu m_at x2).bind fun z_22 => (if z_22 = 0 then (f_X12_refuse fu m_status 1).bind fun z_24 => some (z_24.1, z_24.2) else (f_X12_isSize fu (Int32.toInt64 x3)).bind fun z_25 => (if z_25 = 0 then (f_X12_refuse fu m_status 1).bind fun z_36 => some (z_36.1, z_36.2) else (f_X12_candidatesOf fu m_at x2 x3).bind fun z_27 => (f_X12_isAlive fu m_at x2).bind fun z_28 => (if z_28 = 0 then (f_X12_refuse fu m_status 7).bind fun z_30 => some (z_30.1, z_30.2) else (f_X12_isIn fu z_27 x1).bind fun z_31 => (if z_31 = 0 then (f_X12_refuse fu m_status 7).bind fun z_33 => some (z_33.1, z_33.2) else (f_X12_votesFor fu m_at x1 z_27).bind fun z_34 => (f_X12_gives fu m_status z_34).bind fun z_35 => some (z_35.1, z_35.2))))))
abbrev rm_X12_votes : Room := { frames := 5, cells := 0, slots := 0, locals := 112 }
set_option maxHeartbeats 4000000 in
set_option maxRecDepth 100000 in
theorem c_X12_votes (l : Launch) (D : va_G) (cy : Nat → ClassId) (fu : Nat) (A_m : Nat → Nat) (m_at : Nat → Int32) (m_names : Nat → Int64) (m_status : Int32) (m_top : Int64) (m_bottom : Int64) (m_sort : Nat → Int32) (m_trayMany : Nat → Int32) (m_trays : Nat → Int64) (m_tape : Nat → Int32) (m_text : Nat → Int32) (m_taped : Int32) (m_size : Int32) (m_token : Int32) (m_from : Int32) (m_end : Int32) (m_value : Int32) (m_faultKind : Int32) (m_faultPlace : Int32) (m_faults : Int32) (m_seen : Int32) (m_toldParts : Int32) (m_opened : Nat → Int32) (m_depth : Int32) (m_counted : Int32) (m_bestOrder : Int32) (m_standers : Nat → Int32) (m_has : Nat → Int32) (m_bestHas : Nat → Int32) (m_standerMany : Int32) (m_bestCouples : Int32) (m_bestFondness : Int32) (m_cameTo : Nat → Int32) (m_doesStandFirst : Int32) (m_stoodBy : Nat → Int64) (m_drawn : Int32) (m_ranSteps : Int32) (m_loops : Nat → Int32) (m_ran : Nat → Int32) (m_told1 : Nat → Int32) (m_isTold : Int32) (m_marks : Int32) (x1 : Int32) (x2 : Int32) (x3 : Int32) (res : Int32 × Int32) (h : f_X12_votes fu m_at m_status x1 x2 x3 = some res) (A : Nat → Prop) (hA : A = adr [bl_X12 cy A_m m_at m_names m_status m_top m_bottom m_sort m_trayMany m_trays m_tape m_text m_taped m_size m_token m_from m_end m_value m_faultKind m_faultPlace m_faults m_seen m_toldParts m_opened m_depth m_counted m_bestOrder m_standers m_has m_bestHas m_standerMany m_bestCouples m_bestFondness m_cameTo m_doesStandFirst m_stoodBy m_drawn m_ranSteps m_loops m_ran m_told1 m_isTold m_marks]) (W1 : List va_W) (hW1 : W1 = [bl_X12 cy A_m m_at m_names res.2 m_top m_bottom m_sort m_trayMany m_trays m_tape m_text m_taped m_size m_token m_from m_end m_value m_faultKind m_faultPlace m_faults m_seen m_toldParts m_opened m_depth m_counted m_bestOrder m_standers m_has m_bestHas m_standerMany m_bestCouples m_bestFondness m_cameTo m_doesStandFirst m_stoodBy m_drawn m_ranSteps m_loops m_ran m_told1 m_isTold m_marks]) : Met l yX12_votes (WW yX12_votes cX12_votes 5 (some .int)) rm_X12_votes (Ed D cy [.ref (A_m 0), .int x1, .int x2, .int x3] [bl_X12 cy A_m m_at m_names m_status m_top m_bottom m_sort m_trayMany m_trays m_tape m_text m_taped m_size m_token m_from m_end m_value m_faultKind m_faultPlace m_faults m_seen m_toldParts m_opened m_depth m_counted m_bestOrder m_standers m_has m_bestHas m_standerMany m_bestCouples m_bestFondness m_cameTo m_doesStandFirst m_stoodBy m_drawn m_ranSteps m_loops m_ran m_told1 m_isTold m_marks]) (Qei D res.1 A W1) 0 0 A := by
  refine Met.ofW (cc := cX12_votes) (maxL := 5) (ret := (some .int)) (by decide) rfl ?_
  intro p e s m args below meth c s₁ B hml hv
  obtain ⟨hargs, hP, hX, hD0⟩ := hv
  have hx := B.exec
  have hb := B.bytes
  have hr := B.returns
  have ht : ∀ w ∈ lw_gd, w.before args s = true := fun w hw => atoms_spec (ws := WW yX12_votes cX12_votes 5 (some .int)) B.pre w (List.mem_cons_of_mem _ hw)
  have hown : s.vm.findClass RX12 = some m.cls := findClass_of_methodNamed B.named
  have hlocks := B.notSynchronized
  have hP : PD D A [bl_X12 cy A_m m_at m_names m_status m_top m_bottom m_sort m_trayMany m_trays m_tape m_text m_taped m_size m_token m_from m_end m_value m_faultKind m_faultPlace m_faults m_seen m_toldParts m_opened m_depth m_counted m_bestOrder m_standers m_has m_bestHas m_standerMany m_bestCouples m_bestFondness m_cameTo m_doesStandFirst m_stoodBy m_drawn m_ranSteps m_loops m_ran m_told1 m_isTold m_marks] s.heap := ⟨hP, by rw [hA]; exact hD0.own⟩
  have hS : va_S A s.heap s.heap [] := va_S.rf
  obtain ⟨ls, hl, hent⟩ := ent (m := m) (n := 5) hargs (Nat.le_of_ble_eq_true rfl) (lv := [(0, .ref (A_m 0)), (1, .int x1), (2, .int x2), (3, .int x3)]) rfl
  rw [hent]
  clear hent
  unfold f_X12_votes at h
  refine lv_aload_n hx hb dX12_votes_0 rfl (lv_at hl 0 rfl) ?_
  refine lv_iload_n hx hb dX12_votes_1 rfl (lv_at hl 1 rfl) ?_
  obtain ⟨z_19, e_z_19, h⟩ := bi h
  refine roVi (rest := []) ⟨hx, hb, hml, hown, ht⟩ (c_X12_isMan l D cy fu A_m m_at m_names m_status m_top m_bottom m_sort m_trayMany m_trays m_tape m_text m_taped m_size m_token m_from m_end m_value m_faultKind m_faultPlace m_faults m_seen m_toldParts m_opened m_depth m_counted m_bestOrder m_standers m_has m_bestHas m_standerMany m_bestCouples m_bestFondness m_cameTo m_doesStandFirst m_stoodBy m_drawn m_ranSteps m_loops m_ran m_told1 m_isTold m_marks x1 z_19 e_z_19) (cV ht mv_X12_isMan tb_1551 rfl rfl ⟨Nat.le_of_ble_eq_true rfl, Nat.le_of_ble_eq_true rfl⟩) (P_sub hP.1 [0] rfl) hX rfl rfl rfl hl.1 rfl (Nat.le_of_ble_eq_true rfl) dX12_votes_2 ⟨Nat.le_of_ble_eq_true rfl, Nat.le_of_ble_eq_true rfl⟩ ?_
  refine lv_if_eq (tgt := 24) hx hb dX12_votes_5 (by decide) (fun c_20 => ?_) (fun c_20 => ?_)
  · have h := it c_20 h
    refine lv_aload_n hx hb dX12_votes_24 rfl (lv_at hl 0 rfl) ?_
    refine lv_iconst (v := 1) hx hb dX12_votes_25 (by decide) ?_
    obtain ⟨z_21, e_z_21, h⟩ := bi h
    refine efVi (rest := []) ⟨hx, hb, hml, hown, ht⟩ (c_X12_refuse l D cy fu A_m m_at m_names m_status m_top m_bottom m_sort m_trayMany m_trays m_tape m_text m_taped m_size m_token m_from m_end m_value m_faultKind m_faultPlace m_faults m_seen m_toldParts m_opened m_depth m_counted m_bestOrder m_standers m_has m_bestHas m_standerMany m_bestCouples m_bestFondness m_cameTo m_doesStandFirst m_stoodBy m_drawn m_ranSteps m_loops m_ran m_told1 m_isTold m_marks 1 z_21 e_z_21 _ rfl _ rfl) (cV ht mv_X12_refuse tb_1432 rfl rfl ⟨Nat.le_of_ble_eq_true rfl, Nat.le_of_ble_eq_true rfl⟩) hP hS hX [0] rfl rfl rfl rfl rfl rfl hl.1 rfl (Nat.le_of_ble_eq_true rfl) dX12_votes_26 ⟨Nat.le_of_ble_eq_true rfl, Nat.le_of_ble_eq_true rfl⟩ (fun H locs hP hS => ?_)
    have hP : PD D A [bl_X12 cy A_m m_at m_names z_21.2 m_top m_bottom m_sort m_trayMany m_trays m_tape m_text m_taped m_size m_token m_from m_end m_value m_faultKind m_faultPlace m_faults m_seen m_toldParts m_opened m_depth m_counted m_bestOrder m_standers m_has m_bestHas m_standerMany m_bestCouples m_bestFondness m_cameTo m_doesStandFirst m_stoodBy m_drawn m_ranSteps m_loops m_ran m_told1 m_isTold m_marks] H := hP
    cases h
    subst hW1
    exact W.iret hx hb hr (fun _ ht9 _ => ⟨⟨_, (), rfl, rfl, hPt ht9 hP.1⟩, hS.F ht9⟩) hS.2.2 dX12_votes_29
  · have h := ie c_20 h
    refine lv_aload_n hx hb dX12_votes_8 rfl (lv_at hl 0 rfl) ?_
    refine lv_iload_n hx hb dX12_votes_9 rfl (lv_at hl 2 rfl) ?_
    obtain ⟨z_22, e_z_22, h⟩ := bi h
    refine roVi (rest := []) ⟨hx, hb, hml, hown, ht⟩ (c_X12_isMan l D cy fu A_m m_at m_names m_status m_top m_bottom m_sort m_trayMany m_trays m_tape m_text m_taped m_size m_token m_from m_end m_value m_faultKind m_faultPlace m_faults m_seen m_toldParts m_opened m_depth m_counted m_bestOrder m_standers m_has m_bestHas m_standerMany m_bestCouples m_bestFondness m_cameTo m_doesStandFirst m_stoodBy m_drawn m_ranSteps m_loops m_ran m_told1 m_isTold m_marks x2 z_22 e_z_22) (cV ht mv_X12_isMan tb_1551 rfl rfl ⟨Nat.le_of_ble_eq_true rfl, Nat.le_of_ble_eq_true rfl⟩) (P_sub hP.1 [0] rfl) hX rfl rfl rfl hl.1 rfl (Nat.le_of_ble_eq_true rfl) dX12_votes_10 ⟨Nat.le_of_ble_eq_true rfl, Nat.le_of_ble_eq_true rfl⟩ ?_
    refine lv_if_eq (tgt := 24) hx hb dX12_votes_13 (by decide) (fun c_23 => ?_) (fun c_23 => ?_)
    · have h := it c_23 h
      refine lv_aload_n hx hb dX12_votes_24 rfl (lv_at hl 0 rfl) ?_
      refine lv_iconst (v := 1) hx hb dX12_votes_25 (by decide) ?_
      obtain ⟨z_24, e_z_24, h⟩ := bi h
      refine efVi (rest := []) ⟨hx, hb, hml, hown, ht⟩ (c_X12_refuse l D cy fu A_m m_at m_names m_status m_top m_bottom m_sort m_trayMany m_trays m_tape m_text m_taped m_size m_token m_from m_end m_value m_faultKind m_faultPlace m_faults m_seen m_toldParts m_opened m_depth m_counted m_bestOrder m_standers m_has m_bestHas m_standerMany m_bestCouples m_bestFondness m_cameTo m_doesStandFirst m_stoodBy m_drawn m_ranSteps m_loops m_ran m_told1 m_isTold m_marks 1 z_24 e_z_24 _ rfl _ rfl) (cV ht mv_X12_refuse tb_1432 rfl rfl ⟨Nat.le_of_ble_eq_true rfl, Nat.le_of_ble_eq_true rfl⟩) hP hS hX [0] rfl rfl rfl rfl rfl rfl hl.1 rfl (Nat.le_of_ble_eq_true rfl) dX12_votes_26 ⟨Nat.le_of_ble_eq_true rfl, Nat.le_of_ble_eq_true rfl⟩ (fun H locs hP hS => ?_)
      have hP : PD D A [bl_X12 cy A_m m_at m_names z_24.2 m_top m_bottom m_sort m_trayMany m_trays m_tape m_text m_taped m_size m_token m_from m_end m_value m_faultKind m_faultPlace m_faults m_seen m_toldParts m_opened m_depth m_counted m_bestOrder m_standers m_has m_bestHas m_standerMany m_bestCouples m_bestFondness m_cameTo m_doesStandFirst m_stoodBy m_drawn m_ranSteps m_loops m_ran m_told1 m_isTold m_marks] H := hP
      cases h
      subst hW1
      exact W.iret hx hb hr (fun _ ht9 _ => ⟨⟨_, (), rfl, rfl, hPt ht9 hP.1⟩, hS.F ht9⟩) hS.2.2 dX12_votes_29
    · have h := ie c_23 h
      refine lv_iload_n hx hb dX12_votes_16 rfl (lv_at hl 3 rfl) ?_
      refine lv_i2l (v := Int32.toInt64 x3) hx hb dX12_votes_17 rfl ?_
      obtain ⟨z_25, e_z_25, h⟩ := bi h
      refine roSi (rest := []) ⟨hx, hb, hml, hown, ht⟩ (c_X12_isSize l D cy fu  (Int32.toInt64 x3) z_25 e_z_25) (cS ht ms_X12_isSize tb_1571 rfl rfl ⟨Nat.le_of_ble_eq_true rfl, Nat.le_of_ble_eq_true rfl⟩) (P_sub hP.1 [] rfl) hX rfl hl.1 rfl (Nat.le_of_ble_eq_true rfl) dX12_votes_18 ⟨Nat.le_of_ble_eq_true rfl, Nat.le_of_ble_eq_true rfl⟩ ?_
      refine lv_if_ne (tgt := 30) hx hb dX12_votes_21 (by decide) (fun c_26 => ?_) (fun c_26 => ?_)
      · have h := ie c_26 h
        refine lv_aload_n hx hb dX12_votes_30 rfl (lv_at hl 0 rfl) ?_
        refine lv_iload_n hx hb dX12_votes_31 rfl (lv_at hl 2 rfl) ?_
        refine lv_iload_n hx hb dX12_votes_32 rfl (lv_at hl 3 rfl) ?_
        obtain ⟨z_27, e_z_27, h⟩ := bi h
        refine roVi (rest := []) ⟨hx, hb, hml, hown, ht⟩ (c_X12_candidatesOf l D cy fu A_m m_at m_names m_status m_top m_bottom m_sort m_trayMany m_trays m_tape m_text m_taped m_size m_token m_from m_end m_value m_faultKind m_faultPlace m_faults m_seen m_toldParts m_opened m_depth m_counted m_bestOrder m_standers m_has m_bestHas m_standerMany m_bestCouples m_bestFondness m_cameTo m_doesStandFirst m_stoodBy m_drawn m_ranSteps m_loops m_ran m_told1 m_isTold m_marks x2 x3 z_27 e_z_27) (cV ht mv_X12_candidatesOf tb_1594 rfl rfl ⟨Nat.le_of_ble_eq_true rfl, Nat.le_of_ble_eq_true rfl⟩) (P_sub hP.1 [0] rfl) hX rfl rfl rfl hl.1 rfl (Nat.le_of_ble_eq_true rfl) dX12_votes_33 ⟨Nat.le_of_ble_eq_true rfl, Nat.le_of_ble_eq_true rfl⟩ ?_
        refine lv_istore (lv' := [(4, .int z_27), (0, .ref (A_m 0)), (1, .int x1), (2, .int x2), (3, .int x3)]) hx hb dX12_votes_36 hl (by decide) rfl (fun ls hl => ?_)
        refine lv_aload_n hx hb dX12_votes_38 rfl (lv_at hl 1 rfl) ?_
        refine lv_iload_n hx hb dX12_votes_39 rfl (lv_at hl 3 rfl) ?_
        obtain ⟨z_28, e_z_28, h⟩ := bi h
        refine roVi (rest := []) ⟨hx, hb, hml, hown, ht⟩ (c_X12_isAlive l D cy fu A_m m_at m_names m_status m_top m_bottom m_sort m_trayMany m_trays m_tape m_text m_taped m_size m_token m_from m_end m_value m_faultKind m_faultPlace m_faults m_seen m_toldParts m_opened m_depth m_counted m_bestOrder m_standers m_has m_bestHas m_standerMany m_bestCouples m_bestFondness m_cameTo m_doesStandFirst m_stoodBy m_drawn m_ranSteps m_loops m_ran m_told1 m_isTold m_marks x2 z_28 e_z_28) (cV ht mv_X12_isAlive tb_1531 rfl rfl ⟨Nat.le_of_ble_eq_true rfl, Nat.le_of_ble_eq_true rfl⟩) (P_sub hP.1 [0] rfl) hX rfl rfl rfl hl.1 rfl (Nat.le_of_ble_eq_true rfl) dX12_votes_40 ⟨Nat.le_of_ble_eq_true rfl, Nat.le_of_ble_eq_true rfl⟩ ?_
        refine lv_if_eq (tgt := 70) hx hb dX12_votes_43 (by decide) (fun c_29 => ?_) (fun c_29 => ?_)
        · have h := it c_29 h
          refine lv_aload_n hx hb dX12_votes_70 rfl (lv_at hl 1 rfl) ?_
          refine lv_bipush (v := 7) hx hb dX12_votes_71 (by decide) ?_
          obtain ⟨z_30, e_z_30, h⟩ := bi h
          refine efVi (rest := []) ⟨hx, hb, hml, hown, ht⟩ (c_X12_refuse l D cy fu A_m m_at m_names m_status m_top m_bottom m_sort m_trayMany m_trays m_tape m_text m_taped m_size m_token m_from m_end m_value m_faultKind m_faultPlace m_faults m_seen m_toldParts m_opened m_depth m_counted m_bestOrder m_standers m_has m_bestHas m_standerMany m_bestCouples m_bestFondness m_cameTo m_doesStandFirst m_stoodBy m_drawn m_ranSteps m_loops m_ran m_told1 m_isTold m_marks 7 z_30 e_z_30 _ rfl _ rfl) (cV ht mv_X12_refuse tb_1432 rfl rfl ⟨Nat.le_of_ble_eq_true rfl, Nat.le_of_ble_eq_true rfl⟩) hP hS hX [0] rfl rfl rfl rfl rfl rfl hl.1 rfl (Nat.le_of_ble_eq_true rfl) dX12_votes_73 ⟨Nat.le_of_ble_eq_true rfl, Nat.le_of_ble_eq_true rfl⟩ (fun H locs hP hS => ?_)
          have hP : PD D A [bl_X12 cy A_m m_at m_names z_30.2 m_top m_bottom m_sort m_trayMany m_trays m_tape m_text m_taped m_size m_token m_from m_end m_value m_faultKind m_faultPlace m_faults m_seen m_toldParts m_opened m_depth m_counted m_bestOrder m_standers m_has m_bestHas m_standerMany m_bestCouples m_bestFondness m_cameTo m_doesStandFirst m_stoodBy m_drawn m_ranSteps m_loops m_ran m_told1 m_isTold m_marks] H := hP
          cases h
          subst hW1
          exact W.iret hx hb hr (fun _ ht9 _ => ⟨⟨_, (), rfl, rfl, hPt ht9 hP.1⟩, hS.F ht9⟩) hS.2.2 dX12_votes_76
        · have h := ie c_29 h
          refine lv_aload_n hx hb dX12_votes_46 rfl (lv_at hl 1 rfl) ?_
          refine lv_iload hx hb dX12_votes_47 (lv_at hl 0 rfl) ?_
          refine lv_iload_n hx hb dX12_votes_49 rfl (lv_at hl 2 rfl) ?_
          obtain ⟨z_31, e_z_31, h⟩ := bi h
          refine roVi (rest := []) ⟨hx, hb, hml, hown, ht⟩ (c_X12_isIn l D cy fu A_m m_at m_names m_status m_top m_bottom m_sort m_trayMany m_trays m_tape m_text m_taped m_size m_token m_from m_end m_value m_faultKind m_faultPlace m_faults m_seen m_toldParts m_opened m_depth m_counted m_bestOrder m_standers m_has m_bestHas m_standerMany m_bestCouples m_bestFondness m_cameTo m_doesStandFirst m_stoodBy m_drawn m_ranSteps m_loops m_ran m_told1 m_isTold m_marks z_27 x1 z_31 e_z_31) (cV ht mv_X12_isIn tb_1598 rfl rfl ⟨Nat.le_of_ble_eq_true rfl, Nat.le_of_ble_eq_true rfl⟩) (P_sub hP.1 [0] rfl) hX rfl rfl rfl hl.1 rfl (Nat.le_of_ble_eq_true rfl) dX12_votes_50 ⟨Nat.le_of_ble_eq_true rfl, Nat.le_of_ble_eq_true rfl⟩ ?_
          refine lv_if_eq (tgt := 70) hx hb dX12_votes_53 (by decide) (fun c_32 => ?_) (fun c_32 => ?_)
          · have h := it c_32 h
            refine lv_aload_n hx hb dX12_votes_70 rfl (lv_at hl 1 rfl) ?_
            refine lv_bipush (v := 7) hx hb dX12_votes_71 (by decide) ?_
            obtain ⟨z_33, e_z_33, h⟩ := bi h
            refine efVi (rest := []) ⟨hx, hb, hml, hown, ht⟩ (c_X12_refuse l D cy fu A_m m_at m_names m_status m_top m_bottom m_sort m_trayMany m_trays m_tape m_text m_taped m_size m_token m_from m_end m_value m_faultKind m_faultPlace m_faults m_seen m_toldParts m_opened m_depth m_counted m_bestOrder m_standers m_has m_bestHas m_standerMany m_bestCouples m_bestFondness m_cameTo m_doesStandFirst m_stoodBy m_drawn m_ranSteps m_loops m_ran m_told1 m_isTold m_marks 7 z_33 e_z_33 _ rfl _ rfl) (cV ht mv_X12_refuse tb_1432 rfl rfl ⟨Nat.le_of_ble_eq_true rfl, Nat.le_of_ble_eq_true rfl⟩) hP hS hX [0] rfl rfl rfl rfl rfl rfl hl.1 rfl (Nat.le_of_ble_eq_true rfl) dX12_votes_73 ⟨Nat.le_of_ble_eq_true rfl, Nat.le_of_ble_eq_true rfl⟩ (fun H locs hP hS => ?_)
            have hP : PD D A [bl_X12 cy A_m m_at m_names z_33.2 m_top m_bottom m_sort m_trayMany m_trays m_tape m_text m_taped m_size m_token m_from m_end m_value m_faultKind m_faultPlace m_faults m_seen m_toldParts m_opened m_depth m_counted m_bestOrder m_standers m_has m_bestHas m_standerMany m_bestCouples m_bestFondness m_cameTo m_doesStandFirst m_stoodBy m_drawn m_ranSteps m_loops m_ran m_told1 m_isTold m_marks] H := hP
            cases h
            subst hW1
            exact W.iret hx hb hr (fun _ ht9 _ => ⟨⟨_, (), rfl, rfl, hPt ht9 hP.1⟩, hS.F ht9⟩) hS.2.2 dX12_votes_76
          · have h := ie c_32 h
            refine lv_aload_n hx hb dX12_votes_56 rfl (lv_at hl 1 rfl) ?_
            refine lv_aload_n hx hb dX12_votes_57 rfl (lv_at hl 1 rfl) ?_
            refine lv_iload_n hx hb dX12_votes_58 rfl (lv_at hl 2 rfl) ?_
            refine lv_iload hx hb dX12_votes_59 (lv_at hl 0 rfl) ?_
            obtain ⟨z_34, e_z_34, h⟩ := bi h
            refine roVi (rest := [.ref (A_m 0)]) ⟨hx, hb, hml, hown, ht⟩ (c_X12_votesFor l D cy fu A_m m_at m_names m_status m_top m_bottom m_sort m_trayMany m_trays m_tape m_text m_taped m_size m_token m_from m_end m_value m_faultKind m_faultPlace m_faults m_seen m_toldParts m_opened m_depth m_counted m_bestOrder m_standers m_has m_bestHas m_standerMany m_bestCouples m_bestFondness m_cameTo m_doesStandFirst m_stoodBy m_drawn m_ranSteps m_loops m_ran m_told1 m_isTold m_marks x1 z_27 z_34 e_z_34) (cV ht mv_X12_votesFor tb_1602 rfl rfl ⟨Nat.le_of_ble_eq_true rfl, Nat.le_of_ble_eq_true rfl⟩) (P_sub hP.1 [0] rfl) hX rfl rfl rfl hl.1 rfl (Nat.le_of_ble_eq_true rfl) dX12_votes_61 ⟨Nat.le_of_ble_eq_true rfl, Nat.le_of_ble_eq_true rfl⟩ ?_
            obtain ⟨z_35, e_z_35, h⟩ := bi h
            refine efVi (rest := []) ⟨hx, hb, hml, hown, ht⟩ (c_X12_gives l D cy fu A_m m_at m_names m_status m_top m_bottom m_sort m_trayMany m_trays m_tape m_text m_taped m_size m_token m_from m_end m_value m_faultKind m_faultPlace m_faults m_seen m_toldParts m_opened m_depth m_counted m_bestOrder m_standers m_has m_bestHas m_standerMany m_bestCouples m_bestFondness m_cameTo m_doesStandFirst m_stoodBy m_drawn m_ranSteps m_loops m_ran m_told1 m_isTold m_marks z_34 z_35 e_z_35 _ rfl _ rfl) (cV ht mv_X12_gives tb_1499 rfl rfl ⟨Nat.le_of_ble_eq_true rfl, Nat.le_of_ble_eq_true rfl⟩) hP hS hX [0] rfl rfl rfl rfl rfl rfl hl.1 rfl (Nat.le_of_ble_eq_true rfl) dX12_votes_64 ⟨Nat.le_of_ble_eq_true rfl, Nat.le_of_ble_eq_true rfl⟩ (fun H locs hP hS => ?_)
            have hP : PD D A [bl_X12 cy A_m m_at m_names z_35.2 m_top m_bottom m_sort m_trayMany m_trays m_tape m_text m_taped m_size m_token m_from m_end m_value m_faultKind m_faultPlace m_faults m_seen m_toldParts m_opened m_depth m_counted m_bestOrder m_standers m_has m_bestHas m_standerMany m_bestCouples m_bestFondness m_cameTo m_doesStandFirst m_stoodBy m_drawn m_ranSteps m_loops m_ran m_told1 m_isTold m_marks] H := hP
            refine lv_goto (tgt := 76) hx hb dX12_votes_67 (by decide) ?_
            cases h
            subst hW1
            exact W.iret hx hb hr (fun _ ht9 _ => ⟨⟨_, (), rfl, rfl, hPt ht9 hP.1⟩, hS.F ht9⟩) hS.2.2 dX12_votes_76
      · have h := it c_26 h
        refine lv_aload_n hx hb dX12_votes_24 rfl (lv_at hl 0 rfl) ?_
        refine lv_iconst (v := 1) hx hb dX12_votes_25 (by decide) ?_
        obtain ⟨z_36, e_z_36, h⟩ := bi h
        refine efVi (rest := []) ⟨hx, hb, hml, hown, ht⟩ (c_X12_refuse l D cy fu A_m m_at m_names m_status m_top m_bottom m_sort m_trayMany m_trays m_tape m_text m_taped m_size m_token m_from m_end m_value m_faultKind m_faultPlace m_faults m_seen m_toldParts m_opened m_depth m_counted m_bestOrder m_standers m_has m_bestHas m_standerMany m_bestCouples m_bestFondness m_cameTo m_doesStandFirst m_stoodBy m_drawn m_ranSteps m_loops m_ran m_told1 m_isTold m_marks 1 z_36 e_z_36 _ rfl _ rfl) (cV ht mv_X12_refuse tb_1432 rfl rfl ⟨Nat.le_of_ble_eq_true rfl, Nat.le_of_ble_eq_true rfl⟩) hP hS hX [0] rfl rfl rfl rfl rfl rfl hl.1 rfl (Nat.le_of_ble_eq_true rfl) dX12_votes_26 ⟨Nat.le_of_ble_eq_true rfl, Nat.le_of_ble_eq_true rfl⟩ (fun H locs hP hS => ?_)
        have hP : PD D A [bl_X12 cy A_m m_at m_names z_36.2 m_top m_bottom m_sort m_trayMany m_trays m_tape m_text m_taped m_size m_token m_from m_end m_value m_faultKind m_faultPlace m_faults m_seen m_toldParts m_opened m_depth m_counted m_bestOrder m_standers m_has m_bestHas m_standerMany m_bestCouples m_bestFondness m_cameTo m_doesStandFirst m_stoodBy m_drawn m_ranSteps m_loops m_ran m_told1 m_isTold m_marks] H := hP
        cases h
        subst hW1
        exact W.iret hx hb hr (fun _ ht9 _ => ⟨⟨_, (), rfl, rfl, hPt ht9 hP.1⟩, hS.F ht9⟩) hS.2.2 dX12_votes_29
theorem dX12_goesTo_0 : decode cX12_goesTo 0 = .ok (.aload_n 0, 1) := by decide +kernel
theorem dX12_goesTo_1 : decode cX12_goesTo 1 = .ok (.iload_n 1, 1) := by decide +kernel
theorem dX12_goesTo_2 : decode cX12_goesTo 2 = .ok (.invokevirtual 241, 3) := by decide +kernel
theorem dX12_goesTo_5 : decode cX12_goesTo 5 = .ok (.ifCond .eq 11, 3) := by decide +kernel
theorem dX12_goesTo_8 : decode cX12_goesTo 8 = .ok (.iload_n 2, 1) := by decide +kernel
theorem dX12_goesTo_9 : decode cX12_goesTo 9 = .ok (.i2l, 1) := by decide +kernel
theorem dX12_goesTo_10 : decode cX12_goesTo 10 = .ok (.invokestatic 292, 3) := by decide +kernel
theorem dX12_goesTo_13 : decode cX12_goesTo 13 = .ok (.ifCond .ne 9, 3) := by decide +kernel
theorem dX12_goesTo_16 : decode cX12_goesTo 16 = .ok (.aload_n 0, 1) := by decide +kernel
theorem dX12_goesTo_17 : decode cX12_goesTo 17 = .ok (.iconst 1, 1) := by decide +kernel
theorem dX12_goesTo_18 : decode cX12_goesTo 18 = .ok (.invokevirtual 85, 3) := by decide +kernel
theorem dX12_goesTo_21 : decode cX12_goesTo 21 = .ok (.ireturn, 1) := by decide +kernel
theorem dX12_goesTo_22 : decode cX12_goesTo 22 = .ok (.aload_n 0, 1) := by decide +kernel
theorem dX12_goesTo_23 : decode cX12_goesTo 23 = .ok (.iload_n 1, 1) := by decide +kernel
theorem dX12_goesTo_24 : decode cX12_goesTo 24 = .ok (.invokevirtual 253, 3) := by decide +kernel
theorem dX12_goesTo_27 : decode cX12_goesTo 27 = .ok (.ifCond .eq 16, 3) := by decide +kernel
theorem dX12_goesTo_30 : decode cX12_goesTo 30 = .ok (.aload_n 0, 1) := by decide +kernel
theorem dX12_goesTo_31 : decode cX12_goesTo 31 = .ok (.aload_n 0, 1) := by decide +kernel
theorem dX12_goesTo_32 : decode cX12_goesTo 32 = .ok (.iload_n 1, 1) := by decide +kernel
theorem dX12_goesTo_33 : decode cX12_goesTo 33 = .ok (.iload_n 2, 1) := by decide +kernel
theorem dX12_goesTo_34 : decode cX12_goesTo 34 = .ok (.invokevirtual 286, 3) := by decide +kernel
theorem dX12_goesTo_37 : decode cX12_goesTo 37 = .ok (.invokevirtual 318, 3) := by decide +kernel
theorem dX12_goesTo_40 : decode cX12_goesTo 40 = .ok (.goto 9, 3) := by decide +kernel
theorem dX12_goesTo_43 : decode cX12_goesTo 43 = .ok (.aload_n 0, 1) := by decide +kernel
theorem dX12_goesTo_44 : decode cX12_goesTo 44 = .ok (.bipush 7, 2) := by decide +kernel
theorem dX12_goesTo_46 : decode cX12_goesTo 46 = .ok (.invokevirtual 85, 3) := by decide +kernel
theorem dX12_goesTo_49 : decode cX12_goesTo 49 = .ok (.ireturn, 1) := by decide +kernel
theorem mv_X12_goesTo : MV yX12_goesTo RX12 cX12_goesTo 3 (some .int) 2 := ⟨tb_1690, tb_1688, tb_1689, tb_16, by decide +kernel, by decide +kernel, by decide +kernel⟩
def f_X12_goesTo (fu : Nat) (m_at : Nat → Int32) (m_status : Int32) (x1 : Int32) (x2 : Int32) : Option (Int32 × Int32) := (f_X12_isMan fu m_at x1).bind fun z_12 => (if z_12 = 0 then (f_X12_refuse fu m_status 1).bind fun z_14 => some (z_14.1, z_14.2) else (f_X12_isSize fu (Int32.toInt64 x2)).bind fun z_15 => (if z_15 = 0 then (f_X12_refuse fu m_status 1).bind fun z_22 => some (z_22.1, z_22.2) else (f_X12_isAlive fu m_at x1).bind fun z_17 => (if z_17 = 0 then (f_X12_refuse fu m_status 7).bind fun z_19 => some (z_19.1, z_19.2) else (f_X12_winner fu m_at x1 x2).bind fun z_20 => (f_X12_orNone fu m_status z_20).bind fun z_21 => some (z_21.1, z_21.2))))
abbrev rm_X12_goesTo : Room := { frames := 6, cells := 0, slots := 0, locals := 139 }
set_option maxHeartbeats 4000000 in
set_option maxRecDepth 100000 in
theorem c_X12_goesTo (l : Launch) (D : va_G) (cy : Nat → ClassId) (fu : Nat) (A_m : Nat → Nat) (m_at : Nat → Int32) (m_names : Nat → Int64) (m_status : Int32) (m_top : Int64) (m_bottom : Int64) (m_sort : Nat → Int32) (m_trayMany : Nat → Int32) (m_trays : Nat → Int64) (m_tape : Nat → Int32) (m_text : Nat → Int32) (m_taped : Int32) (m_size : Int32) (m_token : Int32) (m_from : Int32) (m_end : Int32) (m_value : Int32) (m_faultKind : Int32) (m_faultPlace : Int32) (m_faults : Int32) (m_seen : Int32) (m_toldParts : Int32) (m_opened : Nat → Int32) (m_depth : Int32) (m_counted : Int32) (m_bestOrder : Int32) (m_standers : Nat → Int32) (m_has : Nat → Int32) (m_bestHas : Nat → Int32) (m_standerMany : Int32) (m_bestCouples : Int32) (m_bestFondness : Int32) (m_cameTo : Nat → Int32) (m_doesStandFirst : Int32) (m_stoodBy : Nat → Int64) (m_drawn : Int32) (m_ranSteps : Int32) (m_loops : Nat → Int32) (m_ran : Nat → Int32) (m_told1 : Nat → Int32) (m_isTold : Int32) (m_marks : Int32) (x1 : Int32) (x2 : Int32) (res : Int32 × Int32) (h : f_X12_goesTo fu m_at m_status x1 x2 = some res) (A : Nat → Prop) (hA : A = adr [bl_X12 cy A_m m_at m_names m_status m_top m_bottom m_sort m_trayMany m_trays m_tape m_text m_taped m_size m_token m_from m_end m_value m_faultKind m_faultPlace m_faults m_seen m_toldParts m_opened m_depth m_counted m_bestOrder m_standers m_has m_bestHas m_standerMany m_bestCouples m_bestFondness m_cameTo m_doesStandFirst m_stoodBy m_drawn m_ranSteps m_loops m_ran m_told1 m_isTold m_marks]) (W1 : List va_W) (hW1 : W1 = [bl_X12 cy A_m m_at m_names res.2 m_top m_bottom m_sort m_trayMany m_trays m_tape m_text m_taped m_size m_token m_from m_end m_value m_faultKind m_faultPlace m_faults m_seen m_toldParts m_opened m_depth m_counted m_bestOrder m_standers m_has m_bestHas m_standerMany m_bestCouples m_bestFondness m_cameTo m_doesStandFirst m_stoodBy m_drawn m_ranSteps m_loops m_ran m_told1 m_isTold m_marks]) : Met l yX12_goesTo (WW yX12_goesTo cX12_goesTo 3 (some .int)) rm_X12_goesTo (Ed D cy [.ref (A_m 0), .int x1, .int x2] [bl_X12 cy A_m m_at m_names m_status m_top m_bottom m_sort m_trayMany m_trays m_tape m_text m_taped m_size m_token m_from m_end m_value m_faultKind m_faultPlace m_faults m_seen m_toldParts m_opened m_depth m_counted m_bestOrder m_standers m_has m_bestHas m_standerMany m_bestCouples m_bestFondness m_cameTo m_doesStandFirst m_stoodBy m_drawn m_ranSteps m_loops m_ran m_told1 m_isTold m_marks]) (Qei D res.1 A W1) 0 0 A := by
  refine Met.ofW (cc := cX12_goesTo) (maxL := 3) (ret := (some .int)) (by decide) rfl ?_
  intro p e s m args below meth c s₁ B hml hv
  obtain ⟨hargs, hP, hX, hD0⟩ := hv
  have hx := B.exec
  have hb := B.bytes
  have hr := B.returns
  have ht : ∀ w ∈ lw_gd, w.before args s = true := fun w hw => atoms_spec (ws := WW yX12_goesTo cX12_goesTo 3 (some .int)) B.pre w (List.mem_cons_of_mem _ hw)
  have hown : s.vm.findClass RX12 = some m.cls := findClass_of_methodNamed B.named
  have hlocks := B.notSynchronized
  have hP : PD D A [bl_X12 cy A_m m_at m_names m_status m_top m_bottom m_sort m_trayMany m_trays m_tape m_text m_taped m_size m_token m_from m_end m_value m_faultKind m_faultPlace m_faults m_seen m_toldParts m_opened m_depth m_counted m_bestOrder m_standers m_has m_bestHas m_standerMany m_bestCouples m_bestFondness m_cameTo m_doesStandFirst m_stoodBy m_drawn m_ranSteps m_loops m_ran m_told1 m_isTold m_marks] s.heap := ⟨hP, by rw [hA]; exact hD0.own⟩
  have hS : va_S A s.heap s.heap [] := va_S.rf
  obtain ⟨ls, hl, hent⟩ := ent (m := m) (n := 3) hargs (Nat.le_of_ble_eq_true rfl) (lv := [(0, .ref (A_m 0)), (1, .int x1), (2, .int x2)]) rfl
  rw [hent]
  clear hent
  unfold f_X12_goesTo at h
  refine lv_aload_n hx hb dX12_goesTo_0 rfl (lv_at hl 0 rfl) ?_
  refine lv_iload_n hx hb dX12_goesTo_1 rfl (lv_at hl 1 rfl) ?_
  obtain ⟨z_12, e_z_12, h⟩ := bi h
  refine roVi (rest := []) ⟨hx, hb, hml, hown, ht⟩ (c_X12_isMan l D cy fu A_m m_at m_names m_status m_top m_bottom m_sort m_trayMany m_trays m_tape m_text m_taped m_size m_token m_from m_end m_value m_faultKind m_faultPlace m_faults m_seen m_toldParts m_opened m_depth m_counted m_bestOrder m_standers m_has m_bestHas m_standerMany m_bestCouples m_bestFondness m_cameTo m_doesStandFirst m_stoodBy m_drawn m_ranSteps m_loops m_ran m_told1 m_isTold m_marks x1 z_12 e_z_12) (cV ht mv_X12_isMan tb_1551 rfl rfl ⟨Nat.le_of_ble_eq_true rfl, Nat.le_of_ble_eq_true rfl⟩) (P_sub hP.1 [0] rfl) hX rfl rfl rfl hl.1 rfl (Nat.le_of_ble_eq_true rfl) dX12_goesTo_2 ⟨Nat.le_of_ble_eq_true rfl, Nat.le_of_ble_eq_true rfl⟩ ?_
  refine lv_if_eq (tgt := 16) hx hb dX12_goesTo_5 (by decide) (fun c_13 => ?_) (fun c_13 => ?_)
  · have h := it c_13 h
    refine lv_aload_n hx hb dX12_goesTo_16 rfl (lv_at hl 0 rfl) ?_
    refine lv_iconst (v := 1) hx hb dX12_goesTo_17 (by decide) ?_
    obtain ⟨z_14, e_z_14, h⟩ := bi h
    refine efVi (rest := []) ⟨hx, hb, hml, hown, ht⟩ (c_X12_refuse l D cy fu A_m m_at m_names m_status m_top m_bottom m_sort m_trayMany m_trays m_tape m_text m_taped m_size m_token m_from m_end m_value m_faultKind m_faultPlace m_faults m_seen m_toldParts m_opened m_depth m_counted m_bestOrder m_standers m_has m_bestHas m_standerMany m_bestCouples m_bestFondness m_cameTo m_doesStandFirst m_stoodBy m_drawn m_ranSteps m_loops m_ran m_told1 m_isTold m_marks 1 z_14 e_z_14 _ rfl _ rfl) (cV ht mv_X12_refuse tb_1432 rfl rfl ⟨Nat.le_of_ble_eq_true rfl, Nat.le_of_ble_eq_true rfl⟩) hP hS hX [0] rfl rfl rfl rfl rfl rfl hl.1 rfl (Nat.le_of_ble_eq_true rfl) dX12_goesTo_18 ⟨Nat.le_of_ble_eq_true rfl, Nat.le_of_ble_eq_true rfl⟩ (fun H locs hP hS => ?_)
    have hP : PD D A [bl_X12 cy A_m m_at m_names z_14.2 m_top m_bottom m_sort m_trayMany m_trays m_tape m_text m_taped m_size m_token m_from m_end m_value m_faultKind m_faultPlace m_faults m_seen m_toldParts m_opened m_depth m_counted m_bestOrder m_standers m_has m_bestHas m_standerMany m_bestCouples m_bestFondness m_cameTo m_doesStandFirst m_stoodBy m_drawn m_ranSteps m_loops m_ran m_told1 m_isTold m_marks] H := hP
    cases h
    subst hW1
    exact W.iret hx hb hr (fun _ ht9 _ => ⟨⟨_, (), rfl, rfl, hPt ht9 hP.1⟩, hS.F ht9⟩) hS.2.2 dX12_goesTo_21
  · have h := ie c_13 h
    refine lv_iload_n hx hb dX12_goesTo_8 rfl (lv_at hl 2 rfl) ?_
    refine lv_i2l (v := Int32.toInt64 x2) hx hb dX12_goesTo_9 rfl ?_
    obtain ⟨z_15, e_z_15, h⟩ := bi h
    refine roSi (rest := []) ⟨hx, hb, hml, hown, ht⟩ (c_X12_isSize l D cy fu  (Int32.toInt64 x2) z_15 e_z_15) (cS ht ms_X12_isSize tb_1571 rfl rfl ⟨Nat.le_of_ble_eq_true rfl, Nat.le_of_ble_eq_true rfl⟩) (P_sub hP.1 [] rfl) hX rfl hl.1 rfl (Nat.le_of_ble_eq_true rfl) dX12_goesTo_10 ⟨Nat.le_of_ble_eq_true rfl, Nat.le_of_ble_eq_true rfl⟩ ?_
    refine lv_if_ne (tgt := 22) hx hb dX12_goesTo_13 (by decide) (fun c_16 => ?_) (fun c_16 => ?_)
    · have h := ie c_16 h
      refine lv_aload_n hx hb dX12_goesTo_22 rfl (lv_at hl 0 rfl) ?_
      refine lv_iload_n hx hb dX12_goesTo_23 rfl (lv_at hl 1 rfl) ?_
      obtain ⟨z_17, e_z_17, h⟩ := bi h
      refine roVi (rest := []) ⟨hx, hb, hml, hown, ht⟩ (c_X12_isAlive l D cy fu A_m m_at m_names m_status m_top m_bottom m_sort m_trayMany m_trays m_tape m_text m_taped m_size m_token m_from m_end m_value m_faultKind m_faultPlace m_faults m_seen m_toldParts m_opened m_depth m_counted m_bestOrder m_standers m_has m_bestHas m_standerMany m_bestCouples m_bestFondness m_cameTo m_doesStandFirst m_stoodBy m_drawn m_ranSteps m_loops m_ran m_told1 m_isTold m_marks x1 z_17 e_z_17) (cV ht mv_X12_isAlive tb_1531 rfl rfl ⟨Nat.le_of_ble_eq_true rfl, Nat.le_of_ble_eq_true rfl⟩) (P_sub hP.1 [0] rfl) hX rfl rfl rfl hl.1 rfl (Nat.le_of_ble_eq_true rfl) dX12_goesTo_24 ⟨Nat.le_of_ble_eq_true rfl, Nat.le_of_ble_eq_true rfl⟩ ?_
      refine lv_if_eq (tgt := 43) hx hb dX12_goesTo_27 (by decide) (fun c_18 => ?_) (fun c_18 => ?_)
      · have h := it c_18 h
        refine lv_aload_n hx hb dX12_goesTo_43 rfl (lv_at hl 0 rfl) ?_
        refine lv_bipush (v := 7) hx hb dX12_goesTo_44 (by decide) ?_
        obtain ⟨z_19, e_z_19, h⟩ := bi h
        refine efVi (rest := []) ⟨hx, hb, hml, hown, ht⟩ (c_X12_refuse l D cy fu A_m m_at m_names m_status m_top m_bottom m_sort m_trayMany m_trays m_tape m_text m_taped m_size m_token m_from m_end m_value m_faultKind m_faultPlace m_faults m_seen m_toldParts m_opened m_depth m_counted m_bestOrder m_standers m_has m_bestHas m_standerMany m_bestCouples m_bestFondness m_cameTo m_doesStandFirst m_stoodBy m_drawn m_ranSteps m_loops m_ran m_told1 m_isTold m_marks 7 z_19 e_z_19 _ rfl _ rfl) (cV ht mv_X12_refuse tb_1432 rfl rfl ⟨Nat.le_of_ble_eq_true rfl, Nat.le_of_ble_eq_true rfl⟩) hP hS hX [0] rfl rfl rfl rfl rfl rfl hl.1 rfl (Nat.le_of_ble_eq_true rfl) dX12_goesTo_46 ⟨Nat.le_of_ble_eq_true rfl, Nat.le_of_ble_eq_true rfl⟩ (fun H locs hP hS => ?_)
        have hP : PD D A [bl_X12 cy A_m m_at m_names z_19.2 m_top m_bottom m_sort m_trayMany m_trays m_tape m_text m_taped m_size m_token m_from m_end m_value m_faultKind m_faultPlace m_faults m_seen m_toldParts m_opened m_depth m_counted m_bestOrder m_standers m_has m_bestHas m_standerMany m_bestCouples m_bestFondness m_cameTo m_doesStandFirst m_stoodBy m_drawn m_ranSteps m_loops m_ran m_told1 m_isTold m_marks] H := hP
        cases h
        subst hW1
        exact W.iret hx hb hr (fun _ ht9 _ => ⟨⟨_, (), rfl, rfl, hPt ht9 hP.1⟩, hS.F ht9⟩) hS.2.2 dX12_goesTo_49
      · have h := ie c_18 h
        refine lv_aload_n hx hb dX12_goesTo_30 rfl (lv_at hl 0 rfl) ?_
        refine lv_aload_n hx hb dX12_goesTo_31 rfl (lv_at hl 0 rfl) ?_
        refine lv_iload_n hx hb dX12_goesTo_32 rfl (lv_at hl 1 rfl) ?_
        refine lv_iload_n hx hb dX12_goesTo_33 rfl (lv_at hl 2 rfl) ?_
        obtain ⟨z_20, e_z_20, h⟩ := bi h
        refine roVi (rest := [.ref (A_m 0)]) ⟨hx, hb, hml, hown, ht⟩ (c_X12_winner l D cy fu A_m m_at m_names m_status m_top m_bottom m_sort m_trayMany m_trays m_tape m_text m_taped m_size m_token m_from m_end m_value m_faultKind m_faultPlace m_faults m_seen m_toldParts m_opened m_depth m_counted m_bestOrder m_standers m_has m_bestHas m_standerMany m_bestCouples m_bestFondness m_cameTo m_doesStandFirst m_stoodBy m_drawn m_ranSteps m_loops m_ran m_told1 m_isTold m_marks x1 x2 z_20 e_z_20) (cV ht mv_X12_winner tb_1590 rfl rfl ⟨Nat.le_of_ble_eq_true rfl, Nat.le_of_ble_eq_true rfl⟩) (P_sub hP.1 [0] rfl) hX rfl rfl rfl hl.1 rfl (Nat.le_of_ble_eq_true rfl) dX12_goesTo_34 ⟨Nat.le_of_ble_eq_true rfl, Nat.le_of_ble_eq_true rfl⟩ ?_
        obtain ⟨z_21, e_z_21, h⟩ := bi h
        refine efVi (rest := []) ⟨hx, hb, hml, hown, ht⟩ (c_X12_orNone l D cy fu A_m m_at m_names m_status m_top m_bottom m_sort m_trayMany m_trays m_tape m_text m_taped m_size m_token m_from m_end m_value m_faultKind m_faultPlace m_faults m_seen m_toldParts m_opened m_depth m_counted m_bestOrder m_standers m_has m_bestHas m_standerMany m_bestCouples m_bestFondness m_cameTo m_doesStandFirst m_stoodBy m_drawn m_ranSteps m_loops m_ran m_told1 m_isTold m_marks z_20 z_21 e_z_21 _ rfl _ rfl) (cV ht mv_X12_orNone tb_1679 rfl rfl ⟨Nat.le_of_ble_eq_true rfl, Nat.le_of_ble_eq_true rfl⟩) hP hS hX [0] rfl rfl rfl rfl rfl rfl hl.1 rfl (Nat.le_of_ble_eq_true rfl) dX12_goesTo_37 ⟨Nat.le_of_ble_eq_true rfl, Nat.le_of_ble_eq_true rfl⟩ (fun H locs hP hS => ?_)
        have hP : PD D A [bl_X12 cy A_m m_at m_names z_21.2 m_top m_bottom m_sort m_trayMany m_trays m_tape m_text m_taped m_size m_token m_from m_end m_value m_faultKind m_faultPlace m_faults m_seen m_toldParts m_opened m_depth m_counted m_bestOrder m_standers m_has m_bestHas m_standerMany m_bestCouples m_bestFondness m_cameTo m_doesStandFirst m_stoodBy m_drawn m_ranSteps m_loops m_ran m_told1 m_isTold m_marks] H := hP
        refine lv_goto (tgt := 49) hx hb dX12_goesTo_40 (by decide) ?_
        cases h
        subst hW1
        exact W.iret hx hb hr (fun _ ht9 _ => ⟨⟨_, (), rfl, rfl, hPt ht9 hP.1⟩, hS.F ht9⟩) hS.2.2 dX12_goesTo_49
    · have h := it c_16 h
      refine lv_aload_n hx hb dX12_goesTo_16 rfl (lv_at hl 0 rfl) ?_
      refine lv_iconst (v := 1) hx hb dX12_goesTo_17 (by decide) ?_
      obtain ⟨z_22, e_z_22, h⟩ := bi h
      refine efVi (rest := []) ⟨hx, hb, hml, hown, ht⟩ (c_X12_refuse l D cy fu A_m m_at m_names m_status m_top m_bottom m_sort m_trayMany m_trays m_tape m_text m_taped m_size m_token m_from m_end m_value m_faultKind m_faultPlace m_faults m_seen m_toldParts m_opened m_depth m_counted m_bestOrder m_standers m_has m_bestHas m_standerMany m_bestCouples m_bestFondness m_cameTo m_doesStandFirst m_stoodBy m_drawn m_ranSteps m_loops m_ran m_told1 m_isTold m_marks 1 z_22 e_z_22 _ rfl _ rfl) (cV ht mv_X12_refuse tb_1432 rfl rfl ⟨Nat.le_of_ble_eq_true rfl, Nat.le_of_ble_eq_true rfl⟩) hP hS hX [0] rfl rfl rfl rfl rfl rfl hl.1 rfl (Nat.le_of_ble_eq_true rfl) dX12_goesTo_18 ⟨Nat.le_of_ble_eq_true rfl, Nat.le_of_ble_eq_true rfl⟩ (fun H locs hP hS => ?_)
      have hP : PD D A [bl_X12 cy A_m m_at m_names z_22.2 m_top m_bottom m_sort m_trayMany m_trays m_tape m_text m_taped m_size m_token m_from m_end m_value m_faultKind m_faultPlace m_faults m_seen m_toldParts m_opened m_depth m_counted m_bestOrder m_standers m_has m_bestHas m_standerMany m_bestCouples m_bestFondness m_cameTo m_doesStandFirst m_stoodBy m_drawn m_ranSteps m_loops m_ran m_told1 m_isTold m_marks] H := hP
      cases h
      subst hW1
      exact W.iret hx hb hr (fun _ ht9 _ => ⟨⟨_, (), rfl, rfl, hPt ht9 hP.1⟩, hS.F ht9⟩) hS.2.2 dX12_goesTo_21
theorem dX12_weightOf_0 : decode cX12_weightOf 0 = .ok (.iconst 0, 1) := by decide +kernel
theorem dX12_weightOf_1 : decode cX12_weightOf 1 = .ok (.istore_n 2, 1) := by decide +kernel
theorem dX12_weightOf_2 : decode cX12_weightOf 2 = .ok (.iconst 0, 1) := by decide +kernel
theorem dX12_weightOf_3 : decode cX12_weightOf 3 = .ok (.istore_n 3, 1) := by decide +kernel
theorem dX12_weightOf_4 : decode cX12_weightOf 4 = .ok (.iload_n 3, 1) := by decide +kernel
theorem dX12_weightOf_5 : decode cX12_weightOf 5 = .ok (.aload_n 0, 1) := by decide +kernel
theorem dX12_weightOf_6 : decode cX12_weightOf 6 = .ok (.getfield 7, 3) := by decide +kernel
theorem dX12_weightOf_9 : decode cX12_weightOf 9 = .ok (.iconst 0, 1) := by decide +kernel
theorem dX12_weightOf_10 : decode cX12_weightOf 10 = .ok (.iaload, 1) := by decide +kernel
theorem dX12_weightOf_11 : decode cX12_weightOf 11 = .ok (.if_icmp .ge 31, 3) := by decide +kernel
theorem dX12_weightOf_14 : decode cX12_weightOf 14 = .ok (.iload_n 2, 1) := by decide +kernel
theorem dX12_weightOf_15 : decode cX12_weightOf 15 = .ok (.aload_n 0, 1) := by decide +kernel
theorem dX12_weightOf_16 : decode cX12_weightOf 16 = .ok (.iload_n 1, 1) := by decide +kernel
theorem dX12_weightOf_17 : decode cX12_weightOf 17 = .ok (.iload_n 3, 1) := by decide +kernel
theorem dX12_weightOf_18 : decode cX12_weightOf 18 = .ok (.invokevirtual 274, 3) := by decide +kernel
theorem dX12_weightOf_21 : decode cX12_weightOf 21 = .ok (.ifCond .eq 12, 3) := by decide +kernel
theorem dX12_weightOf_24 : decode cX12_weightOf 24 = .ok (.aload_n 0, 1) := by decide +kernel
theorem dX12_weightOf_25 : decode cX12_weightOf 25 = .ok (.iload_n 3, 1) := by decide +kernel
theorem dX12_weightOf_26 : decode cX12_weightOf 26 = .ok (.iconst 1, 1) := by decide +kernel
theorem dX12_weightOf_27 : decode cX12_weightOf 27 = .ok (.invokevirtual 250, 3) := by decide +kernel
theorem dX12_weightOf_30 : decode cX12_weightOf 30 = .ok (.goto 4, 3) := by decide +kernel
theorem dX12_weightOf_33 : decode cX12_weightOf 33 = .ok (.iconst 0, 1) := by decide +kernel
theorem dX12_weightOf_34 : decode cX12_weightOf 34 = .ok (.iadd, 1) := by decide +kernel
theorem dX12_weightOf_35 : decode cX12_weightOf 35 = .ok (.istore_n 2, 1) := by decide +kernel
theorem dX12_weightOf_36 : decode cX12_weightOf 36 = .ok (.iinc 3 1, 3) := by decide +kernel
theorem dX12_weightOf_39 : decode cX12_weightOf 39 = .ok (.goto (-35), 3) := by decide +kernel
theorem dX12_weightOf_42 : decode cX12_weightOf 42 = .ok (.iload_n 2, 1) := by decide +kernel
theorem dX12_weightOf_43 : decode cX12_weightOf 43 = .ok (.ireturn, 1) := by decide +kernel
theorem mv_X12_weightOf : MV yX12_weightOf RX12 cX12_weightOf 4 (some .int) 1 := ⟨tb_1702, tb_1701, ts_89, tb_16, by decide +kernel, by decide +kernel, by decide +kernel⟩
def f_X12_weightOf_b4 (fu : Nat) (m_at : Nat → Int32) (x1 : Int32) (k4 : Int32 → Int32 → Option (Int32)) (x2 : Int32) (x3 : Int32) : Option (Int32) := (rdI m_at 3648 0).bind fun y_10 => (if y_10 ≤ x3 then some (x2) else (f_X12_isIn fu x1 x3).bind fun z_12 => (if z_12 = 0 then bnd (x2 + 0) fun x2_14 => bnd (x3 + 1) fun x3_15 => k4 x2_14 x3_15 else (f_X12_manOf fu m_at x3 1).bind fun z_16 => bnd (x2 + z_16) fun x2_17 => bnd (x3 + 1) fun x3_18 => k4 x2_17 x3_18))
def f_X12_weightOf_l4 (fu : Nat) (m_at : Nat → Int32) (x1 : Int32) : Nat → Int32 → Int32 → Option (Int32)
  | 0, _, _ => none
  | n + 1, x2, x3 => f_X12_weightOf_b4 fu m_at x1 (f_X12_weightOf_l4 fu m_at x1 n) x2 x3
def f_X12_weightOf (fu : Nat) (m_at : Nat → Int32) (x1 : Int32) : Option (Int32) := f_X12_weightOf_l4 fu m_at x1 fu 0 0
abbrev rm_X12_weightOf : Room := { frames := 2, cells := 0, slots := 0, locals := 42 }
set_option maxHeartbeats 4000000 in
set_option maxRecDepth 100000 in
theorem c_X12_weightOf (l : Launch) (D : va_G) (cy : Nat → ClassId) (fu : Nat) (A_m : Nat → Nat) (m_at : Nat → Int32) (m_names : Nat → Int64) (m_status : Int32) (m_top : Int64) (m_bottom : Int64) (m_sort : Nat → Int32) (m_trayMany : Nat → Int32) (m_trays : Nat → Int64) (m_tape : Nat → Int32) (m_text : Nat → Int32) (m_taped : Int32) (m_size : Int32) (m_token : Int32) (m_from : Int32) (m_end : Int32) (m_value : Int32) (m_faultKind : Int32) (m_faultPlace : Int32) (m_faults : Int32) (m_seen : Int32) (m_toldParts : Int32) (m_opened : Nat → Int32) (m_depth : Int32) (m_counted : Int32) (m_bestOrder : Int32) (m_standers : Nat → Int32) (m_has : Nat → Int32) (m_bestHas : Nat → Int32) (m_standerMany : Int32) (m_bestCouples : Int32) (m_bestFondness : Int32) (m_cameTo : Nat → Int32) (m_doesStandFirst : Int32) (m_stoodBy : Nat → Int64) (m_drawn : Int32) (m_ranSteps : Int32) (m_loops : Nat → Int32) (m_ran : Nat → Int32) (m_told1 : Nat → Int32) (m_isTold : Int32) (m_marks : Int32) (x1 : Int32) (res : Int32) (h : f_X12_weightOf fu m_at x1 = some res) : Met l yX12_weightOf (WW yX12_weightOf cX12_weightOf 4 (some .int)) rm_X12_weightOf (Rd D cy [.ref (A_m 0), .int x1] [bl_X12 cy A_m m_at m_names m_status m_top m_bottom m_sort m_trayMany m_trays m_tape m_text m_taped m_size m_token m_from m_end m_value m_faultKind m_faultPlace m_faults m_seen m_toldParts m_opened m_depth m_counted m_bestOrder m_standers m_has m_bestHas m_standerMany m_bestCouples m_bestFondness m_cameTo m_doesStandFirst m_stoodBy m_drawn m_ranSteps m_loops m_ran m_told1 m_isTold m_marks]) (vp_Si (fun v => v = res)) 0 0 (fun _ => False) := by
  refine Met.ofW (cc := cX12_weightOf) (maxL := 4) (ret := (some .int)) (by decide) rfl ?_
  intro p e s m args below meth c s₁ B hml hv
  obtain ⟨hargs, hP, hX⟩ := hv
  have hx := B.exec
  have hb := B.bytes
  have hr := B.returns
  have ht : ∀ w ∈ lw_gd, w.before args s = true := fun w hw => atoms_spec (ws := WW yX12_weightOf cX12_weightOf 4 (some .int)) B.pre w (List.mem_cons_of_mem _ hw)
  have hown : s.vm.findClass RX12 = some m.cls := findClass_of_methodNamed B.named
  have hlocks := B.notSynchronized
  have hP : PB D [bl_X12 cy A_m m_at m_names m_status m_top m_bottom m_sort m_trayMany m_trays m_tape m_text m_taped m_size m_token m_from m_end m_value m_faultKind m_faultPlace m_faults m_seen m_toldParts m_opened m_depth m_counted m_bestOrder m_standers m_has m_bestHas m_standerMany m_bestCouples m_bestFondness m_cameTo m_doesStandFirst m_stoodBy m_drawn m_ranSteps m_loops m_ran m_told1 m_isTold m_marks] s.heap := hP
  obtain ⟨ls, hl, hent⟩ := ent (m := m) (n := 4) hargs (Nat.le_of_ble_eq_true rfl) (lv := [(0, .ref (A_m 0)), (1, .int x1)]) rfl
  rw [hent]
  clear hent
  have l4 : ∀ (n4 : Nat) (x2 : Int32) (x3 : Int32) (ls : Array Slot), lv_has ls 4 [(0, .ref (A_m 0)), (1, .int x1), (2, .int x2), (3, .int x3)] → f_X12_weightOf_l4 fu m_at x1 n4 x2 x3 = some res → W p l e (headSpec (WW yX12_weightOf cX12_weightOf 4 (some .int)) rm_X12_weightOf).room s m args below meth c s.heap [] 0 0 (MQ below (vp_Si (fun v => v = res)) args s 0 0 (fun _ => False)) (F0 m 4 ls []) := by
    intro n4
    induction n4 with
    | zero => intro x2 x3 ls hl h; cases h
    | succ n4 ih4 =>
      intro x2 x3 ls hl h
      have h : f_X12_weightOf_b4 fu m_at x1 (f_X12_weightOf_l4 fu m_at x1 n4) x2 x3 = some res := h
      unfold f_X12_weightOf_b4 at h
      refine lv_iload_n hx hb dX12_weightOf_4 rfl (lv_at hl 3 rfl) ?_
      refine lv_aload_n hx hb dX12_weightOf_5 rfl (lv_at hl 0 rfl) ?_
      refine xget (i := 0) (j := 0) (k := 0) (T := TX12) hx hb ht tb_iX12 hown hX hP rfl rfl rfl (by decide) tb_1229 rfl dX12_weightOf_6 ?_
      refine lv_iconst (v := 0) hx hb dX12_weightOf_9 (by decide) ?_
      obtain ⟨y_10, e_y_10, h⟩ := bi h
      refine xiald (i0 := 0) (j0 := 1) hx hb hX hP rfl rfl e_y_10 dX12_weightOf_10 ?_
      refine lv_icmp_ge (tgt := 42) hx hb dX12_weightOf_11 (by decide) (fun c_11 => ?_) (fun c_11 => ?_)
      · have h := it c_11 h
        refine lv_iload_n hx hb dX12_weightOf_42 rfl (lv_at hl 2 rfl) ?_
        cases h
        exact W.iret hx hb hr (fun _ ht9 _ => ⟨_, rfl, rfl, ht9⟩) (fun _ hq => by cases hq) dX12_weightOf_43
      · have h := ie c_11 h
        refine lv_iload_n hx hb dX12_weightOf_14 rfl (lv_at hl 2 rfl) ?_
        refine lv_aload_n hx hb dX12_weightOf_15 rfl (lv_at hl 0 rfl) ?_
        refine lv_iload_n hx hb dX12_weightOf_16 rfl (lv_at hl 1 rfl) ?_
        refine lv_iload_n hx hb dX12_weightOf_17 rfl (lv_at hl 3 rfl) ?_
        obtain ⟨z_12, e_z_12, h⟩ := bi h
        refine roVi (rest := [.int x2]) ⟨hx, hb, hml, hown, ht⟩ (c_X12_isIn l D cy fu A_m m_at m_names m_status m_top m_bottom m_sort m_trayMany m_trays m_tape m_text m_taped m_size m_token m_from m_end m_value m_faultKind m_faultPlace m_faults m_seen m_toldParts m_opened m_depth m_counted m_bestOrder m_standers m_has m_bestHas m_standerMany m_bestCouples m_bestFondness m_cameTo m_doesStandFirst m_stoodBy m_drawn m_ranSteps m_loops m_ran m_told1 m_isTold m_marks x1 x3 z_12 e_z_12) (cV ht mv_X12_isIn tb_1598 rfl rfl ⟨Nat.le_of_ble_eq_true rfl, Nat.le_of_ble_eq_true rfl⟩) (P_sub hP [0] rfl) hX rfl rfl rfl hl.1 rfl (Nat.le_of_ble_eq_true rfl) dX12_weightOf_18 ⟨Nat.le_of_ble_eq_true rfl, Nat.le_of_ble_eq_true rfl⟩ ?_
        refine lv_if_eq (tgt := 33) hx hb dX12_weightOf_21 (by decide) (fun c_13 => ?_) (fun c_13 => ?_)
        · have h := it c_13 h
          refine lv_iconst (v := 0) hx hb dX12_weightOf_33 (by decide) ?_
          refine lv_iadd hx hb dX12_weightOf_34 ?_
          refine lv_topi (fun x2_14 e_x2_14 => ?_)
          have h := bn e_x2_14 h
          refine lv_istore_n (lv' := [(2, .int x2_14), (0, .ref (A_m 0)), (1, .int x1), (3, .int x3)]) hx hb dX12_weightOf_35 rfl hl (by decide) rfl (fun ls hl => ?_)
          obtain ⟨x3_15, e_x3_15⟩ : ∃ y : Int32, y = x3 + 1 := ⟨_, rfl⟩
          have h := bn e_x3_15 h
          refine lv_iinc (v := x3_15) (lv' := [(3, .int x3_15), (2, .int x2_14), (0, .ref (A_m 0)), (1, .int x1)]) hx hb dX12_weightOf_36 hl (k := 3) rfl (by rw [e_x3_15]; rfl) (by decide) rfl (fun ls hl => ?_)
          refine lv_goto (tgt := 4) hx hb dX12_weightOf_39 (by decide) ?_
          exact ih4 x2_14 x3_15 ls (lv_sub hl [2, 3, 1, 0] rfl) h
        · have h := ie c_13 h
          refine lv_aload_n hx hb dX12_weightOf_24 rfl (lv_at hl 0 rfl) ?_
          refine lv_iload_n hx hb dX12_weightOf_25 rfl (lv_at hl 3 rfl) ?_
          refine lv_iconst (v := 1) hx hb dX12_weightOf_26 (by decide) ?_
          obtain ⟨z_16, e_z_16, h⟩ := bi h
          refine roVi (rest := [.int x2]) ⟨hx, hb, hml, hown, ht⟩ (c_X12_manOf l D cy fu A_m m_at m_names m_status m_top m_bottom m_sort m_trayMany m_trays m_tape m_text m_taped m_size m_token m_from m_end m_value m_faultKind m_faultPlace m_faults m_seen m_toldParts m_opened m_depth m_counted m_bestOrder m_standers m_has m_bestHas m_standerMany m_bestCouples m_bestFondness m_cameTo m_doesStandFirst m_stoodBy m_drawn m_ranSteps m_loops m_ran m_told1 m_isTold m_marks x3 1 z_16 e_z_16) (cV ht mv_X12_manOf tb_1535 rfl rfl ⟨Nat.le_of_ble_eq_true rfl, Nat.le_of_ble_eq_true rfl⟩) (P_sub hP [0] rfl) hX rfl rfl rfl hl.1 rfl (Nat.le_of_ble_eq_true rfl) dX12_weightOf_27 ⟨Nat.le_of_ble_eq_true rfl, Nat.le_of_ble_eq_true rfl⟩ ?_
          refine lv_goto (tgt := 34) hx hb dX12_weightOf_30 (by decide) ?_
          refine lv_iadd hx hb dX12_weightOf_34 ?_
          refine lv_topi (fun x2_17 e_x2_17 => ?_)
          have h := bn e_x2_17 h
          refine lv_istore_n (lv' := [(2, .int x2_17), (0, .ref (A_m 0)), (1, .int x1), (3, .int x3)]) hx hb dX12_weightOf_35 rfl hl (by decide) rfl (fun ls hl => ?_)
          obtain ⟨x3_18, e_x3_18⟩ : ∃ y : Int32, y = x3 + 1 := ⟨_, rfl⟩
          have h := bn e_x3_18 h
          refine lv_iinc (v := x3_18) (lv' := [(3, .int x3_18), (2, .int x2_17), (0, .ref (A_m 0)), (1, .int x1)]) hx hb dX12_weightOf_36 hl (k := 3) rfl (by rw [e_x3_18]; rfl) (by decide) rfl (fun ls hl => ?_)
          refine lv_goto (tgt := 4) hx hb dX12_weightOf_39 (by decide) ?_
          exact ih4 x2_17 x3_18 ls (lv_sub hl [2, 3, 1, 0] rfl) h
  unfold f_X12_weightOf at h
  refine lv_iconst (v := 0) hx hb dX12_weightOf_0 (by decide) ?_
  refine lv_istore_n (lv' := [(2, .int 0), (0, .ref (A_m 0)), (1, .int x1)]) hx hb dX12_weightOf_1 rfl hl (by decide) rfl (fun ls hl => ?_)
  refine lv_iconst (v := 0) hx hb dX12_weightOf_2 (by decide) ?_
  refine lv_istore_n (lv' := [(3, .int 0), (2, .int 0), (0, .ref (A_m 0)), (1, .int x1)]) hx hb dX12_weightOf_3 rfl hl (by decide) rfl (fun ls hl => ?_)
  exact l4 fu 0 0 ls (lv_sub hl [2, 3, 1, 0] rfl) h
theorem dX12_doCarry_0 : decode cX12_doCarry 0 = .ok (.bipush 100, 2) := by decide +kernel
theorem dX12_doCarry_2 : decode cX12_doCarry 2 = .ok (.aload_n 0, 1) := by decide +kernel
theorem dX12_doCarry_3 : decode cX12_doCarry 3 = .ok (.iload_n 1, 1) := by decide +kernel
theorem dX12_doCarry_4 : decode cX12_doCarry 4 = .ok (.invokevirtual 321, 3) := by decide +kernel
theorem dX12_doCarry_7 : decode cX12_doCarry 7 = .ok (.imul, 1) := by decide +kernel
theorem dX12_doCarry_8 : decode cX12_doCarry 8 = .ok (.aload_n 0, 1) := by decide +kernel
theorem dX12_doCarry_9 : decode cX12_doCarry 9 = .ok (.getfield 7, 3) := by decide +kernel
theorem dX12_doCarry_12 : decode cX12_doCarry 12 = .ok (.iconst 2, 1) := by decide +kernel
theorem dX12_doCarry_13 : decode cX12_doCarry 13 = .ok (.iaload, 1) := by decide +kernel
theorem dX12_doCarry_14 : decode cX12_doCarry 14 = .ok (.aload_n 0, 1) := by decide +kernel
theorem dX12_doCarry_15 : decode cX12_doCarry 15 = .ok (.aload_n 0, 1) := by decide +kernel
theorem dX12_doCarry_16 : decode cX12_doCarry 16 = .ok (.invokevirtual 259, 3) := by decide +kernel
theorem dX12_doCarry_19 : decode cX12_doCarry 19 = .ok (.invokevirtual 321, 3) := by decide +kernel
theorem dX12_doCarry_22 : decode cX12_doCarry 22 = .ok (.imul, 1) := by decide +kernel
theorem dX12_doCarry_23 : decode cX12_doCarry 23 = .ok (.if_icmp .le 7, 3) := by decide +kernel
theorem dX12_doCarry_26 : decode cX12_doCarry 26 = .ok (.iconst 1, 1) := by decide +kernel
theorem dX12_doCarry_27 : decode cX12_doCarry 27 = .ok (.goto 4, 3) := by decide +kernel
theorem dX12_doCarry_30 : decode cX12_doCarry 30 = .ok (.iconst 0, 1) := by decide +kernel
theorem dX12_doCarry_31 : decode cX12_doCarry 31 = .ok (.ireturn, 1) := by decide +kernel
theorem mv_X12_doCarry : MV yX12_doCarry RX12 cX12_doCarry 2 (some .boolean) 1 := ⟨tb_1698, tb_1697, ts_88, tb_16, by decide +kernel, by decide +kernel, by decide +kernel⟩
def f_X12_doCarry (fu : Nat) (m_at : Nat → Int32) (x1 : Int32) : Option (Int32) := (f_X12_weightOf fu m_at x1).bind fun z_6 => (rdI m_at 3648 2).bind fun y_7 => (f_X12_living fu m_at).bind fun z_8 => (f_X12_weightOf fu m_at z_8).bind fun z_9 => (if (100 * z_6) ≤ (y_7 * z_9) then some (0) else some (1))
abbrev rm_X12_doCarry : Room := { frames := 4, cells := 0, slots := 0, locals := 85 }
set_option maxHeartbeats 4000000 in
set_option maxRecDepth 100000 in
theorem c_X12_doCarry (l : Launch) (D : va_G) (cy : Nat → ClassId) (fu : Nat) (A_m : Nat → Nat) (m_at : Nat → Int32) (m_names : Nat → Int64) (m_status : Int32) (m_top : Int64) (m_bottom : Int64) (m_sort : Nat → Int32) (m_trayMany : Nat → Int32) (m_trays : Nat → Int64) (m_tape : Nat → Int32) (m_text : Nat → Int32) (m_taped : Int32) (m_size : Int32) (m_token : Int32) (m_from : Int32) (m_end : Int32) (m_value : Int32) (m_faultKind : Int32) (m_faultPlace : Int32) (m_faults : Int32) (m_seen : Int32) (m_toldParts : Int32) (m_opened : Nat → Int32) (m_depth : Int32) (m_counted : Int32) (m_bestOrder : Int32) (m_standers : Nat → Int32) (m_has : Nat → Int32) (m_bestHas : Nat → Int32) (m_standerMany : Int32) (m_bestCouples : Int32) (m_bestFondness : Int32) (m_cameTo : Nat → Int32) (m_doesStandFirst : Int32) (m_stoodBy : Nat → Int64) (m_drawn : Int32) (m_ranSteps : Int32) (m_loops : Nat → Int32) (m_ran : Nat → Int32) (m_told1 : Nat → Int32) (m_isTold : Int32) (m_marks : Int32) (x1 : Int32) (res : Int32) (h : f_X12_doCarry fu m_at x1 = some res) : Met l yX12_doCarry (WW yX12_doCarry cX12_doCarry 2 (some .boolean)) rm_X12_doCarry (Rd D cy [.ref (A_m 0), .int x1] [bl_X12 cy A_m m_at m_names m_status m_top m_bottom m_sort m_trayMany m_trays m_tape m_text m_taped m_size m_token m_from m_end m_value m_faultKind m_faultPlace m_faults m_seen m_toldParts m_opened m_depth m_counted m_bestOrder m_standers m_has m_bestHas m_standerMany m_bestCouples m_bestFondness m_cameTo m_doesStandFirst m_stoodBy m_drawn m_ranSteps m_loops m_ran m_told1 m_isTold m_marks]) (vp_Si (fun v => v = res)) 0 0 (fun _ => False) := by
  refine Met.ofW (cc := cX12_doCarry) (maxL := 2) (ret := (some .boolean)) (by decide) rfl ?_
  intro p e s m args below meth c s₁ B hml hv
  obtain ⟨hargs, hP, hX⟩ := hv
  have hx := B.exec
  have hb := B.bytes
  have hr := B.returns
  have ht : ∀ w ∈ lw_gd, w.before args s = true := fun w hw => atoms_spec (ws := WW yX12_doCarry cX12_doCarry 2 (some .boolean)) B.pre w (List.mem_cons_of_mem _ hw)
  have hown : s.vm.findClass RX12 = some m.cls := findClass_of_methodNamed B.named
  have hlocks := B.notSynchronized
  have hP : PB D [bl_X12 cy A_m m_at m_names m_status m_top m_bottom m_sort m_trayMany m_trays m_tape m_text m_taped m_size m_token m_from m_end m_value m_faultKind m_faultPlace m_faults m_seen m_toldParts m_opened m_depth m_counted m_bestOrder m_standers m_has m_bestHas m_standerMany m_bestCouples m_bestFondness m_cameTo m_doesStandFirst m_stoodBy m_drawn m_ranSteps m_loops m_ran m_told1 m_isTold m_marks] s.heap := hP
  obtain ⟨ls, hl, hent⟩ := ent (m := m) (n := 2) hargs (Nat.le_of_ble_eq_true rfl) (lv := [(0, .ref (A_m 0)), (1, .int x1)]) rfl
  rw [hent]
  clear hent
  unfold f_X12_doCarry at h
  refine lv_bipush (v := 100) hx hb dX12_doCarry_0 (by decide) ?_
  refine lv_aload_n hx hb dX12_doCarry_2 rfl (lv_at hl 0 rfl) ?_
  refine lv_iload_n hx hb dX12_doCarry_3 rfl (lv_at hl 1 rfl) ?_
  obtain ⟨z_6, e_z_6, h⟩ := bi h
  refine roVi (rest := [.int 100]) ⟨hx, hb, hml, hown, ht⟩ (c_X12_weightOf l D cy fu A_m m_at m_names m_status m_top m_bottom m_sort m_trayMany m_trays m_tape m_text m_taped m_size m_token m_from m_end m_value m_faultKind m_faultPlace m_faults m_seen m_toldParts m_opened m_depth m_counted m_bestOrder m_standers m_has m_bestHas m_standerMany m_bestCouples m_bestFondness m_cameTo m_doesStandFirst m_stoodBy m_drawn m_ranSteps m_loops m_ran m_told1 m_isTold m_marks x1 z_6 e_z_6) (cV ht mv_X12_weightOf tb_1699 rfl rfl ⟨Nat.le_of_ble_eq_true rfl, Nat.le_of_ble_eq_true rfl⟩) (P_sub hP [0] rfl) hX rfl rfl rfl hl.1 rfl (Nat.le_of_ble_eq_true rfl) dX12_doCarry_4 ⟨Nat.le_of_ble_eq_true rfl, Nat.le_of_ble_eq_true rfl⟩ ?_
  refine lv_imul hx hb dX12_doCarry_7 ?_
  refine lv_aload_n hx hb dX12_doCarry_8 rfl (lv_at hl 0 rfl) ?_
  refine xget (i := 0) (j := 0) (k := 0) (T := TX12) hx hb ht tb_iX12 hown hX hP rfl rfl rfl (by decide) tb_1229 rfl dX12_doCarry_9 ?_
  refine lv_iconst (v := 2) hx hb dX12_doCarry_12 (by decide) ?_
  obtain ⟨y_7, e_y_7, h⟩ := bi h
  refine xiald (i0 := 0) (j0 := 1) hx hb hX hP rfl rfl e_y_7 dX12_doCarry_13 ?_
  refine lv_aload_n hx hb dX12_doCarry_14 rfl (lv_at hl 0 rfl) ?_
  refine lv_aload_n hx hb dX12_doCarry_15 rfl (lv_at hl 0 rfl) ?_
  obtain ⟨z_8, e_z_8, h⟩ := bi h
  refine roVi (rest := [.ref (A_m 0), .int y_7, .int (100 * z_6)]) ⟨hx, hb, hml, hown, ht⟩ (c_X12_living l D cy fu A_m m_at m_names m_status m_top m_bottom m_sort m_trayMany m_trays m_tape m_text m_taped m_size m_token m_from m_end m_value m_faultKind m_faultPlace m_faults m_seen m_toldParts m_opened m_depth m_counted m_bestOrder m_standers m_has m_bestHas m_standerMany m_bestCouples m_bestFondness m_cameTo m_doesStandFirst m_stoodBy m_drawn m_ranSteps m_loops m_ran m_told1 m_isTold m_marks z_8 e_z_8) (cV ht mv_X12_living tb_1527 rfl rfl ⟨Nat.le_of_ble_eq_true rfl, Nat.le_of_ble_eq_true rfl⟩) (P_sub hP [0] rfl) hX rfl rfl rfl hl.1 rfl (Nat.le_of_ble_eq_true rfl) dX12_doCarry_16 ⟨Nat.le_of_ble_eq_true rfl, Nat.le_of_ble_eq_true rfl⟩ ?_
  obtain ⟨z_9, e_z_9, h⟩ := bi h
  refine roVi (rest := [.int y_7, .int (100 * z_6)]) ⟨hx, hb, hml, hown, ht⟩ (c_X12_weightOf l D cy fu A_m m_at m_names m_status m_top m_bottom m_sort m_trayMany m_trays m_tape m_text m_taped m_size m_token m_from m_end m_value m_faultKind m_faultPlace m_faults m_seen m_toldParts m_opened m_depth m_counted m_bestOrder m_standers m_has m_bestHas m_standerMany m_bestCouples m_bestFondness m_cameTo m_doesStandFirst m_stoodBy m_drawn m_ranSteps m_loops m_ran m_told1 m_isTold m_marks z_8 z_9 e_z_9) (cV ht mv_X12_weightOf tb_1699 rfl rfl ⟨Nat.le_of_ble_eq_true rfl, Nat.le_of_ble_eq_true rfl⟩) (P_sub hP [0] rfl) hX rfl rfl rfl hl.1 rfl (Nat.le_of_ble_eq_true rfl) dX12_doCarry_19 ⟨Nat.le_of_ble_eq_true rfl, Nat.le_of_ble_eq_true rfl⟩ ?_
  refine lv_imul hx hb dX12_doCarry_22 ?_
  refine lv_icmp_le (tgt := 30) hx hb dX12_doCarry_23 (by decide) (fun c_10 => ?_) (fun c_10 => ?_)
  · have h := it c_10 h
    refine lv_iconst (v := 0) hx hb dX12_doCarry_30 (by decide) ?_
    cases h
    exact W.zret hx hb hr rfl (fun _ ht9 _ => ⟨_, rfl, rfl, ht9⟩) (fun _ hq => by cases hq) dX12_doCarry_31
  · have h := ie c_10 h
    refine lv_iconst (v := 1) hx hb dX12_doCarry_26 (by decide) ?_
    refine lv_goto (tgt := 31) hx hb dX12_doCarry_27 (by decide) ?_
    cases h
    exact W.zret hx hb hr rfl (fun _ ht9 _ => ⟨_, rfl, rfl, ht9⟩) (fun _ hq => by cases hq) dX12_doCarry_31
theorem dX12_carries_0 : decode cX12_carries 0 = .ok (.iload_n 1, 1) := by decide +kernel
theorem dX12_carries_1 : decode cX12_carries 1 = .ok (.i2l, 1) := by decide +kernel
theorem dX12_carries_2 : decode cX12_carries 2 = .ok (.lconst 0, 1) := by decide +kernel
theorem dX12_carries_3 : decode cX12_carries 3 = .ok (.lconst 1, 1) := by decide +kernel
theorem dX12_carries_4 : decode cX12_carries 4 = .ok (.aload_n 0, 1) := by decide +kernel
theorem dX12_carries_5 : decode cX12_carries 5 = .ok (.getfield 7, 3) := by decide +kernel
theorem dX12_carries_8 : decode cX12_carries 8 = .ok (.iconst 0, 1) := by decide +kernel
theorem dX12_carries_9 : decode cX12_carries 9 = .ok (.iaload, 1) := by decide +kernel
theorem dX12_carries_10 : decode cX12_carries 10 = .ok (.lshl, 1) := by decide +kernel
theorem dX12_carries_11 : decode cX12_carries 11 = .ok (.lconst 1, 1) := by decide +kernel
theorem dX12_carries_12 : decode cX12_carries 12 = .ok (.lsub, 1) := by decide +kernel
theorem dX12_carries_13 : decode cX12_carries 13 = .ok (.invokestatic 246, 3) := by decide +kernel
theorem dX12_carries_16 : decode cX12_carries 16 = .ok (.ifCond .ne 9, 3) := by decide +kernel
theorem dX12_carries_19 : decode cX12_carries 19 = .ok (.aload_n 0, 1) := by decide +kernel
theorem dX12_carries_20 : decode cX12_carries 20 = .ok (.iconst 1, 1) := by decide +kernel
theorem dX12_carries_21 : decode cX12_carries 21 = .ok (.invokevirtual 85, 3) := by decide +kernel
theorem dX12_carries_24 : decode cX12_carries 24 = .ok (.ireturn, 1) := by decide +kernel
theorem dX12_carries_25 : decode cX12_carries 25 = .ok (.iload_n 1, 1) := by decide +kernel
theorem dX12_carries_26 : decode cX12_carries 26 = .ok (.aload_n 0, 1) := by decide +kernel
theorem dX12_carries_27 : decode cX12_carries 27 = .ok (.invokevirtual 259, 3) := by decide +kernel
theorem dX12_carries_30 : decode cX12_carries 30 = .ok (.iconst (-1), 1) := by decide +kernel
theorem dX12_carries_31 : decode cX12_carries 31 = .ok (.ixor, 1) := by decide +kernel
theorem dX12_carries_32 : decode cX12_carries 32 = .ok (.iand, 1) := by decide +kernel
theorem dX12_carries_33 : decode cX12_carries 33 = .ok (.ifCond .eq 12, 3) := by decide +kernel
theorem dX12_carries_36 : decode cX12_carries 36 = .ok (.aload_n 0, 1) := by decide +kernel
theorem dX12_carries_37 : decode cX12_carries 37 = .ok (.bipush 7, 2) := by decide +kernel
theorem dX12_carries_39 : decode cX12_carries 39 = .ok (.invokevirtual 85, 3) := by decide +kernel
theorem dX12_carries_42 : decode cX12_carries 42 = .ok (.goto 20, 3) := by decide +kernel
theorem dX12_carries_45 : decode cX12_carries 45 = .ok (.aload_n 0, 1) := by decide +kernel
theorem dX12_carries_46 : decode cX12_carries 46 = .ok (.aload_n 0, 1) := by decide +kernel
theorem dX12_carries_47 : decode cX12_carries 47 = .ok (.iload_n 1, 1) := by decide +kernel
theorem dX12_carries_48 : decode cX12_carries 48 = .ok (.invokevirtual 324, 3) := by decide +kernel
theorem dX12_carries_51 : decode cX12_carries 51 = .ok (.ifCond .eq 7, 3) := by decide +kernel
theorem dX12_carries_54 : decode cX12_carries 54 = .ok (.iconst 1, 1) := by decide +kernel
theorem dX12_carries_55 : decode cX12_carries 55 = .ok (.goto 4, 3) := by decide +kernel
theorem dX12_carries_58 : decode cX12_carries 58 = .ok (.iconst 0, 1) := by decide +kernel
theorem dX12_carries_59 : decode cX12_carries 59 = .ok (.invokevirtual 88, 3) := by decide +kernel
theorem dX12_carries_62 : decode cX12_carries 62 = .ok (.ireturn, 1) := by decide +kernel
theorem mv_X12_carries : MV yX12_carries RX12 cX12_carries 2 (some .int) 1 := ⟨tb_1694, tb_1692, tb_1693, tb_16, by decide +kernel, by decide +kernel, by decide +kernel⟩
def f_X12_carries (fu : Nat) (m_at : Nat → Int32) (m_status : Int32) (x1 : Int32) : Option (Int32 × Int32) := (rdI m_at 3648 0).bind fun y_12 => (f_X12_isFrom fu (Int32.toInt64 x1) 0 ((1 <<< (Int32.toInt64 y_12 &&& 63)) - 1)).bind fun z_13 => (if z_13 = 0 then (f_X12_refuse fu m_status 1).bind fun z_22 => some (z_22.1, z_22.2) else (f_X12_living fu m_at).bind fun z_15 => (if (x1 &&& (z_15 ^^^ (-1))) = 0 then (f_X12_doCarry fu m_at x1).bind fun z_17 => (if z_17 = 0 then (f_X12_gives fu m_status 0).bind fun z_19 => some (z_19.1, z_19.2) else (f_X12_gives fu m_status 1).bind fun z_20 => some (z_20.1, z_20.2)) else (f_X12_refuse fu m_status 7).bind fun z_21 => some (z_21.1, z_21.2)))
abbrev rm_X12_carries : Room := { frames := 5, cells := 0, slots := 0, locals := 106 }
set_option maxHeartbeats 4000000 in
set_option maxRecDepth 100000 in
theorem c_X12_carries (l : Launch) (D : va_G) (cy : Nat → ClassId) (fu : Nat) (A_m : Nat → Nat) (m_at : Nat → Int32) (m_names : Nat → Int64) (m_status : Int32) (m_top : Int64) (m_bottom : Int64) (m_sort : Nat → Int32) (m_trayMany : Nat → Int32) (m_trays : Nat → Int64) (m_tape : Nat → Int32) (m_text : Nat → Int32) (m_taped : Int32) (m_size : Int32) (m_token : Int32) (m_from : Int32) (m_end : Int32) (m_value : Int32) (m_faultKind : Int32) (m_faultPlace : Int32) (m_faults : Int32) (m_seen : Int32) (m_toldParts : Int32) (m_opened : Nat → Int32) (m_depth : Int32) (m_counted : Int32) (m_bestOrder : Int32) (m_standers : Nat → Int32) (m_has : Nat → Int32) (m_bestHas : Nat → Int32) (m_standerMany : Int32) (m_bestCouples : Int32) (m_bestFondness : Int32) (m_cameTo : Nat → Int32) (m_doesStandFirst : Int32) (m_stoodBy : Nat → Int64) (m_drawn : Int32) (m_ranSteps : Int32) (m_loops : Nat → Int32) (m_ran : Nat → Int32) (m_told1 : Nat → Int32) (m_isTold : Int32) (m_marks : Int32) (x1 : Int32) (res : Int32 × Int32) (h : f_X12_carries fu m_at m_status x1 = some res) (A : Nat → Prop) (hA : A = adr [bl_X12 cy A_m m_at m_names m_status m_top m_bottom m_sort m_trayMany m_trays m_tape m_text m_taped m_size m_token m_from m_end m_value m_faultKind m_faultPlace m_faults m_seen m_toldParts m_opened m_depth m_counted m_bestOrder m_standers m_has m_bestHas m_standerMany m_bestCouples m_bestFondness m_cameTo m_doesStandFirst m_stoodBy m_drawn m_ranSteps m_loops m_ran m_told1 m_isTold m_marks]) (W1 : List va_W) (hW1 : W1 = [bl_X12 cy A_m m_at m_names res.2 m_top m_bottom m_sort m_trayMany m_trays m_tape m_text m_taped m_size m_token m_from m_end m_value m_faultKind m_faultPlace m_faults m_seen m_toldParts m_opened m_depth m_counted m_bestOrder m_standers m_has m_bestHas m_standerMany m_bestCouples m_bestFondness m_cameTo m_doesStandFirst m_stoodBy m_drawn m_ranSteps m_loops m_ran m_told1 m_isTold m_marks]) : Met l yX12_carries (WW yX12_carries cX12_carries 2 (some .int)) rm_X12_carries (Ed D cy [.ref (A_m 0), .int x1] [bl_X12 cy A_m m_at m_names m_status m_top m_bottom m_sort m_trayMany m_trays m_tape m_text m_taped m_size m_token m_from m_end m_value m_faultKind m_faultPlace m_faults m_seen m_toldParts m_opened m_depth m_counted m_bestOrder m_standers m_has m_bestHas m_standerMany m_bestCouples m_bestFondness m_cameTo m_doesStandFirst m_stoodBy m_drawn m_ranSteps m_loops m_ran m_told1 m_isTold m_marks]) (Qei D res.1 A W1) 0 0 A := by
  refine Met.ofW (cc := cX12_carries) (maxL := 2) (ret := (some .int)) (by decide) rfl ?_
  intro p e s m args below meth c s₁ B hml hv
  obtain ⟨hargs, hP, hX, hD0⟩ := hv
  have hx := B.exec
  have hb := B.bytes
  have hr := B.returns
  have ht : ∀ w ∈ lw_gd, w.before args s = true := fun w hw => atoms_spec (ws := WW yX12_carries cX12_carries 2 (some .int)) B.pre w (List.mem_cons_of_mem _ hw)
  have hown : s.vm.findClass RX12 = some m.cls := findClass_of_methodNamed B.named
  have hlocks := B.notSynchronized
  have hP : PD D A [bl_X12 cy A_m m_at m_names m_status m_top m_bottom m_sort m_trayMany m_trays m_tape m_text m_taped m_size m_token m_from m_end m_value m_faultKind m_faultPlace m_faults m_seen m_toldParts m_opened m_depth m_counted m_bestOrder m_standers m_has m_bestHas m_standerMany m_bestCouples m_bestFondness m_cameTo m_doesStandFirst m_stoodBy m_drawn m_ranSteps m_loops m_ran m_told1 m_isTold m_marks] s.heap := ⟨hP, by rw [hA]; exact hD0.own⟩
  have hS : va_S A s.heap s.heap [] := va_S.rf
  obtain ⟨ls, hl, hent⟩ := ent (m := m) (n := 2) hargs (Nat.le_of_ble_eq_true rfl) (lv := [(0, .ref (A_m 0)), (1, .int x1)]) rfl
  rw [hent]
  clear hent
  unfold f_X12_carries at h
  refine lv_iload_n hx hb dX12_carries_0 rfl (lv_at hl 1 rfl) ?_
  refine lv_i2l (v := Int32.toInt64 x1) hx hb dX12_carries_1 rfl ?_
  refine lv_lconst (v := 0) hx hb dX12_carries_2 (by decide) ?_
  refine lv_lconst (v := 1) hx hb dX12_carries_3 (by decide) ?_
  refine lv_aload_n hx hb dX12_carries_4 rfl (lv_at hl 0 rfl) ?_
  refine xget (i := 0) (j := 0) (k := 0) (T := TX12) hx hb ht tb_iX12 hown hX hP.1 rfl rfl rfl (by decide) tb_1229 rfl dX12_carries_5 ?_
  refine lv_iconst (v := 0) hx hb dX12_carries_8 (by decide) ?_
  obtain ⟨y_12, e_y_12, h⟩ := bi h
  refine xiald (i0 := 0) (j0 := 1) hx hb hX hP.1 rfl rfl e_y_12 dX12_carries_9 ?_
  refine lv_lshl (v := 1 <<< (Int32.toInt64 y_12 &&& 63)) hx hb dX12_carries_10 rfl ?_
  refine lv_lconst (v := 1) hx hb dX12_carries_11 (by decide) ?_
  refine lv_lsub hx hb dX12_carries_12 ?_
  obtain ⟨z_13, e_z_13, h⟩ := bi h
  refine roSi (rest := []) ⟨hx, hb, hml, hown, ht⟩ (c_X12_isFrom l D cy fu  (Int32.toInt64 x1) 0 ((1 <<< (Int32.toInt64 y_12 &&& 63)) - 1) z_13 e_z_13) (cS ht ms_X12_isFrom tb_1575 rfl rfl ⟨Nat.le_of_ble_eq_true rfl, Nat.le_of_ble_eq_true rfl⟩) (P_sub hP.1 [] rfl) hX rfl hl.1 rfl (Nat.le_of_ble_eq_true rfl) dX12_carries_13 ⟨Nat.le_of_ble_eq_true rfl, Nat.le_of_ble_eq_true rfl⟩ ?_
  refine lv_if_ne (tgt := 25) hx hb dX12_carries_16 (by decide) (fun c_14 => ?_) (fun c_14 => ?_)
  · have h := ie c_14 h
    refine lv_iload_n hx hb dX12_carries_25 rfl (lv_at hl 1 rfl) ?_
    refine lv_aload_n hx hb dX12_carries_26 rfl (lv_at hl 0 rfl) ?_
    obtain ⟨z_15, e_z_15, h⟩ := bi h
    refine roVi (rest := [.int x1]) ⟨hx, hb, hml, hown, ht⟩ (c_X12_living l D cy fu A_m m_at m_names m_status m_top m_bottom m_sort m_trayMany m_trays m_tape m_text m_taped m_size m_token m_from m_end m_value m_faultKind m_faultPlace m_faults m_seen m_toldParts m_opened m_depth m_counted m_bestOrder m_standers m_has m_bestHas m_standerMany m_bestCouples m_bestFondness m_cameTo m_doesStandFirst m_stoodBy m_drawn m_ranSteps m_loops m_ran m_told1 m_isTold m_marks z_15 e_z_15) (cV ht mv_X12_living tb_1527 rfl rfl ⟨Nat.le_of_ble_eq_true rfl, Nat.le_of_ble_eq_true rfl⟩) (P_sub hP.1 [0] rfl) hX rfl rfl rfl hl.1 rfl (Nat.le_of_ble_eq_true rfl) dX12_carries_27 ⟨Nat.le_of_ble_eq_true rfl, Nat.le_of_ble_eq_true rfl⟩ ?_
    refine lv_iconst (v := (-1)) hx hb dX12_carries_30 (by decide) ?_
    refine lv_ixor hx hb dX12_carries_31 ?_
    refine lv_iand hx hb dX12_carries_32 ?_
    refine lv_if_eq (tgt := 45) hx hb dX12_carries_33 (by decide) (fun c_16 => ?_) (fun c_16 => ?_)
    · have h := it c_16 h
      refine lv_aload_n hx hb dX12_carries_45 rfl (lv_at hl 0 rfl) ?_
      refine lv_aload_n hx hb dX12_carries_46 rfl (lv_at hl 0 rfl) ?_
      refine lv_iload_n hx hb dX12_carries_47 rfl (lv_at hl 1 rfl) ?_
      obtain ⟨z_17, e_z_17, h⟩ := bi h
      refine roVi (rest := [.ref (A_m 0)]) ⟨hx, hb, hml, hown, ht⟩ (c_X12_doCarry l D cy fu A_m m_at m_names m_status m_top m_bottom m_sort m_trayMany m_trays m_tape m_text m_taped m_size m_token m_from m_end m_value m_faultKind m_faultPlace m_faults m_seen m_toldParts m_opened m_depth m_counted m_bestOrder m_standers m_has m_bestHas m_standerMany m_bestCouples m_bestFondness m_cameTo m_doesStandFirst m_stoodBy m_drawn m_ranSteps m_loops m_ran m_told1 m_isTold m_marks x1 z_17 e_z_17) (cV ht mv_X12_doCarry tb_1695 rfl rfl ⟨Nat.le_of_ble_eq_true rfl, Nat.le_of_ble_eq_true rfl⟩) (P_sub hP.1 [0] rfl) hX rfl rfl rfl hl.1 rfl (Nat.le_of_ble_eq_true rfl) dX12_carries_48 ⟨Nat.le_of_ble_eq_true rfl, Nat.le_of_ble_eq_true rfl⟩ ?_
      refine lv_if_eq (tgt := 58) hx hb dX12_carries_51 (by decide) (fun c_18 => ?_) (fun c_18 => ?_)
      · have h := it c_18 h
        refine lv_iconst (v := 0) hx hb dX12_carries_58 (by decide) ?_
        obtain ⟨z_19, e_z_19, h⟩ := bi h
        refine efVi (rest := []) ⟨hx, hb, hml, hown, ht⟩ (c_X12_gives l D cy fu A_m m_at m_names m_status m_top m_bottom m_sort m_trayMany m_trays m_tape m_text m_taped m_size m_token m_from m_end m_value m_faultKind m_faultPlace m_faults m_seen m_toldParts m_opened m_depth m_counted m_bestOrder m_standers m_has m_bestHas m_standerMany m_bestCouples m_bestFondness m_cameTo m_doesStandFirst m_stoodBy m_drawn m_ranSteps m_loops m_ran m_told1 m_isTold m_marks 0 z_19 e_z_19 _ rfl _ rfl) (cV ht mv_X12_gives tb_1499 rfl rfl ⟨Nat.le_of_ble_eq_true rfl, Nat.le_of_ble_eq_true rfl⟩) hP hS hX [0] rfl rfl rfl rfl rfl rfl hl.1 rfl (Nat.le_of_ble_eq_true rfl) dX12_carries_59 ⟨Nat.le_of_ble_eq_true rfl, Nat.le_of_ble_eq_true rfl⟩ (fun H locs hP hS => ?_)
        have hP : PD D A [bl_X12 cy A_m m_at m_names z_19.2 m_top m_bottom m_sort m_trayMany m_trays m_tape m_text m_taped m_size m_token m_from m_end m_value m_faultKind m_faultPlace m_faults m_seen m_toldParts m_opened m_depth m_counted m_bestOrder m_standers m_has m_bestHas m_standerMany m_bestCouples m_bestFondness m_cameTo m_doesStandFirst m_stoodBy m_drawn m_ranSteps m_loops m_ran m_told1 m_isTold m_marks] H := hP
        cases h
        subst hW1
        exact W.iret hx hb hr (fun _ ht9 _ => ⟨⟨_, (), rfl, rfl, hPt ht9 hP.1⟩, hS.F ht9⟩) hS.2.2 dX12_carries_62
      · have h := ie c_18 h
        refine lv_iconst (v := 1) hx hb dX12_carries_54 (by decide) ?_
        refine lv_goto (tgt := 59) hx hb dX12_carries_55 (by decide) ?_
        obtain ⟨z_20, e_z_20, h⟩ := bi h
        refine efVi (rest := []) ⟨hx, hb, hml, hown, ht⟩ (c_X12_gives l D cy fu A_m m_at m_names m_status m_top m_bottom m_sort m_trayMany m_trays m_tape m_text m_taped m_size m_token m_from m_end m_value m_faultKind m_faultPlace m_faults m_seen m_toldParts m_opened m_depth m_counted m_bestOrder m_standers m_has m_bestHas m_standerMany m_bestCouples m_bestFondness m_cameTo m_doesStandFirst m_stoodBy m_drawn m_ranSteps m_loops m_ran m_told1 m_isTold m_marks 1 z_20 e_z_20 _ rfl _ rfl) (cV ht mv_X12_gives tb_1499 rfl rfl ⟨Nat.le_of_ble_eq_true rfl, Nat.le_of_ble_eq_true rfl⟩) hP hS hX [0] rfl rfl rfl rfl rfl rfl hl.1 rfl (Nat.le_of_ble_eq_true rfl) dX12_carries_59 ⟨Nat.le_of_ble_eq_true rfl, Nat.le_of_ble_eq_true rfl⟩ (fun H locs hP hS => ?_)
        have hP : PD D A [bl_X12 cy A_m m_at m_names z_20.2 m_top m_bottom m_sort m_trayMany m_trays m_tape m_text m_taped m_size m_token m_from m_end m_value m_faultKind m_faultPlace m_faults m_seen m_toldParts m_opened m_depth m_counted m_bestOrder m_standers m_has m_bestHas m_standerMany m_bestCouples m_bestFondness m_cameTo m_doesStandFirst m_stoodBy m_drawn m_ranSteps m_loops m_ran m_told1 m_isTold m_marks] H := hP
        cases h
        subst hW1
        exact W.iret hx hb hr (fun _ ht9 _ => ⟨⟨_, (), rfl, rfl, hPt ht9 hP.1⟩, hS.F ht9⟩) hS.2.2 dX12_carries_62
    · have h := ie c_16 h
      refine lv_aload_n hx hb dX12_carries_36 rfl (lv_at hl 0 rfl) ?_
      refine lv_bipush (v := 7) hx hb dX12_carries_37 (by decide) ?_
      obtain ⟨z_21, e_z_21, h⟩ := bi h
      refine efVi (rest := []) ⟨hx, hb, hml, hown, ht⟩ (c_X12_refuse l D cy fu A_m m_at m_names m_status m_top m_bottom m_sort m_trayMany m_trays m_tape m_text m_taped m_size m_token m_from m_end m_value m_faultKind m_faultPlace m_faults m_seen m_toldParts m_opened m_depth m_counted m_bestOrder m_standers m_has m_bestHas m_standerMany m_bestCouples m_bestFondness m_cameTo m_doesStandFirst m_stoodBy m_drawn m_ranSteps m_loops m_ran m_told1 m_isTold m_marks 7 z_21 e_z_21 _ rfl _ rfl) (cV ht mv_X12_refuse tb_1432 rfl rfl ⟨Nat.le_of_ble_eq_true rfl, Nat.le_of_ble_eq_true rfl⟩) hP hS hX [0] rfl rfl rfl rfl rfl rfl hl.1 rfl (Nat.le_of_ble_eq_true rfl) dX12_carries_39 ⟨Nat.le_of_ble_eq_true rfl, Nat.le_of_ble_eq_true rfl⟩ (fun H locs hP hS => ?_)
      have hP : PD D A [bl_X12 cy A_m m_at m_names z_21.2 m_top m_bottom m_sort m_trayMany m_trays m_tape m_text m_taped m_size m_token m_from m_end m_value m_faultKind m_faultPlace m_faults m_seen m_toldParts m_opened m_depth m_counted m_bestOrder m_standers m_has m_bestHas m_standerMany m_bestCouples m_bestFondness m_cameTo m_doesStandFirst m_stoodBy m_drawn m_ranSteps m_loops m_ran m_told1 m_isTold m_marks] H := hP
      refine lv_goto (tgt := 62) hx hb dX12_carries_42 (by decide) ?_
      cases h
      subst hW1
      exact W.iret hx hb hr (fun _ ht9 _ => ⟨⟨_, (), rfl, rfl, hPt ht9 hP.1⟩, hS.F ht9⟩) hS.2.2 dX12_carries_62
  · have h := it c_14 h
    refine lv_aload_n hx hb dX12_carries_19 rfl (lv_at hl 0 rfl) ?_
    refine lv_iconst (v := 1) hx hb dX12_carries_20 (by decide) ?_
    obtain ⟨z_22, e_z_22, h⟩ := bi h
    refine efVi (rest := []) ⟨hx, hb, hml, hown, ht⟩ (c_X12_refuse l D cy fu A_m m_at m_names m_status m_top m_bottom m_sort m_trayMany m_trays m_tape m_text m_taped m_size m_token m_from m_end m_value m_faultKind m_faultPlace m_faults m_seen m_toldParts m_opened m_depth m_counted m_bestOrder m_standers m_has m_bestHas m_standerMany m_bestCouples m_bestFondness m_cameTo m_doesStandFirst m_stoodBy m_drawn m_ranSteps m_loops m_ran m_told1 m_isTold m_marks 1 z_22 e_z_22 _ rfl _ rfl) (cV ht mv_X12_refuse tb_1432 rfl rfl ⟨Nat.le_of_ble_eq_true rfl, Nat.le_of_ble_eq_true rfl⟩) hP hS hX [0] rfl rfl rfl rfl rfl rfl hl.1 rfl (Nat.le_of_ble_eq_true rfl) dX12_carries_21 ⟨Nat.le_of_ble_eq_true rfl, Nat.le_of_ble_eq_true rfl⟩ (fun H locs hP hS => ?_)
    have hP : PD D A [bl_X12 cy A_m m_at m_names z_22.2 m_top m_bottom m_sort m_trayMany m_trays m_tape m_text m_taped m_size m_token m_from m_end m_value m_faultKind m_faultPlace m_faults m_seen m_toldParts m_opened m_depth m_counted m_bestOrder m_standers m_has m_bestHas m_standerMany m_bestCouples m_bestFondness m_cameTo m_doesStandFirst m_stoodBy m_drawn m_ranSteps m_loops m_ran m_told1 m_isTold m_marks] H := hP
    cases h
    subst hW1
    exact W.iret hx hb hr (fun _ ht9 _ => ⟨⟨_, (), rfl, rfl, hPt ht9 hP.1⟩, hS.F ht9⟩) hS.2.2 dX12_carries_24
theorem dX12_fewestOf_0 : decode cX12_fewestOf 0 = .ok (.iconst (-1), 1) := by decide +kernel
theorem dX12_fewestOf_1 : decode cX12_fewestOf 1 = .ok (.istore_n 1, 1) := by decide +kernel
theorem dX12_fewestOf_2 : decode cX12_fewestOf 2 = .ok (.iconst 1, 1) := by decide +kernel
theorem dX12_fewestOf_3 : decode cX12_fewestOf 3 = .ok (.istore_n 2, 1) := by decide +kernel
theorem dX12_fewestOf_4 : decode cX12_fewestOf 4 = .ok (.iload_n 2, 1) := by decide +kernel
theorem dX12_fewestOf_5 : decode cX12_fewestOf 5 = .ok (.aload_n 0, 1) := by decide +kernel
theorem dX12_fewestOf_6 : decode cX12_fewestOf 6 = .ok (.invokevirtual 259, 3) := by decide +kernel
theorem dX12_fewestOf_9 : decode cX12_fewestOf 9 = .ok (.if_icmp .gt 49, 3) := by decide +kernel
theorem dX12_fewestOf_12 : decode cX12_fewestOf 12 = .ok (.iload_n 2, 1) := by decide +kernel
theorem dX12_fewestOf_13 : decode cX12_fewestOf 13 = .ok (.aload_n 0, 1) := by decide +kernel
theorem dX12_fewestOf_14 : decode cX12_fewestOf 14 = .ok (.invokevirtual 259, 3) := by decide +kernel
theorem dX12_fewestOf_17 : decode cX12_fewestOf 17 = .ok (.iconst (-1), 1) := by decide +kernel
theorem dX12_fewestOf_18 : decode cX12_fewestOf 18 = .ok (.ixor, 1) := by decide +kernel
theorem dX12_fewestOf_19 : decode cX12_fewestOf 19 = .ok (.iand, 1) := by decide +kernel
theorem dX12_fewestOf_20 : decode cX12_fewestOf 20 = .ok (.ifCond .ne 32, 3) := by decide +kernel
theorem dX12_fewestOf_23 : decode cX12_fewestOf 23 = .ok (.aload_n 0, 1) := by decide +kernel
theorem dX12_fewestOf_24 : decode cX12_fewestOf 24 = .ok (.iload_n 2, 1) := by decide +kernel
theorem dX12_fewestOf_25 : decode cX12_fewestOf 25 = .ok (.invokevirtual 324, 3) := by decide +kernel
theorem dX12_fewestOf_28 : decode cX12_fewestOf 28 = .ok (.ifCond .ne 6, 3) := by decide +kernel
theorem dX12_fewestOf_31 : decode cX12_fewestOf 31 = .ok (.goto 21, 3) := by decide +kernel
theorem dX12_fewestOf_34 : decode cX12_fewestOf 34 = .ok (.iload_n 1, 1) := by decide +kernel
theorem dX12_fewestOf_35 : decode cX12_fewestOf 35 = .ok (.iconst (-1), 1) := by decide +kernel
theorem dX12_fewestOf_36 : decode cX12_fewestOf 36 = .ok (.if_icmp .eq 14, 3) := by decide +kernel
theorem dX12_fewestOf_39 : decode cX12_fewestOf 39 = .ok (.iload_n 2, 1) := by decide +kernel
theorem dX12_fewestOf_40 : decode cX12_fewestOf 40 = .ok (.invokestatic 308, 3) := by decide +kernel
theorem dX12_fewestOf_43 : decode cX12_fewestOf 43 = .ok (.iload_n 1, 1) := by decide +kernel
theorem dX12_fewestOf_44 : decode cX12_fewestOf 44 = .ok (.invokestatic 308, 3) := by decide +kernel
theorem dX12_fewestOf_47 : decode cX12_fewestOf 47 = .ok (.if_icmp .ge 5, 3) := by decide +kernel
theorem dX12_fewestOf_50 : decode cX12_fewestOf 50 = .ok (.iload_n 2, 1) := by decide +kernel
theorem dX12_fewestOf_51 : decode cX12_fewestOf 51 = .ok (.istore_n 1, 1) := by decide +kernel
theorem dX12_fewestOf_52 : decode cX12_fewestOf 52 = .ok (.iinc 2 1, 3) := by decide +kernel
theorem dX12_fewestOf_55 : decode cX12_fewestOf 55 = .ok (.goto (-51), 3) := by decide +kernel
theorem dX12_fewestOf_58 : decode cX12_fewestOf 58 = .ok (.iload_n 1, 1) := by decide +kernel
theorem dX12_fewestOf_59 : decode cX12_fewestOf 59 = .ok (.ireturn, 1) := by decide +kernel
theorem mv_X12_fewestOf : MV yX12_fewestOf RX12 cX12_fewestOf 3 (some .int) 0 := ⟨tb_1710, tb_1709, ts_90, tb_16, by decide +kernel, by decide +kernel, by decide +kernel⟩
def f_X12_fewestOf_b4 (fu : Nat) (m_at : Nat → Int32) (k4 : Int32 → Int32 → Option (Int32)) (x1 : Int32) (x2 : Int32) : Option (Int32) := (f_X12_living fu m_at).bind fun z_16 => (if z_16 < x2 then some (x1) else (f_X12_living fu m_at).bind fun z_18 => (if (x2 &&& (z_18 ^^^ (-1))) = 0 then (f_X12_doCarry fu m_at x2).bind fun z_21 => (if z_21 = 0 then bnd (x2 + 1) fun x2_30 => k4 x1 x2_30 else (if x1 = (-1) then bnd (x2 + 1) fun x2_24 => k4 x2 x2_24 else (f_X12_bits fu x2).bind fun z_25 => (f_X12_bits fu x1).bind fun z_26 => (if z_26 ≤ z_25 then bnd (x2 + 1) fun x2_28 => k4 x1 x2_28 else bnd (x2 + 1) fun x2_29 => k4 x2 x2_29))) else bnd (x2 + 1) fun x2_20 => k4 x1 x2_20))
def f_X12_fewestOf_l4 (fu : Nat) (m_at : Nat → Int32) : Nat → Int32 → Int32 → Option (Int32)
  | 0, _, _ => none
  | n + 1, x1, x2 => f_X12_fewestOf_b4 fu m_at (f_X12_fewestOf_l4 fu m_at n) x1 x2
def f_X12_fewestOf (fu : Nat) (m_at : Nat → Int32) : Option (Int32) := f_X12_fewestOf_l4 fu m_at fu (-1) 1
abbrev rm_X12_fewestOf : Room := { frames := 5, cells := 0, slots := 0, locals := 106 }
set_option maxHeartbeats 4000000 in
set_option maxRecDepth 100000 in
theorem c_X12_fewestOf (l : Launch) (D : va_G) (cy : Nat → ClassId) (fu : Nat) (A_m : Nat → Nat) (m_at : Nat → Int32) (m_names : Nat → Int64) (m_status : Int32) (m_top : Int64) (m_bottom : Int64) (m_sort : Nat → Int32) (m_trayMany : Nat → Int32) (m_trays : Nat → Int64) (m_tape : Nat → Int32) (m_text : Nat → Int32) (m_taped : Int32) (m_size : Int32) (m_token : Int32) (m_from : Int32) (m_end : Int32) (m_value : Int32) (m_faultKind : Int32) (m_faultPlace : Int32) (m_faults : Int32) (m_seen : Int32) (m_toldParts : Int32) (m_opened : Nat → Int32) (m_depth : Int32) (m_counted : Int32) (m_bestOrder : Int32) (m_standers : Nat → Int32) (m_has : Nat → Int32) (m_bestHas : Nat → Int32) (m_standerMany : Int32) (m_bestCouples : Int32) (m_bestFondness : Int32) (m_cameTo : Nat → Int32) (m_doesStandFirst : Int32) (m_stoodBy : Nat → Int64) (m_drawn : Int32) (m_ranSteps : Int32) (m_loops : Nat → Int32) (m_ran : Nat → Int32) (m_told1 : Nat → Int32) (m_isTold : Int32) (m_marks : Int32) (res : Int32) (h : f_X12_fewestOf fu m_at = some res) : Met l yX12_fewestOf (WW yX12_fewestOf cX12_fewestOf 3 (some .int)) rm_X12_fewestOf (Rd D cy [.ref (A_m 0)] [bl_X12 cy A_m m_at m_names m_status m_top m_bottom m_sort m_trayMany m_trays m_tape m_text m_taped m_size m_token m_from m_end m_value m_faultKind m_faultPlace m_faults m_seen m_toldParts m_opened m_depth m_counted m_bestOrder m_standers m_has m_bestHas m_standerMany m_bestCouples m_bestFondness m_cameTo m_doesStandFirst m_stoodBy m_drawn m_ranSteps m_loops m_ran m_told1 m_isTold m_marks]) (vp_Si (fun v => v = res)) 0 0 (fun _ => False) := by
  refine Met.ofW (cc := cX12_fewestOf) (maxL := 3) (ret := (some .int)) (by decide) rfl ?_
  intro p e s m args below meth c s₁ B hml hv
  obtain ⟨hargs, hP, hX⟩ := hv
  have hx := B.exec
  have hb := B.bytes
  have hr := B.returns
  have ht : ∀ w ∈ lw_gd, w.before args s = true := fun w hw => atoms_spec (ws := WW yX12_fewestOf cX12_fewestOf 3 (some .int)) B.pre w (List.mem_cons_of_mem _ hw)
  have hown : s.vm.findClass RX12 = some m.cls := findClass_of_methodNamed B.named
  have hlocks := B.notSynchronized
  have hP : PB D [bl_X12 cy A_m m_at m_names m_status m_top m_bottom m_sort m_trayMany m_trays m_tape m_text m_taped m_size m_token m_from m_end m_value m_faultKind m_faultPlace m_faults m_seen m_toldParts m_opened m_depth m_counted m_bestOrder m_standers m_has m_bestHas m_standerMany m_bestCouples m_bestFondness m_cameTo m_doesStandFirst m_stoodBy m_drawn m_ranSteps m_loops m_ran m_told1 m_isTold m_marks] s.heap := hP
  obtain ⟨ls, hl, hent⟩ := ent (m := m) (n := 3) hargs (Nat.le_of_ble_eq_true rfl) (lv := [(0, .ref (A_m 0))]) rfl
  rw [hent]
  clear hent
  have l4 : ∀ (n4 : Nat) (x1 : Int32) (x2 : Int32) (ls : Array Slot), lv_has ls 3 [(0, .ref (A_m 0)), (1, .int x1), (2, .int x2)] → f_X12_fewestOf_l4 fu m_at n4 x1 x2 = some res → W p l e (headSpec (WW yX12_fewestOf cX12_fewestOf 3 (some .int)) rm_X12_fewestOf).room s m args below meth c s.heap [] 0 0 (MQ below (vp_Si (fun v => v = res)) args s 0 0 (fun _ => False)) (F0 m 4 ls []) := by
    intro n4
    induction n4 with
    | zero => intro x1 x2 ls hl h; cases h
    | succ n4 ih4 =>
      intro x1 x2 ls hl h
      have h : f_X12_fewestOf_b4 fu m_at (f_X12_fewestOf_l4 fu m_at n4) x1 x2 = some res := h
      unfold f_X12_fewestOf_b4 at h
      refine lv_iload_n hx hb dX12_fewestOf_4 rfl (lv_at hl 2 rfl) ?_
      refine lv_aload_n hx hb dX12_fewestOf_5 rfl (lv_at hl 0 rfl) ?_
      obtain ⟨z_16, e_z_16, h⟩ := bi h
      refine roVi (rest := [.int x2]) ⟨hx, hb, hml, hown, ht⟩ (c_X12_living l D cy fu A_m m_at m_names m_status m_top m_bottom m_sort m_trayMany m_trays m_tape m_text m_taped m_size m_token m_from m_end m_value m_faultKind m_faultPlace m_faults m_seen m_toldParts m_opened m_depth m_counted m_bestOrder m_standers m_has m_bestHas m_standerMany m_bestCouples m_bestFondness m_cameTo m_doesStandFirst m_stoodBy m_drawn m_ranSteps m_loops m_ran m_told1 m_isTold m_marks z_16 e_z_16) (cV ht mv_X12_living tb_1527 rfl rfl ⟨Nat.le_of_ble_eq_true rfl, Nat.le_of_ble_eq_true rfl⟩) (P_sub hP [0] rfl) hX rfl rfl rfl hl.1 rfl (Nat.le_of_ble_eq_true rfl) dX12_fewestOf_6 ⟨Nat.le_of_ble_eq_true rfl, Nat.le_of_ble_eq_true rfl⟩ ?_
      refine lv_icmp_gt (tgt := 58) hx hb dX12_fewestOf_9 (by decide) (fun c_17 => ?_) (fun c_17 => ?_)
      · have h := it c_17 h
        refine lv_iload_n hx hb dX12_fewestOf_58 rfl (lv_at hl 1 rfl) ?_
        cases h
        exact W.iret hx hb hr (fun _ ht9 _ => ⟨_, rfl, rfl, ht9⟩) (fun _ hq => by cases hq) dX12_fewestOf_59
      · have h := ie c_17 h
        refine lv_iload_n hx hb dX12_fewestOf_12 rfl (lv_at hl 2 rfl) ?_
        refine lv_aload_n hx hb dX12_fewestOf_13 rfl (lv_at hl 0 rfl) ?_
        obtain ⟨z_18, e_z_18, h⟩ := bi h
        refine roVi (rest := [.int x2]) ⟨hx, hb, hml, hown, ht⟩ (c_X12_living l D cy fu A_m m_at m_names m_status m_top m_bottom m_sort m_trayMany m_trays m_tape m_text m_taped m_size m_token m_from m_end m_value m_faultKind m_faultPlace m_faults m_seen m_toldParts m_opened m_depth m_counted m_bestOrder m_standers m_has m_bestHas m_standerMany m_bestCouples m_bestFondness m_cameTo m_doesStandFirst m_stoodBy m_drawn m_ranSteps m_loops m_ran m_told1 m_isTold m_marks z_18 e_z_18) (cV ht mv_X12_living tb_1527 rfl rfl ⟨Nat.le_of_ble_eq_true rfl, Nat.le_of_ble_eq_true rfl⟩) (P_sub hP [0] rfl) hX rfl rfl rfl hl.1 rfl (Nat.le_of_ble_eq_true rfl) dX12_fewestOf_14 ⟨Nat.le_of_ble_eq_true rfl, Nat.le_of_ble_eq_true rfl⟩ ?_
        refine lv_iconst (v := (-1)) hx hb dX12_fewestOf_17 (by decide) ?_
        refine lv_ixor hx hb dX12_fewestOf_18 ?_
        refine lv_iand hx hb dX12_fewestOf_19 ?_
        refine lv_if_ne (tgt := 52) hx hb dX12_fewestOf_20 (by decide) (fun c_19 => ?_) (fun c_19 => ?_)
        · have h := ie c_19 h
          obtain ⟨x2_20, e_x2_20⟩ : ∃ y : Int32, y = x2 + 1 := ⟨_, rfl⟩
          have h := bn e_x2_20 h
          refine lv_iinc (v := x2_20) (lv' := [(2, .int x2_20), (0, .ref (A_m 0)), (1, .int x1)]) hx hb dX12_fewestOf_52 hl (k := 2) rfl (by rw [e_x2_20]; rfl) (by decide) rfl (fun ls hl => ?_)
          refine lv_goto (tgt := 4) hx hb dX12_fewestOf_55 (by decide) ?_
          exact ih4 x1 x2_20 ls (lv_sub hl [1, 2, 0] rfl) h
        · have h := it c_19 h
          refine lv_aload_n hx hb dX12_fewestOf_23 rfl (lv_at hl 0 rfl) ?_
          refine lv_iload_n hx hb dX12_fewestOf_24 rfl (lv_at hl 2 rfl) ?_
          obtain ⟨z_21, e_z_21, h⟩ := bi h
          refine roVi (rest := []) ⟨hx, hb, hml, hown, ht⟩ (c_X12_doCarry l D cy fu A_m m_at m_names m_status m_top m_bottom m_sort m_trayMany m_trays m_tape m_text m_taped m_size m_token m_from m_end m_value m_faultKind m_faultPlace m_faults m_seen m_toldParts m_opened m_depth m_counted m_bestOrder m_standers m_has m_bestHas m_standerMany m_bestCouples m_bestFondness m_cameTo m_doesStandFirst m_stoodBy m_drawn m_ranSteps m_loops m_ran m_told1 m_isTold m_marks x2 z_21 e_z_21) (cV ht mv_X12_doCarry tb_1695 rfl rfl ⟨Nat.le_of_ble_eq_true rfl, Nat.le_of_ble_eq_true rfl⟩) (P_sub hP [0] rfl) hX rfl rfl rfl hl.1 rfl (Nat.le_of_ble_eq_true rfl) dX12_fewestOf_25 ⟨Nat.le_of_ble_eq_true rfl, Nat.le_of_ble_eq_true rfl⟩ ?_
          refine lv_if_ne (tgt := 34) hx hb dX12_fewestOf_28 (by decide) (fun c_22 => ?_) (fun c_22 => ?_)
          · have h := ie c_22 h
            refine lv_iload_n hx hb dX12_fewestOf_34 rfl (lv_at hl 1 rfl) ?_
            refine lv_iconst (v := (-1)) hx hb dX12_fewestOf_35 (by decide) ?_
            refine lv_icmp_eq (tgt := 50) hx hb dX12_fewestOf_36 (by decide) (fun c_23 => ?_) (fun c_23 => ?_)
            · have h := it c_23 h
              refine lv_iload_n hx hb dX12_fewestOf_50 rfl (lv_at hl 2 rfl) ?_
              refine lv_istore_n (lv' := [(1, .int x2), (0, .ref (A_m 0)), (2, .int x2)]) hx hb dX12_fewestOf_51 rfl hl (by decide) rfl (fun ls hl => ?_)
              obtain ⟨x2_24, e_x2_24⟩ : ∃ y : Int32, y = x2 + 1 := ⟨_, rfl⟩
              have h := bn e_x2_24 h
              refine lv_iinc (v := x2_24) (lv' := [(2, .int x2_24), (1, .int x2), (0, .ref (A_m 0))]) hx hb dX12_fewestOf_52 hl (k := 2) rfl (by rw [e_x2_24]; rfl) (by decide) rfl (fun ls hl => ?_)
              refine lv_goto (tgt := 4) hx hb dX12_fewestOf_55 (by decide) ?_
              exact ih4 x2 x2_24 ls (lv_sub hl [2, 1, 0] rfl) h
            · have h := ie c_23 h
              refine lv_iload_n hx hb dX12_fewestOf_39 rfl (lv_at hl 2 rfl) ?_
              obtain ⟨z_25, e_z_25, h⟩ := bi h
              refine roSi (rest := []) ⟨hx, hb, hml, hown, ht⟩ (c_X12_bits l D cy fu  x2 z_25 e_z_25) (cS ht ms_X12_bits tb_1634 rfl rfl ⟨Nat.le_of_ble_eq_true rfl, Nat.le_of_ble_eq_true rfl⟩) (P_sub hP [] rfl) hX rfl hl.1 rfl (Nat.le_of_ble_eq_true rfl) dX12_fewestOf_40 ⟨Nat.le_of_ble_eq_true rfl, Nat.le_of_ble_eq_true rfl⟩ ?_
              refine lv_iload_n hx hb dX12_fewestOf_43 rfl (lv_at hl 1 rfl) ?_
              obtain ⟨z_26, e_z_26, h⟩ := bi h
              refine roSi (rest := [.int z_25]) ⟨hx, hb, hml, hown, ht⟩ (c_X12_bits l D cy fu  x1 z_26 e_z_26) (cS ht ms_X12_bits tb_1634 rfl rfl ⟨Nat.le_of_ble_eq_true rfl, Nat.le_of_ble_eq_true rfl⟩) (P_sub hP [] rfl) hX rfl hl.1 rfl (Nat.le_of_ble_eq_true rfl) dX12_fewestOf_44 ⟨Nat.le_of_ble_eq_true rfl, Nat.le_of_ble_eq_true rfl⟩ ?_
              refine lv_icmp_ge (tgt := 52) hx hb dX12_fewestOf_47 (by decide) (fun c_27 => ?_) (fun c_27 => ?_)
              · have h := it c_27 h
                obtain ⟨x2_28, e_x2_28⟩ : ∃ y : Int32, y = x2 + 1 := ⟨_, rfl⟩
                have h := bn e_x2_28 h
                refine lv_iinc (v := x2_28) (lv' := [(2, .int x2_28), (0, .ref (A_m 0)), (1, .int x1)]) hx hb dX12_fewestOf_52 hl (k := 2) rfl (by rw [e_x2_28]; rfl) (by decide) rfl (fun ls hl => ?_)
                refine lv_goto (tgt := 4) hx hb dX12_fewestOf_55 (by decide) ?_
                exact ih4 x1 x2_28 ls (lv_sub hl [1, 2, 0] rfl) h
              · have h := ie c_27 h
                refine lv_iload_n hx hb dX12_fewestOf_50 rfl (lv_at hl 2 rfl) ?_
                refine lv_istore_n (lv' := [(1, .int x2), (0, .ref (A_m 0)), (2, .int x2)]) hx hb dX12_fewestOf_51 rfl hl (by decide) rfl (fun ls hl => ?_)
                obtain ⟨x2_29, e_x2_29⟩ : ∃ y : Int32, y = x2 + 1 := ⟨_, rfl⟩
                have h := bn e_x2_29 h
                refine lv_iinc (v := x2_29) (lv' := [(2, .int x2_29), (1, .int x2), (0, .ref (A_m 0))]) hx hb dX12_fewestOf_52 hl (k := 2) rfl (by rw [e_x2_29]; rfl) (by decide) rfl (fun ls hl => ?_)
                refine lv_goto (tgt := 4) hx hb dX12_fewestOf_55 (by decide) ?_
                exact ih4 x2 x2_29 ls (lv_sub hl [2, 1, 0] rfl) h
          · have h := it c_22 h
            refine lv_goto (tgt := 52) hx hb dX12_fewestOf_31 (by decide) ?_
            obtain ⟨x2_30, e_x2_30⟩ : ∃ y : Int32, y = x2 + 1 := ⟨_, rfl⟩
            have h := bn e_x2_30 h
            refine lv_iinc (v := x2_30) (lv' := [(2, .int x2_30), (0, .ref (A_m 0)), (1, .int x1)]) hx hb dX12_fewestOf_52 hl (k := 2) rfl (by rw [e_x2_30]; rfl) (by decide) rfl (fun ls hl => ?_)
            refine lv_goto (tgt := 4) hx hb dX12_fewestOf_55 (by decide) ?_
            exact ih4 x1 x2_30 ls (lv_sub hl [1, 2, 0] rfl) h
  unfold f_X12_fewestOf at h
  refine lv_iconst (v := (-1)) hx hb dX12_fewestOf_0 (by decide) ?_
  refine lv_istore_n (lv' := [(1, .int (-1)), (0, .ref (A_m 0))]) hx hb dX12_fewestOf_1 rfl hl (by decide) rfl (fun ls hl => ?_)
  refine lv_iconst (v := 1) hx hb dX12_fewestOf_2 (by decide) ?_
  refine lv_istore_n (lv' := [(2, .int 1), (1, .int (-1)), (0, .ref (A_m 0))]) hx hb dX12_fewestOf_3 rfl hl (by decide) rfl (fun ls hl => ?_)
  exact l4 fu (-1) 1 ls (lv_sub hl [2, 1, 0] rfl) h
theorem dX12_fewest_0 : decode cX12_fewest 0 = .ok (.aload_n 0, 1) := by decide +kernel
theorem dX12_fewest_1 : decode cX12_fewest 1 = .ok (.invokevirtual 327, 3) := by decide +kernel
theorem dX12_fewest_4 : decode cX12_fewest 4 = .ok (.istore_n 1, 1) := by decide +kernel
theorem dX12_fewest_5 : decode cX12_fewest 5 = .ok (.iload_n 1, 1) := by decide +kernel
theorem dX12_fewest_6 : decode cX12_fewest 6 = .ok (.iconst (-1), 1) := by decide +kernel
theorem dX12_fewest_7 : decode cX12_fewest 7 = .ok (.if_icmp .ne 12, 3) := by decide +kernel
theorem dX12_fewest_10 : decode cX12_fewest 10 = .ok (.aload_n 0, 1) := by decide +kernel
theorem dX12_fewest_11 : decode cX12_fewest 11 = .ok (.bipush 6, 2) := by decide +kernel
theorem dX12_fewest_13 : decode cX12_fewest 13 = .ok (.invokevirtual 85, 3) := by decide +kernel
theorem dX12_fewest_16 : decode cX12_fewest 16 = .ok (.goto 11, 3) := by decide +kernel
theorem dX12_fewest_19 : decode cX12_fewest 19 = .ok (.aload_n 0, 1) := by decide +kernel
theorem dX12_fewest_20 : decode cX12_fewest 20 = .ok (.iload_n 1, 1) := by decide +kernel
theorem dX12_fewest_21 : decode cX12_fewest 21 = .ok (.invokestatic 308, 3) := by decide +kernel
theorem dX12_fewest_24 : decode cX12_fewest 24 = .ok (.invokevirtual 88, 3) := by decide +kernel
theorem dX12_fewest_27 : decode cX12_fewest 27 = .ok (.ireturn, 1) := by decide +kernel
theorem mv_X12_fewest : MV yX12_fewest RX12 cX12_fewest 2 (some .int) 0 := ⟨tb_1706, tb_1704, tb_1705, tb_16, by decide +kernel, by decide +kernel, by decide +kernel⟩
def f_X12_fewest (fu : Nat) (m_at : Nat → Int32) (m_status : Int32) : Option (Int32 × Int32) := (f_X12_fewestOf fu m_at).bind fun z_6 => (if z_6 = (-1) then (f_X12_refuse fu m_status 6).bind fun z_10 => some (z_10.1, z_10.2) else (f_X12_bits fu z_6).bind fun z_8 => (f_X12_gives fu m_status z_8).bind fun z_9 => some (z_9.1, z_9.2))
abbrev rm_X12_fewest : Room := { frames := 6, cells := 0, slots := 0, locals := 128 }
set_option maxHeartbeats 4000000 in
set_option maxRecDepth 100000 in
theorem c_X12_fewest (l : Launch) (D : va_G) (cy : Nat → ClassId) (fu : Nat) (A_m : Nat → Nat) (m_at : Nat → Int32) (m_names : Nat → Int64) (m_status : Int32) (m_top : Int64) (m_bottom : Int64) (m_sort : Nat → Int32) (m_trayMany : Nat → Int32) (m_trays : Nat → Int64) (m_tape : Nat → Int32) (m_text : Nat → Int32) (m_taped : Int32) (m_size : Int32) (m_token : Int32) (m_from : Int32) (m_end : Int32) (m_value : Int32) (m_faultKind : Int32) (m_faultPlace : Int32) (m_faults : Int32) (m_seen : Int32) (m_toldParts : Int32) (m_opened : Nat → Int32) (m_depth : Int32) (m_counted : Int32) (m_bestOrder : Int32) (m_standers : Nat → Int32) (m_has : Nat → Int32) (m_bestHas : Nat → Int32) (m_standerMany : Int32) (m_bestCouples : Int32) (m_bestFondness : Int32) (m_cameTo : Nat → Int32) (m_doesStandFirst : Int32) (m_stoodBy : Nat → Int64) (m_drawn : Int32) (m_ranSteps : Int32) (m_loops : Nat → Int32) (m_ran : Nat → Int32) (m_told1 : Nat → Int32) (m_isTold : Int32) (m_marks : Int32) (res : Int32 × Int32) (h : f_X12_fewest fu m_at m_status = some res) (A : Nat → Prop) (hA : A = adr [bl_X12 cy A_m m_at m_names m_status m_top m_bottom m_sort m_trayMany m_trays m_tape m_text m_taped m_size m_token m_from m_end m_value m_faultKind m_faultPlace m_faults m_seen m_toldParts m_opened m_depth m_counted m_bestOrder m_standers m_has m_bestHas m_standerMany m_bestCouples m_bestFondness m_cameTo m_doesStandFirst m_stoodBy m_drawn m_ranSteps m_loops m_ran m_told1 m_isTold m_marks]) (W1 : List va_W) (hW1 : W1 = [bl_X12 cy A_m m_at m_names res.2 m_top m_bottom m_sort m_trayMany m_trays m_tape m_text m_taped m_size m_token m_from m_end m_value m_faultKind m_faultPlace m_faults m_seen m_toldParts m_opened m_depth m_counted m_bestOrder m_standers m_has m_bestHas m_standerMany m_bestCouples m_bestFondness m_cameTo m_doesStandFirst m_stoodBy m_drawn m_ranSteps m_loops m_ran m_told1 m_isTold m_marks]) : Met l yX12_fewest (WW yX12_fewest cX12_fewest 2 (some .int)) rm_X12_fewest (Ed D cy [.ref (A_m 0)] [bl_X12 cy A_m m_at m_names m_status m_top m_bottom m_sort m_trayMany m_trays m_tape m_text m_taped m_size m_token m_from m_end m_value m_faultKind m_faultPlace m_faults m_seen m_toldParts m_opened m_depth m_counted m_bestOrder m_standers m_has m_bestHas m_standerMany m_bestCouples m_bestFondness m_cameTo m_doesStandFirst m_stoodBy m_drawn m_ranSteps m_loops m_ran m_told1 m_isTold m_marks]) (Qei D res.1 A W1) 0 0 A := by
  refine Met.ofW (cc := cX12_fewest) (maxL := 2) (ret := (some .int)) (by decide) rfl ?_
  intro p e s m args below meth c s₁ B hml hv
  obtain ⟨hargs, hP, hX, hD0⟩ := hv
  have hx := B.exec
  have hb := B.bytes
  have hr := B.returns
  have ht : ∀ w ∈ lw_gd, w.before args s = true := fun w hw => atoms_spec (ws := WW yX12_fewest cX12_fewest 2 (some .int)) B.pre w (List.mem_cons_of_mem _ hw)
  have hown : s.vm.findClass RX12 = some m.cls := findClass_of_methodNamed B.named
  have hlocks := B.notSynchronized
  have hP : PD D A [bl_X12 cy A_m m_at m_names m_status m_top m_bottom m_sort m_trayMany m_trays m_tape m_text m_taped m_size m_token m_from m_end m_value m_faultKind m_faultPlace m_faults m_seen m_toldParts m_opened m_depth m_counted m_bestOrder m_standers m_has m_bestHas m_standerMany m_bestCouples m_bestFondness m_cameTo m_doesStandFirst m_stoodBy m_drawn m_ranSteps m_loops m_ran m_told1 m_isTold m_marks] s.heap := ⟨hP, by rw [hA]; exact hD0.own⟩
  have hS : va_S A s.heap s.heap [] := va_S.rf
  obtain ⟨ls, hl, hent⟩ := ent (m := m) (n := 2) hargs (Nat.le_of_ble_eq_true rfl) (lv := [(0, .ref (A_m 0))]) rfl
  rw [hent]
  clear hent
  unfold f_X12_fewest at h
  refine lv_aload_n hx hb dX12_fewest_0 rfl (lv_at hl 0 rfl) ?_
  obtain ⟨z_6, e_z_6, h⟩ := bi h
  refine roVi (rest := []) ⟨hx, hb, hml, hown, ht⟩ (c_X12_fewestOf l D cy fu A_m m_at m_names m_status m_top m_bottom m_sort m_trayMany m_trays m_tape m_text m_taped m_size m_token m_from m_end m_value m_faultKind m_faultPlace m_faults m_seen m_toldParts m_opened m_depth m_counted m_bestOrder m_standers m_has m_bestHas m_standerMany m_bestCouples m_bestFondness m_cameTo m_doesStandFirst m_stoodBy m_drawn m_ranSteps m_loops m_ran m_told1 m_isTold m_marks z_6 e_z_6) (cV ht mv_X12_fewestOf tb_1707 rfl rfl ⟨Nat.le_of_ble_eq_true rfl, Nat.le_of_ble_eq_true rfl⟩) (P_sub hP.1 [0] rfl) hX rfl rfl rfl hl.1 rfl (Nat.le_of_ble_eq_true rfl) dX12_fewest_1 ⟨Nat.le_of_ble_eq_true rfl, Nat.le_of_ble_eq_true rfl⟩ ?_
  refine lv_istore_n (lv' := [(1, .int z_6), (0, .ref (A_m 0))]) hx hb dX12_fewest_4 rfl hl (by decide) rfl (fun ls hl => ?_)
  refine lv_iload_n hx hb dX12_fewest_5 rfl (lv_at hl 0 rfl) ?_
  refine lv_iconst (v := (-1)) hx hb dX12_fewest_6 (by decide) ?_
  refine lv_icmp_ne (tgt := 19) hx hb dX12_fewest_7 (by decide) (fun c_7 => ?_) (fun c_7 => ?_)
  · have h := ie c_7 h
    refine lv_aload_n hx hb dX12_fewest_19 rfl (lv_at hl 1 rfl) ?_
    refine lv_iload_n hx hb dX12_fewest_20 rfl (lv_at hl 0 rfl) ?_
    obtain ⟨z_8, e_z_8, h⟩ := bi h
    refine roSi (rest := [.ref (A_m 0)]) ⟨hx, hb, hml, hown, ht⟩ (c_X12_bits l D cy fu  z_6 z_8 e_z_8) (cS ht ms_X12_bits tb_1634 rfl rfl ⟨Nat.le_of_ble_eq_true rfl, Nat.le_of_ble_eq_true rfl⟩) (P_sub hP.1 [] rfl) hX rfl hl.1 rfl (Nat.le_of_ble_eq_true rfl) dX12_fewest_21 ⟨Nat.le_of_ble_eq_true rfl, Nat.le_of_ble_eq_true rfl⟩ ?_
    obtain ⟨z_9, e_z_9, h⟩ := bi h
    refine efVi (rest := []) ⟨hx, hb, hml, hown, ht⟩ (c_X12_gives l D cy fu A_m m_at m_names m_status m_top m_bottom m_sort m_trayMany m_trays m_tape m_text m_taped m_size m_token m_from m_end m_value m_faultKind m_faultPlace m_faults m_seen m_toldParts m_opened m_depth m_counted m_bestOrder m_standers m_has m_bestHas m_standerMany m_bestCouples m_bestFondness m_cameTo m_doesStandFirst m_stoodBy m_drawn m_ranSteps m_loops m_ran m_told1 m_isTold m_marks z_8 z_9 e_z_9 _ rfl _ rfl) (cV ht mv_X12_gives tb_1499 rfl rfl ⟨Nat.le_of_ble_eq_true rfl, Nat.le_of_ble_eq_true rfl⟩) hP hS hX [0] rfl rfl rfl rfl rfl rfl hl.1 rfl (Nat.le_of_ble_eq_true rfl) dX12_fewest_24 ⟨Nat.le_of_ble_eq_true rfl, Nat.le_of_ble_eq_true rfl⟩ (fun H locs hP hS => ?_)
    have hP : PD D A [bl_X12 cy A_m m_at m_names z_9.2 m_top m_bottom m_sort m_trayMany m_trays m_tape m_text m_taped m_size m_token m_from m_end m_value m_faultKind m_faultPlace m_faults m_seen m_toldParts m_opened m_depth m_counted m_bestOrder m_standers m_has m_bestHas m_standerMany m_bestCouples m_bestFondness m_cameTo m_doesStandFirst m_stoodBy m_drawn m_ranSteps m_loops m_ran m_told1 m_isTold m_marks] H := hP
    cases h
    subst hW1
    exact W.iret hx hb hr (fun _ ht9 _ => ⟨⟨_, (), rfl, rfl, hPt ht9 hP.1⟩, hS.F ht9⟩) hS.2.2 dX12_fewest_27
  · have h := it c_7 h
    refine lv_aload_n hx hb dX12_fewest_10 rfl (lv_at hl 1 rfl) ?_
    refine lv_bipush (v := 6) hx hb dX12_fewest_11 (by decide) ?_
    obtain ⟨z_10, e_z_10, h⟩ := bi h
    refine efVi (rest := []) ⟨hx, hb, hml, hown, ht⟩ (c_X12_refuse l D cy fu A_m m_at m_names m_status m_top m_bottom m_sort m_trayMany m_trays m_tape m_text m_taped m_size m_token m_from m_end m_value m_faultKind m_faultPlace m_faults m_seen m_toldParts m_opened m_depth m_counted m_bestOrder m_standers m_has m_bestHas m_standerMany m_bestCouples m_bestFondness m_cameTo m_doesStandFirst m_stoodBy m_drawn m_ranSteps m_loops m_ran m_told1 m_isTold m_marks 6 z_10 e_z_10 _ rfl _ rfl) (cV ht mv_X12_refuse tb_1432 rfl rfl ⟨Nat.le_of_ble_eq_true rfl, Nat.le_of_ble_eq_true rfl⟩) hP hS hX [0] rfl rfl rfl rfl rfl rfl hl.1 rfl (Nat.le_of_ble_eq_true rfl) dX12_fewest_13 ⟨Nat.le_of_ble_eq_true rfl, Nat.le_of_ble_eq_true rfl⟩ (fun H locs hP hS => ?_)
    have hP : PD D A [bl_X12 cy A_m m_at m_names z_10.2 m_top m_bottom m_sort m_trayMany m_trays m_tape m_text m_taped m_size m_token m_from m_end m_value m_faultKind m_faultPlace m_faults m_seen m_toldParts m_opened m_depth m_counted m_bestOrder m_standers m_has m_bestHas m_standerMany m_bestCouples m_bestFondness m_cameTo m_doesStandFirst m_stoodBy m_drawn m_ranSteps m_loops m_ran m_told1 m_isTold m_marks] H := hP
    refine lv_goto (tgt := 27) hx hb dX12_fewest_16 (by decide) ?_
    cases h
    subst hW1
    exact W.iret hx hb hr (fun _ ht9 _ => ⟨⟨_, (), rfl, rfl, hPt ht9 hP.1⟩, hS.F ht9⟩) hS.2.2 dX12_fewest_27
theorem dX12_fewestSet_0 : decode cX12_fewestSet 0 = .ok (.aload_n 0, 1) := by decide +kernel
theorem dX12_fewestSet_1 : decode cX12_fewestSet 1 = .ok (.aload_n 0, 1) := by decide +kernel
theorem dX12_fewestSet_2 : decode cX12_fewestSet 2 = .ok (.invokevirtual 327, 3) := by decide +kernel
theorem dX12_fewestSet_5 : decode cX12_fewestSet 5 = .ok (.invokevirtual 318, 3) := by decide +kernel
theorem dX12_fewestSet_8 : decode cX12_fewestSet 8 = .ok (.ireturn, 1) := by decide +kernel
theorem mv_X12_fewestSet : MV yX12_fewestSet RX12 cX12_fewestSet 1 (some .int) 0 := ⟨tb_1714, tb_1712, tb_1713, tb_16, by decide +kernel, by decide +kernel, by decide +kernel⟩
def f_X12_fewestSet (fu : Nat) (m_at : Nat → Int32) (m_status : Int32) : Option (Int32 × Int32) := (f_X12_fewestOf fu m_at).bind fun z_3 => (f_X12_orNone fu m_status z_3).bind fun z_4 => some (z_4.1, z_4.2)
abbrev rm_X12_fewestSet : Room := { frames := 6, cells := 0, slots := 0, locals := 128 }
set_option maxHeartbeats 4000000 in
set_option maxRecDepth 100000 in
theorem c_X12_fewestSet (l : Launch) (D : va_G) (cy : Nat → ClassId) (fu : Nat) (A_m : Nat → Nat) (m_at : Nat → Int32) (m_names : Nat → Int64) (m_status : Int32) (m_top : Int64) (m_bottom : Int64) (m_sort : Nat → Int32) (m_trayMany : Nat → Int32) (m_trays : Nat → Int64) (m_tape : Nat → Int32) (m_text : Nat → Int32) (m_taped : Int32) (m_size : Int32) (m_token : Int32) (m_from : Int32) (m_end : Int32) (m_value : Int32) (m_faultKind : Int32) (m_faultPlace : Int32) (m_faults : Int32) (m_seen : Int32) (m_toldParts : Int32) (m_opened : Nat → Int32) (m_depth : Int32) (m_counted : Int32) (m_bestOrder : Int32) (m_standers : Nat → Int32) (m_has : Nat → Int32) (m_bestHas : Nat → Int32) (m_standerMany : Int32) (m_bestCouples : Int32) (m_bestFondness : Int32) (m_cameTo : Nat → Int32) (m_doesStandFirst : Int32) (m_stoodBy : Nat → Int64) (m_drawn : Int32) (m_ranSteps : Int32) (m_loops : Nat → Int32) (m_ran : Nat → Int32) (m_told1 : Nat → Int32) (m_isTold : Int32) (m_marks : Int32) (res : Int32 × Int32) (h : f_X12_fewestSet fu m_at m_status = some res) (A : Nat → Prop) (hA : A = adr [bl_X12 cy A_m m_at m_names m_status m_top m_bottom m_sort m_trayMany m_trays m_tape m_text m_taped m_size m_token m_from m_end m_value m_faultKind m_faultPlace m_faults m_seen m_toldParts m_opened m_depth m_counted m_bestOrder m_standers m_has m_bestHas m_standerMany m_bestCouples m_bestFondness m_cameTo m_doesStandFirst m_stoodBy m_drawn m_ranSteps m_loops m_ran m_told1 m_isTold m_marks]) (W1 : List va_W) (hW1 : W1 = [bl_X12 cy A_m m_at m_names res.2 m_top m_bottom m_sort m_trayMany m_trays m_tape m_text m_taped m_size m_token m_from m_end m_value m_faultKind m_faultPlace m_faults m_seen m_toldParts m_opened m_depth m_counted m_bestOrder m_standers m_has m_bestHas m_standerMany m_bestCouples m_bestFondness m_cameTo m_doesStandFirst m_stoodBy m_drawn m_ranSteps m_loops m_ran m_told1 m_isTold m_marks]) : Met l yX12_fewestSet (WW yX12_fewestSet cX12_fewestSet 1 (some .int)) rm_X12_fewestSet (Ed D cy [.ref (A_m 0)] [bl_X12 cy A_m m_at m_names m_status m_top m_bottom m_sort m_trayMany m_trays m_tape m_text m_taped m_size m_token m_from m_end m_value m_faultKind m_faultPlace m_faults m_seen m_toldParts m_opened m_depth m_counted m_bestOrder m_standers m_has m_bestHas m_standerMany m_bestCouples m_bestFondness m_cameTo m_doesStandFirst m_stoodBy m_drawn m_ranSteps m_loops m_ran m_told1 m_isTold m_marks]) (Qei D res.1 A W1) 0 0 A := by
  refine Met.ofW (cc := cX12_fewestSet) (maxL := 1) (ret := (some .int)) (by decide) rfl ?_
  intro p e s m args below meth c s₁ B hml hv
  obtain ⟨hargs, hP, hX, hD0⟩ := hv
  have hx := B.exec
  have hb := B.bytes
  have hr := B.returns
  have ht : ∀ w ∈ lw_gd, w.before args s = true := fun w hw => atoms_spec (ws := WW yX12_fewestSet cX12_fewestSet 1 (some .int)) B.pre w (List.mem_cons_of_mem _ hw)
  have hown : s.vm.findClass RX12 = some m.cls := findClass_of_methodNamed B.named
  have hlocks := B.notSynchronized
  have hP : PD D A [bl_X12 cy A_m m_at m_names m_status m_top m_bottom m_sort m_trayMany m_trays m_tape m_text m_taped m_size m_token m_from m_end m_value m_faultKind m_faultPlace m_faults m_seen m_toldParts m_opened m_depth m_counted m_bestOrder m_standers m_has m_bestHas m_standerMany m_bestCouples m_bestFondness m_cameTo m_doesStandFirst m_stoodBy m_drawn m_ranSteps m_loops m_ran m_told1 m_isTold m_marks] s.heap := ⟨hP, by rw [hA]; exact hD0.own⟩
  have hS : va_S A s.heap s.heap [] := va_S.rf
  obtain ⟨ls, hl, hent⟩ := ent (m := m) (n := 1) hargs (Nat.le_of_ble_eq_true rfl) (lv := [(0, .ref (A_m 0))]) rfl
  rw [hent]
  clear hent
  unfold f_X12_fewestSet at h
  refine lv_aload_n hx hb dX12_fewestSet_0 rfl (lv_at hl 0 rfl) ?_
  refine lv_aload_n hx hb dX12_fewestSet_1 rfl (lv_at hl 0 rfl) ?_
  obtain ⟨z_3, e_z_3, h⟩ := bi h
  refine roVi (rest := [.ref (A_m 0)]) ⟨hx, hb, hml, hown, ht⟩ (c_X12_fewestOf l D cy fu A_m m_at m_names m_status m_top m_bottom m_sort m_trayMany m_trays m_tape m_text m_taped m_size m_token m_from m_end m_value m_faultKind m_faultPlace m_faults m_seen m_toldParts m_opened m_depth m_counted m_bestOrder m_standers m_has m_bestHas m_standerMany m_bestCouples m_bestFondness m_cameTo m_doesStandFirst m_stoodBy m_drawn m_ranSteps m_loops m_ran m_told1 m_isTold m_marks z_3 e_z_3) (cV ht mv_X12_fewestOf tb_1707 rfl rfl ⟨Nat.le_of_ble_eq_true rfl, Nat.le_of_ble_eq_true rfl⟩) (P_sub hP.1 [0] rfl) hX rfl rfl rfl hl.1 rfl (Nat.le_of_ble_eq_true rfl) dX12_fewestSet_2 ⟨Nat.le_of_ble_eq_true rfl, Nat.le_of_ble_eq_true rfl⟩ ?_
  obtain ⟨z_4, e_z_4, h⟩ := bi h
  refine efVi (rest := []) ⟨hx, hb, hml, hown, ht⟩ (c_X12_orNone l D cy fu A_m m_at m_names m_status m_top m_bottom m_sort m_trayMany m_trays m_tape m_text m_taped m_size m_token m_from m_end m_value m_faultKind m_faultPlace m_faults m_seen m_toldParts m_opened m_depth m_counted m_bestOrder m_standers m_has m_bestHas m_standerMany m_bestCouples m_bestFondness m_cameTo m_doesStandFirst m_stoodBy m_drawn m_ranSteps m_loops m_ran m_told1 m_isTold m_marks z_3 z_4 e_z_4 _ rfl _ rfl) (cV ht mv_X12_orNone tb_1679 rfl rfl ⟨Nat.le_of_ble_eq_true rfl, Nat.le_of_ble_eq_true rfl⟩) hP hS hX [0] rfl rfl rfl rfl rfl rfl hl.1 rfl (Nat.le_of_ble_eq_true rfl) dX12_fewestSet_5 ⟨Nat.le_of_ble_eq_true rfl, Nat.le_of_ble_eq_true rfl⟩ (fun H locs hP hS => ?_)
  have hP : PD D A [bl_X12 cy A_m m_at m_names z_4.2 m_top m_bottom m_sort m_trayMany m_trays m_tape m_text m_taped m_size m_token m_from m_end m_value m_faultKind m_faultPlace m_faults m_seen m_toldParts m_opened m_depth m_counted m_bestOrder m_standers m_has m_bestHas m_standerMany m_bestCouples m_bestFondness m_cameTo m_doesStandFirst m_stoodBy m_drawn m_ranSteps m_loops m_ran m_told1 m_isTold m_marks] H := hP
  cases h
  subst hW1
  exact W.iret hx hb hr (fun _ ht9 _ => ⟨⟨_, (), rfl, rfl, hPt ht9 hP.1⟩, hS.F ht9⟩) hS.2.2 dX12_fewestSet_8
theorem dX12_ordersOf_0 : decode cX12_ordersOf 0 = .ok (.iconst 1, 1) := by decide +kernel
theorem dX12_ordersOf_1 : decode cX12_ordersOf 1 = .ok (.istore_n 1, 1) := by decide +kernel
theorem dX12_ordersOf_2 : decode cX12_ordersOf 2 = .ok (.iconst 2, 1) := by decide +kernel
theorem dX12_ordersOf_3 : decode cX12_ordersOf 3 = .ok (.istore_n 2, 1) := by decide +kernel
theorem dX12_ordersOf_4 : decode cX12_ordersOf 4 = .ok (.iload_n 2, 1) := by decide +kernel
theorem dX12_ordersOf_5 : decode cX12_ordersOf 5 = .ok (.iload_n 0, 1) := by decide +kernel
theorem dX12_ordersOf_6 : decode cX12_ordersOf 6 = .ok (.if_icmp .gt 13, 3) := by decide +kernel
theorem dX12_ordersOf_9 : decode cX12_ordersOf 9 = .ok (.iload_n 1, 1) := by decide +kernel
theorem dX12_ordersOf_10 : decode cX12_ordersOf 10 = .ok (.iload_n 2, 1) := by decide +kernel
theorem dX12_ordersOf_11 : decode cX12_ordersOf 11 = .ok (.imul, 1) := by decide +kernel
theorem dX12_ordersOf_12 : decode cX12_ordersOf 12 = .ok (.istore_n 1, 1) := by decide +kernel
theorem dX12_ordersOf_13 : decode cX12_ordersOf 13 = .ok (.iinc 2 1, 3) := by decide +kernel
theorem dX12_ordersOf_16 : decode cX12_ordersOf 16 = .ok (.goto (-12), 3) := by decide +kernel
theorem dX12_ordersOf_19 : decode cX12_ordersOf 19 = .ok (.iload_n 1, 1) := by decide +kernel
theorem dX12_ordersOf_20 : decode cX12_ordersOf 20 = .ok (.ireturn, 1) := by decide +kernel
theorem ms_X12_ordersOf : MS yX12_ordersOf cX12_ordersOf 3 (some .int) 1 := ⟨tb_1725, tb_1724, tb_16, by decide +kernel, by decide +kernel, by decide +kernel⟩
def f_X12_ordersOf_b4 (fu : Nat) (x0 : Int32) (k4 : Int32 → Int32 → Option (Int32)) (x1 : Int32) (x2 : Int32) : Option (Int32) := (if x0 < x2 then some (x1) else bnd (x1 * x2) fun x1_5 => bnd (x2 + 1) fun x2_6 => k4 x1_5 x2_6)
def f_X12_ordersOf_l4 (fu : Nat) (x0 : Int32) : Nat → Int32 → Int32 → Option (Int32)
  | 0, _, _ => none
  | n + 1, x1, x2 => f_X12_ordersOf_b4 fu x0 (f_X12_ordersOf_l4 fu x0 n) x1 x2
def f_X12_ordersOf (fu : Nat) (x0 : Int32) : Option (Int32) := f_X12_ordersOf_l4 fu x0 fu 1 2
abbrev rm_X12_ordersOf : Room := { frames := 0, cells := 0, slots := 0, locals := 0 }
set_option maxHeartbeats 4000000 in
set_option maxRecDepth 100000 in
theorem c_X12_ordersOf (l : Launch) (D : va_G) (cy : Nat → ClassId) (fu : Nat) (x0 : Int32) (res : Int32) (h : f_X12_ordersOf fu x0 = some res) : Met l yX12_ordersOf (WW yX12_ordersOf cX12_ordersOf 3 (some .int)) rm_X12_ordersOf (Rd D cy [.int x0] []) (vp_Si (fun v => v = res)) 0 0 (fun _ => False) := by
  refine Met.ofW (cc := cX12_ordersOf) (maxL := 3) (ret := (some .int)) (by decide) rfl ?_
  intro p e s m args below meth c s₁ B hml hv
  obtain ⟨hargs, hP, hX⟩ := hv
  have hx := B.exec
  have hb := B.bytes
  have hr := B.returns
  have ht : ∀ w ∈ lw_gd, w.before args s = true := fun w hw => atoms_spec (ws := WW yX12_ordersOf cX12_ordersOf 3 (some .int)) B.pre w (List.mem_cons_of_mem _ hw)
  have hown : s.vm.findClass RX12 = some m.cls := findClass_of_methodNamed B.named
  have hlocks := B.notSynchronized
  have hP : PB D [] s.heap := hP
  obtain ⟨ls, hl, hent⟩ := ent (m := m) (n := 3) hargs (Nat.le_of_ble_eq_true rfl) (lv := [(0, .int x0)]) rfl
  rw [hent]
  clear hent
  have l4 : ∀ (n4 : Nat) (x1 : Int32) (x2 : Int32) (ls : Array Slot), lv_has ls 3 [(0, .int x0), (1, .int x1), (2, .int x2)] → f_X12_ordersOf_l4 fu x0 n4 x1 x2 = some res → W p l e (headSpec (WW yX12_ordersOf cX12_ordersOf 3 (some .int)) rm_X12_ordersOf).room s m args below meth c s.heap [] 0 0 (MQ below (vp_Si (fun v => v = res)) args s 0 0 (fun _ => False)) (F0 m 4 ls []) := by
    intro n4
    induction n4 with
    | zero => intro x1 x2 ls hl h; cases h
    | succ n4 ih4 =>
      intro x1 x2 ls hl h
      have h : f_X12_ordersOf_b4 fu x0 (f_X12_ordersOf_l4 fu x0 n4) x1 x2 = some res := h
      unfold f_X12_ordersOf_b4 at h
      refine lv_iload_n hx hb dX12_ordersOf_4 rfl (lv_at hl 2 rfl) ?_
      refine lv_iload_n hx hb dX12_ordersOf_5 rfl (lv_at hl 0 rfl) ?_
      refine lv_icmp_gt (tgt := 19) hx hb dX12_ordersOf_6 (by decide) (fun c_4 => ?_) (fun c_4 => ?_)
      · have h := it c_4 h
        refine lv_iload_n hx hb dX12_ordersOf_19 rfl (lv_at hl 1 rfl) ?_
        cases h
        exact W.iret hx hb hr (fun _ ht9 _ => ⟨_, rfl, rfl, ht9⟩) (fun _ hq => by cases hq) dX12_ordersOf_20
      · have h := ie c_4 h
        refine lv_iload_n hx hb dX12_ordersOf_9 rfl (lv_at hl 1 rfl) ?_
        refine lv_iload_n hx hb dX12_ordersOf_10 rfl (lv_at hl 2 rfl) ?_
        refine lv_imul hx hb dX12_ordersOf_11 ?_
        refine lv_topi (fun x1_5 e_x1_5 => ?_)
        have h := bn e_x1_5 h
        refine lv_istore_n (lv' := [(1, .int x1_5), (0, .int x0), (2, .int x2)]) hx hb dX12_ordersOf_12 rfl hl (by decide) rfl (fun ls hl => ?_)
        obtain ⟨x2_6, e_x2_6⟩ : ∃ y : Int32, y = x2 + 1 := ⟨_, rfl⟩
        have h := bn e_x2_6 h
        refine lv_iinc (v := x2_6) (lv' := [(2, .int x2_6), (1, .int x1_5), (0, .int x0)]) hx hb dX12_ordersOf_13 hl (k := 2) rfl (by rw [e_x2_6]; rfl) (by decide) rfl (fun ls hl => ?_)
        refine lv_goto (tgt := 4) hx hb dX12_ordersOf_16 (by decide) ?_
        exact ih4 x1_5 x2_6 ls (lv_sub hl [2, 1, 0] rfl) h
  unfold f_X12_ordersOf at h
  refine lv_iconst (v := 1) hx hb dX12_ordersOf_0 (by decide) ?_
  refine lv_istore_n (lv' := [(1, .int 1), (0, .int x0)]) hx hb dX12_ordersOf_1 rfl hl (by decide) rfl (fun ls hl => ?_)
  refine lv_iconst (v := 2) hx hb dX12_ordersOf_2 (by decide) ?_
  refine lv_istore_n (lv' := [(2, .int 2), (1, .int 1), (0, .int x0)]) hx hb dX12_ordersOf_3 rfl hl (by decide) rfl (fun ls hl => ?_)
  exact l4 fu 1 2 ls (lv_sub hl [2, 1, 0] rfl) h
theorem dX12_powerOf_0 : decode cX12_powerOf 0 = .ok (.aload_n 0, 1) := by decide +kernel
theorem dX12_powerOf_1 : decode cX12_powerOf 1 = .ok (.invokevirtual 259, 3) := by decide +kernel
theorem dX12_powerOf_4 : decode cX12_powerOf 4 = .ok (.iconst 1, 1) := by decide +kernel
theorem dX12_powerOf_5 : decode cX12_powerOf 5 = .ok (.iload_n 1, 1) := by decide +kernel
theorem dX12_powerOf_6 : decode cX12_powerOf 6 = .ok (.ishl, 1) := by decide +kernel
theorem dX12_powerOf_7 : decode cX12_powerOf 7 = .ok (.iconst (-1), 1) := by decide +kernel
theorem dX12_powerOf_8 : decode cX12_powerOf 8 = .ok (.ixor, 1) := by decide +kernel
theorem dX12_powerOf_9 : decode cX12_powerOf 9 = .ok (.iand, 1) := by decide +kernel
theorem dX12_powerOf_10 : decode cX12_powerOf 10 = .ok (.istore_n 2, 1) := by decide +kernel
theorem dX12_powerOf_11 : decode cX12_powerOf 11 = .ok (.iload_n 2, 1) := by decide +kernel
theorem dX12_powerOf_12 : decode cX12_powerOf 12 = .ok (.invokestatic 308, 3) := by decide +kernel
theorem dX12_powerOf_15 : decode cX12_powerOf 15 = .ok (.istore_n 3, 1) := by decide +kernel
theorem dX12_powerOf_16 : decode cX12_powerOf 16 = .ok (.iconst 0, 1) := by decide +kernel
theorem dX12_powerOf_17 : decode cX12_powerOf 17 = .ok (.istore 4, 2) := by decide +kernel
theorem dX12_powerOf_19 : decode cX12_powerOf 19 = .ok (.iconst 0, 1) := by decide +kernel
theorem dX12_powerOf_20 : decode cX12_powerOf 20 = .ok (.istore 5, 2) := by decide +kernel
theorem dX12_powerOf_22 : decode cX12_powerOf 22 = .ok (.iload 5, 2) := by decide +kernel
theorem dX12_powerOf_24 : decode cX12_powerOf 24 = .ok (.iload_n 2, 1) := by decide +kernel
theorem dX12_powerOf_25 : decode cX12_powerOf 25 = .ok (.if_icmp .gt 67, 3) := by decide +kernel
theorem dX12_powerOf_28 : decode cX12_powerOf 28 = .ok (.iload 5, 2) := by decide +kernel
theorem dX12_powerOf_30 : decode cX12_powerOf 30 = .ok (.iload_n 2, 1) := by decide +kernel
theorem dX12_powerOf_31 : decode cX12_powerOf 31 = .ok (.iconst (-1), 1) := by decide +kernel
theorem dX12_powerOf_32 : decode cX12_powerOf 32 = .ok (.ixor, 1) := by decide +kernel
theorem dX12_powerOf_33 : decode cX12_powerOf 33 = .ok (.iand, 1) := by decide +kernel
theorem dX12_powerOf_34 : decode cX12_powerOf 34 = .ok (.ifCond .ne 52, 3) := by decide +kernel
theorem dX12_powerOf_37 : decode cX12_powerOf 37 = .ok (.aload_n 0, 1) := by decide +kernel
theorem dX12_powerOf_38 : decode cX12_powerOf 38 = .ok (.iload 5, 2) := by decide +kernel
theorem dX12_powerOf_40 : decode cX12_powerOf 40 = .ok (.invokevirtual 324, 3) := by decide +kernel
theorem dX12_powerOf_43 : decode cX12_powerOf 43 = .ok (.ifCond .ne 43, 3) := by decide +kernel
theorem dX12_powerOf_46 : decode cX12_powerOf 46 = .ok (.aload_n 0, 1) := by decide +kernel
theorem dX12_powerOf_47 : decode cX12_powerOf 47 = .ok (.iload 5, 2) := by decide +kernel
theorem dX12_powerOf_49 : decode cX12_powerOf 49 = .ok (.iconst 1, 1) := by decide +kernel
theorem dX12_powerOf_50 : decode cX12_powerOf 50 = .ok (.iload_n 1, 1) := by decide +kernel
theorem dX12_powerOf_51 : decode cX12_powerOf 51 = .ok (.ishl, 1) := by decide +kernel
theorem dX12_powerOf_52 : decode cX12_powerOf 52 = .ok (.ior, 1) := by decide +kernel
theorem dX12_powerOf_53 : decode cX12_powerOf 53 = .ok (.invokevirtual 324, 3) := by decide +kernel
theorem dX12_powerOf_56 : decode cX12_powerOf 56 = .ok (.ifCond .ne 6, 3) := by decide +kernel
theorem dX12_powerOf_59 : decode cX12_powerOf 59 = .ok (.goto 27, 3) := by decide +kernel
theorem dX12_powerOf_62 : decode cX12_powerOf 62 = .ok (.iload 4, 2) := by decide +kernel
theorem dX12_powerOf_64 : decode cX12_powerOf 64 = .ok (.iload 5, 2) := by decide +kernel
theorem dX12_powerOf_66 : decode cX12_powerOf 66 = .ok (.invokestatic 308, 3) := by decide +kernel
theorem dX12_powerOf_69 : decode cX12_powerOf 69 = .ok (.invokestatic 330, 3) := by decide +kernel
theorem dX12_powerOf_72 : decode cX12_powerOf 72 = .ok (.iload_n 3, 1) := by decide +kernel
theorem dX12_powerOf_73 : decode cX12_powerOf 73 = .ok (.iload 5, 2) := by decide +kernel
theorem dX12_powerOf_75 : decode cX12_powerOf 75 = .ok (.invokestatic 308, 3) := by decide +kernel
theorem dX12_powerOf_78 : decode cX12_powerOf 78 = .ok (.isub, 1) := by decide +kernel
theorem dX12_powerOf_79 : decode cX12_powerOf 79 = .ok (.invokestatic 330, 3) := by decide +kernel
theorem dX12_powerOf_82 : decode cX12_powerOf 82 = .ok (.imul, 1) := by decide +kernel
theorem dX12_powerOf_83 : decode cX12_powerOf 83 = .ok (.iadd, 1) := by decide +kernel
theorem dX12_powerOf_84 : decode cX12_powerOf 84 = .ok (.istore 4, 2) := by decide +kernel
theorem dX12_powerOf_86 : decode cX12_powerOf 86 = .ok (.iinc 5 1, 3) := by decide +kernel
theorem dX12_powerOf_89 : decode cX12_powerOf 89 = .ok (.goto (-67), 3) := by decide +kernel
theorem dX12_powerOf_92 : decode cX12_powerOf 92 = .ok (.iload 4, 2) := by decide +kernel
theorem dX12_powerOf_94 : decode cX12_powerOf 94 = .ok (.ireturn, 1) := by decide +kernel
theorem mv_X12_powerOf : MV yX12_powerOf RX12 cX12_powerOf 6 (some .int) 1 := ⟨tb_1722, tb_1721, ts_91, tb_16, by decide +kernel, by decide +kernel, by decide +kernel⟩
def f_X12_powerOf_b22 (fu : Nat) (m_at : Nat → Int32) (x1 : Int32) (k22 : Int32 → Int32 → Int32 → Int32 → Option (Int32)) (x2 : Int32) (x3 : Int32) (x4 : Int32) (x5 : Int32) : Option (Int32) := (if x2 < x5 then some (x4) else (if (x5 &&& (x2 ^^^ (-1))) = 0 then (f_X12_doCarry fu m_at x5).bind fun z_22 => (if z_22 = 0 then (f_X12_doCarry fu m_at (x5 ||| ((1 : Int32) <<< (x1 &&& 31)))).bind fun z_25 => (if z_25 = 0 then bnd (x5 + 1) fun x5_33 => k22 x2 x3 x4 x5_33 else (f_X12_bits fu x5).bind fun z_27 => (f_X12_ordersOf fu z_27).bind fun z_28 => (f_X12_bits fu x5).bind fun z_29 => (f_X12_ordersOf fu (x3 - z_29)).bind fun z_30 => bnd (x4 + (z_28 * z_30)) fun x4_31 => bnd (x5 + 1) fun x5_32 => k22 x2 x3 x4_31 x5_32) else bnd (x5 + 1) fun x5_24 => k22 x2 x3 x4 x5_24) else bnd (x5 + 1) fun x5_21 => k22 x2 x3 x4 x5_21))
def f_X12_powerOf_l22 (fu : Nat) (m_at : Nat → Int32) (x1 : Int32) : Nat → Int32 → Int32 → Int32 → Int32 → Option (Int32)
  | 0, _, _, _, _ => none
  | n + 1, x2, x3, x4, x5 => f_X12_powerOf_b22 fu m_at x1 (f_X12_powerOf_l22 fu m_at x1 n) x2 x3 x4 x5
def f_X12_powerOf (fu : Nat) (m_at : Nat → Int32) (x1 : Int32) : Option (Int32) := (f_X12_living fu m_at).bind fun z_34 => bnd (z_34 &&& (((1 : Int32) <<< (x1 &&& 31)) ^^^ (-1))) fun x2_35 => (f_X12_bits fu x2_35).bind fun z_36 => f_X12_powerOf_l22 fu m_at x1 fu x2_35 z_36 0 0
abbrev rm_X12_powerOf : Room := { frames := 5, cells := 0, slots := 0, locals := 106 }
set_option maxHeartbeats 4000000 in
set_option maxRecDepth 100000 in
theorem c_X12_powerOf (l : Launch) (D : va_G) (cy : Nat → ClassId) (fu : Nat) (A_m : Nat → Nat) (m_at : Nat → Int32) (m_names : Nat → Int64) (m_status : Int32) (m_top : Int64) (m_bottom : Int64) (m_sort : Nat → Int32) (m_trayMany : Nat → Int32) (m_trays : Nat → Int64) (m_tape : Nat → Int32) (m_text : Nat → Int32) (m_taped : Int32) (m_size : Int32) (m_token : Int32) (m_from : Int32) (m_end : Int32) (m_value : Int32) (m_faultKind : Int32) (m_faultPlace : Int32) (m_faults : Int32) (m_seen : Int32) (m_toldParts : Int32) (m_opened : Nat → Int32) (m_depth : Int32) (m_counted : Int32) (m_bestOrder : Int32) (m_standers : Nat → Int32) (m_has : Nat → Int32) (m_bestHas : Nat → Int32) (m_standerMany : Int32) (m_bestCouples : Int32) (m_bestFondness : Int32) (m_cameTo : Nat → Int32) (m_doesStandFirst : Int32) (m_stoodBy : Nat → Int64) (m_drawn : Int32) (m_ranSteps : Int32) (m_loops : Nat → Int32) (m_ran : Nat → Int32) (m_told1 : Nat → Int32) (m_isTold : Int32) (m_marks : Int32) (x1 : Int32) (res : Int32) (h : f_X12_powerOf fu m_at x1 = some res) : Met l yX12_powerOf (WW yX12_powerOf cX12_powerOf 6 (some .int)) rm_X12_powerOf (Rd D cy [.ref (A_m 0), .int x1] [bl_X12 cy A_m m_at m_names m_status m_top m_bottom m_sort m_trayMany m_trays m_tape m_text m_taped m_size m_token m_from m_end m_value m_faultKind m_faultPlace m_faults m_seen m_toldParts m_opened m_depth m_counted m_bestOrder m_standers m_has m_bestHas m_standerMany m_bestCouples m_bestFondness m_cameTo m_doesStandFirst m_stoodBy m_drawn m_ranSteps m_loops m_ran m_told1 m_isTold m_marks]) (vp_Si (fun v => v = res)) 0 0 (fun _ => False) := by
  refine Met.ofW (cc := cX12_powerOf) (maxL := 6) (ret := (some .int)) (by decide) rfl ?_
  intro p e s m args below meth c s₁ B hml hv
  obtain ⟨hargs, hP, hX⟩ := hv
  have hx := B.exec
  have hb := B.bytes
  have hr := B.returns
  have ht : ∀ w ∈ lw_gd, w.before args s = true := fun w hw => atoms_spec (ws := WW yX12_powerOf cX12_powerOf 6 (some .int)) B.pre w (List.mem_cons_of_mem _ hw)
  have hown : s.vm.findClass RX12 = some m.cls := findClass_of_methodNamed B.named
  have hlocks := B.notSynchronized
  have hP : PB D [bl_X12 cy A_m m_at m_names m_status m_top m_bottom m_sort m_trayMany m_trays m_tape m_text m_taped m_size m_token m_from m_end m_value m_faultKind m_faultPlace m_faults m_seen m_toldParts m_opened m_depth m_counted m_bestOrder m_standers m_has m_bestHas m_standerMany m_bestCouples m_bestFondness m_cameTo m_doesStandFirst m_stoodBy m_drawn m_ranSteps m_loops m_ran m_told1 m_isTold m_marks] s.heap := hP
  obtain ⟨ls, hl, hent⟩ := ent (m := m) (n := 6) hargs (Nat.le_of_ble_eq_true rfl) (lv := [(0, .ref (A_m 0)), (1, .int x1)]) rfl
  rw [hent]
  clear hent
  have l22 : ∀ (n22 : Nat) (x2 : Int32) (x3 : Int32) (x4 : Int32) (x5 : Int32) (ls : Array Slot), lv_has ls 6 [(0, .ref (A_m 0)), (1, .int x1), (2, .int x2), (3, .int x3), (4, .int x4), (5, .int x5)] → f_X12_powerOf_l22 fu m_at x1 n22 x2 x3 x4 x5 = some res → W p l e (headSpec (WW yX12_powerOf cX12_powerOf 6 (some .int)) rm_X12_powerOf).room s m args below meth c s.heap [] 0 0 (MQ below (vp_Si (fun v => v = res)) args s 0 0 (fun _ => False)) (F0 m 22 ls []) := by
    intro n22
    induction n22 with
    | zero => intro x2 x3 x4 x5 ls hl h; cases h
    | succ n22 ih22 =>
      intro x2 x3 x4 x5 ls hl h
      have h : f_X12_powerOf_b22 fu m_at x1 (f_X12_powerOf_l22 fu m_at x1 n22) x2 x3 x4 x5 = some res := h
      unfold f_X12_powerOf_b22 at h
      refine lv_iload hx hb dX12_powerOf_22 (lv_at hl 5 rfl) ?_
      refine lv_iload_n hx hb dX12_powerOf_24 rfl (lv_at hl 2 rfl) ?_
      refine lv_icmp_gt (tgt := 92) hx hb dX12_powerOf_25 (by decide) (fun c_19 => ?_) (fun c_19 => ?_)
      · have h := it c_19 h
        refine lv_iload hx hb dX12_powerOf_92 (lv_at hl 4 rfl) ?_
        cases h
        exact W.iret hx hb hr (fun _ ht9 _ => ⟨_, rfl, rfl, ht9⟩) (fun _ hq => by cases hq) dX12_powerOf_94
      · have h := ie c_19 h
        refine lv_iload hx hb dX12_powerOf_28 (lv_at hl 5 rfl) ?_
        refine lv_iload_n hx hb dX12_powerOf_30 rfl (lv_at hl 2 rfl) ?_
        refine lv_iconst (v := (-1)) hx hb dX12_powerOf_31 (by decide) ?_
        refine lv_ixor hx hb dX12_powerOf_32 ?_
        refine lv_iand hx hb dX12_powerOf_33 ?_
        refine lv_if_ne (tgt := 86) hx hb dX12_powerOf_34 (by decide) (fun c_20 => ?_) (fun c_20 => ?_)
        · have h := ie c_20 h
          obtain ⟨x5_21, e_x5_21⟩ : ∃ y : Int32, y = x5 + 1 := ⟨_, rfl⟩
          have h := bn e_x5_21 h
          refine lv_iinc (v := x5_21) (lv' := [(5, .int x5_21), (0, .ref (A_m 0)), (1, .int x1), (2, .int x2), (3, .int x3), (4, .int x4)]) hx hb dX12_powerOf_86 hl (k := 5) rfl (by rw [e_x5_21]; rfl) (by decide) rfl (fun ls hl => ?_)
          refine lv_goto (tgt := 22) hx hb dX12_powerOf_89 (by decide) ?_
          exact ih22 x2 x3 x4 x5_21 ls (lv_sub hl [1, 2, 3, 4, 5, 0] rfl) h
        · have h := it c_20 h
          refine lv_aload_n hx hb dX12_powerOf_37 rfl (lv_at hl 0 rfl) ?_
          refine lv_iload hx hb dX12_powerOf_38 (lv_at hl 5 rfl) ?_
          obtain ⟨z_22, e_z_22, h⟩ := bi h
          refine roVi (rest := []) ⟨hx, hb, hml, hown, ht⟩ (c_X12_doCarry l D cy fu A_m m_at m_names m_status m_top m_bottom m_sort m_trayMany m_trays m_tape m_text m_taped m_size m_token m_from m_end m_value m_faultKind m_faultPlace m_faults m_seen m_toldParts m_opened m_depth m_counted m_bestOrder m_standers m_has m_bestHas m_standerMany m_bestCouples m_bestFondness m_cameTo m_doesStandFirst m_stoodBy m_drawn m_ranSteps m_loops m_ran m_told1 m_isTold m_marks x5 z_22 e_z_22) (cV ht mv_X12_doCarry tb_1695 rfl rfl ⟨Nat.le_of_ble_eq_true rfl, Nat.le_of_ble_eq_true rfl⟩) (P_sub hP [0] rfl) hX rfl rfl rfl hl.1 rfl (Nat.le_of_ble_eq_true rfl) dX12_powerOf_40 ⟨Nat.le_of_ble_eq_true rfl, Nat.le_of_ble_eq_true rfl⟩ ?_
          refine lv_if_ne (tgt := 86) hx hb dX12_powerOf_43 (by decide) (fun c_23 => ?_) (fun c_23 => ?_)
          · have h := ie c_23 h
            obtain ⟨x5_24, e_x5_24⟩ : ∃ y : Int32, y = x5 + 1 := ⟨_, rfl⟩
            have h := bn e_x5_24 h
            refine lv_iinc (v := x5_24) (lv' := [(5, .int x5_24), (0, .ref (A_m 0)), (1, .int x1), (2, .int x2), (3, .int x3), (4, .int x4)]) hx hb dX12_powerOf_86 hl (k := 5) rfl (by rw [e_x5_24]; rfl) (by decide) rfl (fun ls hl => ?_)
            refine lv_goto (tgt := 22) hx hb dX12_powerOf_89 (by decide) ?_
            exact ih22 x2 x3 x4 x5_24 ls (lv_sub hl [1, 2, 3, 4, 5, 0] rfl) h
          · have h := it c_23 h
            refine lv_aload_n hx hb dX12_powerOf_46 rfl (lv_at hl 0 rfl) ?_
            refine lv_iload hx hb dX12_powerOf_47 (lv_at hl 5 rfl) ?_
            refine lv_iconst (v := 1) hx hb dX12_powerOf_49 (by decide) ?_
            refine lv_iload_n hx hb dX12_powerOf_50 rfl (lv_at hl 1 rfl) ?_
            refine lv_ishl hx hb dX12_powerOf_51 ?_
            refine lv_ior hx hb dX12_powerOf_52 ?_
            obtain ⟨z_25, e_z_25, h⟩ := bi h
            refine roVi (rest := []) ⟨hx, hb, hml, hown, ht⟩ (c_X12_doCarry l D cy fu A_m m_at m_names m_status m_top m_bottom m_sort m_trayMany m_trays m_tape m_text m_taped m_size m_token m_from m_end m_value m_faultKind m_faultPlace m_faults m_seen m_toldParts m_opened m_depth m_counted m_bestOrder m_standers m_has m_bestHas m_standerMany m_bestCouples m_bestFondness m_cameTo m_doesStandFirst m_stoodBy m_drawn m_ranSteps m_loops m_ran m_told1 m_isTold m_marks (x5 ||| ((1 : Int32) <<< (x1 &&& 31))) z_25 e_z_25) (cV ht mv_X12_doCarry tb_1695 rfl rfl ⟨Nat.le_of_ble_eq_true rfl, Nat.le_of_ble_eq_true rfl⟩) (P_sub hP [0] rfl) hX rfl rfl rfl hl.1 rfl (Nat.le_of_ble_eq_true rfl) dX12_powerOf_53 ⟨Nat.le_of_ble_eq_true rfl, Nat.le_of_ble_eq_true rfl⟩ ?_
            refine lv_if_ne (tgt := 62) hx hb dX12_powerOf_56 (by decide) (fun c_26 => ?_) (fun c_26 => ?_)
            · have h := ie c_26 h
              refine lv_iload hx hb dX12_powerOf_62 (lv_at hl 4 rfl) ?_
              refine lv_iload hx hb dX12_powerOf_64 (lv_at hl 5 rfl) ?_
              obtain ⟨z_27, e_z_27, h⟩ := bi h
              refine roSi (rest := [.int x4]) ⟨hx, hb, hml, hown, ht⟩ (c_X12_bits l D cy fu  x5 z_27 e_z_27) (cS ht ms_X12_bits tb_1634 rfl rfl ⟨Nat.le_of_ble_eq_true rfl, Nat.le_of_ble_eq_true rfl⟩) (P_sub hP [] rfl) hX rfl hl.1 rfl (Nat.le_of_ble_eq_true rfl) dX12_powerOf_66 ⟨Nat.le_of_ble_eq_true rfl, Nat.le_of_ble_eq_true rfl⟩ ?_
              obtain ⟨z_28, e_z_28, h⟩ := bi h
              refine roSi (rest := [.int x4]) ⟨hx, hb, hml, hown, ht⟩ (c_X12_ordersOf l D cy fu  z_27 z_28 e_z_28) (cS ht ms_X12_ordersOf tb_1723 rfl rfl ⟨Nat.le_of_ble_eq_true rfl, Nat.le_of_ble_eq_true rfl⟩) (P_sub hP [] rfl) hX rfl hl.1 rfl (Nat.le_of_ble_eq_true rfl) dX12_powerOf_69 ⟨Nat.le_of_ble_eq_true rfl, Nat.le_of_ble_eq_true rfl⟩ ?_
              refine lv_iload_n hx hb dX12_powerOf_72 rfl (lv_at hl 3 rfl) ?_
              refine lv_iload hx hb dX12_powerOf_73 (lv_at hl 5 rfl) ?_
              obtain ⟨z_29, e_z_29, h⟩ := bi h
              refine roSi (rest := [.int x3, .int z_28, .int x4]) ⟨hx, hb, hml, hown, ht⟩ (c_X12_bits l D cy fu  x5 z_29 e_z_29) (cS ht ms_X12_bits tb_1634 rfl rfl ⟨Nat.le_of_ble_eq_true rfl, Nat.le_of_ble_eq_true rfl⟩) (P_sub hP [] rfl) hX rfl hl.1 rfl (Nat.le_of_ble_eq_true rfl) dX12_powerOf_75 ⟨Nat.le_of_ble_eq_true rfl, Nat.le_of_ble_eq_true rfl⟩ ?_
              refine lv_isub hx hb dX12_powerOf_78 ?_
              obtain ⟨z_30, e_z_30, h⟩ := bi h
              refine roSi (rest := [.int z_28, .int x4]) ⟨hx, hb, hml, hown, ht⟩ (c_X12_ordersOf l D cy fu  (x3 - z_29) z_30 e_z_30) (cS ht ms_X12_ordersOf tb_1723 rfl rfl ⟨Nat.le_of_ble_eq_true rfl, Nat.le_of_ble_eq_true rfl⟩) (P_sub hP [] rfl) hX rfl hl.1 rfl (Nat.le_of_ble_eq_true rfl) dX12_powerOf_79 ⟨Nat.le_of_ble_eq_true rfl, Nat.le_of_ble_eq_true rfl⟩ ?_
              refine lv_imul hx hb dX12_powerOf_82 ?_
              refine lv_iadd hx hb dX12_powerOf_83 ?_
              refine lv_topi (fun x4_31 e_x4_31 => ?_)
              have h := bn e_x4_31 h
              refine lv_istore (lv' := [(4, .int x4_31), (0, .ref (A_m 0)), (1, .int x1), (2, .int x2), (3, .int x3), (5, .int x5)]) hx hb dX12_powerOf_84 hl (by decide) rfl (fun ls hl => ?_)
              obtain ⟨x5_32, e_x5_32⟩ : ∃ y : Int32, y = x5 + 1 := ⟨_, rfl⟩
              have h := bn e_x5_32 h
              refine lv_iinc (v := x5_32) (lv' := [(5, .int x5_32), (4, .int x4_31), (0, .ref (A_m 0)), (1, .int x1), (2, .int x2), (3, .int x3)]) hx hb dX12_powerOf_86 hl (k := 5) rfl (by rw [e_x5_32]; rfl) (by decide) rfl (fun ls hl => ?_)
              refine lv_goto (tgt := 22) hx hb dX12_powerOf_89 (by decide) ?_
              exact ih22 x2 x3 x4_31 x5_32 ls (lv_sub hl [2, 3, 4, 5, 1, 0] rfl) h
            · have h := it c_26 h
              refine lv_goto (tgt := 86) hx hb dX12_powerOf_59 (by decide) ?_
              obtain ⟨x5_33, e_x5_33⟩ : ∃ y : Int32, y = x5 + 1 := ⟨_, rfl⟩
              have h := bn e_x5_33 h
              refine lv_iinc (v := x5_33) (lv' := [(5, .int x5_33), (0, .ref (A_m 0)), (1, .int x1), (2, .int x2), (3, .int x3), (4, .int x4)]) hx hb dX12_powerOf_86 hl (k := 5) rfl (by rw [e_x5_33]; rfl) (by decide) rfl (fun ls hl => ?_)
              refine lv_goto (tgt := 22) hx hb dX12_powerOf_89 (by decide) ?_
              exact ih22 x2 x3 x4 x5_33 ls (lv_sub hl [1, 2, 3, 4, 5, 0] rfl) h
  unfold f_X12_powerOf at h
  refine lv_aload_n hx hb dX12_powerOf_0 rfl (lv_at hl 0 rfl) ?_
  obtain ⟨z_34, e_z_34, h⟩ := bi h
  refine roVi (rest := []) ⟨hx, hb, hml, hown, ht⟩ (c_X12_living l D cy fu A_m m_at m_names m_status m_top m_bottom m_sort m_trayMany m_trays m_tape m_text m_taped m_size m_token m_from m_end m_value m_faultKind m_faultPlace m_faults m_seen m_toldParts m_opened m_depth m_counted m_bestOrder m_standers m_has m_bestHas m_standerMany m_bestCouples m_bestFondness m_cameTo m_doesStandFirst m_stoodBy m_drawn m_ranSteps m_loops m_ran m_told1 m_isTold m_marks z_34 e_z_34) (cV ht mv_X12_living tb_1527 rfl rfl ⟨Nat.le_of_ble_eq_true rfl, Nat.le_of_ble_eq_true rfl⟩) (P_sub hP [0] rfl) hX rfl rfl rfl hl.1 rfl (Nat.le_of_ble_eq_true rfl) dX12_powerOf_1 ⟨Nat.le_of_ble_eq_true rfl, Nat.le_of_ble_eq_true rfl⟩ ?_
  refine lv_iconst (v := 1) hx hb dX12_powerOf_4 (by decide) ?_
  refine lv_iload_n hx hb dX12_powerOf_5 rfl (lv_at hl 1 rfl) ?_
  refine lv_ishl hx hb dX12_powerOf_6 ?_
  refine lv_iconst (v := (-1)) hx hb dX12_powerOf_7 (by decide) ?_
  refine lv_ixor hx hb dX12_powerOf_8 ?_
  refine lv_iand hx hb dX12_powerOf_9 ?_
  refine lv_topi (fun x2_35 e_x2_35 => ?_)
  have h := bn e_x2_35 h
  refine lv_istore_n (lv' := [(2, .int x2_35), (0, .ref (A_m 0)), (1, .int x1)]) hx hb dX12_powerOf_10 rfl hl (by decide) rfl (fun ls hl => ?_)
  refine lv_iload_n hx hb dX12_powerOf_11 rfl (lv_at hl 0 rfl) ?_
  obtain ⟨z_36, e_z_36, h⟩ := bi h
  refine roSi (rest := []) ⟨hx, hb, hml, hown, ht⟩ (c_X12_bits l D cy fu  x2_35 z_36 e_z_36) (cS ht ms_X12_bits tb_1634 rfl rfl ⟨Nat.le_of_ble_eq_true rfl, Nat.le_of_ble_eq_true rfl⟩) (P_sub hP [] rfl) hX rfl hl.1 rfl (Nat.le_of_ble_eq_true rfl) dX12_powerOf_12 ⟨Nat.le_of_ble_eq_true rfl, Nat.le_of_ble_eq_true rfl⟩ ?_
  refine lv_istore_n (lv' := [(3, .int z_36), (2, .int x2_35), (0, .ref (A_m 0)), (1, .int x1)]) hx hb dX12_powerOf_15 rfl hl (by decide) rfl (fun ls hl => ?_)
  refine lv_iconst (v := 0) hx hb dX12_powerOf_16 (by decide) ?_
  refine lv_istore (lv' := [(4, .int 0), (3, .int z_36), (2, .int x2_35), (0, .ref (A_m 0)), (1, .int x1)]) hx hb dX12_powerOf_17 hl (by decide) rfl (fun ls hl => ?_)
  refine lv_iconst (v := 0) hx hb dX12_powerOf_19 (by decide) ?_
  refine lv_istore (lv' := [(5, .int 0), (4, .int 0), (3, .int z_36), (2, .int x2_35), (0, .ref (A_m 0)), (1, .int x1)]) hx hb dX12_powerOf_20 hl (by decide) rfl (fun ls hl => ?_)
  exact l22 fu x2_35 z_36 0 0 ls (lv_sub hl [4, 5, 3, 2, 1, 0] rfl) h
theorem dX12_power_0 : decode cX12_power 0 = .ok (.aload_n 0, 1) := by decide +kernel
theorem dX12_power_1 : decode cX12_power 1 = .ok (.iload_n 1, 1) := by decide +kernel
theorem dX12_power_2 : decode cX12_power 2 = .ok (.invokevirtual 241, 3) := by decide +kernel
theorem dX12_power_5 : decode cX12_power 5 = .ok (.ifCond .ne 9, 3) := by decide +kernel
theorem dX12_power_8 : decode cX12_power 8 = .ok (.aload_n 0, 1) := by decide +kernel
theorem dX12_power_9 : decode cX12_power 9 = .ok (.iconst 1, 1) := by decide +kernel
theorem dX12_power_10 : decode cX12_power 10 = .ok (.invokevirtual 91, 3) := by decide +kernel
theorem dX12_power_13 : decode cX12_power 13 = .ok (.ireturn, 1) := by decide +kernel
theorem dX12_power_14 : decode cX12_power 14 = .ok (.aload_n 0, 1) := by decide +kernel
theorem dX12_power_15 : decode cX12_power 15 = .ok (.iload_n 1, 1) := by decide +kernel
theorem dX12_power_16 : decode cX12_power 16 = .ok (.invokevirtual 253, 3) := by decide +kernel
theorem dX12_power_19 : decode cX12_power 19 = .ok (.ifCond .eq 27, 3) := by decide +kernel
theorem dX12_power_22 : decode cX12_power 22 = .ok (.aload_n 0, 1) := by decide +kernel
theorem dX12_power_23 : decode cX12_power 23 = .ok (.aload_n 0, 1) := by decide +kernel
theorem dX12_power_24 : decode cX12_power 24 = .ok (.iload_n 1, 1) := by decide +kernel
theorem dX12_power_25 : decode cX12_power 25 = .ok (.invokevirtual 333, 3) := by decide +kernel
theorem dX12_power_28 : decode cX12_power 28 = .ok (.i2l, 1) := by decide +kernel
theorem dX12_power_29 : decode cX12_power 29 = .ok (.aload_n 0, 1) := by decide +kernel
theorem dX12_power_30 : decode cX12_power 30 = .ok (.invokevirtual 259, 3) := by decide +kernel
theorem dX12_power_33 : decode cX12_power 33 = .ok (.invokestatic 308, 3) := by decide +kernel
theorem dX12_power_36 : decode cX12_power 36 = .ok (.invokestatic 330, 3) := by decide +kernel
theorem dX12_power_39 : decode cX12_power 39 = .ok (.i2l, 1) := by decide +kernel
theorem dX12_power_40 : decode cX12_power 40 = .ok (.invokevirtual 336, 3) := by decide +kernel
theorem dX12_power_43 : decode cX12_power 43 = .ok (.goto 9, 3) := by decide +kernel
theorem dX12_power_46 : decode cX12_power 46 = .ok (.aload_n 0, 1) := by decide +kernel
theorem dX12_power_47 : decode cX12_power 47 = .ok (.bipush 7, 2) := by decide +kernel
theorem dX12_power_49 : decode cX12_power 49 = .ok (.invokevirtual 91, 3) := by decide +kernel
theorem dX12_power_52 : decode cX12_power 52 = .ok (.ireturn, 1) := by decide +kernel
theorem mv_X12_power : MV yX12_power RX12 cX12_power 2 (some .boolean) 1 := ⟨tb_1718, tb_1716, tb_1717, tb_16, by decide +kernel, by decide +kernel, by decide +kernel⟩
def f_X12_power (fu : Nat) (m_at : Nat → Int32) (m_status : Int32) (m_top : Int64) (m_bottom : Int64) (x1 : Int32) : Option (Int32 × Int32 × Int64 × Int64) := (f_X12_isMan fu m_at x1).bind fun z_15 => (if z_15 = 0 then (f_X12_is fu m_status 1).bind fun z_27 => (bz z_27.1).bind fun _ => some (z_27.1, z_27.2, m_top, m_bottom) else (f_X12_isAlive fu m_at x1).bind fun z_17 => (if z_17 = 0 then (f_X12_is fu m_status 7).bind fun z_19 => (bz z_19.1).bind fun _ => some (z_19.1, z_19.2, m_top, m_bottom) else (f_X12_powerOf fu m_at x1).bind fun z_21 => (f_X12_living fu m_at).bind fun z_22 => (f_X12_bits fu z_22).bind fun z_23 => (f_X12_ordersOf fu z_23).bind fun z_24 => (f_X12_tellsBy fu m_status m_top m_bottom (Int32.toInt64 z_21) (Int32.toInt64 z_24)).bind fun z_25 => (bz z_25.1).bind fun _ => some (z_25.1, z_25.2.1, z_25.2.2.1, z_25.2.2.2)))
abbrev rm_X12_power : Room := { frames := 6, cells := 0, slots := 0, locals := 131 }
set_option maxHeartbeats 4000000 in
set_option maxRecDepth 100000 in
theorem c_X12_power (l : Launch) (D : va_G) (cy : Nat → ClassId) (fu : Nat) (A_m : Nat → Nat) (m_at : Nat → Int32) (m_names : Nat → Int64) (m_status : Int32) (m_top : Int64) (m_bottom : Int64) (m_sort : Nat → Int32) (m_trayMany : Nat → Int32) (m_trays : Nat → Int64) (m_tape : Nat → Int32) (m_text : Nat → Int32) (m_taped : Int32) (m_size : Int32) (m_token : Int32) (m_from : Int32) (m_end : Int32) (m_value : Int32) (m_faultKind : Int32) (m_faultPlace : Int32) (m_faults : Int32) (m_seen : Int32) (m_toldParts : Int32) (m_opened : Nat → Int32) (m_depth : Int32) (m_counted : Int32) (m_bestOrder : Int32) (m_standers : Nat → Int32) (m_has : Nat → Int32) (m_bestHas : Nat → Int32) (m_standerMany : Int32) (m_bestCouples : Int32) (m_bestFondness : Int32) (m_cameTo : Nat → Int32) (m_doesStandFirst : Int32) (m_stoodBy : Nat → Int64) (m_drawn : Int32) (m_ranSteps : Int32) (m_loops : Nat → Int32) (m_ran : Nat → Int32) (m_told1 : Nat → Int32) (m_isTold : Int32) (m_marks : Int32) (x1 : Int32) (res : Int32 × Int32 × Int64 × Int64) (h : f_X12_power fu m_at m_status m_top m_bottom x1 = some res) (A : Nat → Prop) (hA : A = adr [bl_X12 cy A_m m_at m_names m_status m_top m_bottom m_sort m_trayMany m_trays m_tape m_text m_taped m_size m_token m_from m_end m_value m_faultKind m_faultPlace m_faults m_seen m_toldParts m_opened m_depth m_counted m_bestOrder m_standers m_has m_bestHas m_standerMany m_bestCouples m_bestFondness m_cameTo m_doesStandFirst m_stoodBy m_drawn m_ranSteps m_loops m_ran m_told1 m_isTold m_marks]) (W1 : List va_W) (hW1 : W1 = [bl_X12 cy A_m m_at m_names res.2.1 res.2.2.1 res.2.2.2 m_sort m_trayMany m_trays m_tape m_text m_taped m_size m_token m_from m_end m_value m_faultKind m_faultPlace m_faults m_seen m_toldParts m_opened m_depth m_counted m_bestOrder m_standers m_has m_bestHas m_standerMany m_bestCouples m_bestFondness m_cameTo m_doesStandFirst m_stoodBy m_drawn m_ranSteps m_loops m_ran m_told1 m_isTold m_marks]) : Met l yX12_power (WW yX12_power cX12_power 2 (some .boolean)) rm_X12_power (Ed D cy [.ref (A_m 0), .int x1] [bl_X12 cy A_m m_at m_names m_status m_top m_bottom m_sort m_trayMany m_trays m_tape m_text m_taped m_size m_token m_from m_end m_value m_faultKind m_faultPlace m_faults m_seen m_toldParts m_opened m_depth m_counted m_bestOrder m_standers m_has m_bestHas m_standerMany m_bestCouples m_bestFondness m_cameTo m_doesStandFirst m_stoodBy m_drawn m_ranSteps m_loops m_ran m_told1 m_isTold m_marks]) (Qei D res.1 A W1) 0 0 A := by
  refine Met.ofW (cc := cX12_power) (maxL := 2) (ret := (some .boolean)) (by decide) rfl ?_
  intro p e s m args below meth c s₁ B hml hv
  obtain ⟨hargs, hP, hX, hD0⟩ := hv
  have hx := B.exec
  have hb := B.bytes
  have hr := B.returns
  have ht : ∀ w ∈ lw_gd, w.before args s = true := fun w hw => atoms_spec (ws := WW yX12_power cX12_power 2 (some .boolean)) B.pre w (List.mem_cons_of_mem _ hw)
  have hown : s.vm.findClass RX12 = some m.cls := findClass_of_methodNamed B.named
  have hlocks := B.notSynchronized
  have hP : PD D A [bl_X12 cy A_m m_at m_names m_status m_top m_bottom m_sort m_trayMany m_trays m_tape m_text m_taped m_size m_token m_from m_end m_value m_faultKind m_faultPlace m_faults m_seen m_toldParts m_opened m_depth m_counted m_bestOrder m_standers m_has m_bestHas m_standerMany m_bestCouples m_bestFondness m_cameTo m_doesStandFirst m_stoodBy m_drawn m_ranSteps m_loops m_ran m_told1 m_isTold m_marks] s.heap := ⟨hP, by rw [hA]; exact hD0.own⟩
  have hS : va_S A s.heap s.heap [] := va_S.rf
  obtain ⟨ls, hl, hent⟩ := ent (m := m) (n := 2) hargs (Nat.le_of_ble_eq_true rfl) (lv := [(0, .ref (A_m 0)), (1, .int x1)]) rfl
  rw [hent]
  clear hent
  unfold f_X12_power at h
  refine lv_aload_n hx hb dX12_power_0 rfl (lv_at hl 0 rfl) ?_
  refine lv_iload_n hx hb dX12_power_1 rfl (lv_at hl 1 rfl) ?_
  obtain ⟨z_15, e_z_15, h⟩ := bi h
  refine roVi (rest := []) ⟨hx, hb, hml, hown, ht⟩ (c_X12_isMan l D cy fu A_m m_at m_names m_status m_top m_bottom m_sort m_trayMany m_trays m_tape m_text m_taped m_size m_token m_from m_end m_value m_faultKind m_faultPlace m_faults m_seen m_toldParts m_opened m_depth m_counted m_bestOrder m_standers m_has m_bestHas m_standerMany m_bestCouples m_bestFondness m_cameTo m_doesStandFirst m_stoodBy m_drawn m_ranSteps m_loops m_ran m_told1 m_isTold m_marks x1 z_15 e_z_15) (cV ht mv_X12_isMan tb_1551 rfl rfl ⟨Nat.le_of_ble_eq_true rfl, Nat.le_of_ble_eq_true rfl⟩) (P_sub hP.1 [0] rfl) hX rfl rfl rfl hl.1 rfl (Nat.le_of_ble_eq_true rfl) dX12_power_2 ⟨Nat.le_of_ble_eq_true rfl, Nat.le_of_ble_eq_true rfl⟩ ?_
  refine lv_if_ne (tgt := 14) hx hb dX12_power_5 (by decide) (fun c_16 => ?_) (fun c_16 => ?_)
  · have h := ie c_16 h
    refine lv_aload_n hx hb dX12_power_14 rfl (lv_at hl 0 rfl) ?_
    refine lv_iload_n hx hb dX12_power_15 rfl (lv_at hl 1 rfl) ?_
    obtain ⟨z_17, e_z_17, h⟩ := bi h
    refine roVi (rest := []) ⟨hx, hb, hml, hown, ht⟩ (c_X12_isAlive l D cy fu A_m m_at m_names m_status m_top m_bottom m_sort m_trayMany m_trays m_tape m_text m_taped m_size m_token m_from m_end m_value m_faultKind m_faultPlace m_faults m_seen m_toldParts m_opened m_depth m_counted m_bestOrder m_standers m_has m_bestHas m_standerMany m_bestCouples m_bestFondness m_cameTo m_doesStandFirst m_stoodBy m_drawn m_ranSteps m_loops m_ran m_told1 m_isTold m_marks x1 z_17 e_z_17) (cV ht mv_X12_isAlive tb_1531 rfl rfl ⟨Nat.le_of_ble_eq_true rfl, Nat.le_of_ble_eq_true rfl⟩) (P_sub hP.1 [0] rfl) hX rfl rfl rfl hl.1 rfl (Nat.le_of_ble_eq_true rfl) dX12_power_16 ⟨Nat.le_of_ble_eq_true rfl, Nat.le_of_ble_eq_true rfl⟩ ?_
    refine lv_if_eq (tgt := 46) hx hb dX12_power_19 (by decide) (fun c_18 => ?_) (fun c_18 => ?_)
    · have h := it c_18 h
      refine lv_aload_n hx hb dX12_power_46 rfl (lv_at hl 0 rfl) ?_
      refine lv_bipush (v := 7) hx hb dX12_power_47 (by decide) ?_
      obtain ⟨z_19, e_z_19, h⟩ := bi h
      refine efVi (rest := []) ⟨hx, hb, hml, hown, ht⟩ (c_X12_is l D cy fu A_m m_at m_names m_status m_top m_bottom m_sort m_trayMany m_trays m_tape m_text m_taped m_size m_token m_from m_end m_value m_faultKind m_faultPlace m_faults m_seen m_toldParts m_opened m_depth m_counted m_bestOrder m_standers m_has m_bestHas m_standerMany m_bestCouples m_bestFondness m_cameTo m_doesStandFirst m_stoodBy m_drawn m_ranSteps m_loops m_ran m_told1 m_isTold m_marks 7 z_19 e_z_19 _ rfl _ rfl) (cV ht mv_X12_is tb_1372 rfl rfl ⟨Nat.le_of_ble_eq_true rfl, Nat.le_of_ble_eq_true rfl⟩) hP hS hX [0] rfl rfl rfl rfl rfl rfl hl.1 rfl (Nat.le_of_ble_eq_true rfl) dX12_power_49 ⟨Nat.le_of_ble_eq_true rfl, Nat.le_of_ble_eq_true rfl⟩ (fun H locs hP hS => ?_)
      have hP : PD D A [bl_X12 cy A_m m_at m_names z_19.2 m_top m_bottom m_sort m_trayMany m_trays m_tape m_text m_taped m_size m_token m_from m_end m_value m_faultKind m_faultPlace m_faults m_seen m_toldParts m_opened m_depth m_counted m_bestOrder m_standers m_has m_bestHas m_standerMany m_bestCouples m_bestFondness m_cameTo m_doesStandFirst m_stoodBy m_drawn m_ranSteps m_loops m_ran m_told1 m_isTold m_marks] H := hP
      obtain ⟨b_20, e_b_20, h⟩ := bi h
      obtain ⟨-, n_b_20, -⟩ := bz_ok e_b_20
      cases h
      subst hW1
      exact W.zret hx hb hr n_b_20 (fun _ ht9 _ => ⟨⟨_, (), rfl, rfl, hPt ht9 hP.1⟩, hS.F ht9⟩) hS.2.2 dX12_power_52
    · have h := ie c_18 h
      refine lv_aload_n hx hb dX12_power_22 rfl (lv_at hl 0 rfl) ?_
      refine lv_aload_n hx hb dX12_power_23 rfl (lv_at hl 0 rfl) ?_
      refine lv_iload_n hx hb dX12_power_24 rfl (lv_at hl 1 rfl) ?_
      obtain ⟨z_21, e_z_21, h⟩ := bi h
      refine roVi (rest := [.ref (A_m 0)]) ⟨hx, hb, hml, hown, ht⟩ (c_X12_powerOf l D cy fu A_m m_at m_names m_status m_top m_bottom m_sort m_trayMany m_trays m_tape m_text m_taped m_size m_token m_from m_end m_value m_faultKind m_faultPlace m_faults m_seen m_toldParts m_opened m_depth m_counted m_bestOrder m_standers m_has m_bestHas m_standerMany m_bestCouples m_bestFondness m_cameTo m_doesStandFirst m_stoodBy m_drawn m_ranSteps m_loops m_ran m_told1 m_isTold m_marks x1 z_21 e_z_21) (cV ht mv_X12_powerOf tb_1719 rfl rfl ⟨Nat.le_of_ble_eq_true rfl, Nat.le_of_ble_eq_true rfl⟩) (P_sub hP.1 [0] rfl) hX rfl rfl rfl hl.1 rfl (Nat.le_of_ble_eq_true rfl) dX12_power_25 ⟨Nat.le_of_ble_eq_true rfl, Nat.le_of_ble_eq_true rfl⟩ ?_
      refine lv_i2l (v := Int32.toInt64 z_21) hx hb dX12_power_28 rfl ?_
      refine lv_aload_n hx hb dX12_power_29 rfl (lv_at hl 0 rfl) ?_
      obtain ⟨z_22, e_z_22, h⟩ := bi h
      refine roVi (rest := [.long (Int32.toInt64 z_21), .ref (A_m 0)]) ⟨hx, hb, hml, hown, ht⟩ (c_X12_living l D cy fu A_m m_at m_names m_status m_top m_bottom m_sort m_trayMany m_trays m_tape m_text m_taped m_size m_token m_from m_end m_value m_faultKind m_faultPlace m_faults m_seen m_toldParts m_opened m_depth m_counted m_bestOrder m_standers m_has m_bestHas m_standerMany m_bestCouples m_bestFondness m_cameTo m_doesStandFirst m_stoodBy m_drawn m_ranSteps m_loops m_ran m_told1 m_isTold m_marks z_22 e_z_22) (cV ht mv_X12_living tb_1527 rfl rfl ⟨Nat.le_of_ble_eq_true rfl, Nat.le_of_ble_eq_true rfl⟩) (P_sub hP.1 [0] rfl) hX rfl rfl rfl hl.1 rfl (Nat.le_of_ble_eq_true rfl) dX12_power_30 ⟨Nat.le_of_ble_eq_true rfl, Nat.le_of_ble_eq_true rfl⟩ ?_
      obtain ⟨z_23, e_z_23, h⟩ := bi h
      refine roSi (rest := [.long (Int32.toInt64 z_21), .ref (A_m 0)]) ⟨hx, hb, hml, hown, ht⟩ (c_X12_bits l D cy fu  z_22 z_23 e_z_23) (cS ht ms_X12_bits tb_1634 rfl rfl ⟨Nat.le_of_ble_eq_true rfl, Nat.le_of_ble_eq_true rfl⟩) (P_sub hP.1 [] rfl) hX rfl hl.1 rfl (Nat.le_of_ble_eq_true rfl) dX12_power_33 ⟨Nat.le_of_ble_eq_true rfl, Nat.le_of_ble_eq_true rfl⟩ ?_
      obtain ⟨z_24, e_z_24, h⟩ := bi h
      refine roSi (rest := [.long (Int32.toInt64 z_21), .ref (A_m 0)]) ⟨hx, hb, hml, hown, ht⟩ (c_X12_ordersOf l D cy fu  z_23 z_24 e_z_24) (cS ht ms_X12_ordersOf tb_1723 rfl rfl ⟨Nat.le_of_ble_eq_true rfl, Nat.le_of_ble_eq_true rfl⟩) (P_sub hP.1 [] rfl) hX rfl hl.1 rfl (Nat.le_of_ble_eq_true rfl) dX12_power_36 ⟨Nat.le_of_ble_eq_true rfl, Nat.le_of_ble_eq_true rfl⟩ ?_
      refine lv_i2l (v := Int32.toInt64 z_24) hx hb dX12_power_39 rfl ?_
      obtain ⟨z_25, e_z_25, h⟩ := bi h
      refine efVi (rest := []) ⟨hx, hb, hml, hown, ht⟩ (c_X12_tellsBy l D cy fu A_m m_at m_names m_status m_top m_bottom m_sort m_trayMany m_trays m_tape m_text m_taped m_size m_token m_from m_end m_value m_faultKind m_faultPlace m_faults m_seen m_toldParts m_opened m_depth m_counted m_bestOrder m_standers m_has m_bestHas m_standerMany m_bestCouples m_bestFondness m_cameTo m_doesStandFirst m_stoodBy m_drawn m_ranSteps m_loops m_ran m_told1 m_isTold m_marks (Int32.toInt64 z_21) (Int32.toInt64 z_24) z_25 e_z_25 _ rfl _ rfl) (cV ht mv_X12_tellsBy tb_1726 rfl rfl ⟨Nat.le_of_ble_eq_true rfl, Nat.le_of_ble_eq_true rfl⟩) hP hS hX [0] rfl rfl rfl rfl rfl rfl hl.1 rfl (Nat.le_of_ble_eq_true rfl) dX12_power_40 ⟨Nat.le_of_ble_eq_true rfl, Nat.le_of_ble_eq_true rfl⟩ (fun H locs hP hS => ?_)
      have hP : PD D A [bl_X12 cy A_m m_at m_names z_25.2.1 z_25.2.2.1 z_25.2.2.2 m_sort m_trayMany m_trays m_tape m_text m_taped m_size m_token m_from m_end m_value m_faultKind m_faultPlace m_faults m_seen m_toldParts m_opened m_depth m_counted m_bestOrder m_standers m_has m_bestHas m_standerMany m_bestCouples m_bestFondness m_cameTo m_doesStandFirst m_stoodBy m_drawn m_ranSteps m_loops m_ran m_told1 m_isTold m_marks] H := hP
      refine lv_goto (tgt := 52) hx hb dX12_power_43 (by decide) ?_
      obtain ⟨b_26, e_b_26, h⟩ := bi h
      obtain ⟨-, n_b_26, -⟩ := bz_ok e_b_26
      cases h
      subst hW1
      exact W.zret hx hb hr n_b_26 (fun _ ht9 _ => ⟨⟨_, (), rfl, rfl, hPt ht9 hP.1⟩, hS.F ht9⟩) hS.2.2 dX12_power_52
  · have h := it c_16 h
    refine lv_aload_n hx hb dX12_power_8 rfl (lv_at hl 0 rfl) ?_
    refine lv_iconst (v := 1) hx hb dX12_power_9 (by decide) ?_
    obtain ⟨z_27, e_z_27, h⟩ := bi h
    refine efVi (rest := []) ⟨hx, hb, hml, hown, ht⟩ (c_X12_is l D cy fu A_m m_at m_names m_status m_top m_bottom m_sort m_trayMany m_trays m_tape m_text m_taped m_size m_token m_from m_end m_value m_faultKind m_faultPlace m_faults m_seen m_toldParts m_opened m_depth m_counted m_bestOrder m_standers m_has m_bestHas m_standerMany m_bestCouples m_bestFondness m_cameTo m_doesStandFirst m_stoodBy m_drawn m_ranSteps m_loops m_ran m_told1 m_isTold m_marks 1 z_27 e_z_27 _ rfl _ rfl) (cV ht mv_X12_is tb_1372 rfl rfl ⟨Nat.le_of_ble_eq_true rfl, Nat.le_of_ble_eq_true rfl⟩) hP hS hX [0] rfl rfl rfl rfl rfl rfl hl.1 rfl (Nat.le_of_ble_eq_true rfl) dX12_power_10 ⟨Nat.le_of_ble_eq_true rfl, Nat.le_of_ble_eq_true rfl⟩ (fun H locs hP hS => ?_)
    have hP : PD D A [bl_X12 cy A_m m_at m_names z_27.2 m_top m_bottom m_sort m_trayMany m_trays m_tape m_text m_taped m_size m_token m_from m_end m_value m_faultKind m_faultPlace m_faults m_seen m_toldParts m_opened m_depth m_counted m_bestOrder m_standers m_has m_bestHas m_standerMany m_bestCouples m_bestFondness m_cameTo m_doesStandFirst m_stoodBy m_drawn m_ranSteps m_loops m_ran m_told1 m_isTold m_marks] H := hP
    obtain ⟨b_28, e_b_28, h⟩ := bi h
    obtain ⟨-, n_b_28, -⟩ := bz_ok e_b_28
    cases h
    subst hW1
    exact W.zret hx hb hr n_b_28 (fun _ ht9 _ => ⟨⟨_, (), rfl, rfl, hPt ht9 hP.1⟩, hS.F ht9⟩) hS.2.2 dX12_power_13
theorem dX12_mightiest_0 : decode cX12_mightiest 0 = .ok (.iconst (-1), 1) := by decide +kernel
theorem dX12_mightiest_1 : decode cX12_mightiest 1 = .ok (.istore_n 1, 1) := by decide +kernel
theorem dX12_mightiest_2 : decode cX12_mightiest 2 = .ok (.iconst 0, 1) := by decide +kernel
theorem dX12_mightiest_3 : decode cX12_mightiest 3 = .ok (.istore_n 2, 1) := by decide +kernel
theorem dX12_mightiest_4 : decode cX12_mightiest 4 = .ok (.iload_n 2, 1) := by decide +kernel
theorem dX12_mightiest_5 : decode cX12_mightiest 5 = .ok (.aload_n 0, 1) := by decide +kernel
theorem dX12_mightiest_6 : decode cX12_mightiest 6 = .ok (.getfield 7, 3) := by decide +kernel
theorem dX12_mightiest_9 : decode cX12_mightiest 9 = .ok (.iconst 0, 1) := by decide +kernel
theorem dX12_mightiest_10 : decode cX12_mightiest 10 = .ok (.iaload, 1) := by decide +kernel
theorem dX12_mightiest_11 : decode cX12_mightiest 11 = .ok (.if_icmp .ge 37, 3) := by decide +kernel
theorem dX12_mightiest_14 : decode cX12_mightiest 14 = .ok (.aload_n 0, 1) := by decide +kernel
theorem dX12_mightiest_15 : decode cX12_mightiest 15 = .ok (.iload_n 2, 1) := by decide +kernel
theorem dX12_mightiest_16 : decode cX12_mightiest 16 = .ok (.invokevirtual 253, 3) := by decide +kernel
theorem dX12_mightiest_19 : decode cX12_mightiest 19 = .ok (.ifCond .eq 23, 3) := by decide +kernel
theorem dX12_mightiest_22 : decode cX12_mightiest 22 = .ok (.iload_n 1, 1) := by decide +kernel
theorem dX12_mightiest_23 : decode cX12_mightiest 23 = .ok (.iconst (-1), 1) := by decide +kernel
theorem dX12_mightiest_24 : decode cX12_mightiest 24 = .ok (.if_icmp .eq 16, 3) := by decide +kernel
theorem dX12_mightiest_27 : decode cX12_mightiest 27 = .ok (.aload_n 0, 1) := by decide +kernel
theorem dX12_mightiest_28 : decode cX12_mightiest 28 = .ok (.iload_n 2, 1) := by decide +kernel
theorem dX12_mightiest_29 : decode cX12_mightiest 29 = .ok (.invokevirtual 333, 3) := by decide +kernel
theorem dX12_mightiest_32 : decode cX12_mightiest 32 = .ok (.aload_n 0, 1) := by decide +kernel
theorem dX12_mightiest_33 : decode cX12_mightiest 33 = .ok (.iload_n 1, 1) := by decide +kernel
theorem dX12_mightiest_34 : decode cX12_mightiest 34 = .ok (.invokevirtual 333, 3) := by decide +kernel
theorem dX12_mightiest_37 : decode cX12_mightiest 37 = .ok (.if_icmp .le 5, 3) := by decide +kernel
theorem dX12_mightiest_40 : decode cX12_mightiest 40 = .ok (.iload_n 2, 1) := by decide +kernel
theorem dX12_mightiest_41 : decode cX12_mightiest 41 = .ok (.istore_n 1, 1) := by decide +kernel
theorem dX12_mightiest_42 : decode cX12_mightiest 42 = .ok (.iinc 2 1, 3) := by decide +kernel
theorem dX12_mightiest_45 : decode cX12_mightiest 45 = .ok (.goto (-41), 3) := by decide +kernel
theorem dX12_mightiest_48 : decode cX12_mightiest 48 = .ok (.aload_n 0, 1) := by decide +kernel
theorem dX12_mightiest_49 : decode cX12_mightiest 49 = .ok (.iload_n 1, 1) := by decide +kernel
theorem dX12_mightiest_50 : decode cX12_mightiest 50 = .ok (.invokevirtual 318, 3) := by decide +kernel
theorem dX12_mightiest_53 : decode cX12_mightiest 53 = .ok (.ireturn, 1) := by decide +kernel
theorem mv_X12_mightiest : MV yX12_mightiest RX12 cX12_mightiest 3 (some .int) 0 := ⟨tb_1733, tb_1731, tb_1732, tb_16, by decide +kernel, by decide +kernel, by decide +kernel⟩
def f_X12_mightiest_b4 (fu : Nat) (m_at : Nat → Int32) (k4 : Int32 → Int32 → Int32 → Option (Int32 × Int32)) (m_status : Int32) (x1 : Int32) (x2 : Int32) : Option (Int32 × Int32) := (rdI m_at 3648 0).bind fun y_14 => (if y_14 ≤ x2 then (f_X12_orNone fu m_status x1).bind fun z_16 => some (z_16.1, z_16.2) else (f_X12_isAlive fu m_at x2).bind fun z_17 => (if z_17 = 0 then bnd (x2 + 1) fun x2_19 => k4 m_status x1 x2_19 else (if x1 = (-1) then bnd (x2 + 1) fun x2_21 => k4 m_status x2 x2_21 else (f_X12_powerOf fu m_at x2).bind fun z_22 => (f_X12_powerOf fu m_at x1).bind fun z_23 => (if z_22 ≤ z_23 then bnd (x2 + 1) fun x2_25 => k4 m_status x1 x2_25 else bnd (x2 + 1) fun x2_26 => k4 m_status x2 x2_26))))
def f_X12_mightiest_l4 (fu : Nat) (m_at : Nat → Int32) : Nat → Int32 → Int32 → Int32 → Option (Int32 × Int32)
  | 0, _, _, _ => none
  | n + 1, m_status, x1, x2 => f_X12_mightiest_b4 fu m_at (f_X12_mightiest_l4 fu m_at n) m_status x1 x2
def f_X12_mightiest (fu : Nat) (m_at : Nat → Int32) (m_status : Int32) : Option (Int32 × Int32) := f_X12_mightiest_l4 fu m_at fu m_status (-1) 0
abbrev rm_X12_mightiest : Room := { frames := 6, cells := 0, slots := 0, locals := 131 }
set_option maxHeartbeats 4000000 in
set_option maxRecDepth 100000 in
theorem c_X12_mightiest (l : Launch) (D : va_G) (cy : Nat → ClassId) (fu : Nat) (A_m : Nat → Nat) (m_at : Nat → Int32) (m_names : Nat → Int64) (m_status : Int32) (m_top : Int64) (m_bottom : Int64) (m_sort : Nat → Int32) (m_trayMany : Nat → Int32) (m_trays : Nat → Int64) (m_tape : Nat → Int32) (m_text : Nat → Int32) (m_taped : Int32) (m_size : Int32) (m_token : Int32) (m_from : Int32) (m_end : Int32) (m_value : Int32) (m_faultKind : Int32) (m_faultPlace : Int32) (m_faults : Int32) (m_seen : Int32) (m_toldParts : Int32) (m_opened : Nat → Int32) (m_depth : Int32) (m_counted : Int32) (m_bestOrder : Int32) (m_standers : Nat → Int32) (m_has : Nat → Int32) (m_bestHas : Nat → Int32) (m_standerMany : Int32) (m_bestCouples : Int32) (m_bestFondness : Int32) (m_cameTo : Nat → Int32) (m_doesStandFirst : Int32) (m_stoodBy : Nat → Int64) (m_drawn : Int32) (m_ranSteps : Int32) (m_loops : Nat → Int32) (m_ran : Nat → Int32) (m_told1 : Nat → Int32) (m_isTold : Int32) (m_marks : Int32) (res : Int32 × Int32) (h : f_X12_mightiest fu m_at m_status = some res) (A : Nat → Prop) (hA : A = adr [bl_X12 cy A_m m_at m_names m_status m_top m_bottom m_sort m_trayMany m_trays m_tape m_text m_taped m_size m_token m_from m_end m_value m_faultKind m_faultPlace m_faults m_seen m_toldParts m_opened m_depth m_counted m_bestOrder m_standers m_has m_bestHas m_standerMany m_bestCouples m_bestFondness m_cameTo m_doesStandFirst m_stoodBy m_drawn m_ranSteps m_loops m_ran m_told1 m_isTold m_marks]) (W1 : List va_W) (hW1 : W1 = [bl_X12 cy A_m m_at m_names res.2 m_top m_bottom m_sort m_trayMany m_trays m_tape m_text m_taped m_size m_token m_from m_end m_value m_faultKind m_faultPlace m_faults m_seen m_toldParts m_opened m_depth m_counted m_bestOrder m_standers m_has m_bestHas m_standerMany m_bestCouples m_bestFondness m_cameTo m_doesStandFirst m_stoodBy m_drawn m_ranSteps m_loops m_ran m_told1 m_isTold m_marks]) : Met l yX12_mightiest (WW yX12_mightiest cX12_mightiest 3 (some .int)) rm_X12_mightiest (Ed D cy [.ref (A_m 0)] [bl_X12 cy A_m m_at m_names m_status m_top m_bottom m_sort m_trayMany m_trays m_tape m_text m_taped m_size m_token m_from m_end m_value m_faultKind m_faultPlace m_faults m_seen m_toldParts m_opened m_depth m_counted m_bestOrder m_standers m_has m_bestHas m_standerMany m_bestCouples m_bestFondness m_cameTo m_doesStandFirst m_stoodBy m_drawn m_ranSteps m_loops m_ran m_told1 m_isTold m_marks]) (Qei D res.1 A W1) 0 0 A := by
  refine Met.ofW (cc := cX12_mightiest) (maxL := 3) (ret := (some .int)) (by decide) rfl ?_
  intro p e s m args below meth c s₁ B hml hv
  obtain ⟨hargs, hP, hX, hD0⟩ := hv
  have hx := B.exec
  have hb := B.bytes
  have hr := B.returns
  have ht : ∀ w ∈ lw_gd, w.before args s = true := fun w hw => atoms_spec (ws := WW yX12_mightiest cX12_mightiest 3 (some .int)) B.pre w (List.mem_cons_of_mem _ hw)
  have hown : s.vm.findClass RX12 = some m.cls := findClass_of_methodNamed B.named
  have hlocks := B.notSynchronized
  have hP : PD D A [bl_X12 cy A_m m_at m_names m_status m_top m_bottom m_sort m_trayMany m_trays m_tape m_text m_taped m_size m_token m_from m_end m_value m_faultKind m_faultPlace m_faults m_seen m_toldParts m_opened m_depth m_counted m_bestOrder m_standers m_has m_bestHas m_standerMany m_bestCouples m_bestFondness m_cameTo m_doesStandFirst m_stoodBy m_drawn m_ranSteps m_loops m_ran m_told1 m_isTold m_marks] s.heap := ⟨hP, by rw [hA]; exact hD0.own⟩
  have hS : va_S A s.heap s.heap [] := va_S.rf
  obtain ⟨ls, hl, hent⟩ := ent (m := m) (n := 3) hargs (Nat.le_of_ble_eq_true rfl) (lv := [(0, .ref (A_m 0))]) rfl
  rw [hent]
  clear hent
  have l4 : ∀ (n4 : Nat) (m_status : Int32) (x1 : Int32) (x2 : Int32) (H : Heap) (locs : List Loc) (_ : PD D A [bl_X12 cy A_m m_at m_names m_status m_top m_bottom m_sort m_trayMany m_trays m_tape m_text m_taped m_size m_token m_from m_end m_value m_faultKind m_faultPlace m_faults m_seen m_toldParts m_opened m_depth m_counted m_bestOrder m_standers m_has m_bestHas m_standerMany m_bestCouples m_bestFondness m_cameTo m_doesStandFirst m_stoodBy m_drawn m_ranSteps m_loops m_ran m_told1 m_isTold m_marks] H) (_ : va_S A s.heap H locs) (ls : Array Slot), lv_has ls 3 [(0, .ref (A_m 0)), (1, .int x1), (2, .int x2)] → f_X12_mightiest_l4 fu m_at n4 m_status x1 x2 = some res → W p l e (headSpec (WW yX12_mightiest cX12_mightiest 3 (some .int)) rm_X12_mightiest).room s m args below meth c H locs 0 0 (MQ below (Qei D res.1 A W1) args s 0 0 A) (F0 m 4 ls []) := by
    intro n4
    induction n4 with
    | zero => intro m_status x1 x2 H locs hP hS ls hl h; cases h
    | succ n4 ih4 =>
      intro m_status x1 x2 H locs hP hS ls hl h
      have h : f_X12_mightiest_b4 fu m_at (f_X12_mightiest_l4 fu m_at n4) m_status x1 x2 = some res := h
      unfold f_X12_mightiest_b4 at h
      refine lv_iload_n hx hb dX12_mightiest_4 rfl (lv_at hl 2 rfl) ?_
      refine lv_aload_n hx hb dX12_mightiest_5 rfl (lv_at hl 0 rfl) ?_
      refine xget (i := 0) (j := 0) (k := 0) (T := TX12) hx hb ht tb_iX12 hown hX hP.1 rfl rfl rfl (by decide) tb_1229 rfl dX12_mightiest_6 ?_
      refine lv_iconst (v := 0) hx hb dX12_mightiest_9 (by decide) ?_
      obtain ⟨y_14, e_y_14, h⟩ := bi h
      refine xiald (i0 := 0) (j0 := 1) hx hb hX hP.1 rfl rfl e_y_14 dX12_mightiest_10 ?_
      refine lv_icmp_ge (tgt := 48) hx hb dX12_mightiest_11 (by decide) (fun c_15 => ?_) (fun c_15 => ?_)
      · have h := it c_15 h
        refine lv_aload_n hx hb dX12_mightiest_48 rfl (lv_at hl 0 rfl) ?_
        refine lv_iload_n hx hb dX12_mightiest_49 rfl (lv_at hl 1 rfl) ?_
        obtain ⟨z_16, e_z_16, h⟩ := bi h
        refine efVi (rest := []) ⟨hx, hb, hml, hown, ht⟩ (c_X12_orNone l D cy fu A_m m_at m_names m_status m_top m_bottom m_sort m_trayMany m_trays m_tape m_text m_taped m_size m_token m_from m_end m_value m_faultKind m_faultPlace m_faults m_seen m_toldParts m_opened m_depth m_counted m_bestOrder m_standers m_has m_bestHas m_standerMany m_bestCouples m_bestFondness m_cameTo m_doesStandFirst m_stoodBy m_drawn m_ranSteps m_loops m_ran m_told1 m_isTold m_marks x1 z_16 e_z_16 _ rfl _ rfl) (cV ht mv_X12_orNone tb_1679 rfl rfl ⟨Nat.le_of_ble_eq_true rfl, Nat.le_of_ble_eq_true rfl⟩) hP hS hX [0] rfl rfl rfl rfl rfl rfl hl.1 rfl (Nat.le_of_ble_eq_true rfl) dX12_mightiest_50 ⟨Nat.le_of_ble_eq_true rfl, Nat.le_of_ble_eq_true rfl⟩ (fun H locs hP hS => ?_)
        have hP : PD D A [bl_X12 cy A_m m_at m_names z_16.2 m_top m_bottom m_sort m_trayMany m_trays m_tape m_text m_taped m_size m_token m_from m_end m_value m_faultKind m_faultPlace m_faults m_seen m_toldParts m_opened m_depth m_counted m_bestOrder m_standers m_has m_bestHas m_standerMany m_bestCouples m_bestFondness m_cameTo m_doesStandFirst m_stoodBy m_drawn m_ranSteps m_loops m_ran m_told1 m_isTold m_marks] H := hP
        cases h
        subst hW1
        exact W.iret hx hb hr (fun _ ht9 _ => ⟨⟨_, (), rfl, rfl, hPt ht9 hP.1⟩, hS.F ht9⟩) hS.2.2 dX12_mightiest_53
      · have h := ie c_15 h
        refine lv_aload_n hx hb dX12_mightiest_14 rfl (lv_at hl 0 rfl) ?_
        refine lv_iload_n hx hb dX12_mightiest_15 rfl (lv_at hl 2 rfl) ?_
        obtain ⟨z_17, e_z_17, h⟩ := bi h
        refine roVi (rest := []) ⟨hx, hb, hml, hown, ht⟩ (c_X12_isAlive l D cy fu A_m m_at m_names m_status m_top m_bottom m_sort m_trayMany m_trays m_tape m_text m_taped m_size m_token m_from m_end m_value m_faultKind m_faultPlace m_faults m_seen m_toldParts m_opened m_depth m_counted m_bestOrder m_standers m_has m_bestHas m_standerMany m_bestCouples m_bestFondness m_cameTo m_doesStandFirst m_stoodBy m_drawn m_ranSteps m_loops m_ran m_told1 m_isTold m_marks x2 z_17 e_z_17) (cV ht mv_X12_isAlive tb_1531 rfl rfl ⟨Nat.le_of_ble_eq_true rfl, Nat.le_of_ble_eq_true rfl⟩) (P_sub hP.1 [0] rfl) hX rfl rfl rfl hl.1 rfl (Nat.le_of_ble_eq_true rfl) dX12_mightiest_16 ⟨Nat.le_of_ble_eq_true rfl, Nat.le_of_ble_eq_true rfl⟩ ?_
        refine lv_if_eq (tgt := 42) hx hb dX12_mightiest_19 (by decide) (fun c_18 => ?_) (fun c_18 => ?_)
        · have h := it c_18 h
          obtain ⟨x2_19, e_x2_19⟩ : ∃ y : Int32, y = x2 + 1 := ⟨_, rfl⟩
          have h := bn e_x2_19 h
          refine lv_iinc (v := x2_19) (lv' := [(2, .int x2_19), (0, .ref (A_m 0)), (1, .int x1)]) hx hb dX12_mightiest_42 hl (k := 2) rfl (by rw [e_x2_19]; rfl) (by decide) rfl (fun ls hl => ?_)
          refine lv_goto (tgt := 4) hx hb dX12_mightiest_45 (by decide) ?_
          exact ih4 m_status x1 x2_19 _ _ hP hS ls (lv_sub hl [1, 2, 0] rfl) h
        · have h := ie c_18 h
          refine lv_iload_n hx hb dX12_mightiest_22 rfl (lv_at hl 1 rfl) ?_
          refine lv_iconst (v := (-1)) hx hb dX12_mightiest_23 (by decide) ?_
          refine lv_icmp_eq (tgt := 40) hx hb dX12_mightiest_24 (by decide) (fun c_20 => ?_) (fun c_20 => ?_)
          · have h := it c_20 h
            refine lv_iload_n hx hb dX12_mightiest_40 rfl (lv_at hl 2 rfl) ?_
            refine lv_istore_n (lv' := [(1, .int x2), (0, .ref (A_m 0)), (2, .int x2)]) hx hb dX12_mightiest_41 rfl hl (by decide) rfl (fun ls hl => ?_)
            obtain ⟨x2_21, e_x2_21⟩ : ∃ y : Int32, y = x2 + 1 := ⟨_, rfl⟩
            have h := bn e_x2_21 h
            refine lv_iinc (v := x2_21) (lv' := [(2, .int x2_21), (1, .int x2), (0, .ref (A_m 0))]) hx hb dX12_mightiest_42 hl (k := 2) rfl (by rw [e_x2_21]; rfl) (by decide) rfl (fun ls hl => ?_)
            refine lv_goto (tgt := 4) hx hb dX12_mightiest_45 (by decide) ?_
            exact ih4 m_status x2 x2_21 _ _ hP hS ls (lv_sub hl [2, 1, 0] rfl) h
          · have h := ie c_20 h
            refine lv_aload_n hx hb dX12_mightiest_27 rfl (lv_at hl 0 rfl) ?_
            refine lv_iload_n hx hb dX12_mightiest_28 rfl (lv_at hl 2 rfl) ?_
            obtain ⟨z_22, e_z_22, h⟩ := bi h
            refine roVi (rest := []) ⟨hx, hb, hml, hown, ht⟩ (c_X12_powerOf l D cy fu A_m m_at m_names m_status m_top m_bottom m_sort m_trayMany m_trays m_tape m_text m_taped m_size m_token m_from m_end m_value m_faultKind m_faultPlace m_faults m_seen m_toldParts m_opened m_depth m_counted m_bestOrder m_standers m_has m_bestHas m_standerMany m_bestCouples m_bestFondness m_cameTo m_doesStandFirst m_stoodBy m_drawn m_ranSteps m_loops m_ran m_told1 m_isTold m_marks x2 z_22 e_z_22) (cV ht mv_X12_powerOf tb_1719 rfl rfl ⟨Nat.le_of_ble_eq_true rfl, Nat.le_of_ble_eq_true rfl⟩) (P_sub hP.1 [0] rfl) hX rfl rfl rfl hl.1 rfl (Nat.le_of_ble_eq_true rfl) dX12_mightiest_29 ⟨Nat.le_of_ble_eq_true rfl, Nat.le_of_ble_eq_true rfl⟩ ?_
            refine lv_aload_n hx hb dX12_mightiest_32 rfl (lv_at hl 0 rfl) ?_
            refine lv_iload_n hx hb dX12_mightiest_33 rfl (lv_at hl 1 rfl) ?_
            obtain ⟨z_23, e_z_23, h⟩ := bi h
            refine roVi (rest := [.int z_22]) ⟨hx, hb, hml, hown, ht⟩ (c_X12_powerOf l D cy fu A_m m_at m_names m_status m_top m_bottom m_sort m_trayMany m_trays m_tape m_text m_taped m_size m_token m_from m_end m_value m_faultKind m_faultPlace m_faults m_seen m_toldParts m_opened m_depth m_counted m_bestOrder m_standers m_has m_bestHas m_standerMany m_bestCouples m_bestFondness m_cameTo m_doesStandFirst m_stoodBy m_drawn m_ranSteps m_loops m_ran m_told1 m_isTold m_marks x1 z_23 e_z_23) (cV ht mv_X12_powerOf tb_1719 rfl rfl ⟨Nat.le_of_ble_eq_true rfl, Nat.le_of_ble_eq_true rfl⟩) (P_sub hP.1 [0] rfl) hX rfl rfl rfl hl.1 rfl (Nat.le_of_ble_eq_true rfl) dX12_mightiest_34 ⟨Nat.le_of_ble_eq_true rfl, Nat.le_of_ble_eq_true rfl⟩ ?_
            refine lv_icmp_le (tgt := 42) hx hb dX12_mightiest_37 (by decide) (fun c_24 => ?_) (fun c_24 => ?_)
            · have h := it c_24 h
              obtain ⟨x2_25, e_x2_25⟩ : ∃ y : Int32, y = x2 + 1 := ⟨_, rfl⟩
              have h := bn e_x2_25 h
              refine lv_iinc (v := x2_25) (lv' := [(2, .int x2_25), (0, .ref (A_m 0)), (1, .int x1)]) hx hb dX12_mightiest_42 hl (k := 2) rfl (by rw [e_x2_25]; rfl) (by decide) rfl (fun ls hl => ?_)
              refine lv_goto (tgt := 4) hx hb dX12_mightiest_45 (by decide) ?_
              exact ih4 m_status x1 x2_25 _ _ hP hS ls (lv_sub hl [1, 2, 0] rfl) h
            · have h := ie c_24 h
              refine lv_iload_n hx hb dX12_mightiest_40 rfl (lv_at hl 2 rfl) ?_
              refine lv_istore_n (lv' := [(1, .int x2), (0, .ref (A_m 0)), (2, .int x2)]) hx hb dX12_mightiest_41 rfl hl (by decide) rfl (fun ls hl => ?_)
              obtain ⟨x2_26, e_x2_26⟩ : ∃ y : Int32, y = x2 + 1 := ⟨_, rfl⟩
              have h := bn e_x2_26 h
              refine lv_iinc (v := x2_26) (lv' := [(2, .int x2_26), (1, .int x2), (0, .ref (A_m 0))]) hx hb dX12_mightiest_42 hl (k := 2) rfl (by rw [e_x2_26]; rfl) (by decide) rfl (fun ls hl => ?_)
              refine lv_goto (tgt := 4) hx hb dX12_mightiest_45 (by decide) ?_
              exact ih4 m_status x2 x2_26 _ _ hP hS ls (lv_sub hl [2, 1, 0] rfl) h
  unfold f_X12_mightiest at h
  refine lv_iconst (v := (-1)) hx hb dX12_mightiest_0 (by decide) ?_
  refine lv_istore_n (lv' := [(1, .int (-1)), (0, .ref (A_m 0))]) hx hb dX12_mightiest_1 rfl hl (by decide) rfl (fun ls hl => ?_)
  refine lv_iconst (v := 0) hx hb dX12_mightiest_2 (by decide) ?_
  refine lv_istore_n (lv' := [(2, .int 0), (1, .int (-1)), (0, .ref (A_m 0))]) hx hb dX12_mightiest_3 rfl hl (by decide) rfl (fun ls hl => ?_)
  exact l4 fu m_status (-1) 0 _ _ hP hS ls (lv_sub hl [2, 1, 0] rfl) h
theorem dX12_veto_0 : decode cX12_veto 0 = .ok (.aload_n 0, 1) := by decide +kernel
theorem dX12_veto_1 : decode cX12_veto 1 = .ok (.iload_n 1, 1) := by decide +kernel
theorem dX12_veto_2 : decode cX12_veto 2 = .ok (.invokevirtual 241, 3) := by decide +kernel
theorem dX12_veto_5 : decode cX12_veto 5 = .ok (.ifCond .ne 9, 3) := by decide +kernel
theorem dX12_veto_8 : decode cX12_veto 8 = .ok (.aload_n 0, 1) := by decide +kernel
theorem dX12_veto_9 : decode cX12_veto 9 = .ok (.iconst 1, 1) := by decide +kernel
theorem dX12_veto_10 : decode cX12_veto 10 = .ok (.invokevirtual 85, 3) := by decide +kernel
theorem dX12_veto_13 : decode cX12_veto 13 = .ok (.ireturn, 1) := by decide +kernel
theorem dX12_veto_14 : decode cX12_veto 14 = .ok (.aload_n 0, 1) := by decide +kernel
theorem dX12_veto_15 : decode cX12_veto 15 = .ok (.iload_n 1, 1) := by decide +kernel
theorem dX12_veto_16 : decode cX12_veto 16 = .ok (.invokevirtual 253, 3) := by decide +kernel
theorem dX12_veto_19 : decode cX12_veto 19 = .ok (.ifCond .ne 10, 3) := by decide +kernel
theorem dX12_veto_22 : decode cX12_veto 22 = .ok (.aload_n 0, 1) := by decide +kernel
theorem dX12_veto_23 : decode cX12_veto 23 = .ok (.bipush 7, 2) := by decide +kernel
theorem dX12_veto_25 : decode cX12_veto 25 = .ok (.invokevirtual 85, 3) := by decide +kernel
theorem dX12_veto_28 : decode cX12_veto 28 = .ok (.ireturn, 1) := by decide +kernel
theorem dX12_veto_29 : decode cX12_veto 29 = .ok (.aload_n 0, 1) := by decide +kernel
theorem dX12_veto_30 : decode cX12_veto 30 = .ok (.aload_n 0, 1) := by decide +kernel
theorem dX12_veto_31 : decode cX12_veto 31 = .ok (.aload_n 0, 1) := by decide +kernel
theorem dX12_veto_32 : decode cX12_veto 32 = .ok (.invokevirtual 259, 3) := by decide +kernel
theorem dX12_veto_35 : decode cX12_veto 35 = .ok (.invokevirtual 324, 3) := by decide +kernel
theorem dX12_veto_38 : decode cX12_veto 38 = .ok (.ifCond .eq 24, 3) := by decide +kernel
theorem dX12_veto_41 : decode cX12_veto 41 = .ok (.aload_n 0, 1) := by decide +kernel
theorem dX12_veto_42 : decode cX12_veto 42 = .ok (.aload_n 0, 1) := by decide +kernel
theorem dX12_veto_43 : decode cX12_veto 43 = .ok (.invokevirtual 259, 3) := by decide +kernel
theorem dX12_veto_46 : decode cX12_veto 46 = .ok (.iconst 1, 1) := by decide +kernel
theorem dX12_veto_47 : decode cX12_veto 47 = .ok (.iload_n 1, 1) := by decide +kernel
theorem dX12_veto_48 : decode cX12_veto 48 = .ok (.ishl, 1) := by decide +kernel
theorem dX12_veto_49 : decode cX12_veto 49 = .ok (.iconst (-1), 1) := by decide +kernel
theorem dX12_veto_50 : decode cX12_veto 50 = .ok (.ixor, 1) := by decide +kernel
theorem dX12_veto_51 : decode cX12_veto 51 = .ok (.iand, 1) := by decide +kernel
theorem dX12_veto_52 : decode cX12_veto 52 = .ok (.invokevirtual 324, 3) := by decide +kernel
theorem dX12_veto_55 : decode cX12_veto 55 = .ok (.ifCond .ne 7, 3) := by decide +kernel
theorem dX12_veto_58 : decode cX12_veto 58 = .ok (.iconst 1, 1) := by decide +kernel
theorem dX12_veto_59 : decode cX12_veto 59 = .ok (.goto 4, 3) := by decide +kernel
theorem dX12_veto_62 : decode cX12_veto 62 = .ok (.iconst 0, 1) := by decide +kernel
theorem dX12_veto_63 : decode cX12_veto 63 = .ok (.invokevirtual 88, 3) := by decide +kernel
theorem dX12_veto_66 : decode cX12_veto 66 = .ok (.ireturn, 1) := by decide +kernel
theorem mv_X12_veto : MV yX12_veto RX12 cX12_veto 2 (some .int) 1 := ⟨tb_1737, tb_1735, tb_1736, tb_16, by decide +kernel, by decide +kernel, by decide +kernel⟩
def f_X12_veto (fu : Nat) (m_at : Nat → Int32) (m_status : Int32) (x1 : Int32) : Option (Int32 × Int32) := (f_X12_isMan fu m_at x1).bind fun z_16 => (if z_16 = 0 then (f_X12_refuse fu m_status 1).bind fun z_30 => some (z_30.1, z_30.2) else (f_X12_isAlive fu m_at x1).bind fun z_18 => (if z_18 = 0 then (f_X12_refuse fu m_status 7).bind fun z_29 => some (z_29.1, z_29.2) else (f_X12_living fu m_at).bind fun z_20 => (f_X12_doCarry fu m_at z_20).bind fun z_21 => (if z_21 = 0 then (f_X12_gives fu m_status 0).bind fun z_23 => some (z_23.1, z_23.2) else (f_X12_living fu m_at).bind fun z_24 => (f_X12_doCarry fu m_at (z_24 &&& (((1 : Int32) <<< (x1 &&& 31)) ^^^ (-1)))).bind fun z_25 => (if z_25 = 0 then (f_X12_gives fu m_status 1).bind fun z_28 => some (z_28.1, z_28.2) else (f_X12_gives fu m_status 0).bind fun z_27 => some (z_27.1, z_27.2)))))
abbrev rm_X12_veto : Room := { frames := 5, cells := 0, slots := 0, locals := 106 }
set_option maxHeartbeats 4000000 in
set_option maxRecDepth 100000 in
theorem c_X12_veto (l : Launch) (D : va_G) (cy : Nat → ClassId) (fu : Nat) (A_m : Nat → Nat) (m_at : Nat → Int32) (m_names : Nat → Int64) (m_status : Int32) (m_top : Int64) (m_bottom : Int64) (m_sort : Nat → Int32) (m_trayMany : Nat → Int32) (m_trays : Nat → Int64) (m_tape : Nat → Int32) (m_text : Nat → Int32) (m_taped : Int32) (m_size : Int32) (m_token : Int32) (m_from : Int32) (m_end : Int32) (m_value : Int32) (m_faultKind : Int32) (m_faultPlace : Int32) (m_faults : Int32) (m_seen : Int32) (m_toldParts : Int32) (m_opened : Nat → Int32) (m_depth : Int32) (m_counted : Int32) (m_bestOrder : Int32) (m_standers : Nat → Int32) (m_has : Nat → Int32) (m_bestHas : Nat → Int32) (m_standerMany : Int32) (m_bestCouples : Int32) (m_bestFondness : Int32) (m_cameTo : Nat → Int32) (m_doesStandFirst : Int32) (m_stoodBy : Nat → Int64) (m_drawn : Int32) (m_ranSteps : Int32) (m_loops : Nat → Int32) (m_ran : Nat → Int32) (m_told1 : Nat → Int32) (m_isTold : Int32) (m_marks : Int32) (x1 : Int32) (res : Int32 × Int32) (h : f_X12_veto fu m_at m_status x1 = some res) (A : Nat → Prop) (hA : A = adr [bl_X12 cy A_m m_at m_names m_status m_top m_bottom m_sort m_trayMany m_trays m_tape m_text m_taped m_size m_token m_from m_end m_value m_faultKind m_faultPlace m_faults m_seen m_toldParts m_opened m_depth m_counted m_bestOrder m_standers m_has m_bestHas m_standerMany m_bestCouples m_bestFondness m_cameTo m_doesStandFirst m_stoodBy m_drawn m_ranSteps m_loops m_ran m_told1 m_isTold m_marks]) (W1 : List va_W) (hW1 : W1 = [bl_X12 cy A_m m_at m_names res.2 m_top m_bottom m_sort m_trayMany m_trays m_tape m_text m_taped m_size m_token m_from m_end m_value m_faultKind m_faultPlace m_faults m_seen m_toldParts m_opened m_depth m_counted m_bestOrder m_standers m_has m_bestHas m_standerMany m_bestCouples m_bestFondness m_cameTo m_doesStandFirst m_stoodBy m_drawn m_ranSteps m_loops m_ran m_told1 m_isTold m_marks]) : Met l yX12_veto (WW yX12_veto cX12_veto 2 (some .int)) rm_X12_veto (Ed D cy [.ref (A_m 0), .int x1] [bl_X12 cy A_m m_at m_names m_status m_top m_bottom m_sort m_trayMany m_trays m_tape m_text m_taped m_size m_token m_from m_end m_value m_faultKind m_faultPlace m_faults m_seen m_toldParts m_opened m_depth m_counted m_bestOrder m_standers m_has m_bestHas m_standerMany m_bestCouples m_bestFondness m_cameTo m_doesStandFirst m_stoodBy m_drawn m_ranSteps m_loops m_ran m_told1 m_isTold m_marks]) (Qei D res.1 A W1) 0 0 A := by
  refine Met.ofW (cc := cX12_veto) (maxL := 2) (ret := (some .int)) (by decide) rfl ?_
  intro p e s m args below meth c s₁ B hml hv
  obtain ⟨hargs, hP, hX, hD0⟩ := hv
  have hx := B.exec
  have hb := B.bytes
  have hr := B.returns
  have ht : ∀ w ∈ lw_gd, w.before args s = true := fun w hw => atoms_spec (ws := WW yX12_veto cX12_veto 2 (some .int)) B.pre w (List.mem_cons_of_mem _ hw)
  have hown : s.vm.findClass RX12 = some m.cls := findClass_of_methodNamed B.named
  have hlocks := B.notSynchronized
  have hP : PD D A [bl_X12 cy A_m m_at m_names m_status m_top m_bottom m_sort m_trayMany m_trays m_tape m_text m_taped m_size m_token m_from m_end m_value m_faultKind m_faultPlace m_faults m_seen m_toldParts m_opened m_depth m_counted m_bestOrder m_standers m_has m_bestHas m_standerMany m_bestCouples m_bestFondness m_cameTo m_doesStandFirst m_stoodBy m_drawn m_ranSteps m_loops m_ran m_told1 m_isTold m_marks] s.heap := ⟨hP, by rw [hA]; exact hD0.own⟩
  have hS : va_S A s.heap s.heap [] := va_S.rf
  obtain ⟨ls, hl, hent⟩ := ent (m := m) (n := 2) hargs (Nat.le_of_ble_eq_true rfl) (lv := [(0, .ref (A_m 0)), (1, .int x1)]) rfl
  rw [hent]
  clear hent
  unfold f_X12_veto at h
  refine lv_aload_n hx hb dX12_veto_0 rfl (lv_at hl 0 rfl) ?_
  refine lv_iload_n hx hb dX12_veto_1 rfl (lv_at hl 1 rfl) ?_
  obtain ⟨z_16, e_z_16, h⟩ := bi h
  refine roVi (rest := []) ⟨hx, hb, hml, hown, ht⟩ (c_X12_isMan l D cy fu A_m m_at m_names m_status m_top m_bottom m_sort m_trayMany m_trays m_tape m_text m_taped m_size m_token m_from m_end m_value m_faultKind m_faultPlace m_faults m_seen m_toldParts m_opened m_depth m_counted m_bestOrder m_standers m_has m_bestHas m_standerMany m_bestCouples m_bestFondness m_cameTo m_doesStandFirst m_stoodBy m_drawn m_ranSteps m_loops m_ran m_told1 m_isTold m_marks x1 z_16 e_z_16) (cV ht mv_X12_isMan tb_1551 rfl rfl ⟨Nat.le_of_ble_eq_true rfl, Nat.le_of_ble_eq_true rfl⟩) (P_sub hP.1 [0] rfl) hX rfl rfl rfl hl.1 rfl (Nat.le_of_ble_eq_true rfl) dX12_veto_2 ⟨Nat.le_of_ble_eq_true rfl, Nat.le_of_ble_eq_true rfl⟩ ?_
  refine lv_if_ne (tgt := 14) hx hb dX12_veto_5 (by decide) (fun c_17 => ?_) (fun c_17 => ?_)
  · have h := ie c_17 h
    refine lv_aload_n hx hb dX12_veto_14 rfl (lv_at hl 0 rfl) ?_
    refine lv_iload_n hx hb dX12_veto_15 rfl (lv_at hl 1 rfl) ?_
    obtain ⟨z_18, e_z_18, h⟩ := bi h
    refine roVi (rest := []) ⟨hx, hb, hml, hown, ht⟩ (c_X12_isAlive l D cy fu A_m m_at m_names m_status m_top m_bottom m_sort m_trayMany m_trays m_tape m_text m_taped m_size m_token m_from m_end m_value m_faultKind m_faultPlace m_faults m_seen m_toldParts m_opened m_depth m_counted m_bestOrder m_standers m_has m_bestHas m_standerMany m_bestCouples m_bestFondness m_cameTo m_doesStandFirst m_stoodBy m_drawn m_ranSteps m_loops m_ran m_told1 m_isTold m_marks x1 z_18 e_z_18) (cV ht mv_X12_isAlive tb_1531 rfl rfl ⟨Nat.le_of_ble_eq_true rfl, Nat.le_of_ble_eq_true rfl⟩) (P_sub hP.1 [0] rfl) hX rfl rfl rfl hl.1 rfl (Nat.le_of_ble_eq_true rfl) dX12_veto_16 ⟨Nat.le_of_ble_eq_true rfl, Nat.le_of_ble_eq_true rfl⟩ ?_
    refine lv_if_ne (tgt := 29) hx hb dX12_veto_19 (by decide) (fun c_19 => ?_) (fun c_19 => ?_)
    · have h := ie c_19 h
      refine lv_aload_n hx hb dX12_veto_29 rfl (lv_at hl 0 rfl) ?_
      refine lv_aload_n hx hb dX12_veto_30 rfl (lv_at hl 0 rfl) ?_
      refine lv_aload_n hx hb dX12_veto_31 rfl (lv_at hl 0 rfl) ?_
      obtain ⟨z_20, e_z_20, h⟩ := bi h
      refine roVi (rest := [.ref (A_m 0), .ref (A_m 0)]) ⟨hx, hb, hml, hown, ht⟩ (c_X12_living l D cy fu A_m m_at m_names m_status m_top m_bottom m_sort m_trayMany m_trays m_tape m_text m_taped m_size m_token m_from m_end m_value m_faultKind m_faultPlace m_faults m_seen m_toldParts m_opened m_depth m_counted m_bestOrder m_standers m_has m_bestHas m_standerMany m_bestCouples m_bestFondness m_cameTo m_doesStandFirst m_stoodBy m_drawn m_ranSteps m_loops m_ran m_told1 m_isTold m_marks z_20 e_z_20) (cV ht mv_X12_living tb_1527 rfl rfl ⟨Nat.le_of_ble_eq_true rfl, Nat.le_of_ble_eq_true rfl⟩) (P_sub hP.1 [0] rfl) hX rfl rfl rfl hl.1 rfl (Nat.le_of_ble_eq_true rfl) dX12_veto_32 ⟨Nat.le_of_ble_eq_true rfl, Nat.le_of_ble_eq_true rfl⟩ ?_
      obtain ⟨z_21, e_z_21, h⟩ := bi h
      refine roVi (rest := [.ref (A_m 0)]) ⟨hx, hb, hml, hown, ht⟩ (c_X12_doCarry l D cy fu A_m m_at m_names m_status m_top m_bottom m_sort m_trayMany m_trays m_tape m_text m_taped m_size m_token m_from m_end m_value m_faultKind m_faultPlace m_faults m_seen m_toldParts m_opened m_depth m_counted m_bestOrder m_standers m_has m_bestHas m_standerMany m_bestCouples m_bestFondness m_cameTo m_doesStandFirst m_stoodBy m_drawn m_ranSteps m_loops m_ran m_told1 m_isTold m_marks z_20 z_21 e_z_21) (cV ht mv_X12_doCarry tb_1695 rfl rfl ⟨Nat.le_of_ble_eq_true rfl, Nat.le_of_ble_eq_true rfl⟩) (P_sub hP.1 [0] rfl) hX rfl rfl rfl hl.1 rfl (Nat.le_of_ble_eq_true rfl) dX12_veto_35 ⟨Nat.le_of_ble_eq_true rfl, Nat.le_of_ble_eq_true rfl⟩ ?_
      refine lv_if_eq (tgt := 62) hx hb dX12_veto_38 (by decide) (fun c_22 => ?_) (fun c_22 => ?_)
      · have h := it c_22 h
        refine lv_iconst (v := 0) hx hb dX12_veto_62 (by decide) ?_
        obtain ⟨z_23, e_z_23, h⟩ := bi h
        refine efVi (rest := []) ⟨hx, hb, hml, hown, ht⟩ (c_X12_gives l D cy fu A_m m_at m_names m_status m_top m_bottom m_sort m_trayMany m_trays m_tape m_text m_taped m_size m_token m_from m_end m_value m_faultKind m_faultPlace m_faults m_seen m_toldParts m_opened m_depth m_counted m_bestOrder m_standers m_has m_bestHas m_standerMany m_bestCouples m_bestFondness m_cameTo m_doesStandFirst m_stoodBy m_drawn m_ranSteps m_loops m_ran m_told1 m_isTold m_marks 0 z_23 e_z_23 _ rfl _ rfl) (cV ht mv_X12_gives tb_1499 rfl rfl ⟨Nat.le_of_ble_eq_true rfl, Nat.le_of_ble_eq_true rfl⟩) hP hS hX [0] rfl rfl rfl rfl rfl rfl hl.1 rfl (Nat.le_of_ble_eq_true rfl) dX12_veto_63 ⟨Nat.le_of_ble_eq_true rfl, Nat.le_of_ble_eq_true rfl⟩ (fun H locs hP hS => ?_)
        have hP : PD D A [bl_X12 cy A_m m_at m_names z_23.2 m_top m_bottom m_sort m_trayMany m_trays m_tape m_text m_taped m_size m_token m_from m_end m_value m_faultKind m_faultPlace m_faults m_seen m_toldParts m_opened m_depth m_counted m_bestOrder m_standers m_has m_bestHas m_standerMany m_bestCouples m_bestFondness m_cameTo m_doesStandFirst m_stoodBy m_drawn m_ranSteps m_loops m_ran m_told1 m_isTold m_marks] H := hP
        cases h
        subst hW1
        exact W.iret hx hb hr (fun _ ht9 _ => ⟨⟨_, (), rfl, rfl, hPt ht9 hP.1⟩, hS.F ht9⟩) hS.2.2 dX12_veto_66
      · have h := ie c_22 h
        refine lv_aload_n hx hb dX12_veto_41 rfl (lv_at hl 0 rfl) ?_
        refine lv_aload_n hx hb dX12_veto_42 rfl (lv_at hl 0 rfl) ?_
        obtain ⟨z_24, e_z_24, h⟩ := bi h
        refine roVi (rest := [.ref (A_m 0), .ref (A_m 0)]) ⟨hx, hb, hml, hown, ht⟩ (c_X12_living l D cy fu A_m m_at m_names m_status m_top m_bottom m_sort m_trayMany m_trays m_tape m_text m_taped m_size m_token m_from m_end m_value m_faultKind m_faultPlace m_faults m_seen m_toldParts m_opened m_depth m_counted m_bestOrder m_standers m_has m_bestHas m_standerMany m_bestCouples m_bestFondness m_cameTo m_doesStandFirst m_stoodBy m_drawn m_ranSteps m_loops m_ran m_told1 m_isTold m_marks z_24 e_z_24) (cV ht mv_X12_living tb_1527 rfl rfl ⟨Nat.le_of_ble_eq_true rfl, Nat.le_of_ble_eq_true rfl⟩) (P_sub hP.1 [0] rfl) hX rfl rfl rfl hl.1 rfl (Nat.le_of_ble_eq_true rfl) dX12_veto_43 ⟨Nat.le_of_ble_eq_true rfl, Nat.le_of_ble_eq_true rfl⟩ ?_
        refine lv_iconst (v := 1) hx hb dX12_veto_46 (by decide) ?_
        refine lv_iload_n hx hb dX12_veto_47 rfl (lv_at hl 1 rfl) ?_
        refine lv_ishl hx hb dX12_veto_48 ?_
        refine lv_iconst (v := (-1)) hx hb dX12_veto_49 (by decide) ?_
        refine lv_ixor hx hb dX12_veto_50 ?_
        refine lv_iand hx hb dX12_veto_51 ?_
        obtain ⟨z_25, e_z_25, h⟩ := bi h
        refine roVi (rest := [.ref (A_m 0)]) ⟨hx, hb, hml, hown, ht⟩ (c_X12_doCarry l D cy fu A_m m_at m_names m_status m_top m_bottom m_sort m_trayMany m_trays m_tape m_text m_taped m_size m_token m_from m_end m_value m_faultKind m_faultPlace m_faults m_seen m_toldParts m_opened m_depth m_counted m_bestOrder m_standers m_has m_bestHas m_standerMany m_bestCouples m_bestFondness m_cameTo m_doesStandFirst m_stoodBy m_drawn m_ranSteps m_loops m_ran m_told1 m_isTold m_marks (z_24 &&& (((1 : Int32) <<< (x1 &&& 31)) ^^^ (-1))) z_25 e_z_25) (cV ht mv_X12_doCarry tb_1695 rfl rfl ⟨Nat.le_of_ble_eq_true rfl, Nat.le_of_ble_eq_true rfl⟩) (P_sub hP.1 [0] rfl) hX rfl rfl rfl hl.1 rfl (Nat.le_of_ble_eq_true rfl) dX12_veto_52 ⟨Nat.le_of_ble_eq_true rfl, Nat.le_of_ble_eq_true rfl⟩ ?_
        refine lv_if_ne (tgt := 62) hx hb dX12_veto_55 (by decide) (fun c_26 => ?_) (fun c_26 => ?_)
        · have h := ie c_26 h
          refine lv_iconst (v := 0) hx hb dX12_veto_62 (by decide) ?_
          obtain ⟨z_27, e_z_27, h⟩ := bi h
          refine efVi (rest := []) ⟨hx, hb, hml, hown, ht⟩ (c_X12_gives l D cy fu A_m m_at m_names m_status m_top m_bottom m_sort m_trayMany m_trays m_tape m_text m_taped m_size m_token m_from m_end m_value m_faultKind m_faultPlace m_faults m_seen m_toldParts m_opened m_depth m_counted m_bestOrder m_standers m_has m_bestHas m_standerMany m_bestCouples m_bestFondness m_cameTo m_doesStandFirst m_stoodBy m_drawn m_ranSteps m_loops m_ran m_told1 m_isTold m_marks 0 z_27 e_z_27 _ rfl _ rfl) (cV ht mv_X12_gives tb_1499 rfl rfl ⟨Nat.le_of_ble_eq_true rfl, Nat.le_of_ble_eq_true rfl⟩) hP hS hX [0] rfl rfl rfl rfl rfl rfl hl.1 rfl (Nat.le_of_ble_eq_true rfl) dX12_veto_63 ⟨Nat.le_of_ble_eq_true rfl, Nat.le_of_ble_eq_true rfl⟩ (fun H locs hP hS => ?_)
          have hP : PD D A [bl_X12 cy A_m m_at m_names z_27.2 m_top m_bottom m_sort m_trayMany m_trays m_tape m_text m_taped m_size m_token m_from m_end m_value m_faultKind m_faultPlace m_faults m_seen m_toldParts m_opened m_depth m_counted m_bestOrder m_standers m_has m_bestHas m_standerMany m_bestCouples m_bestFondness m_cameTo m_doesStandFirst m_stoodBy m_drawn m_ranSteps m_loops m_ran m_told1 m_isTold m_marks] H := hP
          cases h
          subst hW1
          exact W.iret hx hb hr (fun _ ht9 _ => ⟨⟨_, (), rfl, rfl, hPt ht9 hP.1⟩, hS.F ht9⟩) hS.2.2 dX12_veto_66
        · have h := it c_26 h
          refine lv_iconst (v := 1) hx hb dX12_veto_58 (by decide) ?_
          refine lv_goto (tgt := 63) hx hb dX12_veto_59 (by decide) ?_
          obtain ⟨z_28, e_z_28, h⟩ := bi h
          refine efVi (rest := []) ⟨hx, hb, hml, hown, ht⟩ (c_X12_gives l D cy fu A_m m_at m_names m_status m_top m_bottom m_sort m_trayMany m_trays m_tape m_text m_taped m_size m_token m_from m_end m_value m_faultKind m_faultPlace m_faults m_seen m_toldParts m_opened m_depth m_counted m_bestOrder m_standers m_has m_bestHas m_standerMany m_bestCouples m_bestFondness m_cameTo m_doesStandFirst m_stoodBy m_drawn m_ranSteps m_loops m_ran m_told1 m_isTold m_marks 1 z_28 e_z_28 _ rfl _ rfl) (cV ht mv_X12_gives tb_1499 rfl rfl ⟨Nat.le_of_ble_eq_true rfl, Nat.le_of_ble_eq_true rfl⟩) hP hS hX [0] rfl rfl rfl rfl rfl rfl hl.1 rfl (Nat.le_of_ble_eq_true rfl) dX12_veto_63 ⟨Nat.le_of_ble_eq_true rfl, Nat.le_of_ble_eq_true rfl⟩ (fun H locs hP hS => ?_)
          have hP : PD D A [bl_X12 cy A_m m_at m_names z_28.2 m_top m_bottom m_sort m_trayMany m_trays m_tape m_text m_taped m_size m_token m_from m_end m_value m_faultKind m_faultPlace m_faults m_seen m_toldParts m_opened m_depth m_counted m_bestOrder m_standers m_has m_bestHas m_standerMany m_bestCouples m_bestFondness m_cameTo m_doesStandFirst m_stoodBy m_drawn m_ranSteps m_loops m_ran m_told1 m_isTold m_marks] H := hP
          cases h
          subst hW1
          exact W.iret hx hb hr (fun _ ht9 _ => ⟨⟨_, (), rfl, rfl, hPt ht9 hP.1⟩, hS.F ht9⟩) hS.2.2 dX12_veto_66
    · have h := it c_19 h
      refine lv_aload_n hx hb dX12_veto_22 rfl (lv_at hl 0 rfl) ?_
      refine lv_bipush (v := 7) hx hb dX12_veto_23 (by decide) ?_
      obtain ⟨z_29, e_z_29, h⟩ := bi h
      refine efVi (rest := []) ⟨hx, hb, hml, hown, ht⟩ (c_X12_refuse l D cy fu A_m m_at m_names m_status m_top m_bottom m_sort m_trayMany m_trays m_tape m_text m_taped m_size m_token m_from m_end m_value m_faultKind m_faultPlace m_faults m_seen m_toldParts m_opened m_depth m_counted m_bestOrder m_standers m_has m_bestHas m_standerMany m_bestCouples m_bestFondness m_cameTo m_doesStandFirst m_stoodBy m_drawn m_ranSteps m_loops m_ran m_told1 m_isTold m_marks 7 z_29 e_z_29 _ rfl _ rfl) (cV ht mv_X12_refuse tb_1432 rfl rfl ⟨Nat.le_of_ble_eq_true rfl, Nat.le_of_ble_eq_true rfl⟩) hP hS hX [0] rfl rfl rfl rfl rfl rfl hl.1 rfl (Nat.le_of_ble_eq_true rfl) dX12_veto_25 ⟨Nat.le_of_ble_eq_true rfl, Nat.le_of_ble_eq_true rfl⟩ (fun H locs hP hS => ?_)
      have hP : PD D A [bl_X12 cy A_m m_at m_names z_29.2 m_top m_bottom m_sort m_trayMany m_trays m_tape m_text m_taped m_size m_token m_from m_end m_value m_faultKind m_faultPlace m_faults m_seen m_toldParts m_opened m_depth m_counted m_bestOrder m_standers m_has m_bestHas m_standerMany m_bestCouples m_bestFondness m_cameTo m_doesStandFirst m_stoodBy m_drawn m_ranSteps m_loops m_ran m_told1 m_isTold m_marks] H := hP
      cases h
      subst hW1
      exact W.iret hx hb hr (fun _ ht9 _ => ⟨⟨_, (), rfl, rfl, hPt ht9 hP.1⟩, hS.F ht9⟩) hS.2.2 dX12_veto_28
  · have h := it c_17 h
    refine lv_aload_n hx hb dX12_veto_8 rfl (lv_at hl 0 rfl) ?_
    refine lv_iconst (v := 1) hx hb dX12_veto_9 (by decide) ?_
    obtain ⟨z_30, e_z_30, h⟩ := bi h
    refine efVi (rest := []) ⟨hx, hb, hml, hown, ht⟩ (c_X12_refuse l D cy fu A_m m_at m_names m_status m_top m_bottom m_sort m_trayMany m_trays m_tape m_text m_taped m_size m_token m_from m_end m_value m_faultKind m_faultPlace m_faults m_seen m_toldParts m_opened m_depth m_counted m_bestOrder m_standers m_has m_bestHas m_standerMany m_bestCouples m_bestFondness m_cameTo m_doesStandFirst m_stoodBy m_drawn m_ranSteps m_loops m_ran m_told1 m_isTold m_marks 1 z_30 e_z_30 _ rfl _ rfl) (cV ht mv_X12_refuse tb_1432 rfl rfl ⟨Nat.le_of_ble_eq_true rfl, Nat.le_of_ble_eq_true rfl⟩) hP hS hX [0] rfl rfl rfl rfl rfl rfl hl.1 rfl (Nat.le_of_ble_eq_true rfl) dX12_veto_10 ⟨Nat.le_of_ble_eq_true rfl, Nat.le_of_ble_eq_true rfl⟩ (fun H locs hP hS => ?_)
    have hP : PD D A [bl_X12 cy A_m m_at m_names z_30.2 m_top m_bottom m_sort m_trayMany m_trays m_tape m_text m_taped m_size m_token m_from m_end m_value m_faultKind m_faultPlace m_faults m_seen m_toldParts m_opened m_depth m_counted m_bestOrder m_standers m_has m_bestHas m_standerMany m_bestCouples m_bestFondness m_cameTo m_doesStandFirst m_stoodBy m_drawn m_ranSteps m_loops m_ran m_told1 m_isTold m_marks] H := hP
    cases h
    subst hW1
    exact W.iret hx hb hr (fun _ ht9 _ => ⟨⟨_, (), rfl, rfl, hPt ht9 hP.1⟩, hS.F ht9⟩) hS.2.2 dX12_veto_13
theorem dX12_keeps_0 : decode cX12_keeps 0 = .ok (.iconst 0, 1) := by decide +kernel
theorem dX12_keeps_1 : decode cX12_keeps 1 = .ok (.istore_n 2, 1) := by decide +kernel
theorem dX12_keeps_2 : decode cX12_keeps 2 = .ok (.iload_n 2, 1) := by decide +kernel
theorem dX12_keeps_3 : decode cX12_keeps 3 = .ok (.bipush 120, 2) := by decide +kernel
theorem dX12_keeps_5 : decode cX12_keeps 5 = .ok (.if_icmp .ge 23, 3) := by decide +kernel
theorem dX12_keeps_8 : decode cX12_keeps 8 = .ok (.aload_n 0, 1) := by decide +kernel
theorem dX12_keeps_9 : decode cX12_keeps 9 = .ok (.getfield 7, 3) := by decide +kernel
theorem dX12_keeps_12 : decode cX12_keeps 12 = .ok (.iload_n 1, 1) := by decide +kernel
theorem dX12_keeps_13 : decode cX12_keeps 13 = .ok (.iload_n 2, 1) := by decide +kernel
theorem dX12_keeps_14 : decode cX12_keeps 14 = .ok (.iadd, 1) := by decide +kernel
theorem dX12_keeps_15 : decode cX12_keeps 15 = .ok (.aload_n 0, 1) := by decide +kernel
theorem dX12_keeps_16 : decode cX12_keeps 16 = .ok (.getfield 7, 3) := by decide +kernel
theorem dX12_keeps_19 : decode cX12_keeps 19 = .ok (.iload_n 2, 1) := by decide +kernel
theorem dX12_keeps_20 : decode cX12_keeps 20 = .ok (.iaload, 1) := by decide +kernel
theorem dX12_keeps_21 : decode cX12_keeps 21 = .ok (.iastore, 1) := by decide +kernel
theorem dX12_keeps_22 : decode cX12_keeps 22 = .ok (.iinc 2 1, 3) := by decide +kernel
theorem dX12_keeps_25 : decode cX12_keeps 25 = .ok (.goto (-23), 3) := by decide +kernel
theorem dX12_keeps_28 : decode cX12_keeps 28 = .ok (.return_, 1) := by decide +kernel
theorem mv_X12_keeps : MV yX12_keeps RX12 cX12_keeps 3 none 1 := ⟨tb_1759, tb_1758, ts_96, tb_16, by decide +kernel, by decide +kernel, by decide +kernel⟩
def f_X12_keeps_b2 (fu : Nat) (x1 : Int32) (k2 : (Nat → Int32) → Int32 → (Option ((Nat → Int32)))) (m_at : Nat → Int32) (x2 : Int32) : Option ((Nat → Int32)) := (if 120 ≤ x2 then some (m_at) else (rdI m_at 3648 x2).bind fun y_6 => (wrI m_at 3648 (x1 + x2) y_6).bind fun m_at_7 => bnd (x2 + 1) fun x2_8 => k2 m_at_7 x2_8)
def f_X12_keeps_l2 (fu : Nat) (x1 : Int32) : Nat → (Nat → Int32) → Int32 → (Option ((Nat → Int32)))
  | 0, _, _ => none
  | n + 1, m_at, x2 => f_X12_keeps_b2 fu x1 (f_X12_keeps_l2 fu x1 n) m_at x2
def f_X12_keeps (fu : Nat) (m_at : Nat → Int32) (x1 : Int32) : Option ((Nat → Int32)) := f_X12_keeps_l2 fu x1 fu m_at 0
abbrev rm_X12_keeps : Room := { frames := 0, cells := 0, slots := 0, locals := 0 }
set_option maxHeartbeats 4000000 in
set_option maxRecDepth 100000 in
theorem c_X12_keeps (l : Launch) (D : va_G) (cy : Nat → ClassId) (fu : Nat) (A_m : Nat → Nat) (m_at : Nat → Int32) (m_names : Nat → Int64) (m_status : Int32) (m_top : Int64) (m_bottom : Int64) (m_sort : Nat → Int32) (m_trayMany : Nat → Int32) (m_trays : Nat → Int64) (m_tape : Nat → Int32) (m_text : Nat → Int32) (m_taped : Int32) (m_size : Int32) (m_token : Int32) (m_from : Int32) (m_end : Int32) (m_value : Int32) (m_faultKind : Int32) (m_faultPlace : Int32) (m_faults : Int32) (m_seen : Int32) (m_toldParts : Int32) (m_opened : Nat → Int32) (m_depth : Int32) (m_counted : Int32) (m_bestOrder : Int32) (m_standers : Nat → Int32) (m_has : Nat → Int32) (m_bestHas : Nat → Int32) (m_standerMany : Int32) (m_bestCouples : Int32) (m_bestFondness : Int32) (m_cameTo : Nat → Int32) (m_doesStandFirst : Int32) (m_stoodBy : Nat → Int64) (m_drawn : Int32) (m_ranSteps : Int32) (m_loops : Nat → Int32) (m_ran : Nat → Int32) (m_told1 : Nat → Int32) (m_isTold : Int32) (m_marks : Int32) (x1 : Int32) (res : (Nat → Int32)) (h : f_X12_keeps fu m_at x1 = some res) (A : Nat → Prop) (hA : A = adr [bl_X12 cy A_m m_at m_names m_status m_top m_bottom m_sort m_trayMany m_trays m_tape m_text m_taped m_size m_token m_from m_end m_value m_faultKind m_faultPlace m_faults m_seen m_toldParts m_opened m_depth m_counted m_bestOrder m_standers m_has m_bestHas m_standerMany m_bestCouples m_bestFondness m_cameTo m_doesStandFirst m_stoodBy m_drawn m_ranSteps m_loops m_ran m_told1 m_isTold m_marks]) (W1 : List va_W) (hW1 : W1 = [bl_X12 cy A_m res m_names m_status m_top m_bottom m_sort m_trayMany m_trays m_tape m_text m_taped m_size m_token m_from m_end m_value m_faultKind m_faultPlace m_faults m_seen m_toldParts m_opened m_depth m_counted m_bestOrder m_standers m_has m_bestHas m_standerMany m_bestCouples m_bestFondness m_cameTo m_doesStandFirst m_stoodBy m_drawn m_ranSteps m_loops m_ran m_told1 m_isTold m_marks]) : Met l yX12_keeps (WW yX12_keeps cX12_keeps 3 none) rm_X12_keeps (Ed D cy [.ref (A_m 0), .int x1] [bl_X12 cy A_m m_at m_names m_status m_top m_bottom m_sort m_trayMany m_trays m_tape m_text m_taped m_size m_token m_from m_end m_value m_faultKind m_faultPlace m_faults m_seen m_toldParts m_opened m_depth m_counted m_bestOrder m_standers m_has m_bestHas m_standerMany m_bestCouples m_bestFondness m_cameTo m_doesStandFirst m_stoodBy m_drawn m_ranSteps m_loops m_ran m_told1 m_isTold m_marks]) (Qev D A W1) 0 0 A := by
  refine Met.ofW (cc := cX12_keeps) (maxL := 3) (ret := none) (by decide) rfl ?_
  intro p e s m args below meth c s₁ B hml hv
  obtain ⟨hargs, hP, hX, hD0⟩ := hv
  have hx := B.exec
  have hb := B.bytes
  have hr := B.returns
  have ht : ∀ w ∈ lw_gd, w.before args s = true := fun w hw => atoms_spec (ws := WW yX12_keeps cX12_keeps 3 none) B.pre w (List.mem_cons_of_mem _ hw)
  have hown : s.vm.findClass RX12 = some m.cls := findClass_of_methodNamed B.named
  have hlocks := B.notSynchronized
  have hP : PD D A [bl_X12 cy A_m m_at m_names m_status m_top m_bottom m_sort m_trayMany m_trays m_tape m_text m_taped m_size m_token m_from m_end m_value m_faultKind m_faultPlace m_faults m_seen m_toldParts m_opened m_depth m_counted m_bestOrder m_standers m_has m_bestHas m_standerMany m_bestCouples m_bestFondness m_cameTo m_doesStandFirst m_stoodBy m_drawn m_ranSteps m_loops m_ran m_told1 m_isTold m_marks] s.heap := ⟨hP, by rw [hA]; exact hD0.own⟩
  have hS : va_S A s.heap s.heap [] := va_S.rf
  obtain ⟨ls, hl, hent⟩ := ent (m := m) (n := 3) hargs (Nat.le_of_ble_eq_true rfl) (lv := [(0, .ref (A_m 0)), (1, .int x1)]) rfl
  rw [hent]
  clear hent
  have l2 : ∀ (n2 : Nat) (m_at : Nat → Int32) (x2 : Int32) (H : Heap) (locs : List Loc) (_ : PD D A [bl_X12 cy A_m m_at m_names m_status m_top m_bottom m_sort m_trayMany m_trays m_tape m_text m_taped m_size m_token m_from m_end m_value m_faultKind m_faultPlace m_faults m_seen m_toldParts m_opened m_depth m_counted m_bestOrder m_standers m_has m_bestHas m_standerMany m_bestCouples m_bestFondness m_cameTo m_doesStandFirst m_stoodBy m_drawn m_ranSteps m_loops m_ran m_told1 m_isTold m_marks] H) (_ : va_S A s.heap H locs) (ls : Array Slot), lv_has ls 3 [(0, .ref (A_m 0)), (1, .int x1), (2, .int x2)] → f_X12_keeps_l2 fu x1 n2 m_at x2 = some res → W p l e (headSpec (WW yX12_keeps cX12_keeps 3 none) rm_X12_keeps).room s m args below meth c H locs 0 0 (MQ below (Qev D A W1) args s 0 0 A) (F0 m 2 ls []) := by
    intro n2
    induction n2 with
    | zero => intro m_at x2 H locs hP hS ls hl h; cases h
    | succ n2 ih2 =>
      intro m_at x2 H locs hP hS ls hl h
      have h : f_X12_keeps_b2 fu x1 (f_X12_keeps_l2 fu x1 n2) m_at x2 = some res := h
      unfold f_X12_keeps_b2 at h
      refine lv_iload_n hx hb dX12_keeps_2 rfl (lv_at hl 2 rfl) ?_
      refine lv_bipush (v := 120) hx hb dX12_keeps_3 (by decide) ?_
      refine lv_icmp_ge (tgt := 28) hx hb dX12_keeps_5 (by decide) (fun c_5 => ?_) (fun c_5 => ?_)
      · have h := it c_5 h
        cases h
        subst hW1
        exact W.vret hx hb hr (fun _ ht9 _ => ⟨⟨(), rfl, trivial, hPt ht9 hP.1⟩, hS.F ht9⟩) hS.2.2 dX12_keeps_28
      · have h := ie c_5 h
        refine lv_aload_n hx hb dX12_keeps_8 rfl (lv_at hl 0 rfl) ?_
        refine xget (i := 0) (j := 0) (k := 0) (T := TX12) hx hb ht tb_iX12 hown hX hP.1 rfl rfl rfl (by decide) tb_1229 rfl dX12_keeps_9 ?_
        refine lv_iload_n hx hb dX12_keeps_12 rfl (lv_at hl 1 rfl) ?_
        refine lv_iload_n hx hb dX12_keeps_13 rfl (lv_at hl 2 rfl) ?_
        refine lv_iadd hx hb dX12_keeps_14 ?_
        refine lv_aload_n hx hb dX12_keeps_15 rfl (lv_at hl 0 rfl) ?_
        refine xget (i := 0) (j := 0) (k := 0) (T := TX12) hx hb ht tb_iX12 hown hX hP.1 rfl rfl rfl (by decide) tb_1229 rfl dX12_keeps_16 ?_
        refine lv_iload_n hx hb dX12_keeps_19 rfl (lv_at hl 2 rfl) ?_
        obtain ⟨y_6, e_y_6, h⟩ := bi h
        refine xiald (i0 := 0) (j0 := 1) hx hb hX hP.1 rfl rfl e_y_6 dX12_keeps_20 ?_
        obtain ⟨m_at_7, e_m_at_7, h⟩ := bi h
        refine xiast (i0 := 0) (j0 := 1) hx hb hX hP hS rfl rfl e_m_at_7 dX12_keeps_21 (fun H locs hP hS => ?_)
        have hP : PD D A [bl_X12 cy A_m m_at_7 m_names m_status m_top m_bottom m_sort m_trayMany m_trays m_tape m_text m_taped m_size m_token m_from m_end m_value m_faultKind m_faultPlace m_faults m_seen m_toldParts m_opened m_depth m_counted m_bestOrder m_standers m_has m_bestHas m_standerMany m_bestCouples m_bestFondness m_cameTo m_doesStandFirst m_stoodBy m_drawn m_ranSteps m_loops m_ran m_told1 m_isTold m_marks] H := hP
        obtain ⟨x2_8, e_x2_8⟩ : ∃ y : Int32, y = x2 + 1 := ⟨_, rfl⟩
        have h := bn e_x2_8 h
        refine lv_iinc (v := x2_8) (lv' := [(2, .int x2_8), (0, .ref (A_m 0)), (1, .int x1)]) hx hb dX12_keeps_22 hl (k := 2) rfl (by rw [e_x2_8]; rfl) (by decide) rfl (fun ls hl => ?_)
        refine lv_goto (tgt := 2) hx hb dX12_keeps_25 (by decide) ?_
        exact ih2 m_at_7 x2_8 _ _ hP hS ls (lv_sub hl [1, 2, 0] rfl) h
  unfold f_X12_keeps at h
  refine lv_iconst (v := 0) hx hb dX12_keeps_0 (by decide) ?_
  refine lv_istore_n (lv' := [(2, .int 0), (0, .ref (A_m 0)), (1, .int x1)]) hx hb dX12_keeps_1 rfl hl (by decide) rfl (fun ls hl => ?_)
  exact l2 fu m_at 0 _ _ hP hS ls (lv_sub hl [1, 2, 0] rfl) h
theorem dX12_restores_0 : decode cX12_restores 0 = .ok (.iconst 0, 1) := by decide +kernel
theorem dX12_restores_1 : decode cX12_restores 1 = .ok (.istore_n 2, 1) := by decide +kernel
theorem dX12_restores_2 : decode cX12_restores 2 = .ok (.iload_n 2, 1) := by decide +kernel
theorem dX12_restores_3 : decode cX12_restores 3 = .ok (.bipush 120, 2) := by decide +kernel
theorem dX12_restores_5 : decode cX12_restores 5 = .ok (.if_icmp .ge 23, 3) := by decide +kernel
theorem dX12_restores_8 : decode cX12_restores 8 = .ok (.aload_n 0, 1) := by decide +kernel
theorem dX12_restores_9 : decode cX12_restores 9 = .ok (.getfield 7, 3) := by decide +kernel
theorem dX12_restores_12 : decode cX12_restores 12 = .ok (.iload_n 2, 1) := by decide +kernel
theorem dX12_restores_13 : decode cX12_restores 13 = .ok (.aload_n 0, 1) := by decide +kernel
theorem dX12_restores_14 : decode cX12_restores 14 = .ok (.getfield 7, 3) := by decide +kernel
theorem dX12_restores_17 : decode cX12_restores 17 = .ok (.iload_n 1, 1) := by decide +kernel
theorem dX12_restores_18 : decode cX12_restores 18 = .ok (.iload_n 2, 1) := by decide +kernel
theorem dX12_restores_19 : decode cX12_restores 19 = .ok (.iadd, 1) := by decide +kernel
theorem dX12_restores_20 : decode cX12_restores 20 = .ok (.iaload, 1) := by decide +kernel
theorem dX12_restores_21 : decode cX12_restores 21 = .ok (.iastore, 1) := by decide +kernel
theorem dX12_restores_22 : decode cX12_restores 22 = .ok (.iinc 2 1, 3) := by decide +kernel
theorem dX12_restores_25 : decode cX12_restores 25 = .ok (.goto (-23), 3) := by decide +kernel
theorem dX12_restores_28 : decode cX12_restores 28 = .ok (.return_, 1) := by decide +kernel
theorem mv_X12_restores : MV yX12_restores RX12 cX12_restores 3 none 1 := ⟨tb_1767, tb_1766, ts_98, tb_16, by decide +kernel, by decide +kernel, by decide +kernel⟩
def f_X12_restores_b2 (fu : Nat) (x1 : Int32) (k2 : (Nat → Int32) → Int32 → (Option ((Nat → Int32)))) (m_at : Nat → Int32) (x2 : Int32) : Option ((Nat → Int32)) := (if 120 ≤ x2 then some (m_at) else (rdI m_at 3648 (x1 + x2)).bind fun y_6 => (wrI m_at 3648 x2 y_6).bind fun m_at_7 => bnd (x2 + 1) fun x2_8 => k2 m_at_7 x2_8)
def f_X12_restores_l2 (fu : Nat) (x1 : Int32) : Nat → (Nat → Int32) → Int32 → (Option ((Nat → Int32)))
  | 0, _, _ => none
  | n + 1, m_at, x2 => f_X12_restores_b2 fu x1 (f_X12_restores_l2 fu x1 n) m_at x2
def f_X12_restores (fu : Nat) (m_at : Nat → Int32) (x1 : Int32) : Option ((Nat → Int32)) := f_X12_restores_l2 fu x1 fu m_at 0
abbrev rm_X12_restores : Room := { frames := 0, cells := 0, slots := 0, locals := 0 }
set_option maxHeartbeats 4000000 in
set_option maxRecDepth 100000 in
theorem c_X12_restores (l : Launch) (D : va_G) (cy : Nat → ClassId) (fu : Nat) (A_m : Nat → Nat) (m_at : Nat → Int32) (m_names : Nat → Int64) (m_status : Int32) (m_top : Int64) (m_bottom : Int64) (m_sort : Nat → Int32) (m_trayMany : Nat → Int32) (m_trays : Nat → Int64) (m_tape : Nat → Int32) (m_text : Nat → Int32) (m_taped : Int32) (m_size : Int32) (m_token : Int32) (m_from : Int32) (m_end : Int32) (m_value : Int32) (m_faultKind : Int32) (m_faultPlace : Int32) (m_faults : Int32) (m_seen : Int32) (m_toldParts : Int32) (m_opened : Nat → Int32) (m_depth : Int32) (m_counted : Int32) (m_bestOrder : Int32) (m_standers : Nat → Int32) (m_has : Nat → Int32) (m_bestHas : Nat → Int32) (m_standerMany : Int32) (m_bestCouples : Int32) (m_bestFondness : Int32) (m_cameTo : Nat → Int32) (m_doesStandFirst : Int32) (m_stoodBy : Nat → Int64) (m_drawn : Int32) (m_ranSteps : Int32) (m_loops : Nat → Int32) (m_ran : Nat → Int32) (m_told1 : Nat → Int32) (m_isTold : Int32) (m_marks : Int32) (x1 : Int32) (res : (Nat → Int32)) (h : f_X12_restores fu m_at x1 = some res) (A : Nat → Prop) (hA : A = adr [bl_X12 cy A_m m_at m_names m_status m_top m_bottom m_sort m_trayMany m_trays m_tape m_text m_taped m_size m_token m_from m_end m_value m_faultKind m_faultPlace m_faults m_seen m_toldParts m_opened m_depth m_counted m_bestOrder m_standers m_has m_bestHas m_standerMany m_bestCouples m_bestFondness m_cameTo m_doesStandFirst m_stoodBy m_drawn m_ranSteps m_loops m_ran m_told1 m_isTold m_marks]) (W1 : List va_W) (hW1 : W1 = [bl_X12 cy A_m res m_names m_status m_top m_bottom m_sort m_trayMany m_trays m_tape m_text m_taped m_size m_token m_from m_end m_value m_faultKind m_faultPlace m_faults m_seen m_toldParts m_opened m_depth m_counted m_bestOrder m_standers m_has m_bestHas m_standerMany m_bestCouples m_bestFondness m_cameTo m_doesStandFirst m_stoodBy m_drawn m_ranSteps m_loops m_ran m_told1 m_isTold m_marks]) : Met l yX12_restores (WW yX12_restores cX12_restores 3 none) rm_X12_restores (Ed D cy [.ref (A_m 0), .int x1] [bl_X12 cy A_m m_at m_names m_status m_top m_bottom m_sort m_trayMany m_trays m_tape m_text m_taped m_size m_token m_from m_end m_value m_faultKind m_faultPlace m_faults m_seen m_toldParts m_opened m_depth m_counted m_bestOrder m_standers m_has m_bestHas m_standerMany m_bestCouples m_bestFondness m_cameTo m_doesStandFirst m_stoodBy m_drawn m_ranSteps m_loops m_ran m_told1 m_isTold m_marks]) (Qev D A W1) 0 0 A := by
  refine Met.ofW (cc := cX12_restores) (maxL := 3) (ret := none) (by decide) rfl ?_
  intro p e s m args below meth c s₁ B hml hv
  obtain ⟨hargs, hP, hX, hD0⟩ := hv
  have hx := B.exec
  have hb := B.bytes
  have hr := B.returns
  have ht : ∀ w ∈ lw_gd, w.before args s = true := fun w hw => atoms_spec (ws := WW yX12_restores cX12_restores 3 none) B.pre w (List.mem_cons_of_mem _ hw)
  have hown : s.vm.findClass RX12 = some m.cls := findClass_of_methodNamed B.named
  have hlocks := B.notSynchronized
  have hP : PD D A [bl_X12 cy A_m m_at m_names m_status m_top m_bottom m_sort m_trayMany m_trays m_tape m_text m_taped m_size m_token m_from m_end m_value m_faultKind m_faultPlace m_faults m_seen m_toldParts m_opened m_depth m_counted m_bestOrder m_standers m_has m_bestHas m_standerMany m_bestCouples m_bestFondness m_cameTo m_doesStandFirst m_stoodBy m_drawn m_ranSteps m_loops m_ran m_told1 m_isTold m_marks] s.heap := ⟨hP, by rw [hA]; exact hD0.own⟩
  have hS : va_S A s.heap s.heap [] := va_S.rf
  obtain ⟨ls, hl, hent⟩ := ent (m := m) (n := 3) hargs (Nat.le_of_ble_eq_true rfl) (lv := [(0, .ref (A_m 0)), (1, .int x1)]) rfl
  rw [hent]
  clear hent
  have l2 : ∀ (n2 : Nat) (m_at : Nat → Int32) (x2 : Int32) (H : Heap) (locs : List Loc) (_ : PD D A [bl_X12 cy A_m m_at m_names m_status m_top m_bottom m_sort m_trayMany m_trays m_tape m_text m_taped m_size m_token m_from m_end m_value m_faultKind m_faultPlace m_faults m_seen m_toldParts m_opened m_depth m_counted m_bestOrder m_standers m_has m_bestHas m_standerMany m_bestCouples m_bestFondness m_cameTo m_doesStandFirst m_stoodBy m_drawn m_ranSteps m_loops m_ran m_told1 m_isTold m_marks] H) (_ : va_S A s.heap H locs) (ls : Array Slot), lv_has ls 3 [(0, .ref (A_m 0)), (1, .int x1), (2, .int x2)] → f_X12_restores_l2 fu x1 n2 m_at x2 = some res → W p l e (headSpec (WW yX12_restores cX12_restores 3 none) rm_X12_restores).room s m args below meth c H locs 0 0 (MQ below (Qev D A W1) args s 0 0 A) (F0 m 2 ls []) := by
    intro n2
    induction n2 with
    | zero => intro m_at x2 H locs hP hS ls hl h; cases h
    | succ n2 ih2 =>
      intro m_at x2 H locs hP hS ls hl h
      have h : f_X12_restores_b2 fu x1 (f_X12_restores_l2 fu x1 n2) m_at x2 = some res := h
      unfold f_X12_restores_b2 at h
      refine lv_iload_n hx hb dX12_restores_2 rfl (lv_at hl 2 rfl) ?_
      refine lv_bipush (v := 120) hx hb dX12_restores_3 (by decide) ?_
      refine lv_icmp_ge (tgt := 28) hx hb dX12_restores_5 (by decide) (fun c_5 => ?_) (fun c_5 => ?_)
      · have h := it c_5 h
        cases h
        subst hW1
        exact W.vret hx hb hr (fun _ ht9 _ => ⟨⟨(), rfl, trivial, hPt ht9 hP.1⟩, hS.F ht9⟩) hS.2.2 dX12_restores_28
      · have h := ie c_5 h
        refine lv_aload_n hx hb dX12_restores_8 rfl (lv_at hl 0 rfl) ?_
        refine xget (i := 0) (j := 0) (k := 0) (T := TX12) hx hb ht tb_iX12 hown hX hP.1 rfl rfl rfl (by decide) tb_1229 rfl dX12_restores_9 ?_
        refine lv_iload_n hx hb dX12_restores_12 rfl (lv_at hl 2 rfl) ?_
        refine lv_aload_n hx hb dX12_restores_13 rfl (lv_at hl 0 rfl) ?_
        refine xget (i := 0) (j := 0) (k := 0) (T := TX12) hx hb ht tb_iX12 hown hX hP.1 rfl rfl rfl (by decide) tb_1229 rfl dX12_restores_14 ?_
        refine lv_iload_n hx hb dX12_restores_17 rfl (lv_at hl 1 rfl) ?_
        refine lv_iload_n hx hb dX12_restores_18 rfl (lv_at hl 2 rfl) ?_
        refine lv_iadd hx hb dX12_restores_19 ?_
        obtain ⟨y_6, e_y_6, h⟩ := bi h
        refine xiald (i0 := 0) (j0 := 1) hx hb hX hP.1 rfl rfl e_y_6 dX12_restores_20 ?_
        obtain ⟨m_at_7, e_m_at_7, h⟩ := bi h
        refine xiast (i0 := 0) (j0 := 1) hx hb hX hP hS rfl rfl e_m_at_7 dX12_restores_21 (fun H locs hP hS => ?_)
        have hP : PD D A [bl_X12 cy A_m m_at_7 m_names m_status m_top m_bottom m_sort m_trayMany m_trays m_tape m_text m_taped m_size m_token m_from m_end m_value m_faultKind m_faultPlace m_faults m_seen m_toldParts m_opened m_depth m_counted m_bestOrder m_standers m_has m_bestHas m_standerMany m_bestCouples m_bestFondness m_cameTo m_doesStandFirst m_stoodBy m_drawn m_ranSteps m_loops m_ran m_told1 m_isTold m_marks] H := hP
        obtain ⟨x2_8, e_x2_8⟩ : ∃ y : Int32, y = x2 + 1 := ⟨_, rfl⟩
        have h := bn e_x2_8 h
        refine lv_iinc (v := x2_8) (lv' := [(2, .int x2_8), (0, .ref (A_m 0)), (1, .int x1)]) hx hb dX12_restores_22 hl (k := 2) rfl (by rw [e_x2_8]; rfl) (by decide) rfl (fun ls hl => ?_)
        refine lv_goto (tgt := 2) hx hb dX12_restores_25 (by decide) ?_
        exact ih2 m_at_7 x2_8 _ _ hP hS ls (lv_sub hl [1, 2, 0] rfl) h
  unfold f_X12_restores at h
  refine lv_iconst (v := 0) hx hb dX12_restores_0 (by decide) ?_
  refine lv_istore_n (lv' := [(2, .int 0), (0, .ref (A_m 0)), (1, .int x1)]) hx hb dX12_restores_1 rfl hl (by decide) rfl (fun ls hl => ?_)
  exact l2 fu m_at 0 _ _ hP hS ls (lv_sub hl [1, 2, 0] rfl) h
theorem dX12_wrongSizes_0 : decode cX12_wrongSizes 0 = .ok (.iload_n 1, 1) := by decide +kernel
theorem dX12_wrongSizes_1 : decode cX12_wrongSizes 1 = .ok (.invokestatic 95, 3) := by decide +kernel
theorem dX12_wrongSizes_4 : decode cX12_wrongSizes 4 = .ok (.ifCond .eq 16, 3) := by decide +kernel
theorem dX12_wrongSizes_7 : decode cX12_wrongSizes 7 = .ok (.iload_n 2, 1) := by decide +kernel
theorem dX12_wrongSizes_8 : decode cX12_wrongSizes 8 = .ok (.i2l, 1) := by decide +kernel
theorem dX12_wrongSizes_9 : decode cX12_wrongSizes 9 = .ok (.iload_n 3, 1) := by decide +kernel
theorem dX12_wrongSizes_10 : decode cX12_wrongSizes 10 = .ok (.i2l, 1) := by decide +kernel
theorem dX12_wrongSizes_11 : decode cX12_wrongSizes 11 = .ok (.ldc2_w 340, 3) := by decide +kernel
theorem dX12_wrongSizes_14 : decode cX12_wrongSizes 14 = .ok (.invokestatic 246, 3) := by decide +kernel
theorem dX12_wrongSizes_17 : decode cX12_wrongSizes 17 = .ok (.ifCond .ne 5, 3) := by decide +kernel
theorem dX12_wrongSizes_20 : decode cX12_wrongSizes 20 = .ok (.iconst 1, 1) := by decide +kernel
theorem dX12_wrongSizes_21 : decode cX12_wrongSizes 21 = .ok (.ireturn, 1) := by decide +kernel
theorem dX12_wrongSizes_22 : decode cX12_wrongSizes 22 = .ok (.aload_n 0, 1) := by decide +kernel
theorem dX12_wrongSizes_23 : decode cX12_wrongSizes 23 = .ok (.getfield 24, 3) := by decide +kernel
theorem dX12_wrongSizes_26 : decode cX12_wrongSizes 26 = .ok (.iload_n 1, 1) := by decide +kernel
theorem dX12_wrongSizes_27 : decode cX12_wrongSizes 27 = .ok (.iaload, 1) := by decide +kernel
theorem dX12_wrongSizes_28 : decode cX12_wrongSizes 28 = .ok (.iconst (-1), 1) := by decide +kernel
theorem dX12_wrongSizes_29 : decode cX12_wrongSizes 29 = .ok (.if_icmp .ne 5, 3) := by decide +kernel
theorem dX12_wrongSizes_32 : decode cX12_wrongSizes 32 = .ok (.iconst 2, 1) := by decide +kernel
theorem dX12_wrongSizes_33 : decode cX12_wrongSizes 33 = .ok (.ireturn, 1) := by decide +kernel
theorem dX12_wrongSizes_34 : decode cX12_wrongSizes 34 = .ok (.aload_n 0, 1) := by decide +kernel
theorem dX12_wrongSizes_35 : decode cX12_wrongSizes 35 = .ok (.getfield 24, 3) := by decide +kernel
theorem dX12_wrongSizes_38 : decode cX12_wrongSizes 38 = .ok (.iload_n 1, 1) := by decide +kernel
theorem dX12_wrongSizes_39 : decode cX12_wrongSizes 39 = .ok (.iaload, 1) := by decide +kernel
theorem dX12_wrongSizes_40 : decode cX12_wrongSizes 40 = .ok (.iload_n 2, 1) := by decide +kernel
theorem dX12_wrongSizes_41 : decode cX12_wrongSizes 41 = .ok (.if_icmp .ge 5, 3) := by decide +kernel
theorem dX12_wrongSizes_44 : decode cX12_wrongSizes 44 = .ok (.iconst 3, 1) := by decide +kernel
theorem dX12_wrongSizes_45 : decode cX12_wrongSizes 45 = .ok (.ireturn, 1) := by decide +kernel
theorem dX12_wrongSizes_46 : decode cX12_wrongSizes 46 = .ok (.iconst 0, 1) := by decide +kernel
theorem dX12_wrongSizes_47 : decode cX12_wrongSizes 47 = .ok (.istore 4, 2) := by decide +kernel
theorem dX12_wrongSizes_49 : decode cX12_wrongSizes 49 = .ok (.iload 4, 2) := by decide +kernel
theorem dX12_wrongSizes_51 : decode cX12_wrongSizes 51 = .ok (.iload_n 2, 1) := by decide +kernel
theorem dX12_wrongSizes_52 : decode cX12_wrongSizes 52 = .ok (.if_icmp .ge 29, 3) := by decide +kernel
theorem dX12_wrongSizes_55 : decode cX12_wrongSizes 55 = .ok (.aload_n 0, 1) := by decide +kernel
theorem dX12_wrongSizes_56 : decode cX12_wrongSizes 56 = .ok (.getfield 27, 3) := by decide +kernel
theorem dX12_wrongSizes_59 : decode cX12_wrongSizes 59 = .ok (.bipush 60, 2) := by decide +kernel
theorem dX12_wrongSizes_61 : decode cX12_wrongSizes 61 = .ok (.iload_n 1, 1) := by decide +kernel
theorem dX12_wrongSizes_62 : decode cX12_wrongSizes 62 = .ok (.imul, 1) := by decide +kernel
theorem dX12_wrongSizes_63 : decode cX12_wrongSizes 63 = .ok (.iload 4, 2) := by decide +kernel
theorem dX12_wrongSizes_65 : decode cX12_wrongSizes 65 = .ok (.iadd, 1) := by decide +kernel
theorem dX12_wrongSizes_66 : decode cX12_wrongSizes 66 = .ok (.laload, 1) := by decide +kernel
theorem dX12_wrongSizes_67 : decode cX12_wrongSizes 67 = .ok (.invokestatic 292, 3) := by decide +kernel
theorem dX12_wrongSizes_70 : decode cX12_wrongSizes 70 = .ok (.ifCond .ne 5, 3) := by decide +kernel
theorem dX12_wrongSizes_73 : decode cX12_wrongSizes 73 = .ok (.iconst 5, 1) := by decide +kernel
theorem dX12_wrongSizes_74 : decode cX12_wrongSizes 74 = .ok (.ireturn, 1) := by decide +kernel
theorem dX12_wrongSizes_75 : decode cX12_wrongSizes 75 = .ok (.iinc 4 1, 3) := by decide +kernel
theorem dX12_wrongSizes_78 : decode cX12_wrongSizes 78 = .ok (.goto (-29), 3) := by decide +kernel
theorem dX12_wrongSizes_81 : decode cX12_wrongSizes 81 = .ok (.iconst 0, 1) := by decide +kernel
theorem dX12_wrongSizes_82 : decode cX12_wrongSizes 82 = .ok (.ireturn, 1) := by decide +kernel
theorem mv_X12_wrongSizes : MV yX12_wrongSizes RX12 cX12_wrongSizes 5 (some .int) 3 := ⟨tb_1745, tb_1744, ts_93, tb_16, by decide +kernel, by decide +kernel, by decide +kernel⟩
def f_X12_wrongSizes_b49 (fu : Nat) (m_trayMany : Nat → Int32) (m_trays : Nat → Int64) (x1 : Int32) (x2 : Int32) (x3 : Int32) (k49 : Int32 → Option (Int32)) (x4 : Int32) : Option (Int32) := (if x2 ≤ x4 then some (0) else (rdJ m_trays 240 ((60 * x1) + x4)).bind fun y_15 => (f_X12_isSize fu y_15).bind fun z_16 => (if z_16 = 0 then some (5) else bnd (x4 + 1) fun x4_18 => k49 x4_18))
def f_X12_wrongSizes_l49 (fu : Nat) (m_trayMany : Nat → Int32) (m_trays : Nat → Int64) (x1 : Int32) (x2 : Int32) (x3 : Int32) : Nat → Int32 → Option (Int32)
  | 0, _ => none
  | n + 1, x4 => f_X12_wrongSizes_b49 fu m_trayMany m_trays x1 x2 x3 (f_X12_wrongSizes_l49 fu m_trayMany m_trays x1 x2 x3 n) x4
def f_X12_wrongSizes (fu : Nat) (m_trayMany : Nat → Int32) (m_trays : Nat → Int64) (x1 : Int32) (x2 : Int32) (x3 : Int32) : Option (Int32) := (f_X12_isTray fu x1).bind fun z_19 => (if z_19 = 0 then some (1) else (f_X12_isFrom fu (Int32.toInt64 x2) (Int32.toInt64 x3) 4).bind fun z_21 => (if z_21 = 0 then some (1) else (rdI m_trayMany 4 x1).bind fun y_23 => (if y_23 = (-1) then some (2) else (rdI m_trayMany 4 x1).bind fun y_25 => (if x2 ≤ y_25 then f_X12_wrongSizes_l49 fu m_trayMany m_trays x1 x2 x3 fu 0 else some (3)))))
abbrev rm_X12_wrongSizes : Room := { frames := 2, cells := 0, slots := 0, locals := 46 }
set_option maxHeartbeats 4000000 in
set_option maxRecDepth 100000 in
theorem c_X12_wrongSizes (l : Launch) (D : va_G) (cy : Nat → ClassId) (fu : Nat) (A_m : Nat → Nat) (m_at : Nat → Int32) (m_names : Nat → Int64) (m_status : Int32) (m_top : Int64) (m_bottom : Int64) (m_sort : Nat → Int32) (m_trayMany : Nat → Int32) (m_trays : Nat → Int64) (m_tape : Nat → Int32) (m_text : Nat → Int32) (m_taped : Int32) (m_size : Int32) (m_token : Int32) (m_from : Int32) (m_end : Int32) (m_value : Int32) (m_faultKind : Int32) (m_faultPlace : Int32) (m_faults : Int32) (m_seen : Int32) (m_toldParts : Int32) (m_opened : Nat → Int32) (m_depth : Int32) (m_counted : Int32) (m_bestOrder : Int32) (m_standers : Nat → Int32) (m_has : Nat → Int32) (m_bestHas : Nat → Int32) (m_standerMany : Int32) (m_bestCouples : Int32) (m_bestFondness : Int32) (m_cameTo : Nat → Int32) (m_doesStandFirst : Int32) (m_stoodBy : Nat → Int64) (m_drawn : Int32) (m_ranSteps : Int32) (m_loops : Nat → Int32) (m_ran : Nat → Int32) (m_told1 : Nat → Int32) (m_isTold : Int32) (m_marks : Int32) (x1 : Int32) (x2 : Int32) (x3 : Int32) (res : Int32) (h : f_X12_wrongSizes fu m_trayMany m_trays x1 x2 x3 = some res) : Met l yX12_wrongSizes (WW yX12_wrongSizes cX12_wrongSizes 5 (some .int)) rm_X12_wrongSizes (Rd D cy [.ref (A_m 0), .int x1, .int x2, .int x3] [bl_X12 cy A_m m_at m_names m_status m_top m_bottom m_sort m_trayMany m_trays m_tape m_text m_taped m_size m_token m_from m_end m_value m_faultKind m_faultPlace m_faults m_seen m_toldParts m_opened m_depth m_counted m_bestOrder m_standers m_has m_bestHas m_standerMany m_bestCouples m_bestFondness m_cameTo m_doesStandFirst m_stoodBy m_drawn m_ranSteps m_loops m_ran m_told1 m_isTold m_marks]) (vp_Si (fun v => v = res)) 0 0 (fun _ => False) := by
  refine Met.ofW (cc := cX12_wrongSizes) (maxL := 5) (ret := (some .int)) (by decide) rfl ?_
  intro p e s m args below meth c s₁ B hml hv
  obtain ⟨hargs, hP, hX⟩ := hv
  have hx := B.exec
  have hb := B.bytes
  have hr := B.returns
  have ht : ∀ w ∈ lw_gd, w.before args s = true := fun w hw => atoms_spec (ws := WW yX12_wrongSizes cX12_wrongSizes 5 (some .int)) B.pre w (List.mem_cons_of_mem _ hw)
  have hown : s.vm.findClass RX12 = some m.cls := findClass_of_methodNamed B.named
  have hlocks := B.notSynchronized
  have hP : PB D [bl_X12 cy A_m m_at m_names m_status m_top m_bottom m_sort m_trayMany m_trays m_tape m_text m_taped m_size m_token m_from m_end m_value m_faultKind m_faultPlace m_faults m_seen m_toldParts m_opened m_depth m_counted m_bestOrder m_standers m_has m_bestHas m_standerMany m_bestCouples m_bestFondness m_cameTo m_doesStandFirst m_stoodBy m_drawn m_ranSteps m_loops m_ran m_told1 m_isTold m_marks] s.heap := hP
  obtain ⟨ls, hl, hent⟩ := ent (m := m) (n := 5) hargs (Nat.le_of_ble_eq_true rfl) (lv := [(0, .ref (A_m 0)), (1, .int x1), (2, .int x2), (3, .int x3)]) rfl
  rw [hent]
  clear hent
  have l49 : ∀ (n49 : Nat) (x4 : Int32) (ls : Array Slot), lv_has ls 5 [(0, .ref (A_m 0)), (1, .int x1), (2, .int x2), (4, .int x4)] → f_X12_wrongSizes_l49 fu m_trayMany m_trays x1 x2 x3 n49 x4 = some res → W p l e (headSpec (WW yX12_wrongSizes cX12_wrongSizes 5 (some .int)) rm_X12_wrongSizes).room s m args below meth c s.heap [] 0 0 (MQ below (vp_Si (fun v => v = res)) args s 0 0 (fun _ => False)) (F0 m 49 ls []) := by
    intro n49
    induction n49 with
    | zero => intro x4 ls hl h; cases h
    | succ n49 ih49 =>
      intro x4 ls hl h
      have h : f_X12_wrongSizes_b49 fu m_trayMany m_trays x1 x2 x3 (f_X12_wrongSizes_l49 fu m_trayMany m_trays x1 x2 x3 n49) x4 = some res := h
      unfold f_X12_wrongSizes_b49 at h
      refine lv_iload hx hb dX12_wrongSizes_49 (lv_at hl 3 rfl) ?_
      refine lv_iload_n hx hb dX12_wrongSizes_51 rfl (lv_at hl 2 rfl) ?_
      refine lv_icmp_ge (tgt := 81) hx hb dX12_wrongSizes_52 (by decide) (fun c_14 => ?_) (fun c_14 => ?_)
      · have h := it c_14 h
        refine lv_iconst (v := 0) hx hb dX12_wrongSizes_81 (by decide) ?_
        cases h
        exact W.iret hx hb hr (fun _ ht9 _ => ⟨_, rfl, rfl, ht9⟩) (fun _ hq => by cases hq) dX12_wrongSizes_82
      · have h := ie c_14 h
        refine lv_aload_n hx hb dX12_wrongSizes_55 rfl (lv_at hl 0 rfl) ?_
        refine xget (i := 0) (j := 0) (k := 7) (T := TX12) hx hb ht tb_iX12 hown hX hP rfl rfl rfl (by decide) tb_1236 rfl dX12_wrongSizes_56 ?_
        refine lv_bipush (v := 60) hx hb dX12_wrongSizes_59 (by decide) ?_
        refine lv_iload_n hx hb dX12_wrongSizes_61 rfl (lv_at hl 1 rfl) ?_
        refine lv_imul hx hb dX12_wrongSizes_62 ?_
        refine lv_iload hx hb dX12_wrongSizes_63 (lv_at hl 3 rfl) ?_
        refine lv_iadd hx hb dX12_wrongSizes_65 ?_
        obtain ⟨y_15, e_y_15, h⟩ := bi h
        refine xlald (i0 := 0) (j0 := 5) hx hb hX hP rfl rfl e_y_15 dX12_wrongSizes_66 ?_
        obtain ⟨z_16, e_z_16, h⟩ := bi h
        refine roSi (rest := []) ⟨hx, hb, hml, hown, ht⟩ (c_X12_isSize l D cy fu  y_15 z_16 e_z_16) (cS ht ms_X12_isSize tb_1571 rfl rfl ⟨Nat.le_of_ble_eq_true rfl, Nat.le_of_ble_eq_true rfl⟩) (P_sub hP [] rfl) hX rfl hl.1 rfl (Nat.le_of_ble_eq_true rfl) dX12_wrongSizes_67 ⟨Nat.le_of_ble_eq_true rfl, Nat.le_of_ble_eq_true rfl⟩ ?_
        refine lv_if_ne (tgt := 75) hx hb dX12_wrongSizes_70 (by decide) (fun c_17 => ?_) (fun c_17 => ?_)
        · have h := ie c_17 h
          obtain ⟨x4_18, e_x4_18⟩ : ∃ y : Int32, y = x4 + 1 := ⟨_, rfl⟩
          have h := bn e_x4_18 h
          refine lv_iinc (v := x4_18) (lv' := [(4, .int x4_18), (0, .ref (A_m 0)), (1, .int x1), (2, .int x2)]) hx hb dX12_wrongSizes_75 hl (k := 3) rfl (by rw [e_x4_18]; rfl) (by decide) rfl (fun ls hl => ?_)
          refine lv_goto (tgt := 49) hx hb dX12_wrongSizes_78 (by decide) ?_
          exact ih49 x4_18 ls (lv_sub hl [1, 2, 3, 0] rfl) h
        · have h := it c_17 h
          refine lv_iconst (v := 5) hx hb dX12_wrongSizes_73 (by decide) ?_
          cases h
          exact W.iret hx hb hr (fun _ ht9 _ => ⟨_, rfl, rfl, ht9⟩) (fun _ hq => by cases hq) dX12_wrongSizes_74
  unfold f_X12_wrongSizes at h
  refine lv_iload_n hx hb dX12_wrongSizes_0 rfl (lv_at hl 1 rfl) ?_
  obtain ⟨z_19, e_z_19, h⟩ := bi h
  refine roSi (rest := []) ⟨hx, hb, hml, hown, ht⟩ (c_X12_isTray l D cy fu  x1 z_19 e_z_19) (cS ht ms_X12_isTray tb_1369 rfl rfl ⟨Nat.le_of_ble_eq_true rfl, Nat.le_of_ble_eq_true rfl⟩) (P_sub hP [] rfl) hX rfl hl.1 rfl (Nat.le_of_ble_eq_true rfl) dX12_wrongSizes_1 ⟨Nat.le_of_ble_eq_true rfl, Nat.le_of_ble_eq_true rfl⟩ ?_
  refine lv_if_eq (tgt := 20) hx hb dX12_wrongSizes_4 (by decide) (fun c_20 => ?_) (fun c_20 => ?_)
  · have h := it c_20 h
    refine lv_iconst (v := 1) hx hb dX12_wrongSizes_20 (by decide) ?_
    cases h
    exact W.iret hx hb hr (fun _ ht9 _ => ⟨_, rfl, rfl, ht9⟩) (fun _ hq => by cases hq) dX12_wrongSizes_21
  · have h := ie c_20 h
    refine lv_iload_n hx hb dX12_wrongSizes_7 rfl (lv_at hl 2 rfl) ?_
    refine lv_i2l (v := Int32.toInt64 x2) hx hb dX12_wrongSizes_8 rfl ?_
    refine lv_iload_n hx hb dX12_wrongSizes_9 rfl (lv_at hl 3 rfl) ?_
    refine lv_i2l (v := Int32.toInt64 x3) hx hb dX12_wrongSizes_10 rfl ?_
    refine lv_ldc2 (v := 4) hx hb hown (ht _ tb_1746) dX12_wrongSizes_11 ?_
    obtain ⟨z_21, e_z_21, h⟩ := bi h
    refine roSi (rest := []) ⟨hx, hb, hml, hown, ht⟩ (c_X12_isFrom l D cy fu  (Int32.toInt64 x2) (Int32.toInt64 x3) 4 z_21 e_z_21) (cS ht ms_X12_isFrom tb_1575 rfl rfl ⟨Nat.le_of_ble_eq_true rfl, Nat.le_of_ble_eq_true rfl⟩) (P_sub hP [] rfl) hX rfl hl.1 rfl (Nat.le_of_ble_eq_true rfl) dX12_wrongSizes_14 ⟨Nat.le_of_ble_eq_true rfl, Nat.le_of_ble_eq_true rfl⟩ ?_
    refine lv_if_ne (tgt := 22) hx hb dX12_wrongSizes_17 (by decide) (fun c_22 => ?_) (fun c_22 => ?_)
    · have h := ie c_22 h
      refine lv_aload_n hx hb dX12_wrongSizes_22 rfl (lv_at hl 0 rfl) ?_
      refine xget (i := 0) (j := 0) (k := 6) (T := TX12) hx hb ht tb_iX12 hown hX hP rfl rfl rfl (by decide) tb_1235 rfl dX12_wrongSizes_23 ?_
      refine lv_iload_n hx hb dX12_wrongSizes_26 rfl (lv_at hl 1 rfl) ?_
      obtain ⟨y_23, e_y_23, h⟩ := bi h
      refine xiald (i0 := 0) (j0 := 4) hx hb hX hP rfl rfl e_y_23 dX12_wrongSizes_27 ?_
      refine lv_iconst (v := (-1)) hx hb dX12_wrongSizes_28 (by decide) ?_
      refine lv_icmp_ne (tgt := 34) hx hb dX12_wrongSizes_29 (by decide) (fun c_24 => ?_) (fun c_24 => ?_)
      · have h := ie c_24 h
        refine lv_aload_n hx hb dX12_wrongSizes_34 rfl (lv_at hl 0 rfl) ?_
        refine xget (i := 0) (j := 0) (k := 6) (T := TX12) hx hb ht tb_iX12 hown hX hP rfl rfl rfl (by decide) tb_1235 rfl dX12_wrongSizes_35 ?_
        refine lv_iload_n hx hb dX12_wrongSizes_38 rfl (lv_at hl 1 rfl) ?_
        obtain ⟨y_25, e_y_25, h⟩ := bi h
        refine xiald (i0 := 0) (j0 := 4) hx hb hX hP rfl rfl e_y_25 dX12_wrongSizes_39 ?_
        refine lv_iload_n hx hb dX12_wrongSizes_40 rfl (lv_at hl 2 rfl) ?_
        refine lv_icmp_ge (tgt := 46) hx hb dX12_wrongSizes_41 (by decide) (fun c_26 => ?_) (fun c_26 => ?_)
        · have h := it c_26 h
          refine lv_iconst (v := 0) hx hb dX12_wrongSizes_46 (by decide) ?_
          refine lv_istore (lv' := [(4, .int 0), (0, .ref (A_m 0)), (1, .int x1), (2, .int x2), (3, .int x3)]) hx hb dX12_wrongSizes_47 hl (by decide) rfl (fun ls hl => ?_)
          exact l49 fu 0 ls (lv_sub hl [1, 2, 3, 0] rfl) h
        · have h := ie c_26 h
          refine lv_iconst (v := 3) hx hb dX12_wrongSizes_44 (by decide) ?_
          cases h
          exact W.iret hx hb hr (fun _ ht9 _ => ⟨_, rfl, rfl, ht9⟩) (fun _ hq => by cases hq) dX12_wrongSizes_45
      · have h := it c_24 h
        refine lv_iconst (v := 2) hx hb dX12_wrongSizes_32 (by decide) ?_
        cases h
        exact W.iret hx hb hr (fun _ ht9 _ => ⟨_, rfl, rfl, ht9⟩) (fun _ hq => by cases hq) dX12_wrongSizes_33
    · have h := it c_22 h
      refine lv_iconst (v := 1) hx hb dX12_wrongSizes_20 (by decide) ?_
      cases h
      exact W.iret hx hb hr (fun _ ht9 _ => ⟨_, rfl, rfl, ht9⟩) (fun _ hq => by cases hq) dX12_wrongSizes_21
theorem dX12_sizeAt_0 : decode cX12_sizeAt 0 = .ok (.aload_n 0, 1) := by decide +kernel
theorem dX12_sizeAt_1 : decode cX12_sizeAt 1 = .ok (.getfield 27, 3) := by decide +kernel
theorem dX12_sizeAt_4 : decode cX12_sizeAt 4 = .ok (.bipush 60, 2) := by decide +kernel
theorem dX12_sizeAt_6 : decode cX12_sizeAt 6 = .ok (.iload_n 1, 1) := by decide +kernel
theorem dX12_sizeAt_7 : decode cX12_sizeAt 7 = .ok (.imul, 1) := by decide +kernel
theorem dX12_sizeAt_8 : decode cX12_sizeAt 8 = .ok (.iload_n 2, 1) := by decide +kernel
theorem dX12_sizeAt_9 : decode cX12_sizeAt 9 = .ok (.iadd, 1) := by decide +kernel
theorem dX12_sizeAt_10 : decode cX12_sizeAt 10 = .ok (.laload, 1) := by decide +kernel
theorem dX12_sizeAt_11 : decode cX12_sizeAt 11 = .ok (.l2i, 1) := by decide +kernel
theorem dX12_sizeAt_12 : decode cX12_sizeAt 12 = .ok (.ireturn, 1) := by decide +kernel
theorem mv_X12_sizeAt : MV yX12_sizeAt RX12 cX12_sizeAt 3 (some .int) 2 := ⟨tb_1763, tb_1762, ts_97, tb_16, by decide +kernel, by decide +kernel, by decide +kernel⟩
def f_X12_sizeAt (fu : Nat) (m_trays : Nat → Int64) (x1 : Int32) (x2 : Int32) : Option (Int32) := (rdJ m_trays 240 ((60 * x1) + x2)).bind fun y_2 => some (Int64.toInt32 y_2)
abbrev rm_X12_sizeAt : Room := { frames := 0, cells := 0, slots := 0, locals := 0 }
set_option maxHeartbeats 4000000 in
set_option maxRecDepth 100000 in
theorem c_X12_sizeAt (l : Launch) (D : va_G) (cy : Nat → ClassId) (fu : Nat) (A_m : Nat → Nat) (m_at : Nat → Int32) (m_names : Nat → Int64) (m_status : Int32) (m_top : Int64) (m_bottom : Int64) (m_sort : Nat → Int32) (m_trayMany : Nat → Int32) (m_trays : Nat → Int64) (m_tape : Nat → Int32) (m_text : Nat → Int32) (m_taped : Int32) (m_size : Int32) (m_token : Int32) (m_from : Int32) (m_end : Int32) (m_value : Int32) (m_faultKind : Int32) (m_faultPlace : Int32) (m_faults : Int32) (m_seen : Int32) (m_toldParts : Int32) (m_opened : Nat → Int32) (m_depth : Int32) (m_counted : Int32) (m_bestOrder : Int32) (m_standers : Nat → Int32) (m_has : Nat → Int32) (m_bestHas : Nat → Int32) (m_standerMany : Int32) (m_bestCouples : Int32) (m_bestFondness : Int32) (m_cameTo : Nat → Int32) (m_doesStandFirst : Int32) (m_stoodBy : Nat → Int64) (m_drawn : Int32) (m_ranSteps : Int32) (m_loops : Nat → Int32) (m_ran : Nat → Int32) (m_told1 : Nat → Int32) (m_isTold : Int32) (m_marks : Int32) (x1 : Int32) (x2 : Int32) (res : Int32) (h : f_X12_sizeAt fu m_trays x1 x2 = some res) : Met l yX12_sizeAt (WW yX12_sizeAt cX12_sizeAt 3 (some .int)) rm_X12_sizeAt (Rd D cy [.ref (A_m 0), .int x1, .int x2] [bl_X12 cy A_m m_at m_names m_status m_top m_bottom m_sort m_trayMany m_trays m_tape m_text m_taped m_size m_token m_from m_end m_value m_faultKind m_faultPlace m_faults m_seen m_toldParts m_opened m_depth m_counted m_bestOrder m_standers m_has m_bestHas m_standerMany m_bestCouples m_bestFondness m_cameTo m_doesStandFirst m_stoodBy m_drawn m_ranSteps m_loops m_ran m_told1 m_isTold m_marks]) (vp_Si (fun v => v = res)) 0 0 (fun _ => False) := by
  refine Met.ofW (cc := cX12_sizeAt) (maxL := 3) (ret := (some .int)) (by decide) rfl ?_
  intro p e s m args below meth c s₁ B hml hv
  obtain ⟨hargs, hP, hX⟩ := hv
  have hx := B.exec
  have hb := B.bytes
  have hr := B.returns
  have ht : ∀ w ∈ lw_gd, w.before args s = true := fun w hw => atoms_spec (ws := WW yX12_sizeAt cX12_sizeAt 3 (some .int)) B.pre w (List.mem_cons_of_mem _ hw)
  have hown : s.vm.findClass RX12 = some m.cls := findClass_of_methodNamed B.named
  have hlocks := B.notSynchronized
  have hP : PB D [bl_X12 cy A_m m_at m_names m_status m_top m_bottom m_sort m_trayMany m_trays m_tape m_text m_taped m_size m_token m_from m_end m_value m_faultKind m_faultPlace m_faults m_seen m_toldParts m_opened m_depth m_counted m_bestOrder m_standers m_has m_bestHas m_standerMany m_bestCouples m_bestFondness m_cameTo m_doesStandFirst m_stoodBy m_drawn m_ranSteps m_loops m_ran m_told1 m_isTold m_marks] s.heap := hP
  obtain ⟨ls, hl, hent⟩ := ent (m := m) (n := 3) hargs (Nat.le_of_ble_eq_true rfl) (lv := [(0, .ref (A_m 0)), (1, .int x1), (2, .int x2)]) rfl
  rw [hent]
  clear hent
  unfold f_X12_sizeAt at h
  refine lv_aload_n hx hb dX12_sizeAt_0 rfl (lv_at hl 0 rfl) ?_
  refine xget (i := 0) (j := 0) (k := 7) (T := TX12) hx hb ht tb_iX12 hown hX hP rfl rfl rfl (by decide) tb_1236 rfl dX12_sizeAt_1 ?_
  refine lv_bipush (v := 60) hx hb dX12_sizeAt_4 (by decide) ?_
  refine lv_iload_n hx hb dX12_sizeAt_6 rfl (lv_at hl 1 rfl) ?_
  refine lv_imul hx hb dX12_sizeAt_7 ?_
  refine lv_iload_n hx hb dX12_sizeAt_8 rfl (lv_at hl 2 rfl) ?_
  refine lv_iadd hx hb dX12_sizeAt_9 ?_
  obtain ⟨y_2, e_y_2, h⟩ := bi h
  refine xlald (i0 := 0) (j0 := 5) hx hb hX hP rfl rfl e_y_2 dX12_sizeAt_10 ?_
  refine lv_l2i (v := Int64.toInt32 y_2) hx hb dX12_sizeAt_11 rfl ?_
  cases h
  exact W.iret hx hb hr (fun _ ht9 _ => ⟨_, rfl, rfl, ht9⟩) (fun _ hq => by cases hq) dX12_sizeAt_12
theorem dX12_gotBy_0 : decode cX12_gotBy 0 = .ok (.aload_n 0, 1) := by decide +kernel
theorem dX12_gotBy_1 : decode cX12_gotBy 1 = .ok (.sipush 2928, 3) := by decide +kernel
theorem dX12_gotBy_4 : decode cX12_gotBy 4 = .ok (.invokevirtual 342, 3) := by decide +kernel
theorem dX12_gotBy_7 : decode cX12_gotBy 7 = .ok (.aload_n 0, 1) := by decide +kernel
theorem dX12_gotBy_8 : decode cX12_gotBy 8 = .ok (.iload_n 1, 1) := by decide +kernel
theorem dX12_gotBy_9 : decode cX12_gotBy 9 = .ok (.iconst 2, 1) := by decide +kernel
theorem dX12_gotBy_10 : decode cX12_gotBy 10 = .ok (.invokevirtual 250, 3) := by decide +kernel
theorem dX12_gotBy_13 : decode cX12_gotBy 13 = .ok (.istore 5, 2) := by decide +kernel
theorem dX12_gotBy_15 : decode cX12_gotBy 15 = .ok (.iconst 0, 1) := by decide +kernel
theorem dX12_gotBy_16 : decode cX12_gotBy 16 = .ok (.istore 6, 2) := by decide +kernel
theorem dX12_gotBy_18 : decode cX12_gotBy 18 = .ok (.iconst 0, 1) := by decide +kernel
theorem dX12_gotBy_19 : decode cX12_gotBy 19 = .ok (.istore 7, 2) := by decide +kernel
theorem dX12_gotBy_21 : decode cX12_gotBy 21 = .ok (.iload 7, 2) := by decide +kernel
theorem dX12_gotBy_23 : decode cX12_gotBy 23 = .ok (.iload_n 3, 1) := by decide +kernel
theorem dX12_gotBy_24 : decode cX12_gotBy 24 = .ok (.if_icmp .ge 70, 3) := by decide +kernel
theorem dX12_gotBy_27 : decode cX12_gotBy 27 = .ok (.iload 6, 2) := by decide +kernel
theorem dX12_gotBy_29 : decode cX12_gotBy 29 = .ok (.ifCond .ne 65, 3) := by decide +kernel
theorem dX12_gotBy_32 : decode cX12_gotBy 32 = .ok (.iload 4, 2) := by decide +kernel
theorem dX12_gotBy_34 : decode cX12_gotBy 34 = .ok (.iconst 3, 1) := by decide +kernel
theorem dX12_gotBy_35 : decode cX12_gotBy 35 = .ok (.iload_n 3, 1) := by decide +kernel
theorem dX12_gotBy_36 : decode cX12_gotBy 36 = .ok (.iconst 1, 1) := by decide +kernel
theorem dX12_gotBy_37 : decode cX12_gotBy 37 = .ok (.isub, 1) := by decide +kernel
theorem dX12_gotBy_38 : decode cX12_gotBy 38 = .ok (.iload 7, 2) := by decide +kernel
theorem dX12_gotBy_40 : decode cX12_gotBy 40 = .ok (.isub, 1) := by decide +kernel
theorem dX12_gotBy_41 : decode cX12_gotBy 41 = .ok (.imul, 1) := by decide +kernel
theorem dX12_gotBy_42 : decode cX12_gotBy 42 = .ok (.ishr, 1) := by decide +kernel
theorem dX12_gotBy_43 : decode cX12_gotBy 43 = .ok (.bipush 7, 2) := by decide +kernel
theorem dX12_gotBy_45 : decode cX12_gotBy 45 = .ok (.iand, 1) := by decide +kernel
theorem dX12_gotBy_46 : decode cX12_gotBy 46 = .ok (.istore 8, 2) := by decide +kernel
theorem dX12_gotBy_48 : decode cX12_gotBy 48 = .ok (.aload_n 0, 1) := by decide +kernel
theorem dX12_gotBy_49 : decode cX12_gotBy 49 = .ok (.iload 8, 2) := by decide +kernel
theorem dX12_gotBy_51 : decode cX12_gotBy 51 = .ok (.invokevirtual 241, 3) := by decide +kernel
theorem dX12_gotBy_54 : decode cX12_gotBy 54 = .ok (.ifCond .eq 12, 3) := by decide +kernel
theorem dX12_gotBy_57 : decode cX12_gotBy 57 = .ok (.aload_n 0, 1) := by decide +kernel
theorem dX12_gotBy_58 : decode cX12_gotBy 58 = .ok (.iload 8, 2) := by decide +kernel
theorem dX12_gotBy_60 : decode cX12_gotBy 60 = .ok (.invokevirtual 253, 3) := by decide +kernel
theorem dX12_gotBy_63 : decode cX12_gotBy 63 = .ok (.ifCond .ne 11, 3) := by decide +kernel
theorem dX12_gotBy_66 : decode cX12_gotBy 66 = .ok (.ldc_w 345, 3) := by decide +kernel
theorem dX12_gotBy_69 : decode cX12_gotBy 69 = .ok (.istore 6, 2) := by decide +kernel
theorem dX12_gotBy_71 : decode cX12_gotBy 71 = .ok (.goto 17, 3) := by decide +kernel
theorem dX12_gotBy_74 : decode cX12_gotBy 74 = .ok (.aload_n 0, 1) := by decide +kernel
theorem dX12_gotBy_75 : decode cX12_gotBy 75 = .ok (.iload 8, 2) := by decide +kernel
theorem dX12_gotBy_77 : decode cX12_gotBy 77 = .ok (.aload_n 0, 1) := by decide +kernel
theorem dX12_gotBy_78 : decode cX12_gotBy 78 = .ok (.iload_n 2, 1) := by decide +kernel
theorem dX12_gotBy_79 : decode cX12_gotBy 79 = .ok (.iload 7, 2) := by decide +kernel
theorem dX12_gotBy_81 : decode cX12_gotBy 81 = .ok (.invokevirtual 346, 3) := by decide +kernel
theorem dX12_gotBy_84 : decode cX12_gotBy 84 = .ok (.invokevirtual 296, 3) := by decide +kernel
theorem dX12_gotBy_87 : decode cX12_gotBy 87 = .ok (.pop, 1) := by decide +kernel
theorem dX12_gotBy_88 : decode cX12_gotBy 88 = .ok (.iinc 7 1, 3) := by decide +kernel
theorem dX12_gotBy_91 : decode cX12_gotBy 91 = .ok (.goto (-70), 3) := by decide +kernel
theorem dX12_gotBy_94 : decode cX12_gotBy 94 = .ok (.iload 6, 2) := by decide +kernel
theorem dX12_gotBy_96 : decode cX12_gotBy 96 = .ok (.ifCond .ne 14, 3) := by decide +kernel
theorem dX12_gotBy_99 : decode cX12_gotBy 99 = .ok (.aload_n 0, 1) := by decide +kernel
theorem dX12_gotBy_100 : decode cX12_gotBy 100 = .ok (.iload_n 1, 1) := by decide +kernel
theorem dX12_gotBy_101 : decode cX12_gotBy 101 = .ok (.iconst 2, 1) := by decide +kernel
theorem dX12_gotBy_102 : decode cX12_gotBy 102 = .ok (.invokevirtual 250, 3) := by decide +kernel
theorem dX12_gotBy_105 : decode cX12_gotBy 105 = .ok (.iload 5, 2) := by decide +kernel
theorem dX12_gotBy_107 : decode cX12_gotBy 107 = .ok (.isub, 1) := by decide +kernel
theorem dX12_gotBy_108 : decode cX12_gotBy 108 = .ok (.istore 6, 2) := by decide +kernel
theorem dX12_gotBy_110 : decode cX12_gotBy 110 = .ok (.aload_n 0, 1) := by decide +kernel
theorem dX12_gotBy_111 : decode cX12_gotBy 111 = .ok (.sipush 2928, 3) := by decide +kernel
theorem dX12_gotBy_114 : decode cX12_gotBy 114 = .ok (.invokevirtual 349, 3) := by decide +kernel
theorem dX12_gotBy_117 : decode cX12_gotBy 117 = .ok (.iload 6, 2) := by decide +kernel
theorem dX12_gotBy_119 : decode cX12_gotBy 119 = .ok (.ireturn, 1) := by decide +kernel
theorem mv_X12_gotBy : MV yX12_gotBy RX12 cX12_gotBy 9 (some .int) 4 := ⟨tb_1755, tb_1754, ts_95, tb_16, by decide +kernel, by decide +kernel, by decide +kernel⟩
def f_X12_gotBy_j94 (fu : Nat) (m_trays : Nat → Int64) (x1 : Int32) (x2 : Int32) (x3 : Int32) (x4 : Int32) (m_at : Nat → Int32) (x5 : Int32) (x6 : Int32) : Option (Int32 × (Nat → Int32)) := (if x6 = 0 then (f_X12_manOf fu m_at x1 2).bind fun z_22 => bnd (z_22 - x5) fun x6_23 => (f_X12_restores fu m_at 2928).bind fun z_24 => some (x6_23, z_24) else (f_X12_restores fu m_at 2928).bind fun z_21 => some (x6, z_21))
def f_X12_gotBy_b21 (fu : Nat) (m_trays : Nat → Int64) (x1 : Int32) (x2 : Int32) (x3 : Int32) (x4 : Int32) (k21 : (Nat → Int32) → Int32 → Int32 → Int32 → (Option (Int32 × (Nat → Int32)))) (m_at : Nat → Int32) (x5 : Int32) (x6 : Int32) (x7 : Int32) : Option (Int32 × (Nat → Int32)) := (if x3 ≤ x7 then f_X12_gotBy_j94 fu m_trays x1 x2 x3 x4 m_at x5 x6 else (if x6 = 0 then bnd ((x4 >>> ((3 * ((x3 - 1) - x7)) &&& 31)) &&& 7) fun x8_27 => (f_X12_isMan fu m_at x8_27).bind fun z_28 => (if z_28 = 0 then bnd (x7 + 1) fun x7_30 => k21 m_at x5 (-1000000) x7_30 else (f_X12_isAlive fu m_at x8_27).bind fun z_31 => (if z_31 = 0 then bnd (x7 + 1) fun x7_36 => k21 m_at x5 (-1000000) x7_36 else (f_X12_sizeAt fu m_trays x2 x7).bind fun z_33 => (f_X12_faces fu m_at x8_27 z_33).bind fun z_34 => bnd (x7 + 1) fun x7_35 => k21 z_34.2 x5 x6 x7_35)) else f_X12_gotBy_j94 fu m_trays x1 x2 x3 x4 m_at x5 x6))
def f_X12_gotBy_l21 (fu : Nat) (m_trays : Nat → Int64) (x1 : Int32) (x2 : Int32) (x3 : Int32) (x4 : Int32) : Nat → (Nat → Int32) → Int32 → Int32 → Int32 → (Option (Int32 × (Nat → Int32)))
  | 0, _, _, _, _ => none
  | n + 1, m_at, x5, x6, x7 => f_X12_gotBy_b21 fu m_trays x1 x2 x3 x4 (f_X12_gotBy_l21 fu m_trays x1 x2 x3 x4 n) m_at x5 x6 x7
def f_X12_gotBy (fu : Nat) (m_at : Nat → Int32) (m_trays : Nat → Int64) (x1 : Int32) (x2 : Int32) (x3 : Int32) (x4 : Int32) : Option (Int32 × (Nat → Int32)) := (f_X12_keeps fu m_at 2928).bind fun z_37 => (f_X12_manOf fu z_37 x1 2).bind fun z_38 => f_X12_gotBy_l21 fu m_trays x1 x2 x3 x4 fu z_37 z_38 0 0
abbrev rm_X12_gotBy : Room := { frames := 8, cells := 0, slots := 0, locals := 185 }
set_option maxHeartbeats 4000000 in
set_option maxRecDepth 100000 in
theorem c_X12_gotBy (l : Launch) (D : va_G) (cy : Nat → ClassId) (fu : Nat) (A_m : Nat → Nat) (m_at : Nat → Int32) (m_names : Nat → Int64) (m_status : Int32) (m_top : Int64) (m_bottom : Int64) (m_sort : Nat → Int32) (m_trayMany : Nat → Int32) (m_trays : Nat → Int64) (m_tape : Nat → Int32) (m_text : Nat → Int32) (m_taped : Int32) (m_size : Int32) (m_token : Int32) (m_from : Int32) (m_end : Int32) (m_value : Int32) (m_faultKind : Int32) (m_faultPlace : Int32) (m_faults : Int32) (m_seen : Int32) (m_toldParts : Int32) (m_opened : Nat → Int32) (m_depth : Int32) (m_counted : Int32) (m_bestOrder : Int32) (m_standers : Nat → Int32) (m_has : Nat → Int32) (m_bestHas : Nat → Int32) (m_standerMany : Int32) (m_bestCouples : Int32) (m_bestFondness : Int32) (m_cameTo : Nat → Int32) (m_doesStandFirst : Int32) (m_stoodBy : Nat → Int64) (m_drawn : Int32) (m_ranSteps : Int32) (m_loops : Nat → Int32) (m_ran : Nat → Int32) (m_told1 : Nat → Int32) (m_isTold : Int32) (m_marks : Int32) (x1 : Int32) (x2 : Int32) (x3 : Int32) (x4 : Int32) (res : Int32 × (Nat → Int32)) (h : f_X12_gotBy fu m_at m_trays x1 x2 x3 x4 = some res) (A : Nat → Prop) (hA : A = adr [bl_X12 cy A_m m_at m_names m_status m_top m_bottom m_sort m_trayMany m_trays m_tape m_text m_taped m_size m_token m_from m_end m_value m_faultKind m_faultPlace m_faults m_seen m_toldParts m_opened m_depth m_counted m_bestOrder m_standers m_has m_bestHas m_standerMany m_bestCouples m_bestFondness m_cameTo m_doesStandFirst m_stoodBy m_drawn m_ranSteps m_loops m_ran m_told1 m_isTold m_marks]) (W1 : List va_W) (hW1 : W1 = [bl_X12 cy A_m res.2 m_names m_status m_top m_bottom m_sort m_trayMany m_trays m_tape m_text m_taped m_size m_token m_from m_end m_value m_faultKind m_faultPlace m_faults m_seen m_toldParts m_opened m_depth m_counted m_bestOrder m_standers m_has m_bestHas m_standerMany m_bestCouples m_bestFondness m_cameTo m_doesStandFirst m_stoodBy m_drawn m_ranSteps m_loops m_ran m_told1 m_isTold m_marks]) : Met l yX12_gotBy (WW yX12_gotBy cX12_gotBy 9 (some .int)) rm_X12_gotBy (Ed D cy [.ref (A_m 0), .int x1, .int x2, .int x3, .int x4] [bl_X12 cy A_m m_at m_names m_status m_top m_bottom m_sort m_trayMany m_trays m_tape m_text m_taped m_size m_token m_from m_end m_value m_faultKind m_faultPlace m_faults m_seen m_toldParts m_opened m_depth m_counted m_bestOrder m_standers m_has m_bestHas m_standerMany m_bestCouples m_bestFondness m_cameTo m_doesStandFirst m_stoodBy m_drawn m_ranSteps m_loops m_ran m_told1 m_isTold m_marks]) (Qei D res.1 A W1) 0 0 A := by
  refine Met.ofW (cc := cX12_gotBy) (maxL := 9) (ret := (some .int)) (by decide) rfl ?_
  intro p e s m args below meth c s₁ B hml hv
  obtain ⟨hargs, hP, hX, hD0⟩ := hv
  have hx := B.exec
  have hb := B.bytes
  have hr := B.returns
  have ht : ∀ w ∈ lw_gd, w.before args s = true := fun w hw => atoms_spec (ws := WW yX12_gotBy cX12_gotBy 9 (some .int)) B.pre w (List.mem_cons_of_mem _ hw)
  have hown : s.vm.findClass RX12 = some m.cls := findClass_of_methodNamed B.named
  have hlocks := B.notSynchronized
  have hP : PD D A [bl_X12 cy A_m m_at m_names m_status m_top m_bottom m_sort m_trayMany m_trays m_tape m_text m_taped m_size m_token m_from m_end m_value m_faultKind m_faultPlace m_faults m_seen m_toldParts m_opened m_depth m_counted m_bestOrder m_standers m_has m_bestHas m_standerMany m_bestCouples m_bestFondness m_cameTo m_doesStandFirst m_stoodBy m_drawn m_ranSteps m_loops m_ran m_told1 m_isTold m_marks] s.heap := ⟨hP, by rw [hA]; exact hD0.own⟩
  have hS : va_S A s.heap s.heap [] := va_S.rf
  obtain ⟨ls, hl, hent⟩ := ent (m := m) (n := 9) hargs (Nat.le_of_ble_eq_true rfl) (lv := [(0, .ref (A_m 0)), (1, .int x1), (2, .int x2), (3, .int x3), (4, .int x4)]) rfl
  rw [hent]
  clear hent
  have j94 : ∀ (m_at : Nat → Int32) (x5 : Int32) (x6 : Int32) (H : Heap) (locs : List Loc) (_ : PD D A [bl_X12 cy A_m m_at m_names m_status m_top m_bottom m_sort m_trayMany m_trays m_tape m_text m_taped m_size m_token m_from m_end m_value m_faultKind m_faultPlace m_faults m_seen m_toldParts m_opened m_depth m_counted m_bestOrder m_standers m_has m_bestHas m_standerMany m_bestCouples m_bestFondness m_cameTo m_doesStandFirst m_stoodBy m_drawn m_ranSteps m_loops m_ran m_told1 m_isTold m_marks] H) (_ : va_S A s.heap H locs) (ls : Array Slot), lv_has ls 9 [(0, .ref (A_m 0)), (1, .int x1), (5, .int x5), (6, .int x6)] → f_X12_gotBy_j94 fu m_trays x1 x2 x3 x4 m_at x5 x6 = some res → W p l e (headSpec (WW yX12_gotBy cX12_gotBy 9 (some .int)) rm_X12_gotBy).room s m args below meth c H locs 0 0 (MQ below (Qei D res.1 A W1) args s 0 0 A) (F0 m 94 ls []) := by
    intro m_at x5 x6 H locs hP hS ls hl h
    unfold f_X12_gotBy_j94 at h
    refine lv_iload hx hb dX12_gotBy_94 (lv_at hl 3 rfl) ?_
    refine lv_if_ne (tgt := 110) hx hb dX12_gotBy_96 (by decide) (fun c_20 => ?_) (fun c_20 => ?_)
    · have h := ie c_20 h
      refine lv_aload_n hx hb dX12_gotBy_110 rfl (lv_at hl 0 rfl) ?_
      refine lv_sipush (v := 2928) hx hb dX12_gotBy_111 (by decide) ?_
      obtain ⟨z_21, e_z_21, h⟩ := bi h
      refine efVv (rest := []) ⟨hx, hb, hml, hown, ht⟩ (c_X12_restores l D cy fu A_m m_at m_names m_status m_top m_bottom m_sort m_trayMany m_trays m_tape m_text m_taped m_size m_token m_from m_end m_value m_faultKind m_faultPlace m_faults m_seen m_toldParts m_opened m_depth m_counted m_bestOrder m_standers m_has m_bestHas m_standerMany m_bestCouples m_bestFondness m_cameTo m_doesStandFirst m_stoodBy m_drawn m_ranSteps m_loops m_ran m_told1 m_isTold m_marks 2928 z_21 e_z_21 _ rfl _ rfl) (cV ht mv_X12_restores tb_1764 rfl rfl ⟨Nat.le_of_ble_eq_true rfl, Nat.le_of_ble_eq_true rfl⟩) hP hS hX [0] rfl rfl rfl rfl rfl rfl hl.1 rfl (Nat.le_of_ble_eq_true rfl) dX12_gotBy_114 ⟨Nat.le_of_ble_eq_true rfl, Nat.le_of_ble_eq_true rfl⟩ (fun H locs hP hS => ?_)
      have hP : PD D A [bl_X12 cy A_m z_21 m_names m_status m_top m_bottom m_sort m_trayMany m_trays m_tape m_text m_taped m_size m_token m_from m_end m_value m_faultKind m_faultPlace m_faults m_seen m_toldParts m_opened m_depth m_counted m_bestOrder m_standers m_has m_bestHas m_standerMany m_bestCouples m_bestFondness m_cameTo m_doesStandFirst m_stoodBy m_drawn m_ranSteps m_loops m_ran m_told1 m_isTold m_marks] H := hP
      refine lv_iload hx hb dX12_gotBy_117 (lv_at hl 3 rfl) ?_
      cases h
      subst hW1
      exact W.iret hx hb hr (fun _ ht9 _ => ⟨⟨_, (), rfl, rfl, hPt ht9 hP.1⟩, hS.F ht9⟩) hS.2.2 dX12_gotBy_119
    · have h := it c_20 h
      refine lv_aload_n hx hb dX12_gotBy_99 rfl (lv_at hl 0 rfl) ?_
      refine lv_iload_n hx hb dX12_gotBy_100 rfl (lv_at hl 1 rfl) ?_
      refine lv_iconst (v := 2) hx hb dX12_gotBy_101 (by decide) ?_
      obtain ⟨z_22, e_z_22, h⟩ := bi h
      refine roVi (rest := []) ⟨hx, hb, hml, hown, ht⟩ (c_X12_manOf l D cy fu A_m m_at m_names m_status m_top m_bottom m_sort m_trayMany m_trays m_tape m_text m_taped m_size m_token m_from m_end m_value m_faultKind m_faultPlace m_faults m_seen m_toldParts m_opened m_depth m_counted m_bestOrder m_standers m_has m_bestHas m_standerMany m_bestCouples m_bestFondness m_cameTo m_doesStandFirst m_stoodBy m_drawn m_ranSteps m_loops m_ran m_told1 m_isTold m_marks x1 2 z_22 e_z_22) (cV ht mv_X12_manOf tb_1535 rfl rfl ⟨Nat.le_of_ble_eq_true rfl, Nat.le_of_ble_eq_true rfl⟩) (P_sub hP.1 [0] rfl) hX rfl rfl rfl hl.1 rfl (Nat.le_of_ble_eq_true rfl) dX12_gotBy_102 ⟨Nat.le_of_ble_eq_true rfl, Nat.le_of_ble_eq_true rfl⟩ ?_
      refine lv_iload hx hb dX12_gotBy_105 (lv_at hl 2 rfl) ?_
      refine lv_isub hx hb dX12_gotBy_107 ?_
      refine lv_topi (fun x6_23 e_x6_23 => ?_)
      have h := bn e_x6_23 h
      refine lv_istore (lv' := [(6, .int x6_23), (0, .ref (A_m 0)), (1, .int x1), (5, .int x5)]) hx hb dX12_gotBy_108 hl (by decide) rfl (fun ls hl => ?_)
      refine lv_aload_n hx hb dX12_gotBy_110 rfl (lv_at hl 1 rfl) ?_
      refine lv_sipush (v := 2928) hx hb dX12_gotBy_111 (by decide) ?_
      obtain ⟨z_24, e_z_24, h⟩ := bi h
      refine efVv (rest := []) ⟨hx, hb, hml, hown, ht⟩ (c_X12_restores l D cy fu A_m m_at m_names m_status m_top m_bottom m_sort m_trayMany m_trays m_tape m_text m_taped m_size m_token m_from m_end m_value m_faultKind m_faultPlace m_faults m_seen m_toldParts m_opened m_depth m_counted m_bestOrder m_standers m_has m_bestHas m_standerMany m_bestCouples m_bestFondness m_cameTo m_doesStandFirst m_stoodBy m_drawn m_ranSteps m_loops m_ran m_told1 m_isTold m_marks 2928 z_24 e_z_24 _ rfl _ rfl) (cV ht mv_X12_restores tb_1764 rfl rfl ⟨Nat.le_of_ble_eq_true rfl, Nat.le_of_ble_eq_true rfl⟩) hP hS hX [0] rfl rfl rfl rfl rfl rfl hl.1 rfl (Nat.le_of_ble_eq_true rfl) dX12_gotBy_114 ⟨Nat.le_of_ble_eq_true rfl, Nat.le_of_ble_eq_true rfl⟩ (fun H locs hP hS => ?_)
      have hP : PD D A [bl_X12 cy A_m z_24 m_names m_status m_top m_bottom m_sort m_trayMany m_trays m_tape m_text m_taped m_size m_token m_from m_end m_value m_faultKind m_faultPlace m_faults m_seen m_toldParts m_opened m_depth m_counted m_bestOrder m_standers m_has m_bestHas m_standerMany m_bestCouples m_bestFondness m_cameTo m_doesStandFirst m_stoodBy m_drawn m_ranSteps m_loops m_ran m_told1 m_isTold m_marks] H := hP
      refine lv_iload hx hb dX12_gotBy_117 (lv_at hl 0 rfl) ?_
      cases h
      subst hW1
      exact W.iret hx hb hr (fun _ ht9 _ => ⟨⟨_, (), rfl, rfl, hPt ht9 hP.1⟩, hS.F ht9⟩) hS.2.2 dX12_gotBy_119
  have l21 : ∀ (n21 : Nat) (m_at : Nat → Int32) (x5 : Int32) (x6 : Int32) (x7 : Int32) (H : Heap) (locs : List Loc) (_ : PD D A [bl_X12 cy A_m m_at m_names m_status m_top m_bottom m_sort m_trayMany m_trays m_tape m_text m_taped m_size m_token m_from m_end m_value m_faultKind m_faultPlace m_faults m_seen m_toldParts m_opened m_depth m_counted m_bestOrder m_standers m_has m_bestHas m_standerMany m_bestCouples m_bestFondness m_cameTo m_doesStandFirst m_stoodBy m_drawn m_ranSteps m_loops m_ran m_told1 m_isTold m_marks] H) (_ : va_S A s.heap H locs) (ls : Array Slot), lv_has ls 9 [(0, .ref (A_m 0)), (1, .int x1), (2, .int x2), (3, .int x3), (4, .int x4), (5, .int x5), (6, .int x6), (7, .int x7)] → f_X12_gotBy_l21 fu m_trays x1 x2 x3 x4 n21 m_at x5 x6 x7 = some res → W p l e (headSpec (WW yX12_gotBy cX12_gotBy 9 (some .int)) rm_X12_gotBy).room s m args below meth c H locs 0 0 (MQ below (Qei D res.1 A W1) args s 0 0 A) (F0 m 21 ls []) := by
    intro n21
    induction n21 with
    | zero => intro m_at x5 x6 x7 H locs hP hS ls hl h; cases h
    | succ n21 ih21 =>
      intro m_at x5 x6 x7 H locs hP hS ls hl h
      have h : f_X12_gotBy_b21 fu m_trays x1 x2 x3 x4 (f_X12_gotBy_l21 fu m_trays x1 x2 x3 x4 n21) m_at x5 x6 x7 = some res := h
      unfold f_X12_gotBy_b21 at h
      refine lv_iload hx hb dX12_gotBy_21 (lv_at hl 7 rfl) ?_
      refine lv_iload_n hx hb dX12_gotBy_23 rfl (lv_at hl 3 rfl) ?_
      refine lv_icmp_ge (tgt := 94) hx hb dX12_gotBy_24 (by decide) (fun c_25 => ?_) (fun c_25 => ?_)
      · have h := it c_25 h
        exact j94 m_at x5 x6 _ _ hP hS ls (lv_sub hl [0, 1, 5, 6] rfl) h
      · have h := ie c_25 h
        refine lv_iload hx hb dX12_gotBy_27 (lv_at hl 6 rfl) ?_
        refine lv_if_ne (tgt := 94) hx hb dX12_gotBy_29 (by decide) (fun c_26 => ?_) (fun c_26 => ?_)
        · have h := ie c_26 h
          exact j94 m_at x5 x6 _ _ hP hS ls (lv_sub hl [0, 1, 5, 6] rfl) h
        · have h := it c_26 h
          refine lv_iload hx hb dX12_gotBy_32 (lv_at hl 4 rfl) ?_
          refine lv_iconst (v := 3) hx hb dX12_gotBy_34 (by decide) ?_
          refine lv_iload_n hx hb dX12_gotBy_35 rfl (lv_at hl 3 rfl) ?_
          refine lv_iconst (v := 1) hx hb dX12_gotBy_36 (by decide) ?_
          refine lv_isub hx hb dX12_gotBy_37 ?_
          refine lv_iload hx hb dX12_gotBy_38 (lv_at hl 7 rfl) ?_
          refine lv_isub hx hb dX12_gotBy_40 ?_
          refine lv_imul hx hb dX12_gotBy_41 ?_
          refine lv_ishr hx hb dX12_gotBy_42 ?_
          refine lv_bipush (v := 7) hx hb dX12_gotBy_43 (by decide) ?_
          refine lv_iand hx hb dX12_gotBy_45 ?_
          refine lv_topi (fun x8_27 e_x8_27 => ?_)
          have h := bn e_x8_27 h
          refine lv_istore (lv' := [(8, .int x8_27), (0, .ref (A_m 0)), (1, .int x1), (2, .int x2), (3, .int x3), (4, .int x4), (5, .int x5), (6, .int x6), (7, .int x7)]) hx hb dX12_gotBy_46 hl (by decide) rfl (fun ls hl => ?_)
          refine lv_aload_n hx hb dX12_gotBy_48 rfl (lv_at hl 1 rfl) ?_
          refine lv_iload hx hb dX12_gotBy_49 (lv_at hl 0 rfl) ?_
          obtain ⟨z_28, e_z_28, h⟩ := bi h
          refine roVi (rest := []) ⟨hx, hb, hml, hown, ht⟩ (c_X12_isMan l D cy fu A_m m_at m_names m_status m_top m_bottom m_sort m_trayMany m_trays m_tape m_text m_taped m_size m_token m_from m_end m_value m_faultKind m_faultPlace m_faults m_seen m_toldParts m_opened m_depth m_counted m_bestOrder m_standers m_has m_bestHas m_standerMany m_bestCouples m_bestFondness m_cameTo m_doesStandFirst m_stoodBy m_drawn m_ranSteps m_loops m_ran m_told1 m_isTold m_marks x8_27 z_28 e_z_28) (cV ht mv_X12_isMan tb_1551 rfl rfl ⟨Nat.le_of_ble_eq_true rfl, Nat.le_of_ble_eq_true rfl⟩) (P_sub hP.1 [0] rfl) hX rfl rfl rfl hl.1 rfl (Nat.le_of_ble_eq_true rfl) dX12_gotBy_51 ⟨Nat.le_of_ble_eq_true rfl, Nat.le_of_ble_eq_true rfl⟩ ?_
          refine lv_if_eq (tgt := 66) hx hb dX12_gotBy_54 (by decide) (fun c_29 => ?_) (fun c_29 => ?_)
          · have h := it c_29 h
            refine lv_ldcw (v := (-1000000)) hx hb hown (ht _ tb_1751) dX12_gotBy_66 ?_
            refine lv_istore (lv' := [(6, .int (-1000000)), (8, .int x8_27), (0, .ref (A_m 0)), (1, .int x1), (2, .int x2), (3, .int x3), (4, .int x4), (5, .int x5), (7, .int x7)]) hx hb dX12_gotBy_69 hl (by decide) rfl (fun ls hl => ?_)
            refine lv_goto (tgt := 88) hx hb dX12_gotBy_71 (by decide) ?_
            obtain ⟨x7_30, e_x7_30⟩ : ∃ y : Int32, y = x7 + 1 := ⟨_, rfl⟩
            have h := bn e_x7_30 h
            refine lv_iinc (v := x7_30) (lv' := [(7, .int x7_30), (6, .int (-1000000)), (8, .int x8_27), (0, .ref (A_m 0)), (1, .int x1), (2, .int x2), (3, .int x3), (4, .int x4), (5, .int x5)]) hx hb dX12_gotBy_88 hl (k := 8) rfl (by rw [e_x7_30]; rfl) (by decide) rfl (fun ls hl => ?_)
            refine lv_goto (tgt := 21) hx hb dX12_gotBy_91 (by decide) ?_
            exact ih21 m_at x5 (-1000000) x7_30 _ _ hP hS ls (lv_sub hl [3, 4, 5, 6, 7, 8, 1, 0] rfl) h
          · have h := ie c_29 h
            refine lv_aload_n hx hb dX12_gotBy_57 rfl (lv_at hl 1 rfl) ?_
            refine lv_iload hx hb dX12_gotBy_58 (lv_at hl 0 rfl) ?_
            obtain ⟨z_31, e_z_31, h⟩ := bi h
            refine roVi (rest := []) ⟨hx, hb, hml, hown, ht⟩ (c_X12_isAlive l D cy fu A_m m_at m_names m_status m_top m_bottom m_sort m_trayMany m_trays m_tape m_text m_taped m_size m_token m_from m_end m_value m_faultKind m_faultPlace m_faults m_seen m_toldParts m_opened m_depth m_counted m_bestOrder m_standers m_has m_bestHas m_standerMany m_bestCouples m_bestFondness m_cameTo m_doesStandFirst m_stoodBy m_drawn m_ranSteps m_loops m_ran m_told1 m_isTold m_marks x8_27 z_31 e_z_31) (cV ht mv_X12_isAlive tb_1531 rfl rfl ⟨Nat.le_of_ble_eq_true rfl, Nat.le_of_ble_eq_true rfl⟩) (P_sub hP.1 [0] rfl) hX rfl rfl rfl hl.1 rfl (Nat.le_of_ble_eq_true rfl) dX12_gotBy_60 ⟨Nat.le_of_ble_eq_true rfl, Nat.le_of_ble_eq_true rfl⟩ ?_
            refine lv_if_ne (tgt := 74) hx hb dX12_gotBy_63 (by decide) (fun c_32 => ?_) (fun c_32 => ?_)
            · have h := ie c_32 h
              refine lv_aload_n hx hb dX12_gotBy_74 rfl (lv_at hl 1 rfl) ?_
              refine lv_iload hx hb dX12_gotBy_75 (lv_at hl 0 rfl) ?_
              refine lv_aload_n hx hb dX12_gotBy_77 rfl (lv_at hl 1 rfl) ?_
              refine lv_iload_n hx hb dX12_gotBy_78 rfl (lv_at hl 3 rfl) ?_
              refine lv_iload hx hb dX12_gotBy_79 (lv_at hl 8 rfl) ?_
              obtain ⟨z_33, e_z_33, h⟩ := bi h
              refine roVi (rest := [.int x8_27, .ref (A_m 0)]) ⟨hx, hb, hml, hown, ht⟩ (c_X12_sizeAt l D cy fu A_m m_at m_names m_status m_top m_bottom m_sort m_trayMany m_trays m_tape m_text m_taped m_size m_token m_from m_end m_value m_faultKind m_faultPlace m_faults m_seen m_toldParts m_opened m_depth m_counted m_bestOrder m_standers m_has m_bestHas m_standerMany m_bestCouples m_bestFondness m_cameTo m_doesStandFirst m_stoodBy m_drawn m_ranSteps m_loops m_ran m_told1 m_isTold m_marks x2 x7 z_33 e_z_33) (cV ht mv_X12_sizeAt tb_1760 rfl rfl ⟨Nat.le_of_ble_eq_true rfl, Nat.le_of_ble_eq_true rfl⟩) (P_sub hP.1 [0] rfl) hX rfl rfl rfl hl.1 rfl (Nat.le_of_ble_eq_true rfl) dX12_gotBy_81 ⟨Nat.le_of_ble_eq_true rfl, Nat.le_of_ble_eq_true rfl⟩ ?_
              obtain ⟨z_34, e_z_34, h⟩ := bi h
              refine efVi (rest := []) ⟨hx, hb, hml, hown, ht⟩ (c_X12_faces l D cy fu A_m m_at m_names m_status m_top m_bottom m_sort m_trayMany m_trays m_tape m_text m_taped m_size m_token m_from m_end m_value m_faultKind m_faultPlace m_faults m_seen m_toldParts m_opened m_depth m_counted m_bestOrder m_standers m_has m_bestHas m_standerMany m_bestCouples m_bestFondness m_cameTo m_doesStandFirst m_stoodBy m_drawn m_ranSteps m_loops m_ran m_told1 m_isTold m_marks x8_27 z_33 z_34 e_z_34 _ rfl _ rfl) (cV ht mv_X12_faces tb_1578 rfl rfl ⟨Nat.le_of_ble_eq_true rfl, Nat.le_of_ble_eq_true rfl⟩) hP hS hX [0] rfl rfl rfl rfl rfl rfl hl.1 rfl (Nat.le_of_ble_eq_true rfl) dX12_gotBy_84 ⟨Nat.le_of_ble_eq_true rfl, Nat.le_of_ble_eq_true rfl⟩ (fun H locs hP hS => ?_)
              have hP : PD D A [bl_X12 cy A_m z_34.2 m_names m_status m_top m_bottom m_sort m_trayMany m_trays m_tape m_text m_taped m_size m_token m_from m_end m_value m_faultKind m_faultPlace m_faults m_seen m_toldParts m_opened m_depth m_counted m_bestOrder m_standers m_has m_bestHas m_standerMany m_bestCouples m_bestFondness m_cameTo m_doesStandFirst m_stoodBy m_drawn m_ranSteps m_loops m_ran m_told1 m_isTold m_marks] H := hP
              refine lv_pop hx hb dX12_gotBy_87 rfl ?_
              obtain ⟨x7_35, e_x7_35⟩ : ∃ y : Int32, y = x7 + 1 := ⟨_, rfl⟩
              have h := bn e_x7_35 h
              refine lv_iinc (v := x7_35) (lv' := [(7, .int x7_35), (8, .int x8_27), (0, .ref (A_m 0)), (1, .int x1), (2, .int x2), (3, .int x3), (4, .int x4), (5, .int x5), (6, .int x6)]) hx hb dX12_gotBy_88 hl (k := 8) rfl (by rw [e_x7_35]; rfl) (by decide) rfl (fun ls hl => ?_)
              refine lv_goto (tgt := 21) hx hb dX12_gotBy_91 (by decide) ?_
              exact ih21 z_34.2 x5 x6 x7_35 _ _ hP hS ls (lv_sub hl [2, 3, 4, 5, 6, 7, 8, 0] rfl) h
            · have h := it c_32 h
              refine lv_ldcw (v := (-1000000)) hx hb hown (ht _ tb_1751) dX12_gotBy_66 ?_
              refine lv_istore (lv' := [(6, .int (-1000000)), (8, .int x8_27), (0, .ref (A_m 0)), (1, .int x1), (2, .int x2), (3, .int x3), (4, .int x4), (5, .int x5), (7, .int x7)]) hx hb dX12_gotBy_69 hl (by decide) rfl (fun ls hl => ?_)
              refine lv_goto (tgt := 88) hx hb dX12_gotBy_71 (by decide) ?_
              obtain ⟨x7_36, e_x7_36⟩ : ∃ y : Int32, y = x7 + 1 := ⟨_, rfl⟩
              have h := bn e_x7_36 h
              refine lv_iinc (v := x7_36) (lv' := [(7, .int x7_36), (6, .int (-1000000)), (8, .int x8_27), (0, .ref (A_m 0)), (1, .int x1), (2, .int x2), (3, .int x3), (4, .int x4), (5, .int x5)]) hx hb dX12_gotBy_88 hl (k := 8) rfl (by rw [e_x7_36]; rfl) (by decide) rfl (fun ls hl => ?_)
              refine lv_goto (tgt := 21) hx hb dX12_gotBy_91 (by decide) ?_
              exact ih21 m_at x5 (-1000000) x7_36 _ _ hP hS ls (lv_sub hl [3, 4, 5, 6, 7, 8, 1, 0] rfl) h
  unfold f_X12_gotBy at h
  refine lv_aload_n hx hb dX12_gotBy_0 rfl (lv_at hl 0 rfl) ?_
  refine lv_sipush (v := 2928) hx hb dX12_gotBy_1 (by decide) ?_
  obtain ⟨z_37, e_z_37, h⟩ := bi h
  refine efVv (rest := []) ⟨hx, hb, hml, hown, ht⟩ (c_X12_keeps l D cy fu A_m m_at m_names m_status m_top m_bottom m_sort m_trayMany m_trays m_tape m_text m_taped m_size m_token m_from m_end m_value m_faultKind m_faultPlace m_faults m_seen m_toldParts m_opened m_depth m_counted m_bestOrder m_standers m_has m_bestHas m_standerMany m_bestCouples m_bestFondness m_cameTo m_doesStandFirst m_stoodBy m_drawn m_ranSteps m_loops m_ran m_told1 m_isTold m_marks 2928 z_37 e_z_37 _ rfl _ rfl) (cV ht mv_X12_keeps tb_1756 rfl rfl ⟨Nat.le_of_ble_eq_true rfl, Nat.le_of_ble_eq_true rfl⟩) hP hS hX [0] rfl rfl rfl rfl rfl rfl hl.1 rfl (Nat.le_of_ble_eq_true rfl) dX12_gotBy_4 ⟨Nat.le_of_ble_eq_true rfl, Nat.le_of_ble_eq_true rfl⟩ (fun H locs hP hS => ?_)
  have hP : PD D A [bl_X12 cy A_m z_37 m_names m_status m_top m_bottom m_sort m_trayMany m_trays m_tape m_text m_taped m_size m_token m_from m_end m_value m_faultKind m_faultPlace m_faults m_seen m_toldParts m_opened m_depth m_counted m_bestOrder m_standers m_has m_bestHas m_standerMany m_bestCouples m_bestFondness m_cameTo m_doesStandFirst m_stoodBy m_drawn m_ranSteps m_loops m_ran m_told1 m_isTold m_marks] H := hP
  refine lv_aload_n hx hb dX12_gotBy_7 rfl (lv_at hl 0 rfl) ?_
  refine lv_iload_n hx hb dX12_gotBy_8 rfl (lv_at hl 1 rfl) ?_
  refine lv_iconst (v := 2) hx hb dX12_gotBy_9 (by decide) ?_
  obtain ⟨z_38, e_z_38, h⟩ := bi h
  refine roVi (rest := []) ⟨hx, hb, hml, hown, ht⟩ (c_X12_manOf l D cy fu A_m z_37 m_names m_status m_top m_bottom m_sort m_trayMany m_trays m_tape m_text m_taped m_size m_token m_from m_end m_value m_faultKind m_faultPlace m_faults m_seen m_toldParts m_opened m_depth m_counted m_bestOrder m_standers m_has m_bestHas m_standerMany m_bestCouples m_bestFondness m_cameTo m_doesStandFirst m_stoodBy m_drawn m_ranSteps m_loops m_ran m_told1 m_isTold m_marks x1 2 z_38 e_z_38) (cV ht mv_X12_manOf tb_1535 rfl rfl ⟨Nat.le_of_ble_eq_true rfl, Nat.le_of_ble_eq_true rfl⟩) (P_sub hP.1 [0] rfl) hX rfl rfl rfl hl.1 rfl (Nat.le_of_ble_eq_true rfl) dX12_gotBy_10 ⟨Nat.le_of_ble_eq_true rfl, Nat.le_of_ble_eq_true rfl⟩ ?_
  refine lv_istore (lv' := [(5, .int z_38), (0, .ref (A_m 0)), (1, .int x1), (2, .int x2), (3, .int x3), (4, .int x4)]) hx hb dX12_gotBy_13 hl (by decide) rfl (fun ls hl => ?_)
  refine lv_iconst (v := 0) hx hb dX12_gotBy_15 (by decide) ?_
  refine lv_istore (lv' := [(6, .int 0), (5, .int z_38), (0, .ref (A_m 0)), (1, .int x1), (2, .int x2), (3, .int x3), (4, .int x4)]) hx hb dX12_gotBy_16 hl (by decide) rfl (fun ls hl => ?_)
  refine lv_iconst (v := 0) hx hb dX12_gotBy_18 (by decide) ?_
  refine lv_istore (lv' := [(7, .int 0), (6, .int 0), (5, .int z_38), (0, .ref (A_m 0)), (1, .int x1), (2, .int x2), (3, .int x3), (4, .int x4)]) hx hb dX12_gotBy_19 hl (by decide) rfl (fun ls hl => ?_)
  exact l21 fu z_37 z_38 0 0 _ _ hP hS ls (lv_sub hl [3, 4, 5, 6, 7, 2, 1, 0] rfl) h
theorem dX12_ordering_0 : decode cX12_ordering 0 = .ok (.ldc_w 345, 3) := by decide +kernel
theorem dX12_ordering_3 : decode cX12_ordering 3 = .ok (.istore 4, 2) := by decide +kernel
theorem dX12_ordering_5 : decode cX12_ordering 5 = .ok (.iconst 0, 1) := by decide +kernel
theorem dX12_ordering_6 : decode cX12_ordering 6 = .ok (.istore 5, 2) := by decide +kernel
theorem dX12_ordering_8 : decode cX12_ordering 8 = .ok (.iload 5, 2) := by decide +kernel
theorem dX12_ordering_10 : decode cX12_ordering 10 = .ok (.iconst 1, 1) := by decide +kernel
theorem dX12_ordering_11 : decode cX12_ordering 11 = .ok (.iconst 3, 1) := by decide +kernel
theorem dX12_ordering_12 : decode cX12_ordering 12 = .ok (.iload_n 3, 1) := by decide +kernel
theorem dX12_ordering_13 : decode cX12_ordering 13 = .ok (.imul, 1) := by decide +kernel
theorem dX12_ordering_14 : decode cX12_ordering 14 = .ok (.ishl, 1) := by decide +kernel
theorem dX12_ordering_15 : decode cX12_ordering 15 = .ok (.if_icmp .ge 40, 3) := by decide +kernel
theorem dX12_ordering_18 : decode cX12_ordering 18 = .ok (.aload_n 0, 1) := by decide +kernel
theorem dX12_ordering_19 : decode cX12_ordering 19 = .ok (.iload_n 1, 1) := by decide +kernel
theorem dX12_ordering_20 : decode cX12_ordering 20 = .ok (.iload_n 2, 1) := by decide +kernel
theorem dX12_ordering_21 : decode cX12_ordering 21 = .ok (.iload_n 3, 1) := by decide +kernel
theorem dX12_ordering_22 : decode cX12_ordering 22 = .ok (.iload 5, 2) := by decide +kernel
theorem dX12_ordering_24 : decode cX12_ordering 24 = .ok (.invokevirtual 352, 3) := by decide +kernel
theorem dX12_ordering_27 : decode cX12_ordering 27 = .ok (.istore 6, 2) := by decide +kernel
theorem dX12_ordering_29 : decode cX12_ordering 29 = .ok (.iload 6, 2) := by decide +kernel
theorem dX12_ordering_31 : decode cX12_ordering 31 = .ok (.iload 4, 2) := by decide +kernel
theorem dX12_ordering_33 : decode cX12_ordering 33 = .ok (.if_icmp .gt 6, 3) := by decide +kernel
theorem dX12_ordering_36 : decode cX12_ordering 36 = .ok (.goto 13, 3) := by decide +kernel
theorem dX12_ordering_39 : decode cX12_ordering 39 = .ok (.iload 6, 2) := by decide +kernel
theorem dX12_ordering_41 : decode cX12_ordering 41 = .ok (.istore 4, 2) := by decide +kernel
theorem dX12_ordering_43 : decode cX12_ordering 43 = .ok (.aload_n 0, 1) := by decide +kernel
theorem dX12_ordering_44 : decode cX12_ordering 44 = .ok (.iload 5, 2) := by decide +kernel
theorem dX12_ordering_46 : decode cX12_ordering 46 = .ok (.putfield 356, 3) := by decide +kernel
theorem dX12_ordering_49 : decode cX12_ordering 49 = .ok (.iinc 5 1, 3) := by decide +kernel
theorem dX12_ordering_52 : decode cX12_ordering 52 = .ok (.goto (-44), 3) := by decide +kernel
theorem dX12_ordering_55 : decode cX12_ordering 55 = .ok (.iload 4, 2) := by decide +kernel
theorem dX12_ordering_57 : decode cX12_ordering 57 = .ok (.ireturn, 1) := by decide +kernel
theorem mv_X12_ordering : MV yX12_ordering RX12 cX12_ordering 7 (some .int) 3 := ⟨tb_1750, tb_1749, ts_94, tb_16, by decide +kernel, by decide +kernel, by decide +kernel⟩
def f_X12_ordering_b8 (fu : Nat) (m_trays : Nat → Int64) (x1 : Int32) (x2 : Int32) (x3 : Int32) (k8 : (Nat → Int32) → Int32 → Int32 → Int32 → (Option (Int32 × (Nat → Int32) × Int32))) (m_at : Nat → Int32) (m_bestOrder : Int32) (x4 : Int32) (x5 : Int32) : Option (Int32 × (Nat → Int32) × Int32) := (if ((1 : Int32) <<< ((3 * x3) &&& 31)) ≤ x5 then some (x4, m_at, m_bestOrder) else (f_X12_gotBy fu m_at m_trays x1 x2 x3 x5).bind fun z_7 => (if x4 < z_7.1 then bnd (x5 + 1) fun x5_9 => k8 z_7.2 x5 z_7.1 x5_9 else bnd (x5 + 1) fun x5_10 => k8 z_7.2 m_bestOrder x4 x5_10))
def f_X12_ordering_l8 (fu : Nat) (m_trays : Nat → Int64) (x1 : Int32) (x2 : Int32) (x3 : Int32) : Nat → (Nat → Int32) → Int32 → Int32 → Int32 → (Option (Int32 × (Nat → Int32) × Int32))
  | 0, _, _, _, _ => none
  | n + 1, m_at, m_bestOrder, x4, x5 => f_X12_ordering_b8 fu m_trays x1 x2 x3 (f_X12_ordering_l8 fu m_trays x1 x2 x3 n) m_at m_bestOrder x4 x5
def f_X12_ordering (fu : Nat) (m_at : Nat → Int32) (m_trays : Nat → Int64) (m_bestOrder : Int32) (x1 : Int32) (x2 : Int32) (x3 : Int32) : Option (Int32 × (Nat → Int32) × Int32) := f_X12_ordering_l8 fu m_trays x1 x2 x3 fu m_at m_bestOrder (-1000000) 0
abbrev rm_X12_ordering : Room := { frames := 9, cells := 0, slots := 0, locals := 213 }
set_option maxHeartbeats 4000000 in
set_option maxRecDepth 100000 in
theorem c_X12_ordering (l : Launch) (D : va_G) (cy : Nat → ClassId) (fu : Nat) (A_m : Nat → Nat) (m_at : Nat → Int32) (m_names : Nat → Int64) (m_status : Int32) (m_top : Int64) (m_bottom : Int64) (m_sort : Nat → Int32) (m_trayMany : Nat → Int32) (m_trays : Nat → Int64) (m_tape : Nat → Int32) (m_text : Nat → Int32) (m_taped : Int32) (m_size : Int32) (m_token : Int32) (m_from : Int32) (m_end : Int32) (m_value : Int32) (m_faultKind : Int32) (m_faultPlace : Int32) (m_faults : Int32) (m_seen : Int32) (m_toldParts : Int32) (m_opened : Nat → Int32) (m_depth : Int32) (m_counted : Int32) (m_bestOrder : Int32) (m_standers : Nat → Int32) (m_has : Nat → Int32) (m_bestHas : Nat → Int32) (m_standerMany : Int32) (m_bestCouples : Int32) (m_bestFondness : Int32) (m_cameTo : Nat → Int32) (m_doesStandFirst : Int32) (m_stoodBy : Nat → Int64) (m_drawn : Int32) (m_ranSteps : Int32) (m_loops : Nat → Int32) (m_ran : Nat → Int32) (m_told1 : Nat → Int32) (m_isTold : Int32) (m_marks : Int32) (x1 : Int32) (x2 : Int32) (x3 : Int32) (res : Int32 × (Nat → Int32) × Int32) (h : f_X12_ordering fu m_at m_trays m_bestOrder x1 x2 x3 = some res) (A : Nat → Prop) (hA : A = adr [bl_X12 cy A_m m_at m_names m_status m_top m_bottom m_sort m_trayMany m_trays m_tape m_text m_taped m_size m_token m_from m_end m_value m_faultKind m_faultPlace m_faults m_seen m_toldParts m_opened m_depth m_counted m_bestOrder m_standers m_has m_bestHas m_standerMany m_bestCouples m_bestFondness m_cameTo m_doesStandFirst m_stoodBy m_drawn m_ranSteps m_loops m_ran m_told1 m_isTold m_marks]) (W1 : List va_W) (hW1 : W1 = [bl_X12 cy A_m res.2.1 m_names m_status m_top m_bottom m_sort m_trayMany m_trays m_tape m_text m_taped m_size m_token m_from m_end m_value m_faultKind m_faultPlace m_faults m_seen m_toldParts m_opened m_depth m_counted res.2.2 m_standers m_has m_bestHas m_standerMany m_bestCouples m_bestFondness m_cameTo m_doesStandFirst m_stoodBy m_drawn m_ranSteps m_loops m_ran m_told1 m_isTold m_marks]) : Met l yX12_ordering (WW yX12_ordering cX12_ordering 7 (some .int)) rm_X12_ordering (Ed D cy [.ref (A_m 0), .int x1, .int x2, .int x3] [bl_X12 cy A_m m_at m_names m_status m_top m_bottom m_sort m_trayMany m_trays m_tape m_text m_taped m_size m_token m_from m_end m_value m_faultKind m_faultPlace m_faults m_seen m_toldParts m_opened m_depth m_counted m_bestOrder m_standers m_has m_bestHas m_standerMany m_bestCouples m_bestFondness m_cameTo m_doesStandFirst m_stoodBy m_drawn m_ranSteps m_loops m_ran m_told1 m_isTold m_marks]) (Qei D res.1 A W1) 0 0 A := by
  refine Met.ofW (cc := cX12_ordering) (maxL := 7) (ret := (some .int)) (by decide) rfl ?_
  intro p e s m args below meth c s₁ B hml hv
  obtain ⟨hargs, hP, hX, hD0⟩ := hv
  have hx := B.exec
  have hb := B.bytes
  have hr := B.returns
  have ht : ∀ w ∈ lw_gd, w.before args s = true := fun w hw => atoms_spec (ws := WW yX12_ordering cX12_ordering 7 (some .int)) B.pre w (List.mem_cons_of_mem _ hw)
  have hown : s.vm.findClass RX12 = some m.cls := findClass_of_methodNamed B.named
  have hlocks := B.notSynchronized
  have hP : PD D A [bl_X12 cy A_m m_at m_names m_status m_top m_bottom m_sort m_trayMany m_trays m_tape m_text m_taped m_size m_token m_from m_end m_value m_faultKind m_faultPlace m_faults m_seen m_toldParts m_opened m_depth m_counted m_bestOrder m_standers m_has m_bestHas m_standerMany m_bestCouples m_bestFondness m_cameTo m_doesStandFirst m_stoodBy m_drawn m_ranSteps m_loops m_ran m_told1 m_isTold m_marks] s.heap := ⟨hP, by rw [hA]; exact hD0.own⟩
  have hS : va_S A s.heap s.heap [] := va_S.rf
  obtain ⟨ls, hl, hent⟩ := ent (m := m) (n := 7) hargs (Nat.le_of_ble_eq_true rfl) (lv := [(0, .ref (A_m 0)), (1, .int x1), (2, .int x2), (3, .int x3)]) rfl
  rw [hent]
  clear hent
  have l8 : ∀ (n8 : Nat) (m_at : Nat → Int32) (m_bestOrder : Int32) (x4 : Int32) (x5 : Int32) (H : Heap) (locs : List Loc) (_ : PD D A [bl_X12 cy A_m m_at m_names m_status m_top m_bottom m_sort m_trayMany m_trays m_tape m_text m_taped m_size m_token m_from m_end m_value m_faultKind m_faultPlace m_faults m_seen m_toldParts m_opened m_depth m_counted m_bestOrder m_standers m_has m_bestHas m_standerMany m_bestCouples m_bestFondness m_cameTo m_doesStandFirst m_stoodBy m_drawn m_ranSteps m_loops m_ran m_told1 m_isTold m_marks] H) (_ : va_S A s.heap H locs) (ls : Array Slot), lv_has ls 7 [(0, .ref (A_m 0)), (1, .int x1), (2, .int x2), (3, .int x3), (4, .int x4), (5, .int x5)] → f_X12_ordering_l8 fu m_trays x1 x2 x3 n8 m_at m_bestOrder x4 x5 = some res → W p l e (headSpec (WW yX12_ordering cX12_ordering 7 (some .int)) rm_X12_ordering).room s m args below meth c H locs 0 0 (MQ below (Qei D res.1 A W1) args s 0 0 A) (F0 m 8 ls []) := by
    intro n8
    induction n8 with
    | zero => intro m_at m_bestOrder x4 x5 H locs hP hS ls hl h; cases h
    | succ n8 ih8 =>
      intro m_at m_bestOrder x4 x5 H locs hP hS ls hl h
      have h : f_X12_ordering_b8 fu m_trays x1 x2 x3 (f_X12_ordering_l8 fu m_trays x1 x2 x3 n8) m_at m_bestOrder x4 x5 = some res := h
      unfold f_X12_ordering_b8 at h
      refine lv_iload hx hb dX12_ordering_8 (lv_at hl 5 rfl) ?_
      refine lv_iconst (v := 1) hx hb dX12_ordering_10 (by decide) ?_
      refine lv_iconst (v := 3) hx hb dX12_ordering_11 (by decide) ?_
      refine lv_iload_n hx hb dX12_ordering_12 rfl (lv_at hl 3 rfl) ?_
      refine lv_imul hx hb dX12_ordering_13 ?_
      refine lv_ishl hx hb dX12_ordering_14 ?_
      refine lv_icmp_ge (tgt := 55) hx hb dX12_ordering_15 (by decide) (fun c_6 => ?_) (fun c_6 => ?_)
      · have h := it c_6 h
        refine lv_iload hx hb dX12_ordering_55 (lv_at hl 4 rfl) ?_
        cases h
        subst hW1
        exact W.iret hx hb hr (fun _ ht9 _ => ⟨⟨_, (), rfl, rfl, hPt ht9 hP.1⟩, hS.F ht9⟩) hS.2.2 dX12_ordering_57
      · have h := ie c_6 h
        refine lv_aload_n hx hb dX12_ordering_18 rfl (lv_at hl 0 rfl) ?_
        refine lv_iload_n hx hb dX12_ordering_19 rfl (lv_at hl 1 rfl) ?_
        refine lv_iload_n hx hb dX12_ordering_20 rfl (lv_at hl 2 rfl) ?_
        refine lv_iload_n hx hb dX12_ordering_21 rfl (lv_at hl 3 rfl) ?_
        refine lv_iload hx hb dX12_ordering_22 (lv_at hl 5 rfl) ?_
        obtain ⟨z_7, e_z_7, h⟩ := bi h
        refine efVi (rest := []) ⟨hx, hb, hml, hown, ht⟩ (c_X12_gotBy l D cy fu A_m m_at m_names m_status m_top m_bottom m_sort m_trayMany m_trays m_tape m_text m_taped m_size m_token m_from m_end m_value m_faultKind m_faultPlace m_faults m_seen m_toldParts m_opened m_depth m_counted m_bestOrder m_standers m_has m_bestHas m_standerMany m_bestCouples m_bestFondness m_cameTo m_doesStandFirst m_stoodBy m_drawn m_ranSteps m_loops m_ran m_told1 m_isTold m_marks x1 x2 x3 x5 z_7 e_z_7 _ rfl _ rfl) (cV ht mv_X12_gotBy tb_1752 rfl rfl ⟨Nat.le_of_ble_eq_true rfl, Nat.le_of_ble_eq_true rfl⟩) hP hS hX [0] rfl rfl rfl rfl rfl rfl hl.1 rfl (Nat.le_of_ble_eq_true rfl) dX12_ordering_24 ⟨Nat.le_of_ble_eq_true rfl, Nat.le_of_ble_eq_true rfl⟩ (fun H locs hP hS => ?_)
        have hP : PD D A [bl_X12 cy A_m z_7.2 m_names m_status m_top m_bottom m_sort m_trayMany m_trays m_tape m_text m_taped m_size m_token m_from m_end m_value m_faultKind m_faultPlace m_faults m_seen m_toldParts m_opened m_depth m_counted m_bestOrder m_standers m_has m_bestHas m_standerMany m_bestCouples m_bestFondness m_cameTo m_doesStandFirst m_stoodBy m_drawn m_ranSteps m_loops m_ran m_told1 m_isTold m_marks] H := hP
        refine lv_istore (lv' := [(6, .int z_7.1), (0, .ref (A_m 0)), (1, .int x1), (2, .int x2), (3, .int x3), (4, .int x4), (5, .int x5)]) hx hb dX12_ordering_27 hl (by decide) rfl (fun ls hl => ?_)
        refine lv_iload hx hb dX12_ordering_29 (lv_at hl 0 rfl) ?_
        refine lv_iload hx hb dX12_ordering_31 (lv_at hl 5 rfl) ?_
        refine lv_icmp_gt (tgt := 39) hx hb dX12_ordering_33 (by decide) (fun c_8 => ?_) (fun c_8 => ?_)
        · have h := it c_8 h
          refine lv_iload hx hb dX12_ordering_39 (lv_at hl 0 rfl) ?_
          refine lv_istore (lv' := [(4, .int z_7.1), (6, .int z_7.1), (0, .ref (A_m 0)), (1, .int x1), (2, .int x2), (3, .int x3), (5, .int x5)]) hx hb dX12_ordering_41 hl (by decide) rfl (fun ls hl => ?_)
          refine lv_aload_n hx hb dX12_ordering_43 rfl (lv_at hl 2 rfl) ?_
          refine lv_iload hx hb dX12_ordering_44 (lv_at hl 6 rfl) ?_
          refine xput (i := 0) (j := 0) (k := 24) (T := TX12) tyX12 tyX12_ok nmX12 hx hb ht tb_iX12 hown hX hP hS rfl rfl rfl (by decide) tb_1253 rfl rfl rfl (Nat.le_of_ble_eq_true rfl) dX12_ordering_46 (fun H locs hP hS => ?_)
          have hP : PD D A [bl_X12 cy A_m z_7.2 m_names m_status m_top m_bottom m_sort m_trayMany m_trays m_tape m_text m_taped m_size m_token m_from m_end m_value m_faultKind m_faultPlace m_faults m_seen m_toldParts m_opened m_depth m_counted x5 m_standers m_has m_bestHas m_standerMany m_bestCouples m_bestFondness m_cameTo m_doesStandFirst m_stoodBy m_drawn m_ranSteps m_loops m_ran m_told1 m_isTold m_marks] H := hP
          obtain ⟨x5_9, e_x5_9⟩ : ∃ y : Int32, y = x5 + 1 := ⟨_, rfl⟩
          have h := bn e_x5_9 h
          refine lv_iinc (v := x5_9) (lv' := [(5, .int x5_9), (4, .int z_7.1), (6, .int z_7.1), (0, .ref (A_m 0)), (1, .int x1), (2, .int x2), (3, .int x3)]) hx hb dX12_ordering_49 hl (k := 6) rfl (by rw [e_x5_9]; rfl) (by decide) rfl (fun ls hl => ?_)
          refine lv_goto (tgt := 8) hx hb dX12_ordering_52 (by decide) ?_
          exact ih8 z_7.2 x5 z_7.1 x5_9 _ _ hP hS ls (lv_sub hl [3, 4, 5, 6, 1, 0] rfl) h
        · have h := ie c_8 h
          refine lv_goto (tgt := 49) hx hb dX12_ordering_36 (by decide) ?_
          obtain ⟨x5_10, e_x5_10⟩ : ∃ y : Int32, y = x5 + 1 := ⟨_, rfl⟩
          have h := bn e_x5_10 h
          refine lv_iinc (v := x5_10) (lv' := [(5, .int x5_10), (6, .int z_7.1), (0, .ref (A_m 0)), (1, .int x1), (2, .int x2), (3, .int x3), (4, .int x4)]) hx hb dX12_ordering_49 hl (k := 6) rfl (by rw [e_x5_10]; rfl) (by decide) rfl (fun ls hl => ?_)
          refine lv_goto (tgt := 8) hx hb dX12_ordering_52 (by decide) ?_
          exact ih8 z_7.2 m_bestOrder x4 x5_10 _ _ hP hS ls (lv_sub hl [2, 3, 4, 5, 6, 0] rfl) h
  unfold f_X12_ordering at h
  refine lv_ldcw (v := (-1000000)) hx hb hown (ht _ tb_1751) dX12_ordering_0 ?_
  refine lv_istore (lv' := [(4, .int (-1000000)), (0, .ref (A_m 0)), (1, .int x1), (2, .int x2), (3, .int x3)]) hx hb dX12_ordering_3 hl (by decide) rfl (fun ls hl => ?_)
  refine lv_iconst (v := 0) hx hb dX12_ordering_5 (by decide) ?_
  refine lv_istore (lv' := [(5, .int 0), (4, .int (-1000000)), (0, .ref (A_m 0)), (1, .int x1), (2, .int x2), (3, .int x3)]) hx hb dX12_ordering_6 hl (by decide) rfl (fun ls hl => ?_)
  exact l8 fu m_at m_bestOrder (-1000000) 0 _ _ hP hS ls (lv_sub hl [2, 3, 4, 5, 1, 0] rfl) h
theorem dX12_most_0 : decode cX12_most 0 = .ok (.aload_n 0, 1) := by decide +kernel
theorem dX12_most_1 : decode cX12_most 1 = .ok (.iload_n 1, 1) := by decide +kernel
theorem dX12_most_2 : decode cX12_most 2 = .ok (.invokevirtual 241, 3) := by decide +kernel
theorem dX12_most_5 : decode cX12_most 5 = .ok (.ifCond .eq 13, 3) := by decide +kernel
theorem dX12_most_8 : decode cX12_most 8 = .ok (.aload_n 0, 1) := by decide +kernel
theorem dX12_most_9 : decode cX12_most 9 = .ok (.iload_n 2, 1) := by decide +kernel
theorem dX12_most_10 : decode cX12_most 10 = .ok (.iload_n 3, 1) := by decide +kernel
theorem dX12_most_11 : decode cX12_most 11 = .ok (.iconst 1, 1) := by decide +kernel
theorem dX12_most_12 : decode cX12_most 12 = .ok (.invokevirtual 359, 3) := by decide +kernel
theorem dX12_most_15 : decode cX12_most 15 = .ok (.goto 4, 3) := by decide +kernel
theorem dX12_most_18 : decode cX12_most 18 = .ok (.iconst 1, 1) := by decide +kernel
theorem dX12_most_19 : decode cX12_most 19 = .ok (.istore 4, 2) := by decide +kernel
theorem dX12_most_21 : decode cX12_most 21 = .ok (.iload 4, 2) := by decide +kernel
theorem dX12_most_23 : decode cX12_most 23 = .ok (.ifCond .le 10, 3) := by decide +kernel
theorem dX12_most_26 : decode cX12_most 26 = .ok (.aload_n 0, 1) := by decide +kernel
theorem dX12_most_27 : decode cX12_most 27 = .ok (.iload 4, 2) := by decide +kernel
theorem dX12_most_29 : decode cX12_most 29 = .ok (.invokevirtual 85, 3) := by decide +kernel
theorem dX12_most_32 : decode cX12_most 32 = .ok (.ireturn, 1) := by decide +kernel
theorem dX12_most_33 : decode cX12_most 33 = .ok (.aload_n 0, 1) := by decide +kernel
theorem dX12_most_34 : decode cX12_most 34 = .ok (.iload_n 1, 1) := by decide +kernel
theorem dX12_most_35 : decode cX12_most 35 = .ok (.invokevirtual 253, 3) := by decide +kernel
theorem dX12_most_38 : decode cX12_most 38 = .ok (.ifCond .eq 17, 3) := by decide +kernel
theorem dX12_most_41 : decode cX12_most 41 = .ok (.aload_n 0, 1) := by decide +kernel
theorem dX12_most_42 : decode cX12_most 42 = .ok (.aload_n 0, 1) := by decide +kernel
theorem dX12_most_43 : decode cX12_most 43 = .ok (.iload_n 1, 1) := by decide +kernel
theorem dX12_most_44 : decode cX12_most 44 = .ok (.iload_n 2, 1) := by decide +kernel
theorem dX12_most_45 : decode cX12_most 45 = .ok (.iload_n 3, 1) := by decide +kernel
theorem dX12_most_46 : decode cX12_most 46 = .ok (.invokevirtual 363, 3) := by decide +kernel
theorem dX12_most_49 : decode cX12_most 49 = .ok (.invokevirtual 88, 3) := by decide +kernel
theorem dX12_most_52 : decode cX12_most 52 = .ok (.goto 9, 3) := by decide +kernel
theorem dX12_most_55 : decode cX12_most 55 = .ok (.aload_n 0, 1) := by decide +kernel
theorem dX12_most_56 : decode cX12_most 56 = .ok (.bipush 7, 2) := by decide +kernel
theorem dX12_most_58 : decode cX12_most 58 = .ok (.invokevirtual 85, 3) := by decide +kernel
theorem dX12_most_61 : decode cX12_most 61 = .ok (.ireturn, 1) := by decide +kernel
theorem mv_X12_most : MV yX12_most RX12 cX12_most 5 (some .int) 3 := ⟨tb_1741, tb_1739, tb_1740, tb_16, by decide +kernel, by decide +kernel, by decide +kernel⟩
def f_X12_most_j19 (fu : Nat) (m_trayMany : Nat → Int32) (m_trays : Nat → Int64) (x1 : Int32) (x2 : Int32) (x3 : Int32) (m_at : Nat → Int32) (m_status : Int32) (m_bestOrder : Int32) (s0 : Int32) : Option (Int32 × (Nat → Int32) × Int32 × Int32) := (if s0 ≤ 0 then (f_X12_isAlive fu m_at x1).bind fun z_12 => (if z_12 = 0 then (f_X12_refuse fu m_status 7).bind fun z_14 => some (z_14.1, m_at, z_14.2, m_bestOrder) else (f_X12_ordering fu m_at m_trays m_bestOrder x1 x2 x3).bind fun z_15 => (f_X12_gives fu m_status z_15.1).bind fun z_16 => some (z_16.1, z_15.2.1, z_16.2, z_15.2.2)) else (f_X12_refuse fu m_status s0).bind fun z_17 => some (z_17.1, m_at, z_17.2, m_bestOrder))
def f_X12_most (fu : Nat) (m_at : Nat → Int32) (m_status : Int32) (m_trayMany : Nat → Int32) (m_trays : Nat → Int64) (m_bestOrder : Int32) (x1 : Int32) (x2 : Int32) (x3 : Int32) : Option (Int32 × (Nat → Int32) × Int32 × Int32) := (f_X12_isMan fu m_at x1).bind fun z_18 => (if z_18 = 0 then f_X12_most_j19 fu m_trayMany m_trays x1 x2 x3 m_at m_status m_bestOrder 1 else (f_X12_wrongSizes fu m_trayMany m_trays x2 x3 1).bind fun z_20 => f_X12_most_j19 fu m_trayMany m_trays x1 x2 x3 m_at m_status m_bestOrder z_20)
abbrev rm_X12_most : Room := { frames := 10, cells := 0, slots := 0, locals := 239 }
set_option maxHeartbeats 4000000 in
set_option maxRecDepth 100000 in
theorem c_X12_most (l : Launch) (D : va_G) (cy : Nat → ClassId) (fu : Nat) (A_m : Nat → Nat) (m_at : Nat → Int32) (m_names : Nat → Int64) (m_status : Int32) (m_top : Int64) (m_bottom : Int64) (m_sort : Nat → Int32) (m_trayMany : Nat → Int32) (m_trays : Nat → Int64) (m_tape : Nat → Int32) (m_text : Nat → Int32) (m_taped : Int32) (m_size : Int32) (m_token : Int32) (m_from : Int32) (m_end : Int32) (m_value : Int32) (m_faultKind : Int32) (m_faultPlace : Int32) (m_faults : Int32) (m_seen : Int32) (m_toldParts : Int32) (m_opened : Nat → Int32) (m_depth : Int32) (m_counted : Int32) (m_bestOrder : Int32) (m_standers : Nat → Int32) (m_has : Nat → Int32) (m_bestHas : Nat → Int32) (m_standerMany : Int32) (m_bestCouples : Int32) (m_bestFondness : Int32) (m_cameTo : Nat → Int32) (m_doesStandFirst : Int32) (m_stoodBy : Nat → Int64) (m_drawn : Int32) (m_ranSteps : Int32) (m_loops : Nat → Int32) (m_ran : Nat → Int32) (m_told1 : Nat → Int32) (m_isTold : Int32) (m_marks : Int32) (x1 : Int32) (x2 : Int32) (x3 : Int32) (res : Int32 × (Nat → Int32) × Int32 × Int32) (h : f_X12_most fu m_at m_status m_trayMany m_trays m_bestOrder x1 x2 x3 = some res) (A : Nat → Prop) (hA : A = adr [bl_X12 cy A_m m_at m_names m_status m_top m_bottom m_sort m_trayMany m_trays m_tape m_text m_taped m_size m_token m_from m_end m_value m_faultKind m_faultPlace m_faults m_seen m_toldParts m_opened m_depth m_counted m_bestOrder m_standers m_has m_bestHas m_standerMany m_bestCouples m_bestFondness m_cameTo m_doesStandFirst m_stoodBy m_drawn m_ranSteps m_loops m_ran m_told1 m_isTold m_marks]) (W1 : List va_W) (hW1 : W1 = [bl_X12 cy A_m res.2.1 m_names res.2.2.1 m_top m_bottom m_sort m_trayMany m_trays m_tape m_text m_taped m_size m_token m_from m_end m_value m_faultKind m_faultPlace m_faults m_seen m_toldParts m_opened m_depth m_counted res.2.2.2 m_standers m_has m_bestHas m_standerMany m_bestCouples m_bestFondness m_cameTo m_doesStandFirst m_stoodBy m_drawn m_ranSteps m_loops m_ran m_told1 m_isTold m_marks]) : Met l yX12_most (WW yX12_most cX12_most 5 (some .int)) rm_X12_most (Ed D cy [.ref (A_m 0), .int x1, .int x2, .int x3] [bl_X12 cy A_m m_at m_names m_status m_top m_bottom m_sort m_trayMany m_trays m_tape m_text m_taped m_size m_token m_from m_end m_value m_faultKind m_faultPlace m_faults m_seen m_toldParts m_opened m_depth m_counted m_bestOrder m_standers m_has m_bestHas m_standerMany m_bestCouples m_bestFondness m_cameTo m_doesStandFirst m_stoodBy m_drawn m_ranSteps m_loops m_ran m_told1 m_isTold m_marks]) (Qei D res.1 A W1) 0 0 A := by
  refine Met.ofW (cc := cX12_most) (maxL := 5) (ret := (some .int)) (by decide) rfl ?_
  intro p e s m args below meth c s₁ B hml hv
  obtain ⟨hargs, hP, hX, hD0⟩ := hv
  have hx := B.exec
  have hb := B.bytes
  have hr := B.returns
  have ht : ∀ w ∈ lw_gd, w.before args s = true := fun w hw => atoms_spec (ws := WW yX12_most cX12_most 5 (some .int)) B.pre w (List.mem_cons_of_mem _ hw)
  have hown : s.vm.findClass RX12 = some m.cls := findClass_of_methodNamed B.named
  have hlocks := B.notSynchronized
  have hP : PD D A [bl_X12 cy A_m m_at m_names m_status m_top m_bottom m_sort m_trayMany m_trays m_tape m_text m_taped m_size m_token m_from m_end m_value m_faultKind m_faultPlace m_faults m_seen m_toldParts m_opened m_depth m_counted m_bestOrder m_standers m_has m_bestHas m_standerMany m_bestCouples m_bestFondness m_cameTo m_doesStandFirst m_stoodBy m_drawn m_ranSteps m_loops m_ran m_told1 m_isTold m_marks] s.heap := ⟨hP, by rw [hA]; exact hD0.own⟩
  have hS : va_S A s.heap s.heap [] := va_S.rf
  obtain ⟨ls, hl, hent⟩ := ent (m := m) (n := 5) hargs (Nat.le_of_ble_eq_true rfl) (lv := [(0, .ref (A_m 0)), (1, .int x1), (2, .int x2), (3, .int x3)]) rfl
  rw [hent]
  clear hent
  have j19 : ∀ (m_at : Nat → Int32) (m_status : Int32) (m_bestOrder : Int32) (s0 : Int32) (H : Heap) (locs : List Loc) (_ : PD D A [bl_X12 cy A_m m_at m_names m_status m_top m_bottom m_sort m_trayMany m_trays m_tape m_text m_taped m_size m_token m_from m_end m_value m_faultKind m_faultPlace m_faults m_seen m_toldParts m_opened m_depth m_counted m_bestOrder m_standers m_has m_bestHas m_standerMany m_bestCouples m_bestFondness m_cameTo m_doesStandFirst m_stoodBy m_drawn m_ranSteps m_loops m_ran m_told1 m_isTold m_marks] H) (_ : va_S A s.heap H locs) (ls : Array Slot), lv_has ls 5 [(0, .ref (A_m 0)), (1, .int x1), (2, .int x2), (3, .int x3)] → f_X12_most_j19 fu m_trayMany m_trays x1 x2 x3 m_at m_status m_bestOrder s0 = some res → W p l e (headSpec (WW yX12_most cX12_most 5 (some .int)) rm_X12_most).room s m args below meth c H locs 0 0 (MQ below (Qei D res.1 A W1) args s 0 0 A) (F0 m 19 ls [.int s0]) := by
    intro m_at m_status m_bestOrder s0 H locs hP hS ls hl h
    unfold f_X12_most_j19 at h
    refine lv_istore (lv' := [(4, .int s0), (0, .ref (A_m 0)), (1, .int x1), (2, .int x2), (3, .int x3)]) hx hb dX12_most_19 hl (by decide) rfl (fun ls hl => ?_)
    refine lv_iload hx hb dX12_most_21 (lv_at hl 0 rfl) ?_
    refine lv_if_le (tgt := 33) hx hb dX12_most_23 (by decide) (fun c_11 => ?_) (fun c_11 => ?_)
    · have h := it c_11 h
      refine lv_aload_n hx hb dX12_most_33 rfl (lv_at hl 1 rfl) ?_
      refine lv_iload_n hx hb dX12_most_34 rfl (lv_at hl 2 rfl) ?_
      obtain ⟨z_12, e_z_12, h⟩ := bi h
      refine roVi (rest := []) ⟨hx, hb, hml, hown, ht⟩ (c_X12_isAlive l D cy fu A_m m_at m_names m_status m_top m_bottom m_sort m_trayMany m_trays m_tape m_text m_taped m_size m_token m_from m_end m_value m_faultKind m_faultPlace m_faults m_seen m_toldParts m_opened m_depth m_counted m_bestOrder m_standers m_has m_bestHas m_standerMany m_bestCouples m_bestFondness m_cameTo m_doesStandFirst m_stoodBy m_drawn m_ranSteps m_loops m_ran m_told1 m_isTold m_marks x1 z_12 e_z_12) (cV ht mv_X12_isAlive tb_1531 rfl rfl ⟨Nat.le_of_ble_eq_true rfl, Nat.le_of_ble_eq_true rfl⟩) (P_sub hP.1 [0] rfl) hX rfl rfl rfl hl.1 rfl (Nat.le_of_ble_eq_true rfl) dX12_most_35 ⟨Nat.le_of_ble_eq_true rfl, Nat.le_of_ble_eq_true rfl⟩ ?_
      refine lv_if_eq (tgt := 55) hx hb dX12_most_38 (by decide) (fun c_13 => ?_) (fun c_13 => ?_)
      · have h := it c_13 h
        refine lv_aload_n hx hb dX12_most_55 rfl (lv_at hl 1 rfl) ?_
        refine lv_bipush (v := 7) hx hb dX12_most_56 (by decide) ?_
        obtain ⟨z_14, e_z_14, h⟩ := bi h
        refine efVi (rest := []) ⟨hx, hb, hml, hown, ht⟩ (c_X12_refuse l D cy fu A_m m_at m_names m_status m_top m_bottom m_sort m_trayMany m_trays m_tape m_text m_taped m_size m_token m_from m_end m_value m_faultKind m_faultPlace m_faults m_seen m_toldParts m_opened m_depth m_counted m_bestOrder m_standers m_has m_bestHas m_standerMany m_bestCouples m_bestFondness m_cameTo m_doesStandFirst m_stoodBy m_drawn m_ranSteps m_loops m_ran m_told1 m_isTold m_marks 7 z_14 e_z_14 _ rfl _ rfl) (cV ht mv_X12_refuse tb_1432 rfl rfl ⟨Nat.le_of_ble_eq_true rfl, Nat.le_of_ble_eq_true rfl⟩) hP hS hX [0] rfl rfl rfl rfl rfl rfl hl.1 rfl (Nat.le_of_ble_eq_true rfl) dX12_most_58 ⟨Nat.le_of_ble_eq_true rfl, Nat.le_of_ble_eq_true rfl⟩ (fun H locs hP hS => ?_)
        have hP : PD D A [bl_X12 cy A_m m_at m_names z_14.2 m_top m_bottom m_sort m_trayMany m_trays m_tape m_text m_taped m_size m_token m_from m_end m_value m_faultKind m_faultPlace m_faults m_seen m_toldParts m_opened m_depth m_counted m_bestOrder m_standers m_has m_bestHas m_standerMany m_bestCouples m_bestFondness m_cameTo m_doesStandFirst m_stoodBy m_drawn m_ranSteps m_loops m_ran m_told1 m_isTold m_marks] H := hP
        cases h
        subst hW1
        exact W.iret hx hb hr (fun _ ht9 _ => ⟨⟨_, (), rfl, rfl, hPt ht9 hP.1⟩, hS.F ht9⟩) hS.2.2 dX12_most_61
      · have h := ie c_13 h
        refine lv_aload_n hx hb dX12_most_41 rfl (lv_at hl 1 rfl) ?_
        refine lv_aload_n hx hb dX12_most_42 rfl (lv_at hl 1 rfl) ?_
        refine lv_iload_n hx hb dX12_most_43 rfl (lv_at hl 2 rfl) ?_
        refine lv_iload_n hx hb dX12_most_44 rfl (lv_at hl 3 rfl) ?_
        refine lv_iload_n hx hb dX12_most_45 rfl (lv_at hl 4 rfl) ?_
        obtain ⟨z_15, e_z_15, h⟩ := bi h
        refine efVi (rest := [.ref (A_m 0)]) ⟨hx, hb, hml, hown, ht⟩ (c_X12_ordering l D cy fu A_m m_at m_names m_status m_top m_bottom m_sort m_trayMany m_trays m_tape m_text m_taped m_size m_token m_from m_end m_value m_faultKind m_faultPlace m_faults m_seen m_toldParts m_opened m_depth m_counted m_bestOrder m_standers m_has m_bestHas m_standerMany m_bestCouples m_bestFondness m_cameTo m_doesStandFirst m_stoodBy m_drawn m_ranSteps m_loops m_ran m_told1 m_isTold m_marks x1 x2 x3 z_15 e_z_15 _ rfl _ rfl) (cV ht mv_X12_ordering tb_1747 rfl rfl ⟨Nat.le_of_ble_eq_true rfl, Nat.le_of_ble_eq_true rfl⟩) hP hS hX [0] rfl rfl rfl rfl rfl rfl hl.1 rfl (Nat.le_of_ble_eq_true rfl) dX12_most_46 ⟨Nat.le_of_ble_eq_true rfl, Nat.le_of_ble_eq_true rfl⟩ (fun H locs hP hS => ?_)
        have hP : PD D A [bl_X12 cy A_m z_15.2.1 m_names m_status m_top m_bottom m_sort m_trayMany m_trays m_tape m_text m_taped m_size m_token m_from m_end m_value m_faultKind m_faultPlace m_faults m_seen m_toldParts m_opened m_depth m_counted z_15.2.2 m_standers m_has m_bestHas m_standerMany m_bestCouples m_bestFondness m_cameTo m_doesStandFirst m_stoodBy m_drawn m_ranSteps m_loops m_ran m_told1 m_isTold m_marks] H := hP
        obtain ⟨z_16, e_z_16, h⟩ := bi h
        refine efVi (rest := []) ⟨hx, hb, hml, hown, ht⟩ (c_X12_gives l D cy fu A_m z_15.2.1 m_names m_status m_top m_bottom m_sort m_trayMany m_trays m_tape m_text m_taped m_size m_token m_from m_end m_value m_faultKind m_faultPlace m_faults m_seen m_toldParts m_opened m_depth m_counted z_15.2.2 m_standers m_has m_bestHas m_standerMany m_bestCouples m_bestFondness m_cameTo m_doesStandFirst m_stoodBy m_drawn m_ranSteps m_loops m_ran m_told1 m_isTold m_marks z_15.1 z_16 e_z_16 _ rfl _ rfl) (cV ht mv_X12_gives tb_1499 rfl rfl ⟨Nat.le_of_ble_eq_true rfl, Nat.le_of_ble_eq_true rfl⟩) hP hS hX [0] rfl rfl rfl rfl rfl rfl hl.1 rfl (Nat.le_of_ble_eq_true rfl) dX12_most_49 ⟨Nat.le_of_ble_eq_true rfl, Nat.le_of_ble_eq_true rfl⟩ (fun H locs hP hS => ?_)
        have hP : PD D A [bl_X12 cy A_m z_15.2.1 m_names z_16.2 m_top m_bottom m_sort m_trayMany m_trays m_tape m_text m_taped m_size m_token m_from m_end m_value m_faultKind m_faultPlace m_faults m_seen m_toldParts m_opened m_depth m_counted z_15.2.2 m_standers m_has m_bestHas m_standerMany m_bestCouples m_bestFondness m_cameTo m_doesStandFirst m_stoodBy m_drawn m_ranSteps m_loops m_ran m_told1 m_isTold m_marks] H := hP
        refine lv_goto (tgt := 61) hx hb dX12_most_52 (by decide) ?_
        cases h
        subst hW1
        exact W.iret hx hb hr (fun _ ht9 _ => ⟨⟨_, (), rfl, rfl, hPt ht9 hP.1⟩, hS.F ht9⟩) hS.2.2 dX12_most_61
    · have h := ie c_11 h
      refine lv_aload_n hx hb dX12_most_26 rfl (lv_at hl 1 rfl) ?_
      refine lv_iload hx hb dX12_most_27 (lv_at hl 0 rfl) ?_
      obtain ⟨z_17, e_z_17, h⟩ := bi h
      refine efVi (rest := []) ⟨hx, hb, hml, hown, ht⟩ (c_X12_refuse l D cy fu A_m m_at m_names m_status m_top m_bottom m_sort m_trayMany m_trays m_tape m_text m_taped m_size m_token m_from m_end m_value m_faultKind m_faultPlace m_faults m_seen m_toldParts m_opened m_depth m_counted m_bestOrder m_standers m_has m_bestHas m_standerMany m_bestCouples m_bestFondness m_cameTo m_doesStandFirst m_stoodBy m_drawn m_ranSteps m_loops m_ran m_told1 m_isTold m_marks s0 z_17 e_z_17 _ rfl _ rfl) (cV ht mv_X12_refuse tb_1432 rfl rfl ⟨Nat.le_of_ble_eq_true rfl, Nat.le_of_ble_eq_true rfl⟩) hP hS hX [0] rfl rfl rfl rfl rfl rfl hl.1 rfl (Nat.le_of_ble_eq_true rfl) dX12_most_29 ⟨Nat.le_of_ble_eq_true rfl, Nat.le_of_ble_eq_true rfl⟩ (fun H locs hP hS => ?_)
      have hP : PD D A [bl_X12 cy A_m m_at m_names z_17.2 m_top m_bottom m_sort m_trayMany m_trays m_tape m_text m_taped m_size m_token m_from m_end m_value m_faultKind m_faultPlace m_faults m_seen m_toldParts m_opened m_depth m_counted m_bestOrder m_standers m_has m_bestHas m_standerMany m_bestCouples m_bestFondness m_cameTo m_doesStandFirst m_stoodBy m_drawn m_ranSteps m_loops m_ran m_told1 m_isTold m_marks] H := hP
      cases h
      subst hW1
      exact W.iret hx hb hr (fun _ ht9 _ => ⟨⟨_, (), rfl, rfl, hPt ht9 hP.1⟩, hS.F ht9⟩) hS.2.2 dX12_most_32
  unfold f_X12_most at h
  refine lv_aload_n hx hb dX12_most_0 rfl (lv_at hl 0 rfl) ?_
  refine lv_iload_n hx hb dX12_most_1 rfl (lv_at hl 1 rfl) ?_
  obtain ⟨z_18, e_z_18, h⟩ := bi h
  refine roVi (rest := []) ⟨hx, hb, hml, hown, ht⟩ (c_X12_isMan l D cy fu A_m m_at m_names m_status m_top m_bottom m_sort m_trayMany m_trays m_tape m_text m_taped m_size m_token m_from m_end m_value m_faultKind m_faultPlace m_faults m_seen m_toldParts m_opened m_depth m_counted m_bestOrder m_standers m_has m_bestHas m_standerMany m_bestCouples m_bestFondness m_cameTo m_doesStandFirst m_stoodBy m_drawn m_ranSteps m_loops m_ran m_told1 m_isTold m_marks x1 z_18 e_z_18) (cV ht mv_X12_isMan tb_1551 rfl rfl ⟨Nat.le_of_ble_eq_true rfl, Nat.le_of_ble_eq_true rfl⟩) (P_sub hP.1 [0] rfl) hX rfl rfl rfl hl.1 rfl (Nat.le_of_ble_eq_true rfl) dX12_most_2 ⟨Nat.le_of_ble_eq_true rfl, Nat.le_of_ble_eq_true rfl⟩ ?_
  refine lv_if_eq (tgt := 18) hx hb dX12_most_5 (by decide) (fun c_19 => ?_) (fun c_19 => ?_)
  · have h := it c_19 h
    refine lv_iconst (v := 1) hx hb dX12_most_18 (by decide) ?_
    exact j19 m_at m_status m_bestOrder 1 _ _ hP hS ls (lv_sub hl [0, 1, 2, 3] rfl) h
  · have h := ie c_19 h
    refine lv_aload_n hx hb dX12_most_8 rfl (lv_at hl 0 rfl) ?_
    refine lv_iload_n hx hb dX12_most_9 rfl (lv_at hl 2 rfl) ?_
    refine lv_iload_n hx hb dX12_most_10 rfl (lv_at hl 3 rfl) ?_
    refine lv_iconst (v := 1) hx hb dX12_most_11 (by decide) ?_
    obtain ⟨z_20, e_z_20, h⟩ := bi h
    refine roVi (rest := []) ⟨hx, hb, hml, hown, ht⟩ (c_X12_wrongSizes l D cy fu A_m m_at m_names m_status m_top m_bottom m_sort m_trayMany m_trays m_tape m_text m_taped m_size m_token m_from m_end m_value m_faultKind m_faultPlace m_faults m_seen m_toldParts m_opened m_depth m_counted m_bestOrder m_standers m_has m_bestHas m_standerMany m_bestCouples m_bestFondness m_cameTo m_doesStandFirst m_stoodBy m_drawn m_ranSteps m_loops m_ran m_told1 m_isTold m_marks x2 x3 1 z_20 e_z_20) (cV ht mv_X12_wrongSizes tb_1742 rfl rfl ⟨Nat.le_of_ble_eq_true rfl, Nat.le_of_ble_eq_true rfl⟩) (P_sub hP.1 [0] rfl) hX rfl rfl rfl hl.1 rfl (Nat.le_of_ble_eq_true rfl) dX12_most_12 ⟨Nat.le_of_ble_eq_true rfl, Nat.le_of_ble_eq_true rfl⟩ ?_
    refine lv_goto (tgt := 19) hx hb dX12_most_15 (by decide) ?_
    exact j19 m_at m_status m_bestOrder z_20 _ _ hP hS ls (lv_sub hl [0, 1, 2, 3] rfl) h
theorem dX12_facesAt_0 : decode cX12_facesAt 0 = .ok (.aload_n 0, 1) := by decide +kernel
theorem dX12_facesAt_1 : decode cX12_facesAt 1 = .ok (.iload_n 1, 1) := by decide +kernel
theorem dX12_facesAt_2 : decode cX12_facesAt 2 = .ok (.invokevirtual 241, 3) := by decide +kernel
theorem dX12_facesAt_5 : decode cX12_facesAt 5 = .ok (.ifCond .eq 24, 3) := by decide +kernel
theorem dX12_facesAt_8 : decode cX12_facesAt 8 = .ok (.iload 4, 2) := by decide +kernel
theorem dX12_facesAt_10 : decode cX12_facesAt 10 = .ok (.ifCond .lt 19, 3) := by decide +kernel
theorem dX12_facesAt_13 : decode cX12_facesAt 13 = .ok (.iload 4, 2) := by decide +kernel
theorem dX12_facesAt_15 : decode cX12_facesAt 15 = .ok (.iload_n 3, 1) := by decide +kernel
theorem dX12_facesAt_16 : decode cX12_facesAt 16 = .ok (.if_icmp .ge 13, 3) := by decide +kernel
theorem dX12_facesAt_19 : decode cX12_facesAt 19 = .ok (.aload_n 0, 1) := by decide +kernel
theorem dX12_facesAt_20 : decode cX12_facesAt 20 = .ok (.iload_n 2, 1) := by decide +kernel
theorem dX12_facesAt_21 : decode cX12_facesAt 21 = .ok (.iload_n 3, 1) := by decide +kernel
theorem dX12_facesAt_22 : decode cX12_facesAt 22 = .ok (.iconst 1, 1) := by decide +kernel
theorem dX12_facesAt_23 : decode cX12_facesAt 23 = .ok (.invokevirtual 359, 3) := by decide +kernel
theorem dX12_facesAt_26 : decode cX12_facesAt 26 = .ok (.goto 4, 3) := by decide +kernel
theorem dX12_facesAt_29 : decode cX12_facesAt 29 = .ok (.iconst 1, 1) := by decide +kernel
theorem dX12_facesAt_30 : decode cX12_facesAt 30 = .ok (.istore 5, 2) := by decide +kernel
theorem dX12_facesAt_32 : decode cX12_facesAt 32 = .ok (.iload 5, 2) := by decide +kernel
theorem dX12_facesAt_34 : decode cX12_facesAt 34 = .ok (.ifCond .le 10, 3) := by decide +kernel
theorem dX12_facesAt_37 : decode cX12_facesAt 37 = .ok (.aload_n 0, 1) := by decide +kernel
theorem dX12_facesAt_38 : decode cX12_facesAt 38 = .ok (.iload 5, 2) := by decide +kernel
theorem dX12_facesAt_40 : decode cX12_facesAt 40 = .ok (.invokevirtual 85, 3) := by decide +kernel
theorem dX12_facesAt_43 : decode cX12_facesAt 43 = .ok (.ireturn, 1) := by decide +kernel
theorem dX12_facesAt_44 : decode cX12_facesAt 44 = .ok (.aload_n 0, 1) := by decide +kernel
theorem dX12_facesAt_45 : decode cX12_facesAt 45 = .ok (.iload_n 1, 1) := by decide +kernel
theorem dX12_facesAt_46 : decode cX12_facesAt 46 = .ok (.invokevirtual 253, 3) := by decide +kernel
theorem dX12_facesAt_49 : decode cX12_facesAt 49 = .ok (.ifCond .ne 10, 3) := by decide +kernel
theorem dX12_facesAt_52 : decode cX12_facesAt 52 = .ok (.aload_n 0, 1) := by decide +kernel
theorem dX12_facesAt_53 : decode cX12_facesAt 53 = .ok (.bipush 7, 2) := by decide +kernel
theorem dX12_facesAt_55 : decode cX12_facesAt 55 = .ok (.invokevirtual 85, 3) := by decide +kernel
theorem dX12_facesAt_58 : decode cX12_facesAt 58 = .ok (.ireturn, 1) := by decide +kernel
theorem dX12_facesAt_59 : decode cX12_facesAt 59 = .ok (.aload_n 0, 1) := by decide +kernel
theorem dX12_facesAt_60 : decode cX12_facesAt 60 = .ok (.iload_n 1, 1) := by decide +kernel
theorem dX12_facesAt_61 : decode cX12_facesAt 61 = .ok (.iload_n 2, 1) := by decide +kernel
theorem dX12_facesAt_62 : decode cX12_facesAt 62 = .ok (.iload_n 3, 1) := by decide +kernel
theorem dX12_facesAt_63 : decode cX12_facesAt 63 = .ok (.invokevirtual 363, 3) := by decide +kernel
theorem dX12_facesAt_66 : decode cX12_facesAt 66 = .ok (.pop, 1) := by decide +kernel
theorem dX12_facesAt_67 : decode cX12_facesAt 67 = .ok (.aload_n 0, 1) := by decide +kernel
theorem dX12_facesAt_68 : decode cX12_facesAt 68 = .ok (.aload_n 0, 1) := by decide +kernel
theorem dX12_facesAt_69 : decode cX12_facesAt 69 = .ok (.getfield 356, 3) := by decide +kernel
theorem dX12_facesAt_72 : decode cX12_facesAt 72 = .ok (.iconst 3, 1) := by decide +kernel
theorem dX12_facesAt_73 : decode cX12_facesAt 73 = .ok (.iload_n 3, 1) := by decide +kernel
theorem dX12_facesAt_74 : decode cX12_facesAt 74 = .ok (.iconst 1, 1) := by decide +kernel
theorem dX12_facesAt_75 : decode cX12_facesAt 75 = .ok (.isub, 1) := by decide +kernel
theorem dX12_facesAt_76 : decode cX12_facesAt 76 = .ok (.iload 4, 2) := by decide +kernel
theorem dX12_facesAt_78 : decode cX12_facesAt 78 = .ok (.isub, 1) := by decide +kernel
theorem dX12_facesAt_79 : decode cX12_facesAt 79 = .ok (.imul, 1) := by decide +kernel
theorem dX12_facesAt_80 : decode cX12_facesAt 80 = .ok (.ishr, 1) := by decide +kernel
theorem dX12_facesAt_81 : decode cX12_facesAt 81 = .ok (.bipush 7, 2) := by decide +kernel
theorem dX12_facesAt_83 : decode cX12_facesAt 83 = .ok (.iand, 1) := by decide +kernel
theorem dX12_facesAt_84 : decode cX12_facesAt 84 = .ok (.invokevirtual 88, 3) := by decide +kernel
theorem dX12_facesAt_87 : decode cX12_facesAt 87 = .ok (.ireturn, 1) := by decide +kernel
theorem mv_X12_facesAt : MV yX12_facesAt RX12 cX12_facesAt 6 (some .int) 4 := ⟨tb_1771, tb_1769, tb_1770, tb_16, by decide +kernel, by decide +kernel, by decide +kernel⟩
def f_X12_facesAt_j30 (fu : Nat) (m_trayMany : Nat → Int32) (m_trays : Nat → Int64) (x1 : Int32) (x2 : Int32) (x3 : Int32) (x4 : Int32) (m_at : Nat → Int32) (m_status : Int32) (m_bestOrder : Int32) (s0 : Int32) : Option (Int32 × (Nat → Int32) × Int32 × Int32) := (if s0 ≤ 0 then (f_X12_isAlive fu m_at x1).bind fun z_14 => (if z_14 = 0 then (f_X12_refuse fu m_status 7).bind fun z_18 => some (z_18.1, m_at, z_18.2, m_bestOrder) else (f_X12_ordering fu m_at m_trays m_bestOrder x1 x2 x3).bind fun z_16 => (f_X12_gives fu m_status ((z_16.2.2 >>> ((3 * ((x3 - 1) - x4)) &&& 31)) &&& 7)).bind fun z_17 => some (z_17.1, z_16.2.1, z_17.2, z_16.2.2)) else (f_X12_refuse fu m_status s0).bind fun z_19 => some (z_19.1, m_at, z_19.2, m_bestOrder))
def f_X12_facesAt (fu : Nat) (m_at : Nat → Int32) (m_status : Int32) (m_trayMany : Nat → Int32) (m_trays : Nat → Int64) (m_bestOrder : Int32) (x1 : Int32) (x2 : Int32) (x3 : Int32) (x4 : Int32) : Option (Int32 × (Nat → Int32) × Int32 × Int32) := (f_X12_isMan fu m_at x1).bind fun z_20 => (if z_20 = 0 then f_X12_facesAt_j30 fu m_trayMany m_trays x1 x2 x3 x4 m_at m_status m_bestOrder 1 else (if x4 < 0 then f_X12_facesAt_j30 fu m_trayMany m_trays x1 x2 x3 x4 m_at m_status m_bestOrder 1 else (if x3 ≤ x4 then f_X12_facesAt_j30 fu m_trayMany m_trays x1 x2 x3 x4 m_at m_status m_bestOrder 1 else (f_X12_wrongSizes fu m_trayMany m_trays x2 x3 1).bind fun z_24 => f_X12_facesAt_j30 fu m_trayMany m_trays x1 x2 x3 x4 m_at m_status m_bestOrder z_24)))
abbrev rm_X12_facesAt : Room := { frames := 10, cells := 0, slots := 0, locals := 239 }
set_option maxHeartbeats 4000000 in
set_option maxRecDepth 100000 in
theorem c_X12_facesAt (l : Launch) (D : va_G) (cy : Nat → ClassId) (fu : Nat) (A_m : Nat → Nat) (m_at : Nat → Int32) (m_names : Nat → Int64) (m_status : Int32) (m_top : Int64) (m_bottom : Int64) (m_sort : Nat → Int32) (m_trayMany : Nat → Int32) (m_trays : Nat → Int64) (m_tape : Nat → Int32) (m_text : Nat → Int32) (m_taped : Int32) (m_size : Int32) (m_token : Int32) (m_from : Int32) (m_end : Int32) (m_value : Int32) (m_faultKind : Int32) (m_faultPlace : Int32) (m_faults : Int32) (m_seen : Int32) (m_toldParts : Int32) (m_opened : Nat → Int32) (m_depth : Int32) (m_counted : Int32) (m_bestOrder : Int32) (m_standers : Nat → Int32) (m_has : Nat → Int32) (m_bestHas : Nat → Int32) (m_standerMany : Int32) (m_bestCouples : Int32) (m_bestFondness : Int32) (m_cameTo : Nat → Int32) (m_doesStandFirst : Int32) (m_stoodBy : Nat → Int64) (m_drawn : Int32) (m_ranSteps : Int32) (m_loops : Nat → Int32) (m_ran : Nat → Int32) (m_told1 : Nat → Int32) (m_isTold : Int32) (m_marks : Int32) (x1 : Int32) (x2 : Int32) (x3 : Int32) (x4 : Int32) (res : Int32 × (Nat → Int32) × Int32 × Int32) (h : f_X12_facesAt fu m_at m_status m_trayMany m_trays m_bestOrder x1 x2 x3 x4 = some res) (A : Nat → Prop) (hA : A = adr [bl_X12 cy A_m m_at m_names m_status m_top m_bottom m_sort m_trayMany m_trays m_tape m_text m_taped m_size m_token m_from m_end m_value m_faultKind m_faultPlace m_faults m_seen m_toldParts m_opened m_depth m_counted m_bestOrder m_standers m_has m_bestHas m_standerMany m_bestCouples m_bestFondness m_cameTo m_doesStandFirst m_stoodBy m_drawn m_ranSteps m_loops m_ran m_told1 m_isTold m_marks]) (W1 : List va_W) (hW1 : W1 = [bl_X12 cy A_m res.2.1 m_names res.2.2.1 m_top m_bottom m_sort m_trayMany m_trays m_tape m_text m_taped m_size m_token m_from m_end m_value m_faultKind m_faultPlace m_faults m_seen m_toldParts m_opened m_depth m_counted res.2.2.2 m_standers m_has m_bestHas m_standerMany m_bestCouples m_bestFondness m_cameTo m_doesStandFirst m_stoodBy m_drawn m_ranSteps m_loops m_ran m_told1 m_isTold m_marks]) : Met l yX12_facesAt (WW yX12_facesAt cX12_facesAt 6 (some .int)) rm_X12_facesAt (Ed D cy [.ref (A_m 0), .int x1, .int x2, .int x3, .int x4] [bl_X12 cy A_m m_at m_names m_status m_top m_bottom m_sort m_trayMany m_trays m_tape m_text m_taped m_size m_token m_from m_end m_value m_faultKind m_faultPlace m_faults m_seen m_toldParts m_opened m_depth m_counted m_bestOrder m_standers m_has m_bestHas m_standerMany m_bestCouples m_bestFondness m_cameTo m_doesStandFirst m_stoodBy m_drawn m_ranSteps m_loops m_ran m_told1 m_isTold m_marks]) (Qei D res.1 A W1) 0 0 A := by
  refine Met.ofW (cc := cX12_facesAt) (maxL := 6) (ret := (some .int)) (by decide) rfl ?_
  intro p e s m args below meth c s₁ B hml hv
  obtain ⟨hargs, hP, hX, hD0⟩ := hv
  have hx := B.exec
  have hb := B.bytes
  have hr := B.returns
  have ht : ∀ w ∈ lw_gd, w.before args s = true := fun w hw => atoms_spec (ws := WW yX12_facesAt cX12_facesAt 6 (some .int)) B.pre w (List.mem_cons_of_mem _ hw)
  have hown : s.vm.findClass RX12 = some m.cls := findClass_of_methodNamed B.named
  have hlocks := B.notSynchronized
  have hP : PD D A [bl_X12 cy A_m m_at m_names m_status m_top m_bottom m_sort m_trayMany m_trays m_tape m_text m_taped m_size m_token m_from m_end m_value m_faultKind m_faultPlace m_faults m_seen m_toldParts m_opened m_depth m_counted m_bestOrder m_standers m_has m_bestHas m_standerMany m_bestCouples m_bestFondness m_cameTo m_doesStandFirst m_stoodBy m_drawn m_ranSteps m_loops m_ran m_told1 m_isTold m_marks] s.heap := ⟨hP, by rw [hA]; exact hD0.own⟩
  have hS : va_S A s.heap s.heap [] := va_S.rf
  obtain ⟨ls, hl, hent⟩ := ent (m := m) (n := 6) hargs (Nat.le_of_ble_eq_true rfl) (lv := [(0, .ref (A_m 0)), (1, .int x1), (2, .int x2), (3, .int x3), (4, .int x4)]) rfl
  rw [hent]
  clear hent
  have j30 : ∀ (m_at : Nat → Int32) (m_status : Int32) (m_bestOrder : Int32) (s0 : Int32) (H : Heap) (locs : List Loc) (_ : PD D A [bl_X12 cy A_m m_at m_names m_status m_top m_bottom m_sort m_trayMany m_trays m_tape m_text m_taped m_size m_token m_from m_end m_value m_faultKind m_faultPlace m_faults m_seen m_toldParts m_opened m_depth m_counted m_bestOrder m_standers m_has m_bestHas m_standerMany m_bestCouples m_bestFondness m_cameTo m_doesStandFirst m_stoodBy m_drawn m_ranSteps m_loops m_ran m_told1 m_isTold m_marks] H) (_ : va_S A s.heap H locs) (ls : Array Slot), lv_has ls 6 [(0, .ref (A_m 0)), (1, .int x1), (2, .int x2), (3, .int x3), (4, .int x4)] → f_X12_facesAt_j30 fu m_trayMany m_trays x1 x2 x3 x4 m_at m_status m_bestOrder s0 = some res → W p l e (headSpec (WW yX12_facesAt cX12_facesAt 6 (some .int)) rm_X12_facesAt).room s m args below meth c H locs 0 0 (MQ below (Qei D res.1 A W1) args s 0 0 A) (F0 m 30 ls [.int s0]) := by
    intro m_at m_status m_bestOrder s0 H locs hP hS ls hl h
    unfold f_X12_facesAt_j30 at h
    refine lv_istore (lv' := [(5, .int s0), (0, .ref (A_m 0)), (1, .int x1), (2, .int x2), (3, .int x3), (4, .int x4)]) hx hb dX12_facesAt_30 hl (by decide) rfl (fun ls hl => ?_)
    refine lv_iload hx hb dX12_facesAt_32 (lv_at hl 0 rfl) ?_
    refine lv_if_le (tgt := 44) hx hb dX12_facesAt_34 (by decide) (fun c_13 => ?_) (fun c_13 => ?_)
    · have h := it c_13 h
      refine lv_aload_n hx hb dX12_facesAt_44 rfl (lv_at hl 1 rfl) ?_
      refine lv_iload_n hx hb dX12_facesAt_45 rfl (lv_at hl 2 rfl) ?_
      obtain ⟨z_14, e_z_14, h⟩ := bi h
      refine roVi (rest := []) ⟨hx, hb, hml, hown, ht⟩ (c_X12_isAlive l D cy fu A_m m_at m_names m_status m_top m_bottom m_sort m_trayMany m_trays m_tape m_text m_taped m_size m_token m_from m_end m_value m_faultKind m_faultPlace m_faults m_seen m_toldParts m_opened m_depth m_counted m_bestOrder m_standers m_has m_bestHas m_standerMany m_bestCouples m_bestFondness m_cameTo m_doesStandFirst m_stoodBy m_drawn m_ranSteps m_loops m_ran m_told1 m_isTold m_marks x1 z_14 e_z_14) (cV ht mv_X12_isAlive tb_1531 rfl rfl ⟨Nat.le_of_ble_eq_true rfl, Nat.le_of_ble_eq_true rfl⟩) (P_sub hP.1 [0] rfl) hX rfl rfl rfl hl.1 rfl (Nat.le_of_ble_eq_true rfl) dX12_facesAt_46 ⟨Nat.le_of_ble_eq_true rfl, Nat.le_of_ble_eq_true rfl⟩ ?_
      refine lv_if_ne (tgt := 59) hx hb dX12_facesAt_49 (by decide) (fun c_15 => ?_) (fun c_15 => ?_)
      · have h := ie c_15 h
        refine lv_aload_n hx hb dX12_facesAt_59 rfl (lv_at hl 1 rfl) ?_
        refine lv_iload_n hx hb dX12_facesAt_60 rfl (lv_at hl 2 rfl) ?_
        refine lv_iload_n hx hb dX12_facesAt_61 rfl (lv_at hl 3 rfl) ?_
        refine lv_iload_n hx hb dX12_facesAt_62 rfl (lv_at hl 4 rfl) ?_
        obtain ⟨z_16, e_z_16, h⟩ := bi h
        refine efVi (rest := []) ⟨hx, hb, hml, hown, ht⟩ (c_X12_ordering l D cy fu A_m m_at m_names m_status m_top m_bottom m_sort m_trayMany m_trays m_tape m_text m_taped m_size m_token m_from m_end m_value m_faultKind m_faultPlace m_faults m_seen m_toldParts m_opened m_depth m_counted m_bestOrder m_standers m_has m_bestHas m_standerMany m_bestCouples m_bestFondness m_cameTo m_doesStandFirst m_stoodBy m_drawn m_ranSteps m_loops m_ran m_told1 m_isTold m_marks x1 x2 x3 z_16 e_z_16 _ rfl _ rfl) (cV ht mv_X12_ordering tb_1747 rfl rfl ⟨Nat.le_of_ble_eq_true rfl, Nat.le_of_ble_eq_true rfl⟩) hP hS hX [0] rfl rfl rfl rfl rfl rfl hl.1 rfl (Nat.le_of_ble_eq_true rfl) dX12_facesAt_63 ⟨Nat.le_of_ble_eq_true rfl, Nat.le_of_ble_eq_true rfl⟩ (fun H locs hP hS => ?_)
        have hP : PD D A [bl_X12 cy A_m z_16.2.1 m_names m_status m_top m_bottom m_sort m_trayMany m_trays m_tape m_text m_taped m_size m_token m_from m_end m_value m_faultKind m_faultPlace m_faults m_seen m_toldParts m_opened m_depth m_counted z_16.2.2 m_standers m_has m_bestHas m_standerMany m_bestCouples m_bestFondness m_cameTo m_doesStandFirst m_stoodBy m_drawn m_ranSteps m_loops m_ran m_told1 m_isTold m_marks] H := hP
        refine lv_pop hx hb dX12_facesAt_66 rfl ?_
        refine lv_aload_n hx hb dX12_facesAt_67 rfl (lv_at hl 1 rfl) ?_
        refine lv_aload_n hx hb dX12_facesAt_68 rfl (lv_at hl 1 rfl) ?_
        refine xget (i := 0) (j := 0) (k := 24) (T := TX12) hx hb ht tb_iX12 hown hX hP.1 rfl rfl rfl (by decide) tb_1253 rfl dX12_facesAt_69 ?_
        refine lv_iconst (v := 3) hx hb dX12_facesAt_72 (by decide) ?_
        refine lv_iload_n hx hb dX12_facesAt_73 rfl (lv_at hl 4 rfl) ?_
        refine lv_iconst (v := 1) hx hb dX12_facesAt_74 (by decide) ?_
        refine lv_isub hx hb dX12_facesAt_75 ?_
        refine lv_iload hx hb dX12_facesAt_76 (lv_at hl 5 rfl) ?_
        refine lv_isub hx hb dX12_facesAt_78 ?_
        refine lv_imul hx hb dX12_facesAt_79 ?_
        refine lv_ishr hx hb dX12_facesAt_80 ?_
        refine lv_bipush (v := 7) hx hb dX12_facesAt_81 (by decide) ?_
        refine lv_iand hx hb dX12_facesAt_83 ?_
        obtain ⟨z_17, e_z_17, h⟩ := bi h
        refine efVi (rest := []) ⟨hx, hb, hml, hown, ht⟩ (c_X12_gives l D cy fu A_m z_16.2.1 m_names m_status m_top m_bottom m_sort m_trayMany m_trays m_tape m_text m_taped m_size m_token m_from m_end m_value m_faultKind m_faultPlace m_faults m_seen m_toldParts m_opened m_depth m_counted z_16.2.2 m_standers m_has m_bestHas m_standerMany m_bestCouples m_bestFondness m_cameTo m_doesStandFirst m_stoodBy m_drawn m_ranSteps m_loops m_ran m_told1 m_isTold m_marks ((z_16.2.2 >>> ((3 * ((x3 - 1) - x4)) &&& 31)) &&& 7) z_17 e_z_17 _ rfl _ rfl) (cV ht mv_X12_gives tb_1499 rfl rfl ⟨Nat.le_of_ble_eq_true rfl, Nat.le_of_ble_eq_true rfl⟩) hP hS hX [0] rfl rfl rfl rfl rfl rfl hl.1 rfl (Nat.le_of_ble_eq_true rfl) dX12_facesAt_84 ⟨Nat.le_of_ble_eq_true rfl, Nat.le_of_ble_eq_true rfl⟩ (fun H locs hP hS => ?_)
        have hP : PD D A [bl_X12 cy A_m z_16.2.1 m_names z_17.2 m_top m_bottom m_sort m_trayMany m_trays m_tape m_text m_taped m_size m_token m_from m_end m_value m_faultKind m_faultPlace m_faults m_seen m_toldParts m_opened m_depth m_counted z_16.2.2 m_standers m_has m_bestHas m_standerMany m_bestCouples m_bestFondness m_cameTo m_doesStandFirst m_stoodBy m_drawn m_ranSteps m_loops m_ran m_told1 m_isTold m_marks] H := hP
        cases h
        subst hW1
        exact W.iret hx hb hr (fun _ ht9 _ => ⟨⟨_, (), rfl, rfl, hPt ht9 hP.1⟩, hS.F ht9⟩) hS.2.2 dX12_facesAt_87
      · have h := it c_15 h
        refine lv_aload_n hx hb dX12_facesAt_52 rfl (lv_at hl 1 rfl) ?_
        refine lv_bipush (v := 7) hx hb dX12_facesAt_53 (by decide) ?_
        obtain ⟨z_18, e_z_18, h⟩ := bi h
        refine efVi (rest := []) ⟨hx, hb, hml, hown, ht⟩ (c_X12_refuse l D cy fu A_m m_at m_names m_status m_top m_bottom m_sort m_trayMany m_trays m_tape m_text m_taped m_size m_token m_from m_end m_value m_faultKind m_faultPlace m_faults m_seen m_toldParts m_opened m_depth m_counted m_bestOrder m_standers m_has m_bestHas m_standerMany m_bestCouples m_bestFondness m_cameTo m_doesStandFirst m_stoodBy m_drawn m_ranSteps m_loops m_ran m_told1 m_isTold m_marks 7 z_18 e_z_18 _ rfl _ rfl) (cV ht mv_X12_refuse tb_1432 rfl rfl ⟨Nat.le_of_ble_eq_true rfl, Nat.le_of_ble_eq_true rfl⟩) hP hS hX [0] rfl rfl rfl rfl rfl rfl hl.1 rfl (Nat.le_of_ble_eq_true rfl) dX12_facesAt_55 ⟨Nat.le_of_ble_eq_true rfl, Nat.le_of_ble_eq_true rfl⟩ (fun H locs hP hS => ?_)
        have hP : PD D A [bl_X12 cy A_m m_at m_names z_18.2 m_top m_bottom m_sort m_trayMany m_trays m_tape m_text m_taped m_size m_token m_from m_end m_value m_faultKind m_faultPlace m_faults m_seen m_toldParts m_opened m_depth m_counted m_bestOrder m_standers m_has m_bestHas m_standerMany m_bestCouples m_bestFondness m_cameTo m_doesStandFirst m_stoodBy m_drawn m_ranSteps m_loops m_ran m_told1 m_isTold m_marks] H := hP
        cases h
        subst hW1
        exact W.iret hx hb hr (fun _ ht9 _ => ⟨⟨_, (), rfl, rfl, hPt ht9 hP.1⟩, hS.F ht9⟩) hS.2.2 dX12_facesAt_58
    · have h := ie c_13 h
      refine lv_aload_n hx hb dX12_facesAt_37 rfl (lv_at hl 1 rfl) ?_
      refine lv_iload hx hb dX12_facesAt_38 (lv_at hl 0 rfl) ?_
      obtain ⟨z_19, e_z_19, h⟩ := bi h
      refine efVi (rest := []) ⟨hx, hb, hml, hown, ht⟩ (c_X12_refuse l D cy fu A_m m_at m_names m_status m_top m_bottom m_sort m_trayMany m_trays m_tape m_text m_taped m_size m_token m_from m_end m_value m_faultKind m_faultPlace m_faults m_seen m_toldParts m_opened m_depth m_counted m_bestOrder m_standers m_has m_bestHas m_standerMany m_bestCouples m_bestFondness m_cameTo m_doesStandFirst m_stoodBy m_drawn m_ranSteps m_loops m_ran m_told1 m_isTold m_marks s0 z_19 e_z_19 _ rfl _ rfl) (cV ht mv_X12_refuse tb_1432 rfl rfl ⟨Nat.le_of_ble_eq_true rfl, Nat.le_of_ble_eq_true rfl⟩) hP hS hX [0] rfl rfl rfl rfl rfl rfl hl.1 rfl (Nat.le_of_ble_eq_true rfl) dX12_facesAt_40 ⟨Nat.le_of_ble_eq_true rfl, Nat.le_of_ble_eq_true rfl⟩ (fun H locs hP hS => ?_)
      have hP : PD D A [bl_X12 cy A_m m_at m_names z_19.2 m_top m_bottom m_sort m_trayMany m_trays m_tape m_text m_taped m_size m_token m_from m_end m_value m_faultKind m_faultPlace m_faults m_seen m_toldParts m_opened m_depth m_counted m_bestOrder m_standers m_has m_bestHas m_standerMany m_bestCouples m_bestFondness m_cameTo m_doesStandFirst m_stoodBy m_drawn m_ranSteps m_loops m_ran m_told1 m_isTold m_marks] H := hP
      cases h
      subst hW1
      exact W.iret hx hb hr (fun _ ht9 _ => ⟨⟨_, (), rfl, rfl, hPt ht9 hP.1⟩, hS.F ht9⟩) hS.2.2 dX12_facesAt_43
  unfold f_X12_facesAt at h
  refine lv_aload_n hx hb dX12_facesAt_0 rfl (lv_at hl 0 rfl) ?_
  refine lv_iload_n hx hb dX12_facesAt_1 rfl (lv_at hl 1 rfl) ?_
  obtain ⟨z_20, e_z_20, h⟩ := bi h
  refine roVi (rest := []) ⟨hx, hb, hml, hown, ht⟩ (c_X12_isMan l D cy fu A_m m_at m_names m_status m_top m_bottom m_sort m_trayMany m_trays m_tape m_text m_taped m_size m_token m_from m_end m_value m_faultKind m_faultPlace m_faults m_seen m_toldParts m_opened m_depth m_counted m_bestOrder m_standers m_has m_bestHas m_standerMany m_bestCouples m_bestFondness m_cameTo m_doesStandFirst m_stoodBy m_drawn m_ranSteps m_loops m_ran m_told1 m_isTold m_marks x1 z_20 e_z_20) (cV ht mv_X12_isMan tb_1551 rfl rfl ⟨Nat.le_of_ble_eq_true rfl, Nat.le_of_ble_eq_true rfl⟩) (P_sub hP.1 [0] rfl) hX rfl rfl rfl hl.1 rfl (Nat.le_of_ble_eq_true rfl) dX12_facesAt_2 ⟨Nat.le_of_ble_eq_true rfl, Nat.le_of_ble_eq_true rfl⟩ ?_
  refine lv_if_eq (tgt := 29) hx hb dX12_facesAt_5 (by decide) (fun c_21 => ?_) (fun c_21 => ?_)
  · have h := it c_21 h
    refine lv_iconst (v := 1) hx hb dX12_facesAt_29 (by decide) ?_
    exact j30 m_at m_status m_bestOrder 1 _ _ hP hS ls (lv_sub hl [0, 1, 2, 3, 4] rfl) h
  · have h := ie c_21 h
    refine lv_iload hx hb dX12_facesAt_8 (lv_at hl 4 rfl) ?_
    refine lv_if_lt (tgt := 29) hx hb dX12_facesAt_10 (by decide) (fun c_22 => ?_) (fun c_22 => ?_)
    · have h := it c_22 h
      refine lv_iconst (v := 1) hx hb dX12_facesAt_29 (by decide) ?_
      exact j30 m_at m_status m_bestOrder 1 _ _ hP hS ls (lv_sub hl [0, 1, 2, 3, 4] rfl) h
    · have h := ie c_22 h
      refine lv_iload hx hb dX12_facesAt_13 (lv_at hl 4 rfl) ?_
      refine lv_iload_n hx hb dX12_facesAt_15 rfl (lv_at hl 3 rfl) ?_
      refine lv_icmp_ge (tgt := 29) hx hb dX12_facesAt_16 (by decide) (fun c_23 => ?_) (fun c_23 => ?_)
      · have h := it c_23 h
        refine lv_iconst (v := 1) hx hb dX12_facesAt_29 (by decide) ?_
        exact j30 m_at m_status m_bestOrder 1 _ _ hP hS ls (lv_sub hl [0, 1, 2, 3, 4] rfl) h
      · have h := ie c_23 h
        refine lv_aload_n hx hb dX12_facesAt_19 rfl (lv_at hl 0 rfl) ?_
        refine lv_iload_n hx hb dX12_facesAt_20 rfl (lv_at hl 2 rfl) ?_
        refine lv_iload_n hx hb dX12_facesAt_21 rfl (lv_at hl 3 rfl) ?_
        refine lv_iconst (v := 1) hx hb dX12_facesAt_22 (by decide) ?_
        obtain ⟨z_24, e_z_24, h⟩ := bi h
        refine roVi (rest := []) ⟨hx, hb, hml, hown, ht⟩ (c_X12_wrongSizes l D cy fu A_m m_at m_names m_status m_top m_bottom m_sort m_trayMany m_trays m_tape m_text m_taped m_size m_token m_from m_end m_value m_faultKind m_faultPlace m_faults m_seen m_toldParts m_opened m_depth m_counted m_bestOrder m_standers m_has m_bestHas m_standerMany m_bestCouples m_bestFondness m_cameTo m_doesStandFirst m_stoodBy m_drawn m_ranSteps m_loops m_ran m_told1 m_isTold m_marks x2 x3 1 z_24 e_z_24) (cV ht mv_X12_wrongSizes tb_1742 rfl rfl ⟨Nat.le_of_ble_eq_true rfl, Nat.le_of_ble_eq_true rfl⟩) (P_sub hP.1 [0] rfl) hX rfl rfl rfl hl.1 rfl (Nat.le_of_ble_eq_true rfl) dX12_facesAt_23 ⟨Nat.le_of_ble_eq_true rfl, Nat.le_of_ble_eq_true rfl⟩ ?_
        refine lv_goto (tgt := 30) hx hb dX12_facesAt_26 (by decide) ?_
        exact j30 m_at m_status m_bestOrder z_24 _ _ hP hS ls (lv_sub hl [0, 1, 2, 3, 4] rfl) h
