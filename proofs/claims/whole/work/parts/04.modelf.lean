theorem dX12_game_0 : decode cX12_game 0 = .ok (.aload_n 0, 1) := by decide +kernel
theorem dX12_game_1 : decode cX12_game 1 = .ok (.iload_n 1, 1) := by decide +kernel
theorem dX12_game_2 : decode cX12_game 2 = .ok (.iload_n 2, 1) := by decide +kernel
theorem dX12_game_3 : decode cX12_game 3 = .ok (.invokevirtual 412, 3) := by decide +kernel
theorem dX12_game_6 : decode cX12_game 6 = .ok (.ifCond .eq 14, 3) := by decide +kernel
theorem dX12_game_9 : decode cX12_game 9 = .ok (.aload_n 0, 1) := by decide +kernel
theorem dX12_game_10 : decode cX12_game 10 = .ok (.iload_n 3, 1) := by decide +kernel
theorem dX12_game_11 : decode cX12_game 11 = .ok (.iload 4, 2) := by decide +kernel
theorem dX12_game_13 : decode cX12_game 13 = .ok (.iconst 0, 1) := by decide +kernel
theorem dX12_game_14 : decode cX12_game 14 = .ok (.invokevirtual 359, 3) := by decide +kernel
theorem dX12_game_17 : decode cX12_game 17 = .ok (.goto 4, 3) := by decide +kernel
theorem dX12_game_20 : decode cX12_game 20 = .ok (.iconst 1, 1) := by decide +kernel
theorem dX12_game_21 : decode cX12_game 21 = .ok (.istore 5, 2) := by decide +kernel
theorem dX12_game_23 : decode cX12_game 23 = .ok (.iload 5, 2) := by decide +kernel
theorem dX12_game_25 : decode cX12_game 25 = .ok (.ifCond .le 10, 3) := by decide +kernel
theorem dX12_game_28 : decode cX12_game 28 = .ok (.aload_n 0, 1) := by decide +kernel
theorem dX12_game_29 : decode cX12_game 29 = .ok (.iload 5, 2) := by decide +kernel
theorem dX12_game_31 : decode cX12_game 31 = .ok (.invokevirtual 85, 3) := by decide +kernel
theorem dX12_game_34 : decode cX12_game 34 = .ok (.ireturn, 1) := by decide +kernel
theorem dX12_game_35 : decode cX12_game 35 = .ok (.aload_n 0, 1) := by decide +kernel
theorem dX12_game_36 : decode cX12_game 36 = .ok (.iload_n 1, 1) := by decide +kernel
theorem dX12_game_37 : decode cX12_game 37 = .ok (.invokevirtual 253, 3) := by decide +kernel
theorem dX12_game_40 : decode cX12_game 40 = .ok (.ifCond .eq 27, 3) := by decide +kernel
theorem dX12_game_43 : decode cX12_game 43 = .ok (.aload_n 0, 1) := by decide +kernel
theorem dX12_game_44 : decode cX12_game 44 = .ok (.iload_n 2, 1) := by decide +kernel
theorem dX12_game_45 : decode cX12_game 45 = .ok (.invokevirtual 253, 3) := by decide +kernel
theorem dX12_game_48 : decode cX12_game 48 = .ok (.ifCond .eq 19, 3) := by decide +kernel
theorem dX12_game_51 : decode cX12_game 51 = .ok (.aload_n 0, 1) := by decide +kernel
theorem dX12_game_52 : decode cX12_game 52 = .ok (.aload_n 0, 1) := by decide +kernel
theorem dX12_game_53 : decode cX12_game 53 = .ok (.iload_n 1, 1) := by decide +kernel
theorem dX12_game_54 : decode cX12_game 54 = .ok (.iload_n 2, 1) := by decide +kernel
theorem dX12_game_55 : decode cX12_game 55 = .ok (.iload_n 3, 1) := by decide +kernel
theorem dX12_game_56 : decode cX12_game 56 = .ok (.iload 4, 2) := by decide +kernel
theorem dX12_game_58 : decode cX12_game 58 = .ok (.invokevirtual 415, 3) := by decide +kernel
theorem dX12_game_61 : decode cX12_game 61 = .ok (.invokevirtual 88, 3) := by decide +kernel
theorem dX12_game_64 : decode cX12_game 64 = .ok (.goto 9, 3) := by decide +kernel
theorem dX12_game_67 : decode cX12_game 67 = .ok (.aload_n 0, 1) := by decide +kernel
theorem dX12_game_68 : decode cX12_game 68 = .ok (.bipush 7, 2) := by decide +kernel
theorem dX12_game_70 : decode cX12_game 70 = .ok (.invokevirtual 85, 3) := by decide +kernel
theorem dX12_game_73 : decode cX12_game 73 = .ok (.ireturn, 1) := by decide +kernel
theorem mv_X12_game : MV yX12_game RX12 cX12_game 6 (some .int) 4 := ⟨tb_1833, tb_1831, tb_1832, tb_16, by decide +kernel, by decide +kernel, by decide +kernel⟩
def f_X12_game_j21 (fu : Nat) (m_trayMany : Nat → Int32) (m_trays : Nat → Int64) (x1 : Int32) (x2 : Int32) (x3 : Int32) (x4 : Int32) (m_at : Nat → Int32) (m_status : Int32) (m_cameTo : Nat → Int32) (m_doesStandFirst : Int32) (s0 : Int32) : Option (Int32 × (Nat → Int32) × Int32 × (Nat → Int32) × Int32) := (if s0 ≤ 0 then (f_X12_isAlive fu m_at x1).bind fun z_15 => (if z_15 = 0 then (f_X12_refuse fu m_status 7).bind fun z_17 => some (z_17.1, m_at, z_17.2, m_cameTo, m_doesStandFirst) else (f_X12_isAlive fu m_at x2).bind fun z_18 => (if z_18 = 0 then (f_X12_refuse fu m_status 7).bind fun z_20 => some (z_20.1, m_at, z_20.2, m_cameTo, m_doesStandFirst) else (f_X12_playing fu m_at m_trays m_cameTo m_doesStandFirst x1 x2 x3 x4).bind fun z_21 => (f_X12_gives fu m_status z_21.1).bind fun z_22 => some (z_22.1, z_21.2.1, z_22.2, z_21.2.2.1, z_21.2.2.2))) else (f_X12_refuse fu m_status s0).bind fun z_23 => some (z_23.1, m_at, z_23.2, m_cameTo, m_doesStandFirst))
def f_X12_game (fu : Nat) (m_at : Nat → Int32) (m_status : Int32) (m_trayMany : Nat → Int32) (m_trays : Nat → Int64) (m_cameTo : Nat → Int32) (m_doesStandFirst : Int32) (x1 : Int32) (x2 : Int32) (x3 : Int32) (x4 : Int32) : Option (Int32 × (Nat → Int32) × Int32 × (Nat → Int32) × Int32) := (f_X12_areTwo fu m_at x1 x2).bind fun z_24 => (if z_24 = 0 then f_X12_game_j21 fu m_trayMany m_trays x1 x2 x3 x4 m_at m_status m_cameTo m_doesStandFirst 1 else (f_X12_wrongSizes fu m_trayMany m_trays x3 x4 0).bind fun z_26 => f_X12_game_j21 fu m_trayMany m_trays x1 x2 x3 x4 m_at m_status m_cameTo m_doesStandFirst z_26)
abbrev rm_X12_game : Room := { frames := 9, cells := 0, slots := 0, locals := 220 }
set_option maxHeartbeats 4000000 in
set_option maxRecDepth 100000 in
theorem c_X12_game (l : Launch) (D : va_G) (cy : Nat → ClassId) (fu : Nat) (A_m : Nat → Nat) (m_at : Nat → Int32) (m_names : Nat → Int64) (m_status : Int32) (m_top : Int64) (m_bottom : Int64) (m_sort : Nat → Int32) (m_trayMany : Nat → Int32) (m_trays : Nat → Int64) (m_tape : Nat → Int32) (m_text : Nat → Int32) (m_taped : Int32) (m_size : Int32) (m_token : Int32) (m_from : Int32) (m_end : Int32) (m_value : Int32) (m_faultKind : Int32) (m_faultPlace : Int32) (m_faults : Int32) (m_seen : Int32) (m_toldParts : Int32) (m_opened : Nat → Int32) (m_depth : Int32) (m_counted : Int32) (m_bestOrder : Int32) (m_standers : Nat → Int32) (m_has : Nat → Int32) (m_bestHas : Nat → Int32) (m_standerMany : Int32) (m_bestCouples : Int32) (m_bestFondness : Int32) (m_cameTo : Nat → Int32) (m_doesStandFirst : Int32) (m_stoodBy : Nat → Int64) (m_drawn : Int32) (m_ranSteps : Int32) (m_loops : Nat → Int32) (m_ran : Nat → Int32) (m_told1 : Nat → Int32) (m_isTold : Int32) (m_marks : Int32) (x1 : Int32) (x2 : Int32) (x3 : Int32) (x4 : Int32) (res : Int32 × (Nat → Int32) × Int32 × (Nat → Int32) × Int32) (h : f_X12_game fu m_at m_status m_trayMany m_trays m_cameTo m_doesStandFirst x1 x2 x3 x4 = some res) (A : Nat → Prop) (hA : A = adr [bl_X12 cy A_m m_at m_names m_status m_top m_bottom m_sort m_trayMany m_trays m_tape m_text m_taped m_size m_token m_from m_end m_value m_faultKind m_faultPlace m_faults m_seen m_toldParts m_opened m_depth m_counted m_bestOrder m_standers m_has m_bestHas m_standerMany m_bestCouples m_bestFondness m_cameTo m_doesStandFirst m_stoodBy m_drawn m_ranSteps m_loops m_ran m_told1 m_isTold m_marks]) (W1 : List va_W) (hW1 : W1 = [bl_X12 cy A_m res.2.1 m_names res.2.2.1 m_top m_bottom m_sort m_trayMany m_trays m_tape m_text m_taped m_size m_token m_from m_end m_value m_faultKind m_faultPlace m_faults m_seen m_toldParts m_opened m_depth m_counted m_bestOrder m_standers m_has m_bestHas m_standerMany m_bestCouples m_bestFondness res.2.2.2.1 res.2.2.2.2 m_stoodBy m_drawn m_ranSteps m_loops m_ran m_told1 m_isTold m_marks]) : Met l yX12_game (WW yX12_game cX12_game 6 (some .int)) rm_X12_game (Ed D cy [.ref (A_m 0), .int x1, .int x2, .int x3, .int x4] [bl_X12 cy A_m m_at m_names m_status m_top m_bottom m_sort m_trayMany m_trays m_tape m_text m_taped m_size m_token m_from m_end m_value m_faultKind m_faultPlace m_faults m_seen m_toldParts m_opened m_depth m_counted m_bestOrder m_standers m_has m_bestHas m_standerMany m_bestCouples m_bestFondness m_cameTo m_doesStandFirst m_stoodBy m_drawn m_ranSteps m_loops m_ran m_told1 m_isTold m_marks]) (Qei D res.1 A W1) 0 0 A := by
  refine Met.ofW (cc := cX12_game) (maxL := 6) (ret := (some .int)) (by decide) rfl ?_
  intro p e s m args below meth c s₁ B hml hv
  obtain ⟨hargs, hP, hX, hD0⟩ := hv
  have hx := B.exec
  have hb := B.bytes
  have hr := B.returns
  have ht : ∀ w ∈ lw_gd, w.before args s = true := fun w hw => atoms_spec (ws := WW yX12_game cX12_game 6 (some .int)) B.pre w (List.mem_cons_of_mem _ hw)
  have hown : s.vm.findClass RX12 = some m.cls := findClass_of_methodNamed B.named
  have hlocks := B.notSynchronized
  have hP : PD D A [bl_X12 cy A_m m_at m_names m_status m_top m_bottom m_sort m_trayMany m_trays m_tape m_text m_taped m_size m_token m_from m_end m_value m_faultKind m_faultPlace m_faults m_seen m_toldParts m_opened m_depth m_counted m_bestOrder m_standers m_has m_bestHas m_standerMany m_bestCouples m_bestFondness m_cameTo m_doesStandFirst m_stoodBy m_drawn m_ranSteps m_loops m_ran m_told1 m_isTold m_marks] s.heap := ⟨hP, by rw [hA]; exact hD0.own⟩
  have hS : va_S A s.heap s.heap [] := va_S.rf
  obtain ⟨ls, hl, hent⟩ := ent (m := m) (n := 6) hargs (Nat.le_of_ble_eq_true rfl) (lv := [(0, .ref (A_m 0)), (1, .int x1), (2, .int x2), (3, .int x3), (4, .int x4)]) rfl
  rw [hent]
  clear hent
  have j21 : ∀ (m_at : Nat → Int32) (m_status : Int32) (m_cameTo : Nat → Int32) (m_doesStandFirst : Int32) (s0 : Int32) (H : Heap) (locs : List Loc) (_ : PD D A [bl_X12 cy A_m m_at m_names m_status m_top m_bottom m_sort m_trayMany m_trays m_tape m_text m_taped m_size m_token m_from m_end m_value m_faultKind m_faultPlace m_faults m_seen m_toldParts m_opened m_depth m_counted m_bestOrder m_standers m_has m_bestHas m_standerMany m_bestCouples m_bestFondness m_cameTo m_doesStandFirst m_stoodBy m_drawn m_ranSteps m_loops m_ran m_told1 m_isTold m_marks] H) (_ : va_S A s.heap H locs) (ls : Array Slot), lv_has ls 6 [(0, .ref (A_m 0)), (1, .int x1), (2, .int x2), (3, .int x3), (4, .int x4)] → f_X12_game_j21 fu m_trayMany m_trays x1 x2 x3 x4 m_at m_status m_cameTo m_doesStandFirst s0 = some res → W p l e (headSpec (WW yX12_game cX12_game 6 (some .int)) rm_X12_game).room s m args below meth c H locs 0 0 (MQ below (Qei D res.1 A W1) args s 0 0 A) (F0 m 21 ls [.int s0]) := by
    intro m_at m_status m_cameTo m_doesStandFirst s0 H locs hP hS ls hl h
    unfold f_X12_game_j21 at h
    refine lv_istore (lv' := [(5, .int s0), (0, .ref (A_m 0)), (1, .int x1), (2, .int x2), (3, .int x3), (4, .int x4)]) hx hb dX12_game_21 hl (by decide) rfl (fun ls hl => ?_)
    refine lv_iload hx hb dX12_game_23 (lv_at hl 0 rfl) ?_
    refine lv_if_le (tgt := 35) hx hb dX12_game_25 (by decide) (fun c_14 => ?_) (fun c_14 => ?_)
    · have h := it c_14 h
      refine lv_aload_n hx hb dX12_game_35 rfl (lv_at hl 1 rfl) ?_
      refine lv_iload_n hx hb dX12_game_36 rfl (lv_at hl 2 rfl) ?_
      obtain ⟨z_15, e_z_15, h⟩ := bi h
      refine roVi (rest := []) ⟨hx, hb, hml, hown, ht⟩ (c_X12_isAlive l D cy fu A_m m_at m_names m_status m_top m_bottom m_sort m_trayMany m_trays m_tape m_text m_taped m_size m_token m_from m_end m_value m_faultKind m_faultPlace m_faults m_seen m_toldParts m_opened m_depth m_counted m_bestOrder m_standers m_has m_bestHas m_standerMany m_bestCouples m_bestFondness m_cameTo m_doesStandFirst m_stoodBy m_drawn m_ranSteps m_loops m_ran m_told1 m_isTold m_marks x1 z_15 e_z_15) (cV ht mv_X12_isAlive tb_1531 rfl rfl ⟨Nat.le_of_ble_eq_true rfl, Nat.le_of_ble_eq_true rfl⟩) (P_sub hP.1 [0] rfl) hX rfl rfl rfl hl.1 rfl (Nat.le_of_ble_eq_true rfl) dX12_game_37 ⟨Nat.le_of_ble_eq_true rfl, Nat.le_of_ble_eq_true rfl⟩ ?_
      refine lv_if_eq (tgt := 67) hx hb dX12_game_40 (by decide) (fun c_16 => ?_) (fun c_16 => ?_)
      · have h := it c_16 h
        refine lv_aload_n hx hb dX12_game_67 rfl (lv_at hl 1 rfl) ?_
        refine lv_bipush (v := 7) hx hb dX12_game_68 (by decide) ?_
        obtain ⟨z_17, e_z_17, h⟩ := bi h
        refine efVi (rest := []) ⟨hx, hb, hml, hown, ht⟩ (c_X12_refuse l D cy fu A_m m_at m_names m_status m_top m_bottom m_sort m_trayMany m_trays m_tape m_text m_taped m_size m_token m_from m_end m_value m_faultKind m_faultPlace m_faults m_seen m_toldParts m_opened m_depth m_counted m_bestOrder m_standers m_has m_bestHas m_standerMany m_bestCouples m_bestFondness m_cameTo m_doesStandFirst m_stoodBy m_drawn m_ranSteps m_loops m_ran m_told1 m_isTold m_marks 7 z_17 e_z_17 _ rfl _ rfl) (cV ht mv_X12_refuse tb_1432 rfl rfl ⟨Nat.le_of_ble_eq_true rfl, Nat.le_of_ble_eq_true rfl⟩) hP hS hX [0] rfl rfl rfl rfl rfl rfl hl.1 rfl (Nat.le_of_ble_eq_true rfl) dX12_game_70 ⟨Nat.le_of_ble_eq_true rfl, Nat.le_of_ble_eq_true rfl⟩ (fun H locs hP hS => ?_)
        have hP : PD D A [bl_X12 cy A_m m_at m_names z_17.2 m_top m_bottom m_sort m_trayMany m_trays m_tape m_text m_taped m_size m_token m_from m_end m_value m_faultKind m_faultPlace m_faults m_seen m_toldParts m_opened m_depth m_counted m_bestOrder m_standers m_has m_bestHas m_standerMany m_bestCouples m_bestFondness m_cameTo m_doesStandFirst m_stoodBy m_drawn m_ranSteps m_loops m_ran m_told1 m_isTold m_marks] H := hP
        cases h
        subst hW1
        exact W.iret hx hb hr (fun _ ht9 _ => ⟨⟨_, (), rfl, rfl, hPt ht9 hP.1⟩, hS.F ht9⟩) hS.2.2 dX12_game_73
      · have h := ie c_16 h
        refine lv_aload_n hx hb dX12_game_43 rfl (lv_at hl 1 rfl) ?_
        refine lv_iload_n hx hb dX12_game_44 rfl (lv_at hl 3 rfl) ?_
        obtain ⟨z_18, e_z_18, h⟩ := bi h
        refine roVi (rest := []) ⟨hx, hb, hml, hown, ht⟩ (c_X12_isAlive l D cy fu A_m m_at m_names m_status m_top m_bottom m_sort m_trayMany m_trays m_tape m_text m_taped m_size m_token m_from m_end m_value m_faultKind m_faultPlace m_faults m_seen m_toldParts m_opened m_depth m_counted m_bestOrder m_standers m_has m_bestHas m_standerMany m_bestCouples m_bestFondness m_cameTo m_doesStandFirst m_stoodBy m_drawn m_ranSteps m_loops m_ran m_told1 m_isTold m_marks x2 z_18 e_z_18) (cV ht mv_X12_isAlive tb_1531 rfl rfl ⟨Nat.le_of_ble_eq_true rfl, Nat.le_of_ble_eq_true rfl⟩) (P_sub hP.1 [0] rfl) hX rfl rfl rfl hl.1 rfl (Nat.le_of_ble_eq_true rfl) dX12_game_45 ⟨Nat.le_of_ble_eq_true rfl, Nat.le_of_ble_eq_true rfl⟩ ?_
        refine lv_if_eq (tgt := 67) hx hb dX12_game_48 (by decide) (fun c_19 => ?_) (fun c_19 => ?_)
        · have h := it c_19 h
          refine lv_aload_n hx hb dX12_game_67 rfl (lv_at hl 1 rfl) ?_
          refine lv_bipush (v := 7) hx hb dX12_game_68 (by decide) ?_
          obtain ⟨z_20, e_z_20, h⟩ := bi h
          refine efVi (rest := []) ⟨hx, hb, hml, hown, ht⟩ (c_X12_refuse l D cy fu A_m m_at m_names m_status m_top m_bottom m_sort m_trayMany m_trays m_tape m_text m_taped m_size m_token m_from m_end m_value m_faultKind m_faultPlace m_faults m_seen m_toldParts m_opened m_depth m_counted m_bestOrder m_standers m_has m_bestHas m_standerMany m_bestCouples m_bestFondness m_cameTo m_doesStandFirst m_stoodBy m_drawn m_ranSteps m_loops m_ran m_told1 m_isTold m_marks 7 z_20 e_z_20 _ rfl _ rfl) (cV ht mv_X12_refuse tb_1432 rfl rfl ⟨Nat.le_of_ble_eq_true rfl, Nat.le_of_ble_eq_true rfl⟩) hP hS hX [0] rfl rfl rfl rfl rfl rfl hl.1 rfl (Nat.le_of_ble_eq_true rfl) dX12_game_70 ⟨Nat.le_of_ble_eq_true rfl, Nat.le_of_ble_eq_true rfl⟩ (fun H locs hP hS => ?_)
          have hP : PD D A [bl_X12 cy A_m m_at m_names z_20.2 m_top m_bottom m_sort m_trayMany m_trays m_tape m_text m_taped m_size m_token m_from m_end m_value m_faultKind m_faultPlace m_faults m_seen m_toldParts m_opened m_depth m_counted m_bestOrder m_standers m_has m_bestHas m_standerMany m_bestCouples m_bestFondness m_cameTo m_doesStandFirst m_stoodBy m_drawn m_ranSteps m_loops m_ran m_told1 m_isTold m_marks] H := hP
          cases h
          subst hW1
          exact W.iret hx hb hr (fun _ ht9 _ => ⟨⟨_, (), rfl, rfl, hPt ht9 hP.1⟩, hS.F ht9⟩) hS.2.2 dX12_game_73
        · have h := ie c_19 h
          refine lv_aload_n hx hb dX12_game_51 rfl (lv_at hl 1 rfl) ?_
          refine lv_aload_n hx hb dX12_game_52 rfl (lv_at hl 1 rfl) ?_
          refine lv_iload_n hx hb dX12_game_53 rfl (lv_at hl 2 rfl) ?_
          refine lv_iload_n hx hb dX12_game_54 rfl (lv_at hl 3 rfl) ?_
          refine lv_iload_n hx hb dX12_game_55 rfl (lv_at hl 4 rfl) ?_
          refine lv_iload hx hb dX12_game_56 (lv_at hl 5 rfl) ?_
          obtain ⟨z_21, e_z_21, h⟩ := bi h
          refine efVi (rest := [.ref (A_m 0)]) ⟨hx, hb, hml, hown, ht⟩ (c_X12_playing l D cy fu A_m m_at m_names m_status m_top m_bottom m_sort m_trayMany m_trays m_tape m_text m_taped m_size m_token m_from m_end m_value m_faultKind m_faultPlace m_faults m_seen m_toldParts m_opened m_depth m_counted m_bestOrder m_standers m_has m_bestHas m_standerMany m_bestCouples m_bestFondness m_cameTo m_doesStandFirst m_stoodBy m_drawn m_ranSteps m_loops m_ran m_told1 m_isTold m_marks x1 x2 x3 x4 z_21 e_z_21 _ rfl _ rfl) (cV ht mv_X12_playing tb_1838 rfl rfl ⟨Nat.le_of_ble_eq_true rfl, Nat.le_of_ble_eq_true rfl⟩) hP hS hX [0] rfl rfl rfl rfl rfl rfl hl.1 rfl (Nat.le_of_ble_eq_true rfl) dX12_game_58 ⟨Nat.le_of_ble_eq_true rfl, Nat.le_of_ble_eq_true rfl⟩ (fun H locs hP hS => ?_)
          have hP : PD D A [bl_X12 cy A_m z_21.2.1 m_names m_status m_top m_bottom m_sort m_trayMany m_trays m_tape m_text m_taped m_size m_token m_from m_end m_value m_faultKind m_faultPlace m_faults m_seen m_toldParts m_opened m_depth m_counted m_bestOrder m_standers m_has m_bestHas m_standerMany m_bestCouples m_bestFondness z_21.2.2.1 z_21.2.2.2 m_stoodBy m_drawn m_ranSteps m_loops m_ran m_told1 m_isTold m_marks] H := hP
          obtain ⟨z_22, e_z_22, h⟩ := bi h
          refine efVi (rest := []) ⟨hx, hb, hml, hown, ht⟩ (c_X12_gives l D cy fu A_m z_21.2.1 m_names m_status m_top m_bottom m_sort m_trayMany m_trays m_tape m_text m_taped m_size m_token m_from m_end m_value m_faultKind m_faultPlace m_faults m_seen m_toldParts m_opened m_depth m_counted m_bestOrder m_standers m_has m_bestHas m_standerMany m_bestCouples m_bestFondness z_21.2.2.1 z_21.2.2.2 m_stoodBy m_drawn m_ranSteps m_loops m_ran m_told1 m_isTold m_marks z_21.1 z_22 e_z_22 _ rfl _ rfl) (cV ht mv_X12_gives tb_1499 rfl rfl ⟨Nat.le_of_ble_eq_true rfl, Nat.le_of_ble_eq_true rfl⟩) hP hS hX [0] rfl rfl rfl rfl rfl rfl hl.1 rfl (Nat.le_of_ble_eq_true rfl) dX12_game_61 ⟨Nat.le_of_ble_eq_true rfl, Nat.le_of_ble_eq_true rfl⟩ (fun H locs hP hS => ?_)
          have hP : PD D A [bl_X12 cy A_m z_21.2.1 m_names z_22.2 m_top m_bottom m_sort m_trayMany m_trays m_tape m_text m_taped m_size m_token m_from m_end m_value m_faultKind m_faultPlace m_faults m_seen m_toldParts m_opened m_depth m_counted m_bestOrder m_standers m_has m_bestHas m_standerMany m_bestCouples m_bestFondness z_21.2.2.1 z_21.2.2.2 m_stoodBy m_drawn m_ranSteps m_loops m_ran m_told1 m_isTold m_marks] H := hP
          refine lv_goto (tgt := 73) hx hb dX12_game_64 (by decide) ?_
          cases h
          subst hW1
          exact W.iret hx hb hr (fun _ ht9 _ => ⟨⟨_, (), rfl, rfl, hPt ht9 hP.1⟩, hS.F ht9⟩) hS.2.2 dX12_game_73
    · have h := ie c_14 h
      refine lv_aload_n hx hb dX12_game_28 rfl (lv_at hl 1 rfl) ?_
      refine lv_iload hx hb dX12_game_29 (lv_at hl 0 rfl) ?_
      obtain ⟨z_23, e_z_23, h⟩ := bi h
      refine efVi (rest := []) ⟨hx, hb, hml, hown, ht⟩ (c_X12_refuse l D cy fu A_m m_at m_names m_status m_top m_bottom m_sort m_trayMany m_trays m_tape m_text m_taped m_size m_token m_from m_end m_value m_faultKind m_faultPlace m_faults m_seen m_toldParts m_opened m_depth m_counted m_bestOrder m_standers m_has m_bestHas m_standerMany m_bestCouples m_bestFondness m_cameTo m_doesStandFirst m_stoodBy m_drawn m_ranSteps m_loops m_ran m_told1 m_isTold m_marks s0 z_23 e_z_23 _ rfl _ rfl) (cV ht mv_X12_refuse tb_1432 rfl rfl ⟨Nat.le_of_ble_eq_true rfl, Nat.le_of_ble_eq_true rfl⟩) hP hS hX [0] rfl rfl rfl rfl rfl rfl hl.1 rfl (Nat.le_of_ble_eq_true rfl) dX12_game_31 ⟨Nat.le_of_ble_eq_true rfl, Nat.le_of_ble_eq_true rfl⟩ (fun H locs hP hS => ?_)
      have hP : PD D A [bl_X12 cy A_m m_at m_names z_23.2 m_top m_bottom m_sort m_trayMany m_trays m_tape m_text m_taped m_size m_token m_from m_end m_value m_faultKind m_faultPlace m_faults m_seen m_toldParts m_opened m_depth m_counted m_bestOrder m_standers m_has m_bestHas m_standerMany m_bestCouples m_bestFondness m_cameTo m_doesStandFirst m_stoodBy m_drawn m_ranSteps m_loops m_ran m_told1 m_isTold m_marks] H := hP
      cases h
      subst hW1
      exact W.iret hx hb hr (fun _ ht9 _ => ⟨⟨_, (), rfl, rfl, hPt ht9 hP.1⟩, hS.F ht9⟩) hS.2.2 dX12_game_34
  unfold f_X12_game at h
  refine lv_aload_n hx hb dX12_game_0 rfl (lv_at hl 0 rfl) ?_
  refine lv_iload_n hx hb dX12_game_1 rfl (lv_at hl 1 rfl) ?_
  refine lv_iload_n hx hb dX12_game_2 rfl (lv_at hl 2 rfl) ?_
  obtain ⟨z_24, e_z_24, h⟩ := bi h
  refine roVi (rest := []) ⟨hx, hb, hml, hown, ht⟩ (c_X12_areTwo l D cy fu A_m m_at m_names m_status m_top m_bottom m_sort m_trayMany m_trays m_tape m_text m_taped m_size m_token m_from m_end m_value m_faultKind m_faultPlace m_faults m_seen m_toldParts m_opened m_depth m_counted m_bestOrder m_standers m_has m_bestHas m_standerMany m_bestCouples m_bestFondness m_cameTo m_doesStandFirst m_stoodBy m_drawn m_ranSteps m_loops m_ran m_told1 m_isTold m_marks x1 x2 z_24 e_z_24) (cV ht mv_X12_areTwo tb_1834 rfl rfl ⟨Nat.le_of_ble_eq_true rfl, Nat.le_of_ble_eq_true rfl⟩) (P_sub hP.1 [0] rfl) hX rfl rfl rfl hl.1 rfl (Nat.le_of_ble_eq_true rfl) dX12_game_3 ⟨Nat.le_of_ble_eq_true rfl, Nat.le_of_ble_eq_true rfl⟩ ?_
  refine lv_if_eq (tgt := 20) hx hb dX12_game_6 (by decide) (fun c_25 => ?_) (fun c_25 => ?_)
  · have h := it c_25 h
    refine lv_iconst (v := 1) hx hb dX12_game_20 (by decide) ?_
    exact j21 m_at m_status m_cameTo m_doesStandFirst 1 _ _ hP hS ls (lv_sub hl [0, 1, 2, 3, 4] rfl) h
  · have h := ie c_25 h
    refine lv_aload_n hx hb dX12_game_9 rfl (lv_at hl 0 rfl) ?_
    refine lv_iload_n hx hb dX12_game_10 rfl (lv_at hl 3 rfl) ?_
    refine lv_iload hx hb dX12_game_11 (lv_at hl 4 rfl) ?_
    refine lv_iconst (v := 0) hx hb dX12_game_13 (by decide) ?_
    obtain ⟨z_26, e_z_26, h⟩ := bi h
    refine roVi (rest := []) ⟨hx, hb, hml, hown, ht⟩ (c_X12_wrongSizes l D cy fu A_m m_at m_names m_status m_top m_bottom m_sort m_trayMany m_trays m_tape m_text m_taped m_size m_token m_from m_end m_value m_faultKind m_faultPlace m_faults m_seen m_toldParts m_opened m_depth m_counted m_bestOrder m_standers m_has m_bestHas m_standerMany m_bestCouples m_bestFondness m_cameTo m_doesStandFirst m_stoodBy m_drawn m_ranSteps m_loops m_ran m_told1 m_isTold m_marks x3 x4 0 z_26 e_z_26) (cV ht mv_X12_wrongSizes tb_1742 rfl rfl ⟨Nat.le_of_ble_eq_true rfl, Nat.le_of_ble_eq_true rfl⟩) (P_sub hP.1 [0] rfl) hX rfl rfl rfl hl.1 rfl (Nat.le_of_ble_eq_true rfl) dX12_game_14 ⟨Nat.le_of_ble_eq_true rfl, Nat.le_of_ble_eq_true rfl⟩ ?_
    refine lv_goto (tgt := 21) hx hb dX12_game_17 (by decide) ?_
    exact j21 m_at m_status m_cameTo m_doesStandFirst z_26 _ _ hP hS ls (lv_sub hl [0, 1, 2, 3, 4] rfl) h
theorem dX12_moveOf_0 : decode cX12_moveOf 0 = .ok (.aload_n 0, 1) := by decide +kernel
theorem dX12_moveOf_1 : decode cX12_moveOf 1 = .ok (.iload_n 1, 1) := by decide +kernel
theorem dX12_moveOf_2 : decode cX12_moveOf 2 = .ok (.iload_n 2, 1) := by decide +kernel
theorem dX12_moveOf_3 : decode cX12_moveOf 3 = .ok (.invokevirtual 412, 3) := by decide +kernel
theorem dX12_moveOf_6 : decode cX12_moveOf 6 = .ok (.ifCond .eq 14, 3) := by decide +kernel
theorem dX12_moveOf_9 : decode cX12_moveOf 9 = .ok (.aload_n 0, 1) := by decide +kernel
theorem dX12_moveOf_10 : decode cX12_moveOf 10 = .ok (.iload_n 3, 1) := by decide +kernel
theorem dX12_moveOf_11 : decode cX12_moveOf 11 = .ok (.iload 4, 2) := by decide +kernel
theorem dX12_moveOf_13 : decode cX12_moveOf 13 = .ok (.iconst 1, 1) := by decide +kernel
theorem dX12_moveOf_14 : decode cX12_moveOf 14 = .ok (.invokevirtual 359, 3) := by decide +kernel
theorem dX12_moveOf_17 : decode cX12_moveOf 17 = .ok (.goto 4, 3) := by decide +kernel
theorem dX12_moveOf_20 : decode cX12_moveOf 20 = .ok (.iconst 1, 1) := by decide +kernel
theorem dX12_moveOf_21 : decode cX12_moveOf 21 = .ok (.istore 5, 2) := by decide +kernel
theorem dX12_moveOf_23 : decode cX12_moveOf 23 = .ok (.iload 5, 2) := by decide +kernel
theorem dX12_moveOf_25 : decode cX12_moveOf 25 = .ok (.ifCond .le 10, 3) := by decide +kernel
theorem dX12_moveOf_28 : decode cX12_moveOf 28 = .ok (.aload_n 0, 1) := by decide +kernel
theorem dX12_moveOf_29 : decode cX12_moveOf 29 = .ok (.iload 5, 2) := by decide +kernel
theorem dX12_moveOf_31 : decode cX12_moveOf 31 = .ok (.invokevirtual 85, 3) := by decide +kernel
theorem dX12_moveOf_34 : decode cX12_moveOf 34 = .ok (.ireturn, 1) := by decide +kernel
theorem dX12_moveOf_35 : decode cX12_moveOf 35 = .ok (.aload_n 0, 1) := by decide +kernel
theorem dX12_moveOf_36 : decode cX12_moveOf 36 = .ok (.iload_n 1, 1) := by decide +kernel
theorem dX12_moveOf_37 : decode cX12_moveOf 37 = .ok (.invokevirtual 253, 3) := by decide +kernel
theorem dX12_moveOf_40 : decode cX12_moveOf 40 = .ok (.ifCond .eq 11, 3) := by decide +kernel
theorem dX12_moveOf_43 : decode cX12_moveOf 43 = .ok (.aload_n 0, 1) := by decide +kernel
theorem dX12_moveOf_44 : decode cX12_moveOf 44 = .ok (.iload_n 2, 1) := by decide +kernel
theorem dX12_moveOf_45 : decode cX12_moveOf 45 = .ok (.invokevirtual 253, 3) := by decide +kernel
theorem dX12_moveOf_48 : decode cX12_moveOf 48 = .ok (.ifCond .ne 10, 3) := by decide +kernel
theorem dX12_moveOf_51 : decode cX12_moveOf 51 = .ok (.aload_n 0, 1) := by decide +kernel
theorem dX12_moveOf_52 : decode cX12_moveOf 52 = .ok (.bipush 7, 2) := by decide +kernel
theorem dX12_moveOf_54 : decode cX12_moveOf 54 = .ok (.invokevirtual 85, 3) := by decide +kernel
theorem dX12_moveOf_57 : decode cX12_moveOf 57 = .ok (.ireturn, 1) := by decide +kernel
theorem dX12_moveOf_58 : decode cX12_moveOf 58 = .ok (.aload_n 0, 1) := by decide +kernel
theorem dX12_moveOf_59 : decode cX12_moveOf 59 = .ok (.iload_n 1, 1) := by decide +kernel
theorem dX12_moveOf_60 : decode cX12_moveOf 60 = .ok (.aload_n 0, 1) := by decide +kernel
theorem dX12_moveOf_61 : decode cX12_moveOf 61 = .ok (.iload_n 3, 1) := by decide +kernel
theorem dX12_moveOf_62 : decode cX12_moveOf 62 = .ok (.iconst 0, 1) := by decide +kernel
theorem dX12_moveOf_63 : decode cX12_moveOf 63 = .ok (.invokevirtual 346, 3) := by decide +kernel
theorem dX12_moveOf_66 : decode cX12_moveOf 66 = .ok (.invokevirtual 271, 3) := by decide +kernel
theorem dX12_moveOf_69 : decode cX12_moveOf 69 = .ok (.ifCond .ne 10, 3) := by decide +kernel
theorem dX12_moveOf_72 : decode cX12_moveOf 72 = .ok (.aload_n 0, 1) := by decide +kernel
theorem dX12_moveOf_73 : decode cX12_moveOf 73 = .ok (.bipush 6, 2) := by decide +kernel
theorem dX12_moveOf_75 : decode cX12_moveOf 75 = .ok (.invokevirtual 85, 3) := by decide +kernel
theorem dX12_moveOf_78 : decode cX12_moveOf 78 = .ok (.ireturn, 1) := by decide +kernel
theorem dX12_moveOf_79 : decode cX12_moveOf 79 = .ok (.aload_n 0, 1) := by decide +kernel
theorem dX12_moveOf_80 : decode cX12_moveOf 80 = .ok (.iload_n 1, 1) := by decide +kernel
theorem dX12_moveOf_81 : decode cX12_moveOf 81 = .ok (.iload_n 2, 1) := by decide +kernel
theorem dX12_moveOf_82 : decode cX12_moveOf 82 = .ok (.iload_n 3, 1) := by decide +kernel
theorem dX12_moveOf_83 : decode cX12_moveOf 83 = .ok (.iload 4, 2) := by decide +kernel
theorem dX12_moveOf_85 : decode cX12_moveOf 85 = .ok (.invokevirtual 415, 3) := by decide +kernel
theorem dX12_moveOf_88 : decode cX12_moveOf 88 = .ok (.pop, 1) := by decide +kernel
theorem dX12_moveOf_89 : decode cX12_moveOf 89 = .ok (.aload_n 0, 1) := by decide +kernel
theorem dX12_moveOf_90 : decode cX12_moveOf 90 = .ok (.aload_n 0, 1) := by decide +kernel
theorem dX12_moveOf_91 : decode cX12_moveOf 91 = .ok (.getfield 408, 3) := by decide +kernel
theorem dX12_moveOf_94 : decode cX12_moveOf 94 = .ok (.ifCond .eq 7, 3) := by decide +kernel
theorem dX12_moveOf_97 : decode cX12_moveOf 97 = .ok (.iconst 1, 1) := by decide +kernel
theorem dX12_moveOf_98 : decode cX12_moveOf 98 = .ok (.goto 4, 3) := by decide +kernel
theorem dX12_moveOf_101 : decode cX12_moveOf 101 = .ok (.iconst 0, 1) := by decide +kernel
theorem dX12_moveOf_102 : decode cX12_moveOf 102 = .ok (.invokevirtual 88, 3) := by decide +kernel
theorem dX12_moveOf_105 : decode cX12_moveOf 105 = .ok (.ireturn, 1) := by decide +kernel
theorem mv_X12_moveOf : MV yX12_moveOf RX12 cX12_moveOf 6 (some .int) 4 := ⟨tb_1849, tb_1847, tb_1848, tb_16, by decide +kernel, by decide +kernel, by decide +kernel⟩
def f_X12_moveOf_j21 (fu : Nat) (m_trayMany : Nat → Int32) (m_trays : Nat → Int64) (x1 : Int32) (x2 : Int32) (x3 : Int32) (x4 : Int32) (m_at : Nat → Int32) (m_status : Int32) (m_cameTo : Nat → Int32) (m_doesStandFirst : Int32) (s0 : Int32) : Option (Int32 × (Nat → Int32) × Int32 × (Nat → Int32) × Int32) := (if s0 ≤ 0 then (f_X12_isAlive fu m_at x1).bind fun z_21 => (if z_21 = 0 then (f_X12_refuse fu m_status 7).bind fun z_23 => some (z_23.1, m_at, z_23.2, m_cameTo, m_doesStandFirst) else (f_X12_isAlive fu m_at x2).bind fun z_24 => (if z_24 = 0 then (f_X12_refuse fu m_status 7).bind fun z_34 => some (z_34.1, m_at, z_34.2, m_cameTo, m_doesStandFirst) else (f_X12_sizeAt fu m_trays x3 0).bind fun z_26 => (f_X12_stands fu m_at x1 z_26).bind fun z_27 => (if z_27 = 0 then (f_X12_refuse fu m_status 6).bind fun z_33 => some (z_33.1, m_at, z_33.2, m_cameTo, m_doesStandFirst) else (f_X12_playing fu m_at m_trays m_cameTo m_doesStandFirst x1 x2 x3 x4).bind fun z_29 => (if z_29.2.2.2 = 0 then (f_X12_gives fu m_status 0).bind fun z_31 => some (z_31.1, z_29.2.1, z_31.2, z_29.2.2.1, z_29.2.2.2) else (f_X12_gives fu m_status 1).bind fun z_32 => some (z_32.1, z_29.2.1, z_32.2, z_29.2.2.1, z_29.2.2.2))))) else (f_X12_refuse fu m_status s0).bind fun z_35 => some (z_35.1, m_at, z_35.2, m_cameTo, m_doesStandFirst))
def f_X12_moveOf (fu : Nat) (m_at : Nat → Int32) (m_status : Int32) (m_trayMany : Nat → Int32) (m_trays : Nat → Int64) (m_cameTo : Nat → Int32) (m_doesStandFirst : Int32) (x1 : Int32) (x2 : Int32) (x3 : Int32) (x4 : Int32) : Option (Int32 × (Nat → Int32) × Int32 × (Nat → Int32) × Int32) := (f_X12_areTwo fu m_at x1 x2).bind fun z_36 => (if z_36 = 0 then f_X12_moveOf_j21 fu m_trayMany m_trays x1 x2 x3 x4 m_at m_status m_cameTo m_doesStandFirst 1 else (f_X12_wrongSizes fu m_trayMany m_trays x3 x4 1).bind fun z_38 => f_X12_moveOf_j21 fu m_trayMany m_trays x1 x2 x3 x4 m_at m_status m_cameTo m_doesStandFirst z_38)
abbrev rm_X12_moveOf : Room := { frames := 9, cells := 0, slots := 0, locals := 220 }
set_option maxHeartbeats 4000000 in
set_option maxRecDepth 100000 in
theorem c_X12_moveOf (l : Launch) (D : va_G) (cy : Nat → ClassId) (fu : Nat) (A_m : Nat → Nat) (m_at : Nat → Int32) (m_names : Nat → Int64) (m_status : Int32) (m_top : Int64) (m_bottom : Int64) (m_sort : Nat → Int32) (m_trayMany : Nat → Int32) (m_trays : Nat → Int64) (m_tape : Nat → Int32) (m_text : Nat → Int32) (m_taped : Int32) (m_size : Int32) (m_token : Int32) (m_from : Int32) (m_end : Int32) (m_value : Int32) (m_faultKind : Int32) (m_faultPlace : Int32) (m_faults : Int32) (m_seen : Int32) (m_toldParts : Int32) (m_opened : Nat → Int32) (m_depth : Int32) (m_counted : Int32) (m_bestOrder : Int32) (m_standers : Nat → Int32) (m_has : Nat → Int32) (m_bestHas : Nat → Int32) (m_standerMany : Int32) (m_bestCouples : Int32) (m_bestFondness : Int32) (m_cameTo : Nat → Int32) (m_doesStandFirst : Int32) (m_stoodBy : Nat → Int64) (m_drawn : Int32) (m_ranSteps : Int32) (m_loops : Nat → Int32) (m_ran : Nat → Int32) (m_told1 : Nat → Int32) (m_isTold : Int32) (m_marks : Int32) (x1 : Int32) (x2 : Int32) (x3 : Int32) (x4 : Int32) (res : Int32 × (Nat → Int32) × Int32 × (Nat → Int32) × Int32) (h : f_X12_moveOf fu m_at m_status m_trayMany m_trays m_cameTo m_doesStandFirst x1 x2 x3 x4 = some res) (A : Nat → Prop) (hA : A = adr [bl_X12 cy A_m m_at m_names m_status m_top m_bottom m_sort m_trayMany m_trays m_tape m_text m_taped m_size m_token m_from m_end m_value m_faultKind m_faultPlace m_faults m_seen m_toldParts m_opened m_depth m_counted m_bestOrder m_standers m_has m_bestHas m_standerMany m_bestCouples m_bestFondness m_cameTo m_doesStandFirst m_stoodBy m_drawn m_ranSteps m_loops m_ran m_told1 m_isTold m_marks]) (W1 : List va_W) (hW1 : W1 = [bl_X12 cy A_m res.2.1 m_names res.2.2.1 m_top m_bottom m_sort m_trayMany m_trays m_tape m_text m_taped m_size m_token m_from m_end m_value m_faultKind m_faultPlace m_faults m_seen m_toldParts m_opened m_depth m_counted m_bestOrder m_standers m_has m_bestHas m_standerMany m_bestCouples m_bestFondness res.2.2.2.1 res.2.2.2.2 m_stoodBy m_drawn m_ranSteps m_loops m_ran m_told1 m_isTold m_marks]) : Met l yX12_moveOf (WW yX12_moveOf cX12_moveOf 6 (some .int)) rm_X12_moveOf (Ed D cy [.ref (A_m 0), .int x1, .int x2, .int x3, .int x4] [bl_X12 cy A_m m_at m_names m_status m_top m_bottom m_sort m_trayMany m_trays m_tape m_text m_taped m_size m_token m_from m_end m_value m_faultKind m_faultPlace m_faults m_seen m_toldParts m_opened m_depth m_counted m_bestOrder m_standers m_has m_bestHas m_standerMany m_bestCouples m_bestFondness m_cameTo m_doesStandFirst m_stoodBy m_drawn m_ranSteps m_loops m_ran m_told1 m_isTold m_marks]) (Qei D res.1 A W1) 0 0 A := by
  refine Met.ofW (cc := cX12_moveOf) (maxL := 6) (ret := (some .int)) (by decide) rfl ?_
  intro p e s m args below meth c s₁ B hml hv
  obtain ⟨hargs, hP, hX, hD0⟩ := hv
  have hx := B.exec
  have hb := B.bytes
  have hr := B.returns
  have ht : ∀ w ∈ lw_gd, w.before args s = true := fun w hw => atoms_spec (ws := WW yX12_moveOf cX12_moveOf 6 (some .int)) B.pre w (List.mem_cons_of_mem _ hw)
  have hown : s.vm.findClass RX12 = some m.cls := findClass_of_methodNamed B.named
  have hlocks := B.notSynchronized
  have hP : PD D A [bl_X12 cy A_m m_at m_names m_status m_top m_bottom m_sort m_trayMany m_trays m_tape m_text m_taped m_size m_token m_from m_end m_value m_faultKind m_faultPlace m_faults m_seen m_toldParts m_opened m_depth m_counted m_bestOrder m_standers m_has m_bestHas m_standerMany m_bestCouples m_bestFondness m_cameTo m_doesStandFirst m_stoodBy m_drawn m_ranSteps m_loops m_ran m_told1 m_isTold m_marks] s.heap := ⟨hP, by rw [hA]; exact hD0.own⟩
  have hS : va_S A s.heap s.heap [] := va_S.rf
  obtain ⟨ls, hl, hent⟩ := ent (m := m) (n := 6) hargs (Nat.le_of_ble_eq_true rfl) (lv := [(0, .ref (A_m 0)), (1, .int x1), (2, .int x2), (3, .int x3), (4, .int x4)]) rfl
  rw [hent]
  clear hent
  have j21 : ∀ (m_at : Nat → Int32) (m_status : Int32) (m_cameTo : Nat → Int32) (m_doesStandFirst : Int32) (s0 : Int32) (H : Heap) (locs : List Loc) (_ : PD D A [bl_X12 cy A_m m_at m_names m_status m_top m_bottom m_sort m_trayMany m_trays m_tape m_text m_taped m_size m_token m_from m_end m_value m_faultKind m_faultPlace m_faults m_seen m_toldParts m_opened m_depth m_counted m_bestOrder m_standers m_has m_bestHas m_standerMany m_bestCouples m_bestFondness m_cameTo m_doesStandFirst m_stoodBy m_drawn m_ranSteps m_loops m_ran m_told1 m_isTold m_marks] H) (_ : va_S A s.heap H locs) (ls : Array Slot), lv_has ls 6 [(0, .ref (A_m 0)), (1, .int x1), (2, .int x2), (3, .int x3), (4, .int x4)] → f_X12_moveOf_j21 fu m_trayMany m_trays x1 x2 x3 x4 m_at m_status m_cameTo m_doesStandFirst s0 = some res → W p l e (headSpec (WW yX12_moveOf cX12_moveOf 6 (some .int)) rm_X12_moveOf).room s m args below meth c H locs 0 0 (MQ below (Qei D res.1 A W1) args s 0 0 A) (F0 m 21 ls [.int s0]) := by
    intro m_at m_status m_cameTo m_doesStandFirst s0 H locs hP hS ls hl h
    unfold f_X12_moveOf_j21 at h
    refine lv_istore (lv' := [(5, .int s0), (0, .ref (A_m 0)), (1, .int x1), (2, .int x2), (3, .int x3), (4, .int x4)]) hx hb dX12_moveOf_21 hl (by decide) rfl (fun ls hl => ?_)
    refine lv_iload hx hb dX12_moveOf_23 (lv_at hl 0 rfl) ?_
    refine lv_if_le (tgt := 35) hx hb dX12_moveOf_25 (by decide) (fun c_20 => ?_) (fun c_20 => ?_)
    · have h := it c_20 h
      refine lv_aload_n hx hb dX12_moveOf_35 rfl (lv_at hl 1 rfl) ?_
      refine lv_iload_n hx hb dX12_moveOf_36 rfl (lv_at hl 2 rfl) ?_
      obtain ⟨z_21, e_z_21, h⟩ := bi h
      refine roVi (rest := []) ⟨hx, hb, hml, hown, ht⟩ (c_X12_isAlive l D cy fu A_m m_at m_names m_status m_top m_bottom m_sort m_trayMany m_trays m_tape m_text m_taped m_size m_token m_from m_end m_value m_faultKind m_faultPlace m_faults m_seen m_toldParts m_opened m_depth m_counted m_bestOrder m_standers m_has m_bestHas m_standerMany m_bestCouples m_bestFondness m_cameTo m_doesStandFirst m_stoodBy m_drawn m_ranSteps m_loops m_ran m_told1 m_isTold m_marks x1 z_21 e_z_21) (cV ht mv_X12_isAlive tb_1531 rfl rfl ⟨Nat.le_of_ble_eq_true rfl, Nat.le_of_ble_eq_true rfl⟩) (P_sub hP.1 [0] rfl) hX rfl rfl rfl hl.1 rfl (Nat.le_of_ble_eq_true rfl) dX12_moveOf_37 ⟨Nat.le_of_ble_eq_true rfl, Nat.le_of_ble_eq_true rfl⟩ ?_
      refine lv_if_eq (tgt := 51) hx hb dX12_moveOf_40 (by decide) (fun c_22 => ?_) (fun c_22 => ?_)
      · have h := it c_22 h
        refine lv_aload_n hx hb dX12_moveOf_51 rfl (lv_at hl 1 rfl) ?_
        refine lv_bipush (v := 7) hx hb dX12_moveOf_52 (by decide) ?_
        obtain ⟨z_23, e_z_23, h⟩ := bi h
        refine efVi (rest := []) ⟨hx, hb, hml, hown, ht⟩ (c_X12_refuse l D cy fu A_m m_at m_names m_status m_top m_bottom m_sort m_trayMany m_trays m_tape m_text m_taped m_size m_token m_from m_end m_value m_faultKind m_faultPlace m_faults m_seen m_toldParts m_opened m_depth m_counted m_bestOrder m_standers m_has m_bestHas m_standerMany m_bestCouples m_bestFondness m_cameTo m_doesStandFirst m_stoodBy m_drawn m_ranSteps m_loops m_ran m_told1 m_isTold m_marks 7 z_23 e_z_23 _ rfl _ rfl) (cV ht mv_X12_refuse tb_1432 rfl rfl ⟨Nat.le_of_ble_eq_true rfl, Nat.le_of_ble_eq_true rfl⟩) hP hS hX [0] rfl rfl rfl rfl rfl rfl hl.1 rfl (Nat.le_of_ble_eq_true rfl) dX12_moveOf_54 ⟨Nat.le_of_ble_eq_true rfl, Nat.le_of_ble_eq_true rfl⟩ (fun H locs hP hS => ?_)
        have hP : PD D A [bl_X12 cy A_m m_at m_names z_23.2 m_top m_bottom m_sort m_trayMany m_trays m_tape m_text m_taped m_size m_token m_from m_end m_value m_faultKind m_faultPlace m_faults m_seen m_toldParts m_opened m_depth m_counted m_bestOrder m_standers m_has m_bestHas m_standerMany m_bestCouples m_bestFondness m_cameTo m_doesStandFirst m_stoodBy m_drawn m_ranSteps m_loops m_ran m_told1 m_isTold m_marks] H := hP
        cases h
        subst hW1
        exact W.iret hx hb hr (fun _ ht9 _ => ⟨⟨_, (), rfl, rfl, hPt ht9 hP.1⟩, hS.F ht9⟩) hS.2.2 dX12_moveOf_57
      · have h := ie c_22 h
        refine lv_aload_n hx hb dX12_moveOf_43 rfl (lv_at hl 1 rfl) ?_
        refine lv_iload_n hx hb dX12_moveOf_44 rfl (lv_at hl 3 rfl) ?_
        obtain ⟨z_24, e_z_24, h⟩ := bi h
        refine roVi (rest := []) ⟨hx, hb, hml, hown, ht⟩ (c_X12_isAlive l D cy fu A_m m_at m_names m_status m_top m_bottom m_sort m_trayMany m_trays m_tape m_text m_taped m_size m_token m_from m_end m_value m_faultKind m_faultPlace m_faults m_seen m_toldParts m_opened m_depth m_counted m_bestOrder m_standers m_has m_bestHas m_standerMany m_bestCouples m_bestFondness m_cameTo m_doesStandFirst m_stoodBy m_drawn m_ranSteps m_loops m_ran m_told1 m_isTold m_marks x2 z_24 e_z_24) (cV ht mv_X12_isAlive tb_1531 rfl rfl ⟨Nat.le_of_ble_eq_true rfl, Nat.le_of_ble_eq_true rfl⟩) (P_sub hP.1 [0] rfl) hX rfl rfl rfl hl.1 rfl (Nat.le_of_ble_eq_true rfl) dX12_moveOf_45 ⟨Nat.le_of_ble_eq_true rfl, Nat.le_of_ble_eq_true rfl⟩ ?_
        refine lv_if_ne (tgt := 58) hx hb dX12_moveOf_48 (by decide) (fun c_25 => ?_) (fun c_25 => ?_)
        · have h := ie c_25 h
          refine lv_aload_n hx hb dX12_moveOf_58 rfl (lv_at hl 1 rfl) ?_
          refine lv_iload_n hx hb dX12_moveOf_59 rfl (lv_at hl 2 rfl) ?_
          refine lv_aload_n hx hb dX12_moveOf_60 rfl (lv_at hl 1 rfl) ?_
          refine lv_iload_n hx hb dX12_moveOf_61 rfl (lv_at hl 4 rfl) ?_
          refine lv_iconst (v := 0) hx hb dX12_moveOf_62 (by decide) ?_
          obtain ⟨z_26, e_z_26, h⟩ := bi h
          refine roVi (rest := [.int x1, .ref (A_m 0)]) ⟨hx, hb, hml, hown, ht⟩ (c_X12_sizeAt l D cy fu A_m m_at m_names m_status m_top m_bottom m_sort m_trayMany m_trays m_tape m_text m_taped m_size m_token m_from m_end m_value m_faultKind m_faultPlace m_faults m_seen m_toldParts m_opened m_depth m_counted m_bestOrder m_standers m_has m_bestHas m_standerMany m_bestCouples m_bestFondness m_cameTo m_doesStandFirst m_stoodBy m_drawn m_ranSteps m_loops m_ran m_told1 m_isTold m_marks x3 0 z_26 e_z_26) (cV ht mv_X12_sizeAt tb_1760 rfl rfl ⟨Nat.le_of_ble_eq_true rfl, Nat.le_of_ble_eq_true rfl⟩) (P_sub hP.1 [0] rfl) hX rfl rfl rfl hl.1 rfl (Nat.le_of_ble_eq_true rfl) dX12_moveOf_63 ⟨Nat.le_of_ble_eq_true rfl, Nat.le_of_ble_eq_true rfl⟩ ?_
          obtain ⟨z_27, e_z_27, h⟩ := bi h
          refine roVi (rest := []) ⟨hx, hb, hml, hown, ht⟩ (c_X12_stands l D cy fu A_m m_at m_names m_status m_top m_bottom m_sort m_trayMany m_trays m_tape m_text m_taped m_size m_token m_from m_end m_value m_faultKind m_faultPlace m_faults m_seen m_toldParts m_opened m_depth m_counted m_bestOrder m_standers m_has m_bestHas m_standerMany m_bestCouples m_bestFondness m_cameTo m_doesStandFirst m_stoodBy m_drawn m_ranSteps m_loops m_ran m_told1 m_isTold m_marks x1 z_26 z_27 e_z_27) (cV ht mv_X12_stands tb_1582 rfl rfl ⟨Nat.le_of_ble_eq_true rfl, Nat.le_of_ble_eq_true rfl⟩) (P_sub hP.1 [0] rfl) hX rfl rfl rfl hl.1 rfl (Nat.le_of_ble_eq_true rfl) dX12_moveOf_66 ⟨Nat.le_of_ble_eq_true rfl, Nat.le_of_ble_eq_true rfl⟩ ?_
          refine lv_if_ne (tgt := 79) hx hb dX12_moveOf_69 (by decide) (fun c_28 => ?_) (fun c_28 => ?_)
          · have h := ie c_28 h
            refine lv_aload_n hx hb dX12_moveOf_79 rfl (lv_at hl 1 rfl) ?_
            refine lv_iload_n hx hb dX12_moveOf_80 rfl (lv_at hl 2 rfl) ?_
            refine lv_iload_n hx hb dX12_moveOf_81 rfl (lv_at hl 3 rfl) ?_
            refine lv_iload_n hx hb dX12_moveOf_82 rfl (lv_at hl 4 rfl) ?_
            refine lv_iload hx hb dX12_moveOf_83 (lv_at hl 5 rfl) ?_
            obtain ⟨z_29, e_z_29, h⟩ := bi h
            refine efVi (rest := []) ⟨hx, hb, hml, hown, ht⟩ (c_X12_playing l D cy fu A_m m_at m_names m_status m_top m_bottom m_sort m_trayMany m_trays m_tape m_text m_taped m_size m_token m_from m_end m_value m_faultKind m_faultPlace m_faults m_seen m_toldParts m_opened m_depth m_counted m_bestOrder m_standers m_has m_bestHas m_standerMany m_bestCouples m_bestFondness m_cameTo m_doesStandFirst m_stoodBy m_drawn m_ranSteps m_loops m_ran m_told1 m_isTold m_marks x1 x2 x3 x4 z_29 e_z_29 _ rfl _ rfl) (cV ht mv_X12_playing tb_1838 rfl rfl ⟨Nat.le_of_ble_eq_true rfl, Nat.le_of_ble_eq_true rfl⟩) hP hS hX [0] rfl rfl rfl rfl rfl rfl hl.1 rfl (Nat.le_of_ble_eq_true rfl) dX12_moveOf_85 ⟨Nat.le_of_ble_eq_true rfl, Nat.le_of_ble_eq_true rfl⟩ (fun H locs hP hS => ?_)
            have hP : PD D A [bl_X12 cy A_m z_29.2.1 m_names m_status m_top m_bottom m_sort m_trayMany m_trays m_tape m_text m_taped m_size m_token m_from m_end m_value m_faultKind m_faultPlace m_faults m_seen m_toldParts m_opened m_depth m_counted m_bestOrder m_standers m_has m_bestHas m_standerMany m_bestCouples m_bestFondness z_29.2.2.1 z_29.2.2.2 m_stoodBy m_drawn m_ranSteps m_loops m_ran m_told1 m_isTold m_marks] H := hP
            refine lv_pop hx hb dX12_moveOf_88 rfl ?_
            refine lv_aload_n hx hb dX12_moveOf_89 rfl (lv_at hl 1 rfl) ?_
            refine lv_aload_n hx hb dX12_moveOf_90 rfl (lv_at hl 1 rfl) ?_
            refine xget (i := 0) (j := 0) (k := 32) (T := TX12) hx hb ht tb_iX12 hown hX hP.1 rfl rfl rfl (by decide) tb_1261 rfl dX12_moveOf_91 ?_
            refine lv_if_eq (tgt := 101) hx hb dX12_moveOf_94 (by decide) (fun c_30 => ?_) (fun c_30 => ?_)
            · have h := it c_30 h
              refine lv_iconst (v := 0) hx hb dX12_moveOf_101 (by decide) ?_
              obtain ⟨z_31, e_z_31, h⟩ := bi h
              refine efVi (rest := []) ⟨hx, hb, hml, hown, ht⟩ (c_X12_gives l D cy fu A_m z_29.2.1 m_names m_status m_top m_bottom m_sort m_trayMany m_trays m_tape m_text m_taped m_size m_token m_from m_end m_value m_faultKind m_faultPlace m_faults m_seen m_toldParts m_opened m_depth m_counted m_bestOrder m_standers m_has m_bestHas m_standerMany m_bestCouples m_bestFondness z_29.2.2.1 z_29.2.2.2 m_stoodBy m_drawn m_ranSteps m_loops m_ran m_told1 m_isTold m_marks 0 z_31 e_z_31 _ rfl _ rfl) (cV ht mv_X12_gives tb_1499 rfl rfl ⟨Nat.le_of_ble_eq_true rfl, Nat.le_of_ble_eq_true rfl⟩) hP hS hX [0] rfl rfl rfl rfl rfl rfl hl.1 rfl (Nat.le_of_ble_eq_true rfl) dX12_moveOf_102 ⟨Nat.le_of_ble_eq_true rfl, Nat.le_of_ble_eq_true rfl⟩ (fun H locs hP hS => ?_)
              have hP : PD D A [bl_X12 cy A_m z_29.2.1 m_names z_31.2 m_top m_bottom m_sort m_trayMany m_trays m_tape m_text m_taped m_size m_token m_from m_end m_value m_faultKind m_faultPlace m_faults m_seen m_toldParts m_opened m_depth m_counted m_bestOrder m_standers m_has m_bestHas m_standerMany m_bestCouples m_bestFondness z_29.2.2.1 z_29.2.2.2 m_stoodBy m_drawn m_ranSteps m_loops m_ran m_told1 m_isTold m_marks] H := hP
              cases h
              subst hW1
              exact W.iret hx hb hr (fun _ ht9 _ => ⟨⟨_, (), rfl, rfl, hPt ht9 hP.1⟩, hS.F ht9⟩) hS.2.2 dX12_moveOf_105
            · have h := ie c_30 h
              refine lv_iconst (v := 1) hx hb dX12_moveOf_97 (by decide) ?_
              refine lv_goto (tgt := 102) hx hb dX12_moveOf_98 (by decide) ?_
              obtain ⟨z_32, e_z_32, h⟩ := bi h
              refine efVi (rest := []) ⟨hx, hb, hml, hown, ht⟩ (c_X12_gives l D cy fu A_m z_29.2.1 m_names m_status m_top m_bottom m_sort m_trayMany m_trays m_tape m_text m_taped m_size m_token m_from m_end m_value m_faultKind m_faultPlace m_faults m_seen m_toldParts m_opened m_depth m_counted m_bestOrder m_standers m_has m_bestHas m_standerMany m_bestCouples m_bestFondness z_29.2.2.1 z_29.2.2.2 m_stoodBy m_drawn m_ranSteps m_loops m_ran m_told1 m_isTold m_marks 1 z_32 e_z_32 _ rfl _ rfl) (cV ht mv_X12_gives tb_1499 rfl rfl ⟨Nat.le_of_ble_eq_true rfl, Nat.le_of_ble_eq_true rfl⟩) hP hS hX [0] rfl rfl rfl rfl rfl rfl hl.1 rfl (Nat.le_of_ble_eq_true rfl) dX12_moveOf_102 ⟨Nat.le_of_ble_eq_true rfl, Nat.le_of_ble_eq_true rfl⟩ (fun H locs hP hS => ?_)
              have hP : PD D A [bl_X12 cy A_m z_29.2.1 m_names z_32.2 m_top m_bottom m_sort m_trayMany m_trays m_tape m_text m_taped m_size m_token m_from m_end m_value m_faultKind m_faultPlace m_faults m_seen m_toldParts m_opened m_depth m_counted m_bestOrder m_standers m_has m_bestHas m_standerMany m_bestCouples m_bestFondness z_29.2.2.1 z_29.2.2.2 m_stoodBy m_drawn m_ranSteps m_loops m_ran m_told1 m_isTold m_marks] H := hP
              cases h
              subst hW1
              exact W.iret hx hb hr (fun _ ht9 _ => ⟨⟨_, (), rfl, rfl, hPt ht9 hP.1⟩, hS.F ht9⟩) hS.2.2 dX12_moveOf_105
          · have h := it c_28 h
            refine lv_aload_n hx hb dX12_moveOf_72 rfl (lv_at hl 1 rfl) ?_
            refine lv_bipush (v := 6) hx hb dX12_moveOf_73 (by decide) ?_
            obtain ⟨z_33, e_z_33, h⟩ := bi h
            refine efVi (rest := []) ⟨hx, hb, hml, hown, ht⟩ (c_X12_refuse l D cy fu A_m m_at m_names m_status m_top m_bottom m_sort m_trayMany m_trays m_tape m_text m_taped m_size m_token m_from m_end m_value m_faultKind m_faultPlace m_faults m_seen m_toldParts m_opened m_depth m_counted m_bestOrder m_standers m_has m_bestHas m_standerMany m_bestCouples m_bestFondness m_cameTo m_doesStandFirst m_stoodBy m_drawn m_ranSteps m_loops m_ran m_told1 m_isTold m_marks 6 z_33 e_z_33 _ rfl _ rfl) (cV ht mv_X12_refuse tb_1432 rfl rfl ⟨Nat.le_of_ble_eq_true rfl, Nat.le_of_ble_eq_true rfl⟩) hP hS hX [0] rfl rfl rfl rfl rfl rfl hl.1 rfl (Nat.le_of_ble_eq_true rfl) dX12_moveOf_75 ⟨Nat.le_of_ble_eq_true rfl, Nat.le_of_ble_eq_true rfl⟩ (fun H locs hP hS => ?_)
            have hP : PD D A [bl_X12 cy A_m m_at m_names z_33.2 m_top m_bottom m_sort m_trayMany m_trays m_tape m_text m_taped m_size m_token m_from m_end m_value m_faultKind m_faultPlace m_faults m_seen m_toldParts m_opened m_depth m_counted m_bestOrder m_standers m_has m_bestHas m_standerMany m_bestCouples m_bestFondness m_cameTo m_doesStandFirst m_stoodBy m_drawn m_ranSteps m_loops m_ran m_told1 m_isTold m_marks] H := hP
            cases h
            subst hW1
            exact W.iret hx hb hr (fun _ ht9 _ => ⟨⟨_, (), rfl, rfl, hPt ht9 hP.1⟩, hS.F ht9⟩) hS.2.2 dX12_moveOf_78
        · have h := it c_25 h
          refine lv_aload_n hx hb dX12_moveOf_51 rfl (lv_at hl 1 rfl) ?_
          refine lv_bipush (v := 7) hx hb dX12_moveOf_52 (by decide) ?_
          obtain ⟨z_34, e_z_34, h⟩ := bi h
          refine efVi (rest := []) ⟨hx, hb, hml, hown, ht⟩ (c_X12_refuse l D cy fu A_m m_at m_names m_status m_top m_bottom m_sort m_trayMany m_trays m_tape m_text m_taped m_size m_token m_from m_end m_value m_faultKind m_faultPlace m_faults m_seen m_toldParts m_opened m_depth m_counted m_bestOrder m_standers m_has m_bestHas m_standerMany m_bestCouples m_bestFondness m_cameTo m_doesStandFirst m_stoodBy m_drawn m_ranSteps m_loops m_ran m_told1 m_isTold m_marks 7 z_34 e_z_34 _ rfl _ rfl) (cV ht mv_X12_refuse tb_1432 rfl rfl ⟨Nat.le_of_ble_eq_true rfl, Nat.le_of_ble_eq_true rfl⟩) hP hS hX [0] rfl rfl rfl rfl rfl rfl hl.1 rfl (Nat.le_of_ble_eq_true rfl) dX12_moveOf_54 ⟨Nat.le_of_ble_eq_true rfl, Nat.le_of_ble_eq_true rfl⟩ (fun H locs hP hS => ?_)
          have hP : PD D A [bl_X12 cy A_m m_at m_names z_34.2 m_top m_bottom m_sort m_trayMany m_trays m_tape m_text m_taped m_size m_token m_from m_end m_value m_faultKind m_faultPlace m_faults m_seen m_toldParts m_opened m_depth m_counted m_bestOrder m_standers m_has m_bestHas m_standerMany m_bestCouples m_bestFondness m_cameTo m_doesStandFirst m_stoodBy m_drawn m_ranSteps m_loops m_ran m_told1 m_isTold m_marks] H := hP
          cases h
          subst hW1
          exact W.iret hx hb hr (fun _ ht9 _ => ⟨⟨_, (), rfl, rfl, hPt ht9 hP.1⟩, hS.F ht9⟩) hS.2.2 dX12_moveOf_57
    · have h := ie c_20 h
      refine lv_aload_n hx hb dX12_moveOf_28 rfl (lv_at hl 1 rfl) ?_
      refine lv_iload hx hb dX12_moveOf_29 (lv_at hl 0 rfl) ?_
      obtain ⟨z_35, e_z_35, h⟩ := bi h
      refine efVi (rest := []) ⟨hx, hb, hml, hown, ht⟩ (c_X12_refuse l D cy fu A_m m_at m_names m_status m_top m_bottom m_sort m_trayMany m_trays m_tape m_text m_taped m_size m_token m_from m_end m_value m_faultKind m_faultPlace m_faults m_seen m_toldParts m_opened m_depth m_counted m_bestOrder m_standers m_has m_bestHas m_standerMany m_bestCouples m_bestFondness m_cameTo m_doesStandFirst m_stoodBy m_drawn m_ranSteps m_loops m_ran m_told1 m_isTold m_marks s0 z_35 e_z_35 _ rfl _ rfl) (cV ht mv_X12_refuse tb_1432 rfl rfl ⟨Nat.le_of_ble_eq_true rfl, Nat.le_of_ble_eq_true rfl⟩) hP hS hX [0] rfl rfl rfl rfl rfl rfl hl.1 rfl (Nat.le_of_ble_eq_true rfl) dX12_moveOf_31 ⟨Nat.le_of_ble_eq_true rfl, Nat.le_of_ble_eq_true rfl⟩ (fun H locs hP hS => ?_)
      have hP : PD D A [bl_X12 cy A_m m_at m_names z_35.2 m_top m_bottom m_sort m_trayMany m_trays m_tape m_text m_taped m_size m_token m_from m_end m_value m_faultKind m_faultPlace m_faults m_seen m_toldParts m_opened m_depth m_counted m_bestOrder m_standers m_has m_bestHas m_standerMany m_bestCouples m_bestFondness m_cameTo m_doesStandFirst m_stoodBy m_drawn m_ranSteps m_loops m_ran m_told1 m_isTold m_marks] H := hP
      cases h
      subst hW1
      exact W.iret hx hb hr (fun _ ht9 _ => ⟨⟨_, (), rfl, rfl, hPt ht9 hP.1⟩, hS.F ht9⟩) hS.2.2 dX12_moveOf_34
  unfold f_X12_moveOf at h
  refine lv_aload_n hx hb dX12_moveOf_0 rfl (lv_at hl 0 rfl) ?_
  refine lv_iload_n hx hb dX12_moveOf_1 rfl (lv_at hl 1 rfl) ?_
  refine lv_iload_n hx hb dX12_moveOf_2 rfl (lv_at hl 2 rfl) ?_
  obtain ⟨z_36, e_z_36, h⟩ := bi h
  refine roVi (rest := []) ⟨hx, hb, hml, hown, ht⟩ (c_X12_areTwo l D cy fu A_m m_at m_names m_status m_top m_bottom m_sort m_trayMany m_trays m_tape m_text m_taped m_size m_token m_from m_end m_value m_faultKind m_faultPlace m_faults m_seen m_toldParts m_opened m_depth m_counted m_bestOrder m_standers m_has m_bestHas m_standerMany m_bestCouples m_bestFondness m_cameTo m_doesStandFirst m_stoodBy m_drawn m_ranSteps m_loops m_ran m_told1 m_isTold m_marks x1 x2 z_36 e_z_36) (cV ht mv_X12_areTwo tb_1834 rfl rfl ⟨Nat.le_of_ble_eq_true rfl, Nat.le_of_ble_eq_true rfl⟩) (P_sub hP.1 [0] rfl) hX rfl rfl rfl hl.1 rfl (Nat.le_of_ble_eq_true rfl) dX12_moveOf_3 ⟨Nat.le_of_ble_eq_true rfl, Nat.le_of_ble_eq_true rfl⟩ ?_
  refine lv_if_eq (tgt := 20) hx hb dX12_moveOf_6 (by decide) (fun c_37 => ?_) (fun c_37 => ?_)
  · have h := it c_37 h
    refine lv_iconst (v := 1) hx hb dX12_moveOf_20 (by decide) ?_
    exact j21 m_at m_status m_cameTo m_doesStandFirst 1 _ _ hP hS ls (lv_sub hl [0, 1, 2, 3, 4] rfl) h
  · have h := ie c_37 h
    refine lv_aload_n hx hb dX12_moveOf_9 rfl (lv_at hl 0 rfl) ?_
    refine lv_iload_n hx hb dX12_moveOf_10 rfl (lv_at hl 3 rfl) ?_
    refine lv_iload hx hb dX12_moveOf_11 (lv_at hl 4 rfl) ?_
    refine lv_iconst (v := 1) hx hb dX12_moveOf_13 (by decide) ?_
    obtain ⟨z_38, e_z_38, h⟩ := bi h
    refine roVi (rest := []) ⟨hx, hb, hml, hown, ht⟩ (c_X12_wrongSizes l D cy fu A_m m_at m_names m_status m_top m_bottom m_sort m_trayMany m_trays m_tape m_text m_taped m_size m_token m_from m_end m_value m_faultKind m_faultPlace m_faults m_seen m_toldParts m_opened m_depth m_counted m_bestOrder m_standers m_has m_bestHas m_standerMany m_bestCouples m_bestFondness m_cameTo m_doesStandFirst m_stoodBy m_drawn m_ranSteps m_loops m_ran m_told1 m_isTold m_marks x3 x4 1 z_38 e_z_38) (cV ht mv_X12_wrongSizes tb_1742 rfl rfl ⟨Nat.le_of_ble_eq_true rfl, Nat.le_of_ble_eq_true rfl⟩) (P_sub hP.1 [0] rfl) hX rfl rfl rfl hl.1 rfl (Nat.le_of_ble_eq_true rfl) dX12_moveOf_14 ⟨Nat.le_of_ble_eq_true rfl, Nat.le_of_ble_eq_true rfl⟩ ?_
    refine lv_goto (tgt := 21) hx hb dX12_moveOf_17 (by decide) ?_
    exact j21 m_at m_status m_cameTo m_doesStandFirst z_38 _ _ hP hS ls (lv_sub hl [0, 1, 2, 3, 4] rfl) h
theorem dX12_chance_0 : decode cX12_chance 0 = .ok (.aload_n 0, 1) := by decide +kernel
theorem dX12_chance_1 : decode cX12_chance 1 = .ok (.iload_n 1, 1) := by decide +kernel
theorem dX12_chance_2 : decode cX12_chance 2 = .ok (.invokevirtual 241, 3) := by decide +kernel
theorem dX12_chance_5 : decode cX12_chance 5 = .ok (.ifCond .eq 27, 3) := by decide +kernel
theorem dX12_chance_8 : decode cX12_chance 8 = .ok (.iload_n 2, 1) := by decide +kernel
theorem dX12_chance_9 : decode cX12_chance 9 = .ok (.i2l, 1) := by decide +kernel
theorem dX12_chance_10 : decode cX12_chance 10 = .ok (.lconst 0, 1) := by decide +kernel
theorem dX12_chance_11 : decode cX12_chance 11 = .ok (.ldc2_w 313, 3) := by decide +kernel
theorem dX12_chance_14 : decode cX12_chance 14 = .ok (.invokestatic 246, 3) := by decide +kernel
theorem dX12_chance_17 : decode cX12_chance 17 = .ok (.ifCond .eq 15, 3) := by decide +kernel
theorem dX12_chance_20 : decode cX12_chance 20 = .ok (.iload_n 3, 1) := by decide +kernel
theorem dX12_chance_21 : decode cX12_chance 21 = .ok (.i2l, 1) := by decide +kernel
theorem dX12_chance_22 : decode cX12_chance 22 = .ok (.lconst 0, 1) := by decide +kernel
theorem dX12_chance_23 : decode cX12_chance 23 = .ok (.ldc2_w 313, 3) := by decide +kernel
theorem dX12_chance_26 : decode cX12_chance 26 = .ok (.invokestatic 246, 3) := by decide +kernel
theorem dX12_chance_29 : decode cX12_chance 29 = .ok (.ifCond .ne 9, 3) := by decide +kernel
theorem dX12_chance_32 : decode cX12_chance 32 = .ok (.aload_n 0, 1) := by decide +kernel
theorem dX12_chance_33 : decode cX12_chance 33 = .ok (.iconst 1, 1) := by decide +kernel
theorem dX12_chance_34 : decode cX12_chance 34 = .ok (.invokevirtual 91, 3) := by decide +kernel
theorem dX12_chance_37 : decode cX12_chance 37 = .ok (.ireturn, 1) := by decide +kernel
theorem dX12_chance_38 : decode cX12_chance 38 = .ok (.bipush 20, 2) := by decide +kernel
theorem dX12_chance_40 : decode cX12_chance 40 = .ok (.aload_n 0, 1) := by decide +kernel
theorem dX12_chance_41 : decode cX12_chance 41 = .ok (.iload_n 1, 1) := by decide +kernel
theorem dX12_chance_42 : decode cX12_chance 42 = .ok (.invokevirtual 256, 3) := by decide +kernel
theorem dX12_chance_45 : decode cX12_chance 45 = .ok (.invokestatic 139, 3) := by decide +kernel
theorem dX12_chance_48 : decode cX12_chance 48 = .ok (.istore 4, 2) := by decide +kernel
theorem dX12_chance_50 : decode cX12_chance 50 = .ok (.lconst 1, 1) := by decide +kernel
theorem dX12_chance_51 : decode cX12_chance 51 = .ok (.lstore 5, 2) := by decide +kernel
theorem dX12_chance_53 : decode cX12_chance 53 = .ok (.iconst 0, 1) := by decide +kernel
theorem dX12_chance_54 : decode cX12_chance 54 = .ok (.istore 7, 2) := by decide +kernel
theorem dX12_chance_56 : decode cX12_chance 56 = .ok (.iload 7, 2) := by decide +kernel
theorem dX12_chance_58 : decode cX12_chance 58 = .ok (.bipush 10, 2) := by decide +kernel
theorem dX12_chance_60 : decode cX12_chance 60 = .ok (.if_icmp .ge 26, 3) := by decide +kernel
theorem dX12_chance_63 : decode cX12_chance 63 = .ok (.aload_n 0, 1) := by decide +kernel
theorem dX12_chance_64 : decode cX12_chance 64 = .ok (.getfield 59, 3) := by decide +kernel
theorem dX12_chance_67 : decode cX12_chance 67 = .ok (.iload 7, 2) := by decide +kernel
theorem dX12_chance_69 : decode cX12_chance 69 = .ok (.iload 7, 2) := by decide +kernel
theorem dX12_chance_71 : decode cX12_chance 71 = .ok (.ifCond .ne 7, 3) := by decide +kernel
theorem dX12_chance_74 : decode cX12_chance 74 = .ok (.lconst 1, 1) := by decide +kernel
theorem dX12_chance_75 : decode cX12_chance 75 = .ok (.goto 4, 3) := by decide +kernel
theorem dX12_chance_78 : decode cX12_chance 78 = .ok (.lconst 0, 1) := by decide +kernel
theorem dX12_chance_79 : decode cX12_chance 79 = .ok (.lastore, 1) := by decide +kernel
theorem dX12_chance_80 : decode cX12_chance 80 = .ok (.iinc 7 1, 3) := by decide +kernel
theorem dX12_chance_83 : decode cX12_chance 83 = .ok (.goto (-27), 3) := by decide +kernel
theorem dX12_chance_86 : decode cX12_chance 86 = .ok (.iconst 0, 1) := by decide +kernel
theorem dX12_chance_87 : decode cX12_chance 87 = .ok (.istore 7, 2) := by decide +kernel
theorem dX12_chance_89 : decode cX12_chance 89 = .ok (.iload 7, 2) := by decide +kernel
theorem dX12_chance_91 : decode cX12_chance 91 = .ok (.iload_n 2, 1) := by decide +kernel
theorem dX12_chance_92 : decode cX12_chance 92 = .ok (.if_icmp .ge 76, 3) := by decide +kernel
theorem dX12_chance_95 : decode cX12_chance 95 = .ok (.bipush 9, 2) := by decide +kernel
theorem dX12_chance_97 : decode cX12_chance 97 = .ok (.istore 8, 2) := by decide +kernel
theorem dX12_chance_99 : decode cX12_chance 99 = .ok (.iload 8, 2) := by decide +kernel
theorem dX12_chance_101 : decode cX12_chance 101 = .ok (.ifCond .lt 53, 3) := by decide +kernel
theorem dX12_chance_104 : decode cX12_chance 104 = .ok (.aload_n 0, 1) := by decide +kernel
theorem dX12_chance_105 : decode cX12_chance 105 = .ok (.getfield 59, 3) := by decide +kernel
theorem dX12_chance_108 : decode cX12_chance 108 = .ok (.iload 8, 2) := by decide +kernel
theorem dX12_chance_110 : decode cX12_chance 110 = .ok (.aload_n 0, 1) := by decide +kernel
theorem dX12_chance_111 : decode cX12_chance 111 = .ok (.getfield 59, 3) := by decide +kernel
theorem dX12_chance_114 : decode cX12_chance 114 = .ok (.iload 8, 2) := by decide +kernel
theorem dX12_chance_116 : decode cX12_chance 116 = .ok (.laload, 1) := by decide +kernel
theorem dX12_chance_117 : decode cX12_chance 117 = .ok (.bipush 20, 2) := by decide +kernel
theorem dX12_chance_119 : decode cX12_chance 119 = .ok (.iload 4, 2) := by decide +kernel
theorem dX12_chance_121 : decode cX12_chance 121 = .ok (.isub, 1) := by decide +kernel
theorem dX12_chance_122 : decode cX12_chance 122 = .ok (.i2l, 1) := by decide +kernel
theorem dX12_chance_123 : decode cX12_chance 123 = .ok (.lmul, 1) := by decide +kernel
theorem dX12_chance_124 : decode cX12_chance 124 = .ok (.iload 8, 2) := by decide +kernel
theorem dX12_chance_126 : decode cX12_chance 126 = .ok (.ifCond .ne 7, 3) := by decide +kernel
theorem dX12_chance_129 : decode cX12_chance 129 = .ok (.lconst 0, 1) := by decide +kernel
theorem dX12_chance_130 : decode cX12_chance 130 = .ok (.goto 16, 3) := by decide +kernel
theorem dX12_chance_133 : decode cX12_chance 133 = .ok (.aload_n 0, 1) := by decide +kernel
theorem dX12_chance_134 : decode cX12_chance 134 = .ok (.getfield 59, 3) := by decide +kernel
theorem dX12_chance_137 : decode cX12_chance 137 = .ok (.iload 8, 2) := by decide +kernel
theorem dX12_chance_139 : decode cX12_chance 139 = .ok (.iconst 1, 1) := by decide +kernel
theorem dX12_chance_140 : decode cX12_chance 140 = .ok (.isub, 1) := by decide +kernel
theorem dX12_chance_141 : decode cX12_chance 141 = .ok (.laload, 1) := by decide +kernel
theorem dX12_chance_142 : decode cX12_chance 142 = .ok (.iload 4, 2) := by decide +kernel
theorem dX12_chance_144 : decode cX12_chance 144 = .ok (.i2l, 1) := by decide +kernel
theorem dX12_chance_145 : decode cX12_chance 145 = .ok (.lmul, 1) := by decide +kernel
theorem dX12_chance_146 : decode cX12_chance 146 = .ok (.ladd, 1) := by decide +kernel
theorem dX12_chance_147 : decode cX12_chance 147 = .ok (.lastore, 1) := by decide +kernel
theorem dX12_chance_148 : decode cX12_chance 148 = .ok (.iinc 8 (-1), 3) := by decide +kernel
theorem dX12_chance_151 : decode cX12_chance 151 = .ok (.goto (-52), 3) := by decide +kernel
theorem dX12_chance_154 : decode cX12_chance 154 = .ok (.lload 5, 2) := by decide +kernel
theorem dX12_chance_156 : decode cX12_chance 156 = .ok (.ldc2_w 311, 3) := by decide +kernel
theorem dX12_chance_159 : decode cX12_chance 159 = .ok (.lmul, 1) := by decide +kernel
theorem dX12_chance_160 : decode cX12_chance 160 = .ok (.lstore 5, 2) := by decide +kernel
theorem dX12_chance_162 : decode cX12_chance 162 = .ok (.iinc 7 1, 3) := by decide +kernel
theorem dX12_chance_165 : decode cX12_chance 165 = .ok (.goto (-76), 3) := by decide +kernel
theorem dX12_chance_168 : decode cX12_chance 168 = .ok (.lconst 0, 1) := by decide +kernel
theorem dX12_chance_169 : decode cX12_chance 169 = .ok (.lstore 7, 2) := by decide +kernel
theorem dX12_chance_171 : decode cX12_chance 171 = .ok (.iload_n 3, 1) := by decide +kernel
theorem dX12_chance_172 : decode cX12_chance 172 = .ok (.istore 9, 2) := by decide +kernel
theorem dX12_chance_174 : decode cX12_chance 174 = .ok (.iload 9, 2) := by decide +kernel
theorem dX12_chance_176 : decode cX12_chance 176 = .ok (.bipush 10, 2) := by decide +kernel
theorem dX12_chance_178 : decode cX12_chance 178 = .ok (.if_icmp .ge 21, 3) := by decide +kernel
theorem dX12_chance_181 : decode cX12_chance 181 = .ok (.lload 7, 2) := by decide +kernel
theorem dX12_chance_183 : decode cX12_chance 183 = .ok (.aload_n 0, 1) := by decide +kernel
theorem dX12_chance_184 : decode cX12_chance 184 = .ok (.getfield 59, 3) := by decide +kernel
theorem dX12_chance_187 : decode cX12_chance 187 = .ok (.iload 9, 2) := by decide +kernel
theorem dX12_chance_189 : decode cX12_chance 189 = .ok (.laload, 1) := by decide +kernel
theorem dX12_chance_190 : decode cX12_chance 190 = .ok (.ladd, 1) := by decide +kernel
theorem dX12_chance_191 : decode cX12_chance 191 = .ok (.lstore 7, 2) := by decide +kernel
theorem dX12_chance_193 : decode cX12_chance 193 = .ok (.iinc 9 1, 3) := by decide +kernel
theorem dX12_chance_196 : decode cX12_chance 196 = .ok (.goto (-22), 3) := by decide +kernel
theorem dX12_chance_199 : decode cX12_chance 199 = .ok (.aload_n 0, 1) := by decide +kernel
theorem dX12_chance_200 : decode cX12_chance 200 = .ok (.lload 7, 2) := by decide +kernel
theorem dX12_chance_202 : decode cX12_chance 202 = .ok (.lload 5, 2) := by decide +kernel
theorem dX12_chance_204 : decode cX12_chance 204 = .ok (.invokevirtual 336, 3) := by decide +kernel
theorem dX12_chance_207 : decode cX12_chance 207 = .ok (.ireturn, 1) := by decide +kernel
theorem mv_X12_chance : MV yX12_chance RX12 cX12_chance 10 (some .boolean) 3 := ⟨tb_1853, tb_1851, tb_1852, tb_16, by decide +kernel, by decide +kernel, by decide +kernel⟩
def f_X12_chance_b174 (fu : Nat) (m_at : Nat → Int32) (x1 : Int32) (x2 : Int32) (x3 : Int32) (k174 : Int32 → Int64 → Int64 → (Nat → Int64) → Int64 → Int64 → Int32 → (Option (Int32 × Int32 × Int64 × Int64 × (Nat → Int64)))) (m_status : Int32) (m_top : Int64) (m_bottom : Int64) (m_stoodBy : Nat → Int64) (x5 : Int64) (x7 : Int64) (x9 : Int32) : Option (Int32 × Int32 × Int64 × Int64 × (Nat → Int64)) := (if 10 ≤ x9 then (f_X12_tellsBy fu m_status m_top m_bottom x7 x5).bind fun z_39 => (bz z_39.1).bind fun _ => some (z_39.1, z_39.2.1, z_39.2.2.1, z_39.2.2.2, m_stoodBy) else (rdJ m_stoodBy 10 x9).bind fun y_41 => bnd (x7 + y_41) fun x7_42 => bnd (x9 + 1) fun x9_43 => k174 m_status m_top m_bottom m_stoodBy x5 x7_42 x9_43)
def f_X12_chance_l174 (fu : Nat) (m_at : Nat → Int32) (x1 : Int32) (x2 : Int32) (x3 : Int32) : Nat → Int32 → Int64 → Int64 → (Nat → Int64) → Int64 → Int64 → Int32 → (Option (Int32 × Int32 × Int64 × Int64 × (Nat → Int64)))
  | 0, _, _, _, _, _, _, _ => none
  | n + 1, m_status, m_top, m_bottom, m_stoodBy, x5, x7, x9 => f_X12_chance_b174 fu m_at x1 x2 x3 (f_X12_chance_l174 fu m_at x1 x2 x3 n) m_status m_top m_bottom m_stoodBy x5 x7 x9
def f_X12_chance_b99 (fu : Nat) (m_at : Nat → Int32) (x1 : Int32) (x2 : Int32) (x3 : Int32) (k89 : Int32 → Int64 → Int64 → (Nat → Int64) → Int32 → Int64 → Int32 → (Option (Int32 × Int32 × Int64 × Int64 × (Nat → Int64)))) (k99 : Int32 → Int64 → Int64 → (Nat → Int64) → Int32 → Int64 → Int32 → Int32 → (Option (Int32 × Int32 × Int64 × Int64 × (Nat → Int64)))) (m_status : Int32) (m_top : Int64) (m_bottom : Int64) (m_stoodBy : Nat → Int64) (x4 : Int32) (x5 : Int64) (x7 : Int32) (x8 : Int32) : Option (Int32 × Int32 × Int64 × Int64 × (Nat → Int64)) := (if x8 < 0 then bnd (x5 * 20) fun x5_45 => bnd (x7 + 1) fun x7_46 => k89 m_status m_top m_bottom m_stoodBy x4 x5_45 x7_46 else (rdJ m_stoodBy 10 x8).bind fun y_47 => (if x8 = 0 then (wrJ m_stoodBy 10 x8 ((y_47 * (Int32.toInt64 (20 - x4))) + 0)).bind fun m_stoodBy_52 => bnd (x8 + (-1)) fun x8_53 => k99 m_status m_top m_bottom m_stoodBy_52 x4 x5 x7 x8_53 else (rdJ m_stoodBy 10 (x8 - 1)).bind fun y_49 => (wrJ m_stoodBy 10 x8 ((y_47 * (Int32.toInt64 (20 - x4))) + (y_49 * (Int32.toInt64 x4)))).bind fun m_stoodBy_50 => bnd (x8 + (-1)) fun x8_51 => k99 m_status m_top m_bottom m_stoodBy_50 x4 x5 x7 x8_51))
def f_X12_chance_l99 (fu : Nat) (m_at : Nat → Int32) (x1 : Int32) (x2 : Int32) (x3 : Int32) (k89 : Int32 → Int64 → Int64 → (Nat → Int64) → Int32 → Int64 → Int32 → (Option (Int32 × Int32 × Int64 × Int64 × (Nat → Int64)))) : Nat → Int32 → Int64 → Int64 → (Nat → Int64) → Int32 → Int64 → Int32 → Int32 → (Option (Int32 × Int32 × Int64 × Int64 × (Nat → Int64)))
  | 0, _, _, _, _, _, _, _, _ => none
  | n + 1, m_status, m_top, m_bottom, m_stoodBy, x4, x5, x7, x8 => f_X12_chance_b99 fu m_at x1 x2 x3 k89 (f_X12_chance_l99 fu m_at x1 x2 x3 k89 n) m_status m_top m_bottom m_stoodBy x4 x5 x7 x8
def f_X12_chance_b89 (fu : Nat) (m_at : Nat → Int32) (x1 : Int32) (x2 : Int32) (x3 : Int32) (k89 : Int32 → Int64 → Int64 → (Nat → Int64) → Int32 → Int64 → Int32 → (Option (Int32 × Int32 × Int64 × Int64 × (Nat → Int64)))) (m_status : Int32) (m_top : Int64) (m_bottom : Int64) (m_stoodBy : Nat → Int64) (x4 : Int32) (x5 : Int64) (x7 : Int32) : Option (Int32 × Int32 × Int64 × Int64 × (Nat → Int64)) := (if x2 ≤ x7 then f_X12_chance_l174 fu m_at x1 x2 x3 fu m_status m_top m_bottom m_stoodBy x5 0 x3 else f_X12_chance_l99 fu m_at x1 x2 x3 k89 fu m_status m_top m_bottom m_stoodBy x4 x5 x7 9)
def f_X12_chance_l89 (fu : Nat) (m_at : Nat → Int32) (x1 : Int32) (x2 : Int32) (x3 : Int32) : Nat → Int32 → Int64 → Int64 → (Nat → Int64) → Int32 → Int64 → Int32 → (Option (Int32 × Int32 × Int64 × Int64 × (Nat → Int64)))
  | 0, _, _, _, _, _, _, _ => none
  | n + 1, m_status, m_top, m_bottom, m_stoodBy, x4, x5, x7 => f_X12_chance_b89 fu m_at x1 x2 x3 (f_X12_chance_l89 fu m_at x1 x2 x3 n) m_status m_top m_bottom m_stoodBy x4 x5 x7
def f_X12_chance_b56 (fu : Nat) (m_at : Nat → Int32) (x1 : Int32) (x2 : Int32) (x3 : Int32) (k56 : Int32 → Int64 → Int64 → (Nat → Int64) → Int32 → Int64 → Int32 → (Option (Int32 × Int32 × Int64 × Int64 × (Nat → Int64)))) (m_status : Int32) (m_top : Int64) (m_bottom : Int64) (m_stoodBy : Nat → Int64) (x4 : Int32) (x5 : Int64) (x7 : Int32) : Option (Int32 × Int32 × Int64 × Int64 × (Nat → Int64)) := (if 10 ≤ x7 then f_X12_chance_l89 fu m_at x1 x2 x3 fu m_status m_top m_bottom m_stoodBy x4 x5 0 else (if x7 = 0 then (wrJ m_stoodBy 10 x7 1).bind fun m_stoodBy_59 => bnd (x7 + 1) fun x7_60 => k56 m_status m_top m_bottom m_stoodBy_59 x4 x5 x7_60 else (wrJ m_stoodBy 10 x7 0).bind fun m_stoodBy_57 => bnd (x7 + 1) fun x7_58 => k56 m_status m_top m_bottom m_stoodBy_57 x4 x5 x7_58))
def f_X12_chance_l56 (fu : Nat) (m_at : Nat → Int32) (x1 : Int32) (x2 : Int32) (x3 : Int32) : Nat → Int32 → Int64 → Int64 → (Nat → Int64) → Int32 → Int64 → Int32 → (Option (Int32 × Int32 × Int64 × Int64 × (Nat → Int64)))
  | 0, _, _, _, _, _, _, _ => none
  | n + 1, m_status, m_top, m_bottom, m_stoodBy, x4, x5, x7 => f_X12_chance_b56 fu m_at x1 x2 x3 (f_X12_chance_l56 fu m_at x1 x2 x3 n) m_status m_top m_bottom m_stoodBy x4 x5 x7
def f_X12_chance (fu : Nat) (m_at : Nat → Int32) (m_status : Int32) (m_top : Int64) (m_bottom : Int64) (m_stoodBy : Nat → Int64) (x1 : Int32) (x2 : Int32) (x3 : Int32) : Option (Int32 × Int32 × Int64 × Int64 × (Nat → Int64)) := (f_X12_isMan fu m_at x1).bind fun z_61 => (if z_61 = 0 then (f_X12_is fu m_status 1).bind fun z_63 => (bz z_63.1).bind fun _ => some (z_63.1, z_63.2, m_top, m_bottom, m_stoodBy) else (f_X12_isFrom fu (Int32.toInt64 x2) 0 9).bind fun z_65 => (if z_65 = 0 then (f_X12_is fu m_status 1).bind fun z_67 => (bz z_67.1).bind fun _ => some (z_67.1, z_67.2, m_top, m_bottom, m_stoodBy) else (f_X12_isFrom fu (Int32.toInt64 x3) 0 9).bind fun z_69 => (if z_69 = 0 then (f_X12_is fu m_status 1).bind fun z_73 => (bz z_73.1).bind fun _ => some (z_73.1, z_73.2, m_top, m_bottom, m_stoodBy) else (f_X12_braveOf fu m_at x1).bind fun z_71 => bnd (if z_71 < 20 then z_71 else 20) fun x4_72 => f_X12_chance_l56 fu m_at x1 x2 x3 fu m_status m_top m_bottom m_stoodBy x4_72 1 0)))
abbrev rm_X12_chance : Room := { frames := 3, cells := 0, slots := 0, locals := 63 }
set_option maxHeartbeats 4000000 in
set_option maxRecDepth 100000 in
theorem c_X12_chance (l : Launch) (D : va_G) (cy : Nat → ClassId) (fu : Nat) (A_m : Nat → Nat) (m_at : Nat → Int32) (m_names : Nat → Int64) (m_status : Int32) (m_top : Int64) (m_bottom : Int64) (m_sort : Nat → Int32) (m_trayMany : Nat → Int32) (m_trays : Nat → Int64) (m_tape : Nat → Int32) (m_text : Nat → Int32) (m_taped : Int32) (m_size : Int32) (m_token : Int32) (m_from : Int32) (m_end : Int32) (m_value : Int32) (m_faultKind : Int32) (m_faultPlace : Int32) (m_faults : Int32) (m_seen : Int32) (m_toldParts : Int32) (m_opened : Nat → Int32) (m_depth : Int32) (m_counted : Int32) (m_bestOrder : Int32) (m_standers : Nat → Int32) (m_has : Nat → Int32) (m_bestHas : Nat → Int32) (m_standerMany : Int32) (m_bestCouples : Int32) (m_bestFondness : Int32) (m_cameTo : Nat → Int32) (m_doesStandFirst : Int32) (m_stoodBy : Nat → Int64) (m_drawn : Int32) (m_ranSteps : Int32) (m_loops : Nat → Int32) (m_ran : Nat → Int32) (m_told1 : Nat → Int32) (m_isTold : Int32) (m_marks : Int32) (x1 : Int32) (x2 : Int32) (x3 : Int32) (res : Int32 × Int32 × Int64 × Int64 × (Nat → Int64)) (h : f_X12_chance fu m_at m_status m_top m_bottom m_stoodBy x1 x2 x3 = some res) (A : Nat → Prop) (hA : A = adr [bl_X12 cy A_m m_at m_names m_status m_top m_bottom m_sort m_trayMany m_trays m_tape m_text m_taped m_size m_token m_from m_end m_value m_faultKind m_faultPlace m_faults m_seen m_toldParts m_opened m_depth m_counted m_bestOrder m_standers m_has m_bestHas m_standerMany m_bestCouples m_bestFondness m_cameTo m_doesStandFirst m_stoodBy m_drawn m_ranSteps m_loops m_ran m_told1 m_isTold m_marks]) (W1 : List va_W) (hW1 : W1 = [bl_X12 cy A_m m_at m_names res.2.1 res.2.2.1 res.2.2.2.1 m_sort m_trayMany m_trays m_tape m_text m_taped m_size m_token m_from m_end m_value m_faultKind m_faultPlace m_faults m_seen m_toldParts m_opened m_depth m_counted m_bestOrder m_standers m_has m_bestHas m_standerMany m_bestCouples m_bestFondness m_cameTo m_doesStandFirst res.2.2.2.2 m_drawn m_ranSteps m_loops m_ran m_told1 m_isTold m_marks]) : Met l yX12_chance (WW yX12_chance cX12_chance 10 (some .boolean)) rm_X12_chance (Ed D cy [.ref (A_m 0), .int x1, .int x2, .int x3] [bl_X12 cy A_m m_at m_names m_status m_top m_bottom m_sort m_trayMany m_trays m_tape m_text m_taped m_size m_token m_from m_end m_value m_faultKind m_faultPlace m_faults m_seen m_toldParts m_opened m_depth m_counted m_bestOrder m_standers m_has m_bestHas m_standerMany m_bestCouples m_bestFondness m_cameTo m_doesStandFirst m_stoodBy m_drawn m_ranSteps m_loops m_ran m_told1 m_isTold m_marks]) (Qei D res.1 A W1) 0 0 A := by
  refine Met.ofW (cc := cX12_chance) (maxL := 10) (ret := (some .boolean)) (by decide) rfl ?_
  intro p e s m args below meth c s₁ B hml hv
  obtain ⟨hargs, hP, hX, hD0⟩ := hv
  have hx := B.exec
  have hb := B.bytes
  have hr := B.returns
  have ht : ∀ w ∈ lw_gd, w.before args s = true := fun w hw => atoms_spec (ws := WW yX12_chance cX12_chance 10 (some .boolean)) B.pre w (List.mem_cons_of_mem _ hw)
  have hown : s.vm.findClass RX12 = some m.cls := findClass_of_methodNamed B.named
  have hlocks := B.notSynchronized
  have hP : PD D A [bl_X12 cy A_m m_at m_names m_status m_top m_bottom m_sort m_trayMany m_trays m_tape m_text m_taped m_size m_token m_from m_end m_value m_faultKind m_faultPlace m_faults m_seen m_toldParts m_opened m_depth m_counted m_bestOrder m_standers m_has m_bestHas m_standerMany m_bestCouples m_bestFondness m_cameTo m_doesStandFirst m_stoodBy m_drawn m_ranSteps m_loops m_ran m_told1 m_isTold m_marks] s.heap := ⟨hP, by rw [hA]; exact hD0.own⟩
  have hS : va_S A s.heap s.heap [] := va_S.rf
  obtain ⟨ls, hl, hent⟩ := ent (m := m) (n := 10) hargs (Nat.le_of_ble_eq_true rfl) (lv := [(0, .ref (A_m 0)), (1, .int x1), (2, .int x2), (3, .int x3)]) rfl
  rw [hent]
  clear hent
  have l174 : ∀ (n174 : Nat) (m_status : Int32) (m_top : Int64) (m_bottom : Int64) (m_stoodBy : Nat → Int64) (x5 : Int64) (x7 : Int64) (x9 : Int32) (H : Heap) (locs : List Loc) (_ : PD D A [bl_X12 cy A_m m_at m_names m_status m_top m_bottom m_sort m_trayMany m_trays m_tape m_text m_taped m_size m_token m_from m_end m_value m_faultKind m_faultPlace m_faults m_seen m_toldParts m_opened m_depth m_counted m_bestOrder m_standers m_has m_bestHas m_standerMany m_bestCouples m_bestFondness m_cameTo m_doesStandFirst m_stoodBy m_drawn m_ranSteps m_loops m_ran m_told1 m_isTold m_marks] H) (_ : va_S A s.heap H locs) (ls : Array Slot), lv_has ls 10 [(0, .ref (A_m 0)), (5, .long x5), (7, .long x7), (9, .int x9)] → f_X12_chance_l174 fu m_at x1 x2 x3 n174 m_status m_top m_bottom m_stoodBy x5 x7 x9 = some res → W p l e (headSpec (WW yX12_chance cX12_chance 10 (some .boolean)) rm_X12_chance).room s m args below meth c H locs 0 0 (MQ below (Qei D res.1 A W1) args s 0 0 A) (F0 m 174 ls []) := by
    intro n174
    induction n174 with
    | zero => intro m_status m_top m_bottom m_stoodBy x5 x7 x9 H locs hP hS ls hl h; cases h
    | succ n174 ih174 =>
      intro m_status m_top m_bottom m_stoodBy x5 x7 x9 H locs hP hS ls hl h
      have h : f_X12_chance_b174 fu m_at x1 x2 x3 (f_X12_chance_l174 fu m_at x1 x2 x3 n174) m_status m_top m_bottom m_stoodBy x5 x7 x9 = some res := h
      unfold f_X12_chance_b174 at h
      refine lv_iload hx hb dX12_chance_174 (lv_at hl 3 rfl) ?_
      refine lv_bipush (v := 10) hx hb dX12_chance_176 (by decide) ?_
      refine lv_icmp_ge (tgt := 199) hx hb dX12_chance_178 (by decide) (fun c_38 => ?_) (fun c_38 => ?_)
      · have h := it c_38 h
        refine lv_aload_n hx hb dX12_chance_199 rfl (lv_at hl 0 rfl) ?_
        refine lv_lload hx hb dX12_chance_200 (lv_at hl 2 rfl) ?_
        refine lv_lload hx hb dX12_chance_202 (lv_at hl 1 rfl) ?_
        obtain ⟨z_39, e_z_39, h⟩ := bi h
        refine efVi (rest := []) ⟨hx, hb, hml, hown, ht⟩ (c_X12_tellsBy l D cy fu A_m m_at m_names m_status m_top m_bottom m_sort m_trayMany m_trays m_tape m_text m_taped m_size m_token m_from m_end m_value m_faultKind m_faultPlace m_faults m_seen m_toldParts m_opened m_depth m_counted m_bestOrder m_standers m_has m_bestHas m_standerMany m_bestCouples m_bestFondness m_cameTo m_doesStandFirst m_stoodBy m_drawn m_ranSteps m_loops m_ran m_told1 m_isTold m_marks x7 x5 z_39 e_z_39 _ rfl _ rfl) (cV ht mv_X12_tellsBy tb_1726 rfl rfl ⟨Nat.le_of_ble_eq_true rfl, Nat.le_of_ble_eq_true rfl⟩) hP hS hX [0] rfl rfl rfl rfl rfl rfl hl.1 rfl (Nat.le_of_ble_eq_true rfl) dX12_chance_204 ⟨Nat.le_of_ble_eq_true rfl, Nat.le_of_ble_eq_true rfl⟩ (fun H locs hP hS => ?_)
        have hP : PD D A [bl_X12 cy A_m m_at m_names z_39.2.1 z_39.2.2.1 z_39.2.2.2 m_sort m_trayMany m_trays m_tape m_text m_taped m_size m_token m_from m_end m_value m_faultKind m_faultPlace m_faults m_seen m_toldParts m_opened m_depth m_counted m_bestOrder m_standers m_has m_bestHas m_standerMany m_bestCouples m_bestFondness m_cameTo m_doesStandFirst m_stoodBy m_drawn m_ranSteps m_loops m_ran m_told1 m_isTold m_marks] H := hP
        obtain ⟨b_40, e_b_40, h⟩ := bi h
        obtain ⟨-, n_b_40, -⟩ := bz_ok e_b_40
        cases h
        subst hW1
        exact W.zret hx hb hr n_b_40 (fun _ ht9 _ => ⟨⟨_, (), rfl, rfl, hPt ht9 hP.1⟩, hS.F ht9⟩) hS.2.2 dX12_chance_207
      · have h := ie c_38 h
        refine lv_lload hx hb dX12_chance_181 (lv_at hl 2 rfl) ?_
        refine lv_aload_n hx hb dX12_chance_183 rfl (lv_at hl 0 rfl) ?_
        refine xget (i := 0) (j := 0) (k := 33) (T := TX12) hx hb ht tb_iX12 hown hX hP.1 rfl rfl rfl (by decide) tb_1262 rfl dX12_chance_184 ?_
        refine lv_iload hx hb dX12_chance_187 (lv_at hl 3 rfl) ?_
        obtain ⟨y_41, e_y_41, h⟩ := bi h
        refine xlald (i0 := 0) (j0 := 13) hx hb hX hP.1 rfl rfl e_y_41 dX12_chance_189 ?_
        refine lv_ladd hx hb dX12_chance_190 ?_
        refine lv_topl (fun x7_42 e_x7_42 => ?_)
        have h := bn e_x7_42 h
        refine lv_lstore (lv' := [(7, .long x7_42), (0, .ref (A_m 0)), (5, .long x5), (9, .int x9)]) hx hb dX12_chance_191 hl (by decide) rfl (fun ls hl => ?_)
        obtain ⟨x9_43, e_x9_43⟩ : ∃ y : Int32, y = x9 + 1 := ⟨_, rfl⟩
        have h := bn e_x9_43 h
        refine lv_iinc (v := x9_43) (lv' := [(9, .int x9_43), (7, .long x7_42), (0, .ref (A_m 0)), (5, .long x5)]) hx hb dX12_chance_193 hl (k := 3) rfl (by rw [e_x9_43]; rfl) (by decide) rfl (fun ls hl => ?_)
        refine lv_goto (tgt := 174) hx hb dX12_chance_196 (by decide) ?_
        exact ih174 m_status m_top m_bottom m_stoodBy x5 x7_42 x9_43 _ _ hP hS ls (lv_sub hl [2, 3, 1, 0] rfl) h
  have l89 : ∀ (n89 : Nat) (m_status : Int32) (m_top : Int64) (m_bottom : Int64) (m_stoodBy : Nat → Int64) (x4 : Int32) (x5 : Int64) (x7 : Int32) (H : Heap) (locs : List Loc) (_ : PD D A [bl_X12 cy A_m m_at m_names m_status m_top m_bottom m_sort m_trayMany m_trays m_tape m_text m_taped m_size m_token m_from m_end m_value m_faultKind m_faultPlace m_faults m_seen m_toldParts m_opened m_depth m_counted m_bestOrder m_standers m_has m_bestHas m_standerMany m_bestCouples m_bestFondness m_cameTo m_doesStandFirst m_stoodBy m_drawn m_ranSteps m_loops m_ran m_told1 m_isTold m_marks] H) (_ : va_S A s.heap H locs) (ls : Array Slot), lv_has ls 10 [(0, .ref (A_m 0)), (2, .int x2), (3, .int x3), (4, .int x4), (5, .long x5), (7, .int x7)] → f_X12_chance_l89 fu m_at x1 x2 x3 n89 m_status m_top m_bottom m_stoodBy x4 x5 x7 = some res → W p l e (headSpec (WW yX12_chance cX12_chance 10 (some .boolean)) rm_X12_chance).room s m args below meth c H locs 0 0 (MQ below (Qei D res.1 A W1) args s 0 0 A) (F0 m 89 ls []) := by
    intro n89
    induction n89 with
    | zero => intro m_status m_top m_bottom m_stoodBy x4 x5 x7 H locs hP hS ls hl h; cases h
    | succ n89 ih89 =>
      have l99 : ∀ (n99 : Nat) (m_status : Int32) (m_top : Int64) (m_bottom : Int64) (m_stoodBy : Nat → Int64) (x4 : Int32) (x5 : Int64) (x7 : Int32) (x8 : Int32) (H : Heap) (locs : List Loc) (_ : PD D A [bl_X12 cy A_m m_at m_names m_status m_top m_bottom m_sort m_trayMany m_trays m_tape m_text m_taped m_size m_token m_from m_end m_value m_faultKind m_faultPlace m_faults m_seen m_toldParts m_opened m_depth m_counted m_bestOrder m_standers m_has m_bestHas m_standerMany m_bestCouples m_bestFondness m_cameTo m_doesStandFirst m_stoodBy m_drawn m_ranSteps m_loops m_ran m_told1 m_isTold m_marks] H) (_ : va_S A s.heap H locs) (ls : Array Slot), lv_has ls 10 [(0, .ref (A_m 0)), (2, .int x2), (3, .int x3), (4, .int x4), (5, .long x5), (7, .int x7), (8, .int x8)] → f_X12_chance_l99 fu m_at x1 x2 x3 (f_X12_chance_l89 fu m_at x1 x2 x3 n89) n99 m_status m_top m_bottom m_stoodBy x4 x5 x7 x8 = some res → W p l e (headSpec (WW yX12_chance cX12_chance 10 (some .boolean)) rm_X12_chance).room s m args below meth c H locs 0 0 (MQ below (Qei D res.1 A W1) args s 0 0 A) (F0 m 99 ls []) := by
        intro n99
        induction n99 with
        | zero => intro m_status m_top m_bottom m_stoodBy x4 x5 x7 x8 H locs hP hS ls hl h; cases h
        | succ n99 ih99 =>
          intro m_status m_top m_bottom m_stoodBy x4 x5 x7 x8 H locs hP hS ls hl h
          have h : f_X12_chance_b99 fu m_at x1 x2 x3 (f_X12_chance_l89 fu m_at x1 x2 x3 n89) (f_X12_chance_l99 fu m_at x1 x2 x3 (f_X12_chance_l89 fu m_at x1 x2 x3 n89) n99) m_status m_top m_bottom m_stoodBy x4 x5 x7 x8 = some res := h
          unfold f_X12_chance_b99 at h
          refine lv_iload hx hb dX12_chance_99 (lv_at hl 6 rfl) ?_
          refine lv_if_lt (tgt := 154) hx hb dX12_chance_101 (by decide) (fun c_44 => ?_) (fun c_44 => ?_)
          · have h := it c_44 h
            refine lv_lload hx hb dX12_chance_154 (lv_at hl 4 rfl) ?_
            refine lv_ldc2 (v := 20) hx hb hown (ht _ tb_1641) dX12_chance_156 ?_
            refine lv_lmul hx hb dX12_chance_159 ?_
            refine lv_topl (fun x5_45 e_x5_45 => ?_)
            have h := bn e_x5_45 h
            refine lv_lstore (lv' := [(5, .long x5_45), (0, .ref (A_m 0)), (2, .int x2), (3, .int x3), (4, .int x4), (7, .int x7), (8, .int x8)]) hx hb dX12_chance_160 hl (by decide) rfl (fun ls hl => ?_)
            obtain ⟨x7_46, e_x7_46⟩ : ∃ y : Int32, y = x7 + 1 := ⟨_, rfl⟩
            have h := bn e_x7_46 h
            refine lv_iinc (v := x7_46) (lv' := [(7, .int x7_46), (5, .long x5_45), (0, .ref (A_m 0)), (2, .int x2), (3, .int x3), (4, .int x4), (8, .int x8)]) hx hb dX12_chance_162 hl (k := 5) rfl (by rw [e_x7_46]; rfl) (by decide) rfl (fun ls hl => ?_)
            refine lv_goto (tgt := 89) hx hb dX12_chance_165 (by decide) ?_
            exact ih89 m_status m_top m_bottom m_stoodBy x4 x5_45 x7_46 _ _ hP hS ls (lv_sub hl [2, 3, 4, 5, 1, 0] rfl) h
          · have h := ie c_44 h
            refine lv_aload_n hx hb dX12_chance_104 rfl (lv_at hl 0 rfl) ?_
            refine xget (i := 0) (j := 0) (k := 33) (T := TX12) hx hb ht tb_iX12 hown hX hP.1 rfl rfl rfl (by decide) tb_1262 rfl dX12_chance_105 ?_
            refine lv_iload hx hb dX12_chance_108 (lv_at hl 6 rfl) ?_
            refine lv_aload_n hx hb dX12_chance_110 rfl (lv_at hl 0 rfl) ?_
            refine xget (i := 0) (j := 0) (k := 33) (T := TX12) hx hb ht tb_iX12 hown hX hP.1 rfl rfl rfl (by decide) tb_1262 rfl dX12_chance_111 ?_
            refine lv_iload hx hb dX12_chance_114 (lv_at hl 6 rfl) ?_
            obtain ⟨y_47, e_y_47, h⟩ := bi h
            refine xlald (i0 := 0) (j0 := 13) hx hb hX hP.1 rfl rfl e_y_47 dX12_chance_116 ?_
            refine lv_bipush (v := 20) hx hb dX12_chance_117 (by decide) ?_
            refine lv_iload hx hb dX12_chance_119 (lv_at hl 3 rfl) ?_
            refine lv_isub hx hb dX12_chance_121 ?_
            refine lv_i2l (v := Int32.toInt64 (20 - x4)) hx hb dX12_chance_122 rfl ?_
            refine lv_lmul hx hb dX12_chance_123 ?_
            refine lv_iload hx hb dX12_chance_124 (lv_at hl 6 rfl) ?_
            refine lv_if_ne (tgt := 133) hx hb dX12_chance_126 (by decide) (fun c_48 => ?_) (fun c_48 => ?_)
            · have h := ie c_48 h
              refine lv_aload_n hx hb dX12_chance_133 rfl (lv_at hl 0 rfl) ?_
              refine xget (i := 0) (j := 0) (k := 33) (T := TX12) hx hb ht tb_iX12 hown hX hP.1 rfl rfl rfl (by decide) tb_1262 rfl dX12_chance_134 ?_
              refine lv_iload hx hb dX12_chance_137 (lv_at hl 6 rfl) ?_
              refine lv_iconst (v := 1) hx hb dX12_chance_139 (by decide) ?_
              refine lv_isub hx hb dX12_chance_140 ?_
              obtain ⟨y_49, e_y_49, h⟩ := bi h
              refine xlald (i0 := 0) (j0 := 13) hx hb hX hP.1 rfl rfl e_y_49 dX12_chance_141 ?_
              refine lv_iload hx hb dX12_chance_142 (lv_at hl 3 rfl) ?_
              refine lv_i2l (v := Int32.toInt64 x4) hx hb dX12_chance_144 rfl ?_
              refine lv_lmul hx hb dX12_chance_145 ?_
              refine lv_ladd hx hb dX12_chance_146 ?_
              obtain ⟨m_stoodBy_50, e_m_stoodBy_50, h⟩ := bi h
              refine xlast (i0 := 0) (j0 := 13) hx hb hX hP hS rfl rfl e_m_stoodBy_50 dX12_chance_147 (fun H locs hP hS => ?_)
              have hP : PD D A [bl_X12 cy A_m m_at m_names m_status m_top m_bottom m_sort m_trayMany m_trays m_tape m_text m_taped m_size m_token m_from m_end m_value m_faultKind m_faultPlace m_faults m_seen m_toldParts m_opened m_depth m_counted m_bestOrder m_standers m_has m_bestHas m_standerMany m_bestCouples m_bestFondness m_cameTo m_doesStandFirst m_stoodBy_50 m_drawn m_ranSteps m_loops m_ran m_told1 m_isTold m_marks] H := hP
              obtain ⟨x8_51, e_x8_51⟩ : ∃ y : Int32, y = x8 + (-1) := ⟨_, rfl⟩
              have h := bn e_x8_51 h
              refine lv_iinc (v := x8_51) (lv' := [(8, .int x8_51), (0, .ref (A_m 0)), (2, .int x2), (3, .int x3), (4, .int x4), (5, .long x5), (7, .int x7)]) hx hb dX12_chance_148 hl (k := 6) rfl (by rw [e_x8_51]; rfl) (by decide) rfl (fun ls hl => ?_)
              refine lv_goto (tgt := 99) hx hb dX12_chance_151 (by decide) ?_
              exact ih99 m_status m_top m_bottom m_stoodBy_50 x4 x5 x7 x8_51 _ _ hP hS ls (lv_sub hl [1, 2, 3, 4, 5, 6, 0] rfl) h
            · have h := it c_48 h
              refine lv_lconst (v := 0) hx hb dX12_chance_129 (by decide) ?_
              refine lv_goto (tgt := 146) hx hb dX12_chance_130 (by decide) ?_
              refine lv_ladd hx hb dX12_chance_146 ?_
              obtain ⟨m_stoodBy_52, e_m_stoodBy_52, h⟩ := bi h
              refine xlast (i0 := 0) (j0 := 13) hx hb hX hP hS rfl rfl e_m_stoodBy_52 dX12_chance_147 (fun H locs hP hS => ?_)
              have hP : PD D A [bl_X12 cy A_m m_at m_names m_status m_top m_bottom m_sort m_trayMany m_trays m_tape m_text m_taped m_size m_token m_from m_end m_value m_faultKind m_faultPlace m_faults m_seen m_toldParts m_opened m_depth m_counted m_bestOrder m_standers m_has m_bestHas m_standerMany m_bestCouples m_bestFondness m_cameTo m_doesStandFirst m_stoodBy_52 m_drawn m_ranSteps m_loops m_ran m_told1 m_isTold m_marks] H := hP
              obtain ⟨x8_53, e_x8_53⟩ : ∃ y : Int32, y = x8 + (-1) := ⟨_, rfl⟩
              have h := bn e_x8_53 h
              refine lv_iinc (v := x8_53) (lv' := [(8, .int x8_53), (0, .ref (A_m 0)), (2, .int x2), (3, .int x3), (4, .int x4), (5, .long x5), (7, .int x7)]) hx hb dX12_chance_148 hl (k := 6) rfl (by rw [e_x8_53]; rfl) (by decide) rfl (fun ls hl => ?_)
              refine lv_goto (tgt := 99) hx hb dX12_chance_151 (by decide) ?_
              exact ih99 m_status m_top m_bottom m_stoodBy_52 x4 x5 x7 x8_53 _ _ hP hS ls (lv_sub hl [1, 2, 3, 4, 5, 6, 0] rfl) h
      intro m_status m_top m_bottom m_stoodBy x4 x5 x7 H locs hP hS ls hl h
      have h : f_X12_chance_b89 fu m_at x1 x2 x3 (f_X12_chance_l89 fu m_at x1 x2 x3 n89) m_status m_top m_bottom m_stoodBy x4 x5 x7 = some res := h
      unfold f_X12_chance_b89 at h
      refine lv_iload hx hb dX12_chance_89 (lv_at hl 5 rfl) ?_
      refine lv_iload_n hx hb dX12_chance_91 rfl (lv_at hl 1 rfl) ?_
      refine lv_icmp_ge (tgt := 168) hx hb dX12_chance_92 (by decide) (fun c_54 => ?_) (fun c_54 => ?_)
      · have h := it c_54 h
        refine lv_lconst (v := 0) hx hb dX12_chance_168 (by decide) ?_
        refine lv_lstore (lv' := [(7, .long 0), (0, .ref (A_m 0)), (2, .int x2), (3, .int x3), (4, .int x4), (5, .long x5)]) hx hb dX12_chance_169 hl (by decide) rfl (fun ls hl => ?_)
        refine lv_iload_n hx hb dX12_chance_171 rfl (lv_at hl 3 rfl) ?_
        refine lv_istore (lv' := [(9, .int x3), (7, .long 0), (0, .ref (A_m 0)), (2, .int x2), (3, .int x3), (4, .int x4), (5, .long x5)]) hx hb dX12_chance_172 hl (by decide) rfl (fun ls hl => ?_)
        exact l174 fu m_status m_top m_bottom m_stoodBy x5 0 x3 _ _ hP hS ls (lv_sub hl [2, 6, 1, 0] rfl) h
      · have h := ie c_54 h
        refine lv_bipush (v := 9) hx hb dX12_chance_95 (by decide) ?_
        refine lv_istore (lv' := [(8, .int 9), (0, .ref (A_m 0)), (2, .int x2), (3, .int x3), (4, .int x4), (5, .long x5), (7, .int x7)]) hx hb dX12_chance_97 hl (by decide) rfl (fun ls hl => ?_)
        exact l99 fu m_status m_top m_bottom m_stoodBy x4 x5 x7 9 _ _ hP hS ls (lv_sub hl [1, 2, 3, 4, 5, 6, 0] rfl) h
  have l56 : ∀ (n56 : Nat) (m_status : Int32) (m_top : Int64) (m_bottom : Int64) (m_stoodBy : Nat → Int64) (x4 : Int32) (x5 : Int64) (x7 : Int32) (H : Heap) (locs : List Loc) (_ : PD D A [bl_X12 cy A_m m_at m_names m_status m_top m_bottom m_sort m_trayMany m_trays m_tape m_text m_taped m_size m_token m_from m_end m_value m_faultKind m_faultPlace m_faults m_seen m_toldParts m_opened m_depth m_counted m_bestOrder m_standers m_has m_bestHas m_standerMany m_bestCouples m_bestFondness m_cameTo m_doesStandFirst m_stoodBy m_drawn m_ranSteps m_loops m_ran m_told1 m_isTold m_marks] H) (_ : va_S A s.heap H locs) (ls : Array Slot), lv_has ls 10 [(0, .ref (A_m 0)), (2, .int x2), (3, .int x3), (4, .int x4), (5, .long x5), (7, .int x7)] → f_X12_chance_l56 fu m_at x1 x2 x3 n56 m_status m_top m_bottom m_stoodBy x4 x5 x7 = some res → W p l e (headSpec (WW yX12_chance cX12_chance 10 (some .boolean)) rm_X12_chance).room s m args below meth c H locs 0 0 (MQ below (Qei D res.1 A W1) args s 0 0 A) (F0 m 56 ls []) := by
    intro n56
    induction n56 with
    | zero => intro m_status m_top m_bottom m_stoodBy x4 x5 x7 H locs hP hS ls hl h; cases h
    | succ n56 ih56 =>
      intro m_status m_top m_bottom m_stoodBy x4 x5 x7 H locs hP hS ls hl h
      have h : f_X12_chance_b56 fu m_at x1 x2 x3 (f_X12_chance_l56 fu m_at x1 x2 x3 n56) m_status m_top m_bottom m_stoodBy x4 x5 x7 = some res := h
      unfold f_X12_chance_b56 at h
      refine lv_iload hx hb dX12_chance_56 (lv_at hl 5 rfl) ?_
      refine lv_bipush (v := 10) hx hb dX12_chance_58 (by decide) ?_
      refine lv_icmp_ge (tgt := 86) hx hb dX12_chance_60 (by decide) (fun c_55 => ?_) (fun c_55 => ?_)
      · have h := it c_55 h
        refine lv_iconst (v := 0) hx hb dX12_chance_86 (by decide) ?_
        refine lv_istore (lv' := [(7, .int 0), (0, .ref (A_m 0)), (2, .int x2), (3, .int x3), (4, .int x4), (5, .long x5)]) hx hb dX12_chance_87 hl (by decide) rfl (fun ls hl => ?_)
        exact l89 fu m_status m_top m_bottom m_stoodBy x4 x5 0 _ _ hP hS ls (lv_sub hl [1, 2, 3, 4, 5, 0] rfl) h
      · have h := ie c_55 h
        refine lv_aload_n hx hb dX12_chance_63 rfl (lv_at hl 0 rfl) ?_
        refine xget (i := 0) (j := 0) (k := 33) (T := TX12) hx hb ht tb_iX12 hown hX hP.1 rfl rfl rfl (by decide) tb_1262 rfl dX12_chance_64 ?_
        refine lv_iload hx hb dX12_chance_67 (lv_at hl 5 rfl) ?_
        refine lv_iload hx hb dX12_chance_69 (lv_at hl 5 rfl) ?_
        refine lv_if_ne (tgt := 78) hx hb dX12_chance_71 (by decide) (fun c_56 => ?_) (fun c_56 => ?_)
        · have h := ie c_56 h
          refine lv_lconst (v := 0) hx hb dX12_chance_78 (by decide) ?_
          obtain ⟨m_stoodBy_57, e_m_stoodBy_57, h⟩ := bi h
          refine xlast (i0 := 0) (j0 := 13) hx hb hX hP hS rfl rfl e_m_stoodBy_57 dX12_chance_79 (fun H locs hP hS => ?_)
          have hP : PD D A [bl_X12 cy A_m m_at m_names m_status m_top m_bottom m_sort m_trayMany m_trays m_tape m_text m_taped m_size m_token m_from m_end m_value m_faultKind m_faultPlace m_faults m_seen m_toldParts m_opened m_depth m_counted m_bestOrder m_standers m_has m_bestHas m_standerMany m_bestCouples m_bestFondness m_cameTo m_doesStandFirst m_stoodBy_57 m_drawn m_ranSteps m_loops m_ran m_told1 m_isTold m_marks] H := hP
          obtain ⟨x7_58, e_x7_58⟩ : ∃ y : Int32, y = x7 + 1 := ⟨_, rfl⟩
          have h := bn e_x7_58 h
          refine lv_iinc (v := x7_58) (lv' := [(7, .int x7_58), (0, .ref (A_m 0)), (2, .int x2), (3, .int x3), (4, .int x4), (5, .long x5)]) hx hb dX12_chance_80 hl (k := 5) rfl (by rw [e_x7_58]; rfl) (by decide) rfl (fun ls hl => ?_)
          refine lv_goto (tgt := 56) hx hb dX12_chance_83 (by decide) ?_
          exact ih56 m_status m_top m_bottom m_stoodBy_57 x4 x5 x7_58 _ _ hP hS ls (lv_sub hl [1, 2, 3, 4, 5, 0] rfl) h
        · have h := it c_56 h
          refine lv_lconst (v := 1) hx hb dX12_chance_74 (by decide) ?_
          refine lv_goto (tgt := 79) hx hb dX12_chance_75 (by decide) ?_
          obtain ⟨m_stoodBy_59, e_m_stoodBy_59, h⟩ := bi h
          refine xlast (i0 := 0) (j0 := 13) hx hb hX hP hS rfl rfl e_m_stoodBy_59 dX12_chance_79 (fun H locs hP hS => ?_)
          have hP : PD D A [bl_X12 cy A_m m_at m_names m_status m_top m_bottom m_sort m_trayMany m_trays m_tape m_text m_taped m_size m_token m_from m_end m_value m_faultKind m_faultPlace m_faults m_seen m_toldParts m_opened m_depth m_counted m_bestOrder m_standers m_has m_bestHas m_standerMany m_bestCouples m_bestFondness m_cameTo m_doesStandFirst m_stoodBy_59 m_drawn m_ranSteps m_loops m_ran m_told1 m_isTold m_marks] H := hP
          obtain ⟨x7_60, e_x7_60⟩ : ∃ y : Int32, y = x7 + 1 := ⟨_, rfl⟩
          have h := bn e_x7_60 h
          refine lv_iinc (v := x7_60) (lv' := [(7, .int x7_60), (0, .ref (A_m 0)), (2, .int x2), (3, .int x3), (4, .int x4), (5, .long x5)]) hx hb dX12_chance_80 hl (k := 5) rfl (by rw [e_x7_60]; rfl) (by decide) rfl (fun ls hl => ?_)
          refine lv_goto (tgt := 56) hx hb dX12_chance_83 (by decide) ?_
          exact ih56 m_status m_top m_bottom m_stoodBy_59 x4 x5 x7_60 _ _ hP hS ls (lv_sub hl [1, 2, 3, 4, 5, 0] rfl) h
  unfold f_X12_chance at h
  refine lv_aload_n hx hb dX12_chance_0 rfl (lv_at hl 0 rfl) ?_
  refine lv_iload_n hx hb dX12_chance_1 rfl (lv_at hl 1 rfl) ?_
  obtain ⟨z_61, e_z_61, h⟩ := bi h
  refine roVi (rest := []) ⟨hx, hb, hml, hown, ht⟩ (c_X12_isMan l D cy fu A_m m_at m_names m_status m_top m_bottom m_sort m_trayMany m_trays m_tape m_text m_taped m_size m_token m_from m_end m_value m_faultKind m_faultPlace m_faults m_seen m_toldParts m_opened m_depth m_counted m_bestOrder m_standers m_has m_bestHas m_standerMany m_bestCouples m_bestFondness m_cameTo m_doesStandFirst m_stoodBy m_drawn m_ranSteps m_loops m_ran m_told1 m_isTold m_marks x1 z_61 e_z_61) (cV ht mv_X12_isMan tb_1551 rfl rfl ⟨Nat.le_of_ble_eq_true rfl, Nat.le_of_ble_eq_true rfl⟩) (P_sub hP.1 [0] rfl) hX rfl rfl rfl hl.1 rfl (Nat.le_of_ble_eq_true rfl) dX12_chance_2 ⟨Nat.le_of_ble_eq_true rfl, Nat.le_of_ble_eq_true rfl⟩ ?_
  refine lv_if_eq (tgt := 32) hx hb dX12_chance_5 (by decide) (fun c_62 => ?_) (fun c_62 => ?_)
  · have h := it c_62 h
    refine lv_aload_n hx hb dX12_chance_32 rfl (lv_at hl 0 rfl) ?_
    refine lv_iconst (v := 1) hx hb dX12_chance_33 (by decide) ?_
    obtain ⟨z_63, e_z_63, h⟩ := bi h
    refine efVi (rest := []) ⟨hx, hb, hml, hown, ht⟩ (c_X12_is l D cy fu A_m m_at m_names m_status m_top m_bottom m_sort m_trayMany m_trays m_tape m_text m_taped m_size m_token m_from m_end m_value m_faultKind m_faultPlace m_faults m_seen m_toldParts m_opened m_depth m_counted m_bestOrder m_standers m_has m_bestHas m_standerMany m_bestCouples m_bestFondness m_cameTo m_doesStandFirst m_stoodBy m_drawn m_ranSteps m_loops m_ran m_told1 m_isTold m_marks 1 z_63 e_z_63 _ rfl _ rfl) (cV ht mv_X12_is tb_1372 rfl rfl ⟨Nat.le_of_ble_eq_true rfl, Nat.le_of_ble_eq_true rfl⟩) hP hS hX [0] rfl rfl rfl rfl rfl rfl hl.1 rfl (Nat.le_of_ble_eq_true rfl) dX12_chance_34 ⟨Nat.le_of_ble_eq_true rfl, Nat.le_of_ble_eq_true rfl⟩ (fun H locs hP hS => ?_)
    have hP : PD D A [bl_X12 cy A_m m_at m_names z_63.2 m_top m_bottom m_sort m_trayMany m_trays m_tape m_text m_taped m_size m_token m_from m_end m_value m_faultKind m_faultPlace m_faults m_seen m_toldParts m_opened m_depth m_counted m_bestOrder m_standers m_has m_bestHas m_standerMany m_bestCouples m_bestFondness m_cameTo m_doesStandFirst m_stoodBy m_drawn m_ranSteps m_loops m_ran m_told1 m_isTold m_marks] H := hP
    obtain ⟨b_64, e_b_64, h⟩ := bi h
    obtain ⟨-, n_b_64, -⟩ := bz_ok e_b_64
    cases h
    subst hW1
    exact W.zret hx hb hr n_b_64 (fun _ ht9 _ => ⟨⟨_, (), rfl, rfl, hPt ht9 hP.1⟩, hS.F ht9⟩) hS.2.2 dX12_chance_37
  · have h := ie c_62 h
    refine lv_iload_n hx hb dX12_chance_8 rfl (lv_at hl 2 rfl) ?_
    refine lv_i2l (v := Int32.toInt64 x2) hx hb dX12_chance_9 rfl ?_
    refine lv_lconst (v := 0) hx hb dX12_chance_10 (by decide) ?_
    refine lv_ldc2 (v := 9) hx hb hown (ht _ tb_1642) dX12_chance_11 ?_
    obtain ⟨z_65, e_z_65, h⟩ := bi h
    refine roSi (rest := []) ⟨hx, hb, hml, hown, ht⟩ (c_X12_isFrom l D cy fu  (Int32.toInt64 x2) 0 9 z_65 e_z_65) (cS ht ms_X12_isFrom tb_1575 rfl rfl ⟨Nat.le_of_ble_eq_true rfl, Nat.le_of_ble_eq_true rfl⟩) (P_sub hP.1 [] rfl) hX rfl hl.1 rfl (Nat.le_of_ble_eq_true rfl) dX12_chance_14 ⟨Nat.le_of_ble_eq_true rfl, Nat.le_of_ble_eq_true rfl⟩ ?_
    refine lv_if_eq (tgt := 32) hx hb dX12_chance_17 (by decide) (fun c_66 => ?_) (fun c_66 => ?_)
    · have h := it c_66 h
      refine lv_aload_n hx hb dX12_chance_32 rfl (lv_at hl 0 rfl) ?_
      refine lv_iconst (v := 1) hx hb dX12_chance_33 (by decide) ?_
      obtain ⟨z_67, e_z_67, h⟩ := bi h
      refine efVi (rest := []) ⟨hx, hb, hml, hown, ht⟩ (c_X12_is l D cy fu A_m m_at m_names m_status m_top m_bottom m_sort m_trayMany m_trays m_tape m_text m_taped m_size m_token m_from m_end m_value m_faultKind m_faultPlace m_faults m_seen m_toldParts m_opened m_depth m_counted m_bestOrder m_standers m_has m_bestHas m_standerMany m_bestCouples m_bestFondness m_cameTo m_doesStandFirst m_stoodBy m_drawn m_ranSteps m_loops m_ran m_told1 m_isTold m_marks 1 z_67 e_z_67 _ rfl _ rfl) (cV ht mv_X12_is tb_1372 rfl rfl ⟨Nat.le_of_ble_eq_true rfl, Nat.le_of_ble_eq_true rfl⟩) hP hS hX [0] rfl rfl rfl rfl rfl rfl hl.1 rfl (Nat.le_of_ble_eq_true rfl) dX12_chance_34 ⟨Nat.le_of_ble_eq_true rfl, Nat.le_of_ble_eq_true rfl⟩ (fun H locs hP hS => ?_)
      have hP : PD D A [bl_X12 cy A_m m_at m_names z_67.2 m_top m_bottom m_sort m_trayMany m_trays m_tape m_text m_taped m_size m_token m_from m_end m_value m_faultKind m_faultPlace m_faults m_seen m_toldParts m_opened m_depth m_counted m_bestOrder m_standers m_has m_bestHas m_standerMany m_bestCouples m_bestFondness m_cameTo m_doesStandFirst m_stoodBy m_drawn m_ranSteps m_loops m_ran m_told1 m_isTold m_marks] H := hP
      obtain ⟨b_68, e_b_68, h⟩ := bi h
      obtain ⟨-, n_b_68, -⟩ := bz_ok e_b_68
      cases h
      subst hW1
      exact W.zret hx hb hr n_b_68 (fun _ ht9 _ => ⟨⟨_, (), rfl, rfl, hPt ht9 hP.1⟩, hS.F ht9⟩) hS.2.2 dX12_chance_37
    · have h := ie c_66 h
      refine lv_iload_n hx hb dX12_chance_20 rfl (lv_at hl 3 rfl) ?_
      refine lv_i2l (v := Int32.toInt64 x3) hx hb dX12_chance_21 rfl ?_
      refine lv_lconst (v := 0) hx hb dX12_chance_22 (by decide) ?_
      refine lv_ldc2 (v := 9) hx hb hown (ht _ tb_1642) dX12_chance_23 ?_
      obtain ⟨z_69, e_z_69, h⟩ := bi h
      refine roSi (rest := []) ⟨hx, hb, hml, hown, ht⟩ (c_X12_isFrom l D cy fu  (Int32.toInt64 x3) 0 9 z_69 e_z_69) (cS ht ms_X12_isFrom tb_1575 rfl rfl ⟨Nat.le_of_ble_eq_true rfl, Nat.le_of_ble_eq_true rfl⟩) (P_sub hP.1 [] rfl) hX rfl hl.1 rfl (Nat.le_of_ble_eq_true rfl) dX12_chance_26 ⟨Nat.le_of_ble_eq_true rfl, Nat.le_of_ble_eq_true rfl⟩ ?_
      refine lv_if_ne (tgt := 38) hx hb dX12_chance_29 (by decide) (fun c_70 => ?_) (fun c_70 => ?_)
      · have h := ie c_70 h
        refine lv_bipush (v := 20) hx hb dX12_chance_38 (by decide) ?_
        refine lv_aload_n hx hb dX12_chance_40 rfl (lv_at hl 0 rfl) ?_
        refine lv_iload_n hx hb dX12_chance_41 rfl (lv_at hl 1 rfl) ?_
        obtain ⟨z_71, e_z_71, h⟩ := bi h
        refine roVi (rest := [.int 20]) ⟨hx, hb, hml, hown, ht⟩ (c_X12_braveOf l D cy fu A_m m_at m_names m_status m_top m_bottom m_sort m_trayMany m_trays m_tape m_text m_taped m_size m_token m_from m_end m_value m_faultKind m_faultPlace m_faults m_seen m_toldParts m_opened m_depth m_counted m_bestOrder m_standers m_has m_bestHas m_standerMany m_bestCouples m_bestFondness m_cameTo m_doesStandFirst m_stoodBy m_drawn m_ranSteps m_loops m_ran m_told1 m_isTold m_marks x1 z_71 e_z_71) (cV ht mv_X12_braveOf tb_1555 rfl rfl ⟨Nat.le_of_ble_eq_true rfl, Nat.le_of_ble_eq_true rfl⟩) (P_sub hP.1 [0] rfl) hX rfl rfl rfl hl.1 rfl (Nat.le_of_ble_eq_true rfl) dX12_chance_42 ⟨Nat.le_of_ble_eq_true rfl, Nat.le_of_ble_eq_true rfl⟩ ?_
        refine va_mmin hx hb (hml.trans hl.1.symm) hown (ht _ tb_1431) (ht _ tb_583) (ht _ tb_19) (ht _ tb_584) (Nat.le_of_ble_eq_true rfl) (Nat.le_of_ble_eq_true rfl) (Nat.le_of_ble_eq_true rfl) (Nat.le_of_ble_eq_true rfl) dX12_chance_45 ?_
        refine lv_topi (fun x4_72 e_x4_72 => ?_)
        have h := bn e_x4_72 h
        refine lv_istore (lv' := [(4, .int x4_72), (0, .ref (A_m 0)), (1, .int x1), (2, .int x2), (3, .int x3)]) hx hb dX12_chance_48 hl (by decide) rfl (fun ls hl => ?_)
        refine lv_lconst (v := 1) hx hb dX12_chance_50 (by decide) ?_
        refine lv_lstore (lv' := [(5, .long 1), (4, .int x4_72), (0, .ref (A_m 0)), (1, .int x1), (2, .int x2), (3, .int x3)]) hx hb dX12_chance_51 hl (by decide) rfl (fun ls hl => ?_)
        refine lv_iconst (v := 0) hx hb dX12_chance_53 (by decide) ?_
        refine lv_istore (lv' := [(7, .int 0), (5, .long 1), (4, .int x4_72), (0, .ref (A_m 0)), (1, .int x1), (2, .int x2), (3, .int x3)]) hx hb dX12_chance_54 hl (by decide) rfl (fun ls hl => ?_)
        exact l56 fu m_status m_top m_bottom m_stoodBy x4_72 1 0 _ _ hP hS ls (lv_sub hl [3, 5, 6, 2, 1, 0] rfl) h
      · have h := it c_70 h
        refine lv_aload_n hx hb dX12_chance_32 rfl (lv_at hl 0 rfl) ?_
        refine lv_iconst (v := 1) hx hb dX12_chance_33 (by decide) ?_
        obtain ⟨z_73, e_z_73, h⟩ := bi h
        refine efVi (rest := []) ⟨hx, hb, hml, hown, ht⟩ (c_X12_is l D cy fu A_m m_at m_names m_status m_top m_bottom m_sort m_trayMany m_trays m_tape m_text m_taped m_size m_token m_from m_end m_value m_faultKind m_faultPlace m_faults m_seen m_toldParts m_opened m_depth m_counted m_bestOrder m_standers m_has m_bestHas m_standerMany m_bestCouples m_bestFondness m_cameTo m_doesStandFirst m_stoodBy m_drawn m_ranSteps m_loops m_ran m_told1 m_isTold m_marks 1 z_73 e_z_73 _ rfl _ rfl) (cV ht mv_X12_is tb_1372 rfl rfl ⟨Nat.le_of_ble_eq_true rfl, Nat.le_of_ble_eq_true rfl⟩) hP hS hX [0] rfl rfl rfl rfl rfl rfl hl.1 rfl (Nat.le_of_ble_eq_true rfl) dX12_chance_34 ⟨Nat.le_of_ble_eq_true rfl, Nat.le_of_ble_eq_true rfl⟩ (fun H locs hP hS => ?_)
        have hP : PD D A [bl_X12 cy A_m m_at m_names z_73.2 m_top m_bottom m_sort m_trayMany m_trays m_tape m_text m_taped m_size m_token m_from m_end m_value m_faultKind m_faultPlace m_faults m_seen m_toldParts m_opened m_depth m_counted m_bestOrder m_standers m_has m_bestHas m_standerMany m_bestCouples m_bestFondness m_cameTo m_doesStandFirst m_stoodBy m_drawn m_ranSteps m_loops m_ran m_told1 m_isTold m_marks] H := hP
        obtain ⟨b_74, e_b_74, h⟩ := bi h
        obtain ⟨-, n_b_74, -⟩ := bz_ok e_b_74
        cases h
        subst hW1
        exact W.zret hx hb hr n_b_74 (fun _ ht9 _ => ⟨⟨_, (), rfl, rfl, hPt ht9 hP.1⟩, hS.F ht9⟩) hS.2.2 dX12_chance_37
theorem dX12_luck_0 : decode cX12_luck 0 = .ok (.aload_n 0, 1) := by decide +kernel
theorem dX12_luck_1 : decode cX12_luck 1 = .ok (.iload_n 1, 1) := by decide +kernel
theorem dX12_luck_2 : decode cX12_luck 2 = .ok (.iload_n 2, 1) := by decide +kernel
theorem dX12_luck_3 : decode cX12_luck 3 = .ok (.invokevirtual 412, 3) := by decide +kernel
theorem dX12_luck_6 : decode cX12_luck 6 = .ok (.ifCond .ne 9, 3) := by decide +kernel
theorem dX12_luck_9 : decode cX12_luck 9 = .ok (.aload_n 0, 1) := by decide +kernel
theorem dX12_luck_10 : decode cX12_luck 10 = .ok (.iconst 1, 1) := by decide +kernel
theorem dX12_luck_11 : decode cX12_luck 11 = .ok (.invokevirtual 91, 3) := by decide +kernel
theorem dX12_luck_14 : decode cX12_luck 14 = .ok (.ireturn, 1) := by decide +kernel
theorem dX12_luck_15 : decode cX12_luck 15 = .ok (.aload_n 0, 1) := by decide +kernel
theorem dX12_luck_16 : decode cX12_luck 16 = .ok (.iload_n 1, 1) := by decide +kernel
theorem dX12_luck_17 : decode cX12_luck 17 = .ok (.invokevirtual 253, 3) := by decide +kernel
theorem dX12_luck_20 : decode cX12_luck 20 = .ok (.ifCond .eq 11, 3) := by decide +kernel
theorem dX12_luck_23 : decode cX12_luck 23 = .ok (.aload_n 0, 1) := by decide +kernel
theorem dX12_luck_24 : decode cX12_luck 24 = .ok (.iload_n 2, 1) := by decide +kernel
theorem dX12_luck_25 : decode cX12_luck 25 = .ok (.invokevirtual 253, 3) := by decide +kernel
theorem dX12_luck_28 : decode cX12_luck 28 = .ok (.ifCond .ne 10, 3) := by decide +kernel
theorem dX12_luck_31 : decode cX12_luck 31 = .ok (.aload_n 0, 1) := by decide +kernel
theorem dX12_luck_32 : decode cX12_luck 32 = .ok (.bipush 7, 2) := by decide +kernel
theorem dX12_luck_34 : decode cX12_luck 34 = .ok (.invokevirtual 91, 3) := by decide +kernel
theorem dX12_luck_37 : decode cX12_luck 37 = .ok (.ireturn, 1) := by decide +kernel
theorem dX12_luck_38 : decode cX12_luck 38 = .ok (.iconst 0, 1) := by decide +kernel
theorem dX12_luck_39 : decode cX12_luck 39 = .ok (.istore_n 3, 1) := by decide +kernel
theorem dX12_luck_40 : decode cX12_luck 40 = .ok (.iconst 1, 1) := by decide +kernel
theorem dX12_luck_41 : decode cX12_luck 41 = .ok (.istore 4, 2) := by decide +kernel
theorem dX12_luck_43 : decode cX12_luck 43 = .ok (.iload 4, 2) := by decide +kernel
theorem dX12_luck_45 : decode cX12_luck 45 = .ok (.bipush 20, 2) := by decide +kernel
theorem dX12_luck_47 : decode cX12_luck 47 = .ok (.if_icmp .gt 38, 3) := by decide +kernel
theorem dX12_luck_50 : decode cX12_luck 50 = .ok (.iload_n 3, 1) := by decide +kernel
theorem dX12_luck_51 : decode cX12_luck 51 = .ok (.aload_n 0, 1) := by decide +kernel
theorem dX12_luck_52 : decode cX12_luck 52 = .ok (.iload_n 1, 1) := by decide +kernel
theorem dX12_luck_53 : decode cX12_luck 53 = .ok (.iload 4, 2) := by decide +kernel
theorem dX12_luck_55 : decode cX12_luck 55 = .ok (.invokevirtual 271, 3) := by decide +kernel
theorem dX12_luck_58 : decode cX12_luck 58 = .ok (.ifCond .eq 18, 3) := by decide +kernel
theorem dX12_luck_61 : decode cX12_luck 61 = .ok (.aload_n 0, 1) := by decide +kernel
theorem dX12_luck_62 : decode cX12_luck 62 = .ok (.iload_n 1, 1) := by decide +kernel
theorem dX12_luck_63 : decode cX12_luck 63 = .ok (.iload 4, 2) := by decide +kernel
theorem dX12_luck_65 : decode cX12_luck 65 = .ok (.invokevirtual 286, 3) := by decide +kernel
theorem dX12_luck_68 : decode cX12_luck 68 = .ok (.iload_n 2, 1) := by decide +kernel
theorem dX12_luck_69 : decode cX12_luck 69 = .ok (.if_icmp .ne 7, 3) := by decide +kernel
theorem dX12_luck_72 : decode cX12_luck 72 = .ok (.iconst 1, 1) := by decide +kernel
theorem dX12_luck_73 : decode cX12_luck 73 = .ok (.goto 4, 3) := by decide +kernel
theorem dX12_luck_76 : decode cX12_luck 76 = .ok (.iconst 0, 1) := by decide +kernel
theorem dX12_luck_77 : decode cX12_luck 77 = .ok (.iadd, 1) := by decide +kernel
theorem dX12_luck_78 : decode cX12_luck 78 = .ok (.istore_n 3, 1) := by decide +kernel
theorem dX12_luck_79 : decode cX12_luck 79 = .ok (.iinc 4 1, 3) := by decide +kernel
theorem dX12_luck_82 : decode cX12_luck 82 = .ok (.goto (-39), 3) := by decide +kernel
theorem dX12_luck_85 : decode cX12_luck 85 = .ok (.aload_n 0, 1) := by decide +kernel
theorem dX12_luck_86 : decode cX12_luck 86 = .ok (.iload_n 3, 1) := by decide +kernel
theorem dX12_luck_87 : decode cX12_luck 87 = .ok (.i2l, 1) := by decide +kernel
theorem dX12_luck_88 : decode cX12_luck 88 = .ok (.ldc2_w 311, 3) := by decide +kernel
theorem dX12_luck_91 : decode cX12_luck 91 = .ok (.invokevirtual 336, 3) := by decide +kernel
theorem dX12_luck_94 : decode cX12_luck 94 = .ok (.ireturn, 1) := by decide +kernel
theorem mv_X12_luck : MV yX12_luck RX12 cX12_luck 5 (some .boolean) 2 := ⟨tb_1857, tb_1855, tb_1856, tb_16, by decide +kernel, by decide +kernel, by decide +kernel⟩
def f_X12_luck_b43 (fu : Nat) (m_at : Nat → Int32) (x1 : Int32) (x2 : Int32) (k43 : Int32 → Int64 → Int64 → Int32 → Int32 → Option (Int32 × Int32 × Int64 × Int64)) (m_status : Int32) (m_top : Int64) (m_bottom : Int64) (x3 : Int32) (x4 : Int32) : Option (Int32 × Int32 × Int64 × Int64) := (if 20 < x4 then (f_X12_tellsBy fu m_status m_top m_bottom (Int32.toInt64 x3) 20).bind fun z_27 => (bz z_27.1).bind fun _ => some (z_27.1, z_27.2.1, z_27.2.2.1, z_27.2.2.2) else (f_X12_stands fu m_at x1 x4).bind fun z_29 => (if z_29 = 0 then bnd (x3 + 0) fun x3_31 => bnd (x4 + 1) fun x4_32 => k43 m_status m_top m_bottom x3_31 x4_32 else (f_X12_winner fu m_at x1 x4).bind fun z_33 => (if z_33 = x2 then bnd (x3 + 1) fun x3_37 => bnd (x4 + 1) fun x4_38 => k43 m_status m_top m_bottom x3_37 x4_38 else bnd (x3 + 0) fun x3_35 => bnd (x4 + 1) fun x4_36 => k43 m_status m_top m_bottom x3_35 x4_36)))
def f_X12_luck_l43 (fu : Nat) (m_at : Nat → Int32) (x1 : Int32) (x2 : Int32) : Nat → Int32 → Int64 → Int64 → Int32 → Int32 → Option (Int32 × Int32 × Int64 × Int64)
  | 0, _, _, _, _, _ => none
  | n + 1, m_status, m_top, m_bottom, x3, x4 => f_X12_luck_b43 fu m_at x1 x2 (f_X12_luck_l43 fu m_at x1 x2 n) m_status m_top m_bottom x3 x4
def f_X12_luck (fu : Nat) (m_at : Nat → Int32) (m_status : Int32) (m_top : Int64) (m_bottom : Int64) (x1 : Int32) (x2 : Int32) : Option (Int32 × Int32 × Int64 × Int64) := (f_X12_areTwo fu m_at x1 x2).bind fun z_39 => (if z_39 = 0 then (f_X12_is fu m_status 1).bind fun z_49 => (bz z_49.1).bind fun _ => some (z_49.1, z_49.2, m_top, m_bottom) else (f_X12_isAlive fu m_at x1).bind fun z_41 => (if z_41 = 0 then (f_X12_is fu m_status 7).bind fun z_43 => (bz z_43.1).bind fun _ => some (z_43.1, z_43.2, m_top, m_bottom) else (f_X12_isAlive fu m_at x2).bind fun z_45 => (if z_45 = 0 then (f_X12_is fu m_status 7).bind fun z_47 => (bz z_47.1).bind fun _ => some (z_47.1, z_47.2, m_top, m_bottom) else f_X12_luck_l43 fu m_at x1 x2 fu m_status m_top m_bottom 0 1)))
abbrev rm_X12_luck : Room := { frames := 6, cells := 0, slots := 0, locals := 139 }
set_option maxHeartbeats 4000000 in
set_option maxRecDepth 100000 in
theorem c_X12_luck (l : Launch) (D : va_G) (cy : Nat → ClassId) (fu : Nat) (A_m : Nat → Nat) (m_at : Nat → Int32) (m_names : Nat → Int64) (m_status : Int32) (m_top : Int64) (m_bottom : Int64) (m_sort : Nat → Int32) (m_trayMany : Nat → Int32) (m_trays : Nat → Int64) (m_tape : Nat → Int32) (m_text : Nat → Int32) (m_taped : Int32) (m_size : Int32) (m_token : Int32) (m_from : Int32) (m_end : Int32) (m_value : Int32) (m_faultKind : Int32) (m_faultPlace : Int32) (m_faults : Int32) (m_seen : Int32) (m_toldParts : Int32) (m_opened : Nat → Int32) (m_depth : Int32) (m_counted : Int32) (m_bestOrder : Int32) (m_standers : Nat → Int32) (m_has : Nat → Int32) (m_bestHas : Nat → Int32) (m_standerMany : Int32) (m_bestCouples : Int32) (m_bestFondness : Int32) (m_cameTo : Nat → Int32) (m_doesStandFirst : Int32) (m_stoodBy : Nat → Int64) (m_drawn : Int32) (m_ranSteps : Int32) (m_loops : Nat → Int32) (m_ran : Nat → Int32) (m_told1 : Nat → Int32) (m_isTold : Int32) (m_marks : Int32) (x1 : Int32) (x2 : Int32) (res : Int32 × Int32 × Int64 × Int64) (h : f_X12_luck fu m_at m_status m_top m_bottom x1 x2 = some res) (A : Nat → Prop) (hA : A = adr [bl_X12 cy A_m m_at m_names m_status m_top m_bottom m_sort m_trayMany m_trays m_tape m_text m_taped m_size m_token m_from m_end m_value m_faultKind m_faultPlace m_faults m_seen m_toldParts m_opened m_depth m_counted m_bestOrder m_standers m_has m_bestHas m_standerMany m_bestCouples m_bestFondness m_cameTo m_doesStandFirst m_stoodBy m_drawn m_ranSteps m_loops m_ran m_told1 m_isTold m_marks]) (W1 : List va_W) (hW1 : W1 = [bl_X12 cy A_m m_at m_names res.2.1 res.2.2.1 res.2.2.2 m_sort m_trayMany m_trays m_tape m_text m_taped m_size m_token m_from m_end m_value m_faultKind m_faultPlace m_faults m_seen m_toldParts m_opened m_depth m_counted m_bestOrder m_standers m_has m_bestHas m_standerMany m_bestCouples m_bestFondness m_cameTo m_doesStandFirst m_stoodBy m_drawn m_ranSteps m_loops m_ran m_told1 m_isTold m_marks]) : Met l yX12_luck (WW yX12_luck cX12_luck 5 (some .boolean)) rm_X12_luck (Ed D cy [.ref (A_m 0), .int x1, .int x2] [bl_X12 cy A_m m_at m_names m_status m_top m_bottom m_sort m_trayMany m_trays m_tape m_text m_taped m_size m_token m_from m_end m_value m_faultKind m_faultPlace m_faults m_seen m_toldParts m_opened m_depth m_counted m_bestOrder m_standers m_has m_bestHas m_standerMany m_bestCouples m_bestFondness m_cameTo m_doesStandFirst m_stoodBy m_drawn m_ranSteps m_loops m_ran m_told1 m_isTold m_marks]) (Qei D res.1 A W1) 0 0 A := by
  refine Met.ofW (cc := cX12_luck) (maxL := 5) (ret := (some .boolean)) (by decide) rfl ?_
  intro p e s m args below meth c s₁ B hml hv
  obtain ⟨hargs, hP, hX, hD0⟩ := hv
  have hx := B.exec
  have hb := B.bytes
  have hr := B.returns
  have ht : ∀ w ∈ lw_gd, w.before args s = true := fun w hw => atoms_spec (ws := WW yX12_luck cX12_luck 5 (some .boolean)) B.pre w (List.mem_cons_of_mem _ hw)
  have hown : s.vm.findClass RX12 = some m.cls := findClass_of_methodNamed B.named
  have hlocks := B.notSynchronized
  have hP : PD D A [bl_X12 cy A_m m_at m_names m_status m_top m_bottom m_sort m_trayMany m_trays m_tape m_text m_taped m_size m_token m_from m_end m_value m_faultKind m_faultPlace m_faults m_seen m_toldParts m_opened m_depth m_counted m_bestOrder m_standers m_has m_bestHas m_standerMany m_bestCouples m_bestFondness m_cameTo m_doesStandFirst m_stoodBy m_drawn m_ranSteps m_loops m_ran m_told1 m_isTold m_marks] s.heap := ⟨hP, by rw [hA]; exact hD0.own⟩
  have hS : va_S A s.heap s.heap [] := va_S.rf
  obtain ⟨ls, hl, hent⟩ := ent (m := m) (n := 5) hargs (Nat.le_of_ble_eq_true rfl) (lv := [(0, .ref (A_m 0)), (1, .int x1), (2, .int x2)]) rfl
  rw [hent]
  clear hent
  have l43 : ∀ (n43 : Nat) (m_status : Int32) (m_top : Int64) (m_bottom : Int64) (x3 : Int32) (x4 : Int32) (H : Heap) (locs : List Loc) (_ : PD D A [bl_X12 cy A_m m_at m_names m_status m_top m_bottom m_sort m_trayMany m_trays m_tape m_text m_taped m_size m_token m_from m_end m_value m_faultKind m_faultPlace m_faults m_seen m_toldParts m_opened m_depth m_counted m_bestOrder m_standers m_has m_bestHas m_standerMany m_bestCouples m_bestFondness m_cameTo m_doesStandFirst m_stoodBy m_drawn m_ranSteps m_loops m_ran m_told1 m_isTold m_marks] H) (_ : va_S A s.heap H locs) (ls : Array Slot), lv_has ls 5 [(0, .ref (A_m 0)), (1, .int x1), (2, .int x2), (3, .int x3), (4, .int x4)] → f_X12_luck_l43 fu m_at x1 x2 n43 m_status m_top m_bottom x3 x4 = some res → W p l e (headSpec (WW yX12_luck cX12_luck 5 (some .boolean)) rm_X12_luck).room s m args below meth c H locs 0 0 (MQ below (Qei D res.1 A W1) args s 0 0 A) (F0 m 43 ls []) := by
    intro n43
    induction n43 with
    | zero => intro m_status m_top m_bottom x3 x4 H locs hP hS ls hl h; cases h
    | succ n43 ih43 =>
      intro m_status m_top m_bottom x3 x4 H locs hP hS ls hl h
      have h : f_X12_luck_b43 fu m_at x1 x2 (f_X12_luck_l43 fu m_at x1 x2 n43) m_status m_top m_bottom x3 x4 = some res := h
      unfold f_X12_luck_b43 at h
      refine lv_iload hx hb dX12_luck_43 (lv_at hl 4 rfl) ?_
      refine lv_bipush (v := 20) hx hb dX12_luck_45 (by decide) ?_
      refine lv_icmp_gt (tgt := 85) hx hb dX12_luck_47 (by decide) (fun c_26 => ?_) (fun c_26 => ?_)
      · have h := it c_26 h
        refine lv_aload_n hx hb dX12_luck_85 rfl (lv_at hl 0 rfl) ?_
        refine lv_iload_n hx hb dX12_luck_86 rfl (lv_at hl 3 rfl) ?_
        refine lv_i2l (v := Int32.toInt64 x3) hx hb dX12_luck_87 rfl ?_
        refine lv_ldc2 (v := 20) hx hb hown (ht _ tb_1641) dX12_luck_88 ?_
        obtain ⟨z_27, e_z_27, h⟩ := bi h
        refine efVi (rest := []) ⟨hx, hb, hml, hown, ht⟩ (c_X12_tellsBy l D cy fu A_m m_at m_names m_status m_top m_bottom m_sort m_trayMany m_trays m_tape m_text m_taped m_size m_token m_from m_end m_value m_faultKind m_faultPlace m_faults m_seen m_toldParts m_opened m_depth m_counted m_bestOrder m_standers m_has m_bestHas m_standerMany m_bestCouples m_bestFondness m_cameTo m_doesStandFirst m_stoodBy m_drawn m_ranSteps m_loops m_ran m_told1 m_isTold m_marks (Int32.toInt64 x3) 20 z_27 e_z_27 _ rfl _ rfl) (cV ht mv_X12_tellsBy tb_1726 rfl rfl ⟨Nat.le_of_ble_eq_true rfl, Nat.le_of_ble_eq_true rfl⟩) hP hS hX [0] rfl rfl rfl rfl rfl rfl hl.1 rfl (Nat.le_of_ble_eq_true rfl) dX12_luck_91 ⟨Nat.le_of_ble_eq_true rfl, Nat.le_of_ble_eq_true rfl⟩ (fun H locs hP hS => ?_)
        have hP : PD D A [bl_X12 cy A_m m_at m_names z_27.2.1 z_27.2.2.1 z_27.2.2.2 m_sort m_trayMany m_trays m_tape m_text m_taped m_size m_token m_from m_end m_value m_faultKind m_faultPlace m_faults m_seen m_toldParts m_opened m_depth m_counted m_bestOrder m_standers m_has m_bestHas m_standerMany m_bestCouples m_bestFondness m_cameTo m_doesStandFirst m_stoodBy m_drawn m_ranSteps m_loops m_ran m_told1 m_isTold m_marks] H := hP
        obtain ⟨b_28, e_b_28, h⟩ := bi h
        obtain ⟨-, n_b_28, -⟩ := bz_ok e_b_28
        cases h
        subst hW1
        exact W.zret hx hb hr n_b_28 (fun _ ht9 _ => ⟨⟨_, (), rfl, rfl, hPt ht9 hP.1⟩, hS.F ht9⟩) hS.2.2 dX12_luck_94
      · have h := ie c_26 h
        refine lv_iload_n hx hb dX12_luck_50 rfl (lv_at hl 3 rfl) ?_
        refine lv_aload_n hx hb dX12_luck_51 rfl (lv_at hl 0 rfl) ?_
        refine lv_iload_n hx hb dX12_luck_52 rfl (lv_at hl 1 rfl) ?_
        refine lv_iload hx hb dX12_luck_53 (lv_at hl 4 rfl) ?_
        obtain ⟨z_29, e_z_29, h⟩ := bi h
        refine roVi (rest := [.int x3]) ⟨hx, hb, hml, hown, ht⟩ (c_X12_stands l D cy fu A_m m_at m_names m_status m_top m_bottom m_sort m_trayMany m_trays m_tape m_text m_taped m_size m_token m_from m_end m_value m_faultKind m_faultPlace m_faults m_seen m_toldParts m_opened m_depth m_counted m_bestOrder m_standers m_has m_bestHas m_standerMany m_bestCouples m_bestFondness m_cameTo m_doesStandFirst m_stoodBy m_drawn m_ranSteps m_loops m_ran m_told1 m_isTold m_marks x1 x4 z_29 e_z_29) (cV ht mv_X12_stands tb_1582 rfl rfl ⟨Nat.le_of_ble_eq_true rfl, Nat.le_of_ble_eq_true rfl⟩) (P_sub hP.1 [0] rfl) hX rfl rfl rfl hl.1 rfl (Nat.le_of_ble_eq_true rfl) dX12_luck_55 ⟨Nat.le_of_ble_eq_true rfl, Nat.le_of_ble_eq_true rfl⟩ ?_
        refine lv_if_eq (tgt := 76) hx hb dX12_luck_58 (by decide) (fun c_30 => ?_) (fun c_30 => ?_)
        · have h := it c_30 h
          refine lv_iconst (v := 0) hx hb dX12_luck_76 (by decide) ?_
          refine lv_iadd hx hb dX12_luck_77 ?_
          refine lv_topi (fun x3_31 e_x3_31 => ?_)
          have h := bn e_x3_31 h
          refine lv_istore_n (lv' := [(3, .int x3_31), (0, .ref (A_m 0)), (1, .int x1), (2, .int x2), (4, .int x4)]) hx hb dX12_luck_78 rfl hl (by decide) rfl (fun ls hl => ?_)
          obtain ⟨x4_32, e_x4_32⟩ : ∃ y : Int32, y = x4 + 1 := ⟨_, rfl⟩
          have h := bn e_x4_32 h
          refine lv_iinc (v := x4_32) (lv' := [(4, .int x4_32), (3, .int x3_31), (0, .ref (A_m 0)), (1, .int x1), (2, .int x2)]) hx hb dX12_luck_79 hl (k := 4) rfl (by rw [e_x4_32]; rfl) (by decide) rfl (fun ls hl => ?_)
          refine lv_goto (tgt := 43) hx hb dX12_luck_82 (by decide) ?_
          exact ih43 m_status m_top m_bottom x3_31 x4_32 _ _ hP hS ls (lv_sub hl [2, 3, 4, 1, 0] rfl) h
        · have h := ie c_30 h
          refine lv_aload_n hx hb dX12_luck_61 rfl (lv_at hl 0 rfl) ?_
          refine lv_iload_n hx hb dX12_luck_62 rfl (lv_at hl 1 rfl) ?_
          refine lv_iload hx hb dX12_luck_63 (lv_at hl 4 rfl) ?_
          obtain ⟨z_33, e_z_33, h⟩ := bi h
          refine roVi (rest := [.int x3]) ⟨hx, hb, hml, hown, ht⟩ (c_X12_winner l D cy fu A_m m_at m_names m_status m_top m_bottom m_sort m_trayMany m_trays m_tape m_text m_taped m_size m_token m_from m_end m_value m_faultKind m_faultPlace m_faults m_seen m_toldParts m_opened m_depth m_counted m_bestOrder m_standers m_has m_bestHas m_standerMany m_bestCouples m_bestFondness m_cameTo m_doesStandFirst m_stoodBy m_drawn m_ranSteps m_loops m_ran m_told1 m_isTold m_marks x1 x4 z_33 e_z_33) (cV ht mv_X12_winner tb_1590 rfl rfl ⟨Nat.le_of_ble_eq_true rfl, Nat.le_of_ble_eq_true rfl⟩) (P_sub hP.1 [0] rfl) hX rfl rfl rfl hl.1 rfl (Nat.le_of_ble_eq_true rfl) dX12_luck_65 ⟨Nat.le_of_ble_eq_true rfl, Nat.le_of_ble_eq_true rfl⟩ ?_
          refine lv_iload_n hx hb dX12_luck_68 rfl (lv_at hl 2 rfl) ?_
          refine lv_icmp_ne (tgt := 76) hx hb dX12_luck_69 (by decide) (fun c_34 => ?_) (fun c_34 => ?_)
          · have h := ie c_34 h
            refine lv_iconst (v := 0) hx hb dX12_luck_76 (by decide) ?_
            refine lv_iadd hx hb dX12_luck_77 ?_
            refine lv_topi (fun x3_35 e_x3_35 => ?_)
            have h := bn e_x3_35 h
            refine lv_istore_n (lv' := [(3, .int x3_35), (0, .ref (A_m 0)), (1, .int x1), (2, .int x2), (4, .int x4)]) hx hb dX12_luck_78 rfl hl (by decide) rfl (fun ls hl => ?_)
            obtain ⟨x4_36, e_x4_36⟩ : ∃ y : Int32, y = x4 + 1 := ⟨_, rfl⟩
            have h := bn e_x4_36 h
            refine lv_iinc (v := x4_36) (lv' := [(4, .int x4_36), (3, .int x3_35), (0, .ref (A_m 0)), (1, .int x1), (2, .int x2)]) hx hb dX12_luck_79 hl (k := 4) rfl (by rw [e_x4_36]; rfl) (by decide) rfl (fun ls hl => ?_)
            refine lv_goto (tgt := 43) hx hb dX12_luck_82 (by decide) ?_
            exact ih43 m_status m_top m_bottom x3_35 x4_36 _ _ hP hS ls (lv_sub hl [2, 3, 4, 1, 0] rfl) h
          · have h := it c_34 h
            refine lv_iconst (v := 1) hx hb dX12_luck_72 (by decide) ?_
            refine lv_goto (tgt := 77) hx hb dX12_luck_73 (by decide) ?_
            refine lv_iadd hx hb dX12_luck_77 ?_
            refine lv_topi (fun x3_37 e_x3_37 => ?_)
            have h := bn e_x3_37 h
            refine lv_istore_n (lv' := [(3, .int x3_37), (0, .ref (A_m 0)), (1, .int x1), (2, .int x2), (4, .int x4)]) hx hb dX12_luck_78 rfl hl (by decide) rfl (fun ls hl => ?_)
            obtain ⟨x4_38, e_x4_38⟩ : ∃ y : Int32, y = x4 + 1 := ⟨_, rfl⟩
            have h := bn e_x4_38 h
            refine lv_iinc (v := x4_38) (lv' := [(4, .int x4_38), (3, .int x3_37), (0, .ref (A_m 0)), (1, .int x1), (2, .int x2)]) hx hb dX12_luck_79 hl (k := 4) rfl (by rw [e_x4_38]; rfl) (by decide) rfl (fun ls hl => ?_)
            refine lv_goto (tgt := 43) hx hb dX12_luck_82 (by decide) ?_
            exact ih43 m_status m_top m_bottom x3_37 x4_38 _ _ hP hS ls (lv_sub hl [2, 3, 4, 1, 0] rfl) h
  unfold f_X12_luck at h
  refine lv_aload_n hx hb dX12_luck_0 rfl (lv_at hl 0 rfl) ?_
  refine lv_iload_n hx hb dX12_luck_1 rfl (lv_at hl 1 rfl) ?_
  refine lv_iload_n hx hb dX12_luck_2 rfl (lv_at hl 2 rfl) ?_
  obtain ⟨z_39, e_z_39, h⟩ := bi h
  refine roVi (rest := []) ⟨hx, hb, hml, hown, ht⟩ (c_X12_areTwo l D cy fu A_m m_at m_names m_status m_top m_bottom m_sort m_trayMany m_trays m_tape m_text m_taped m_size m_token m_from m_end m_value m_faultKind m_faultPlace m_faults m_seen m_toldParts m_opened m_depth m_counted m_bestOrder m_standers m_has m_bestHas m_standerMany m_bestCouples m_bestFondness m_cameTo m_doesStandFirst m_stoodBy m_drawn m_ranSteps m_loops m_ran m_told1 m_isTold m_marks x1 x2 z_39 e_z_39) (cV ht mv_X12_areTwo tb_1834 rfl rfl ⟨Nat.le_of_ble_eq_true rfl, Nat.le_of_ble_eq_true rfl⟩) (P_sub hP.1 [0] rfl) hX rfl rfl rfl hl.1 rfl (Nat.le_of_ble_eq_true rfl) dX12_luck_3 ⟨Nat.le_of_ble_eq_true rfl, Nat.le_of_ble_eq_true rfl⟩ ?_
  refine lv_if_ne (tgt := 15) hx hb dX12_luck_6 (by decide) (fun c_40 => ?_) (fun c_40 => ?_)
  · have h := ie c_40 h
    refine lv_aload_n hx hb dX12_luck_15 rfl (lv_at hl 0 rfl) ?_
    refine lv_iload_n hx hb dX12_luck_16 rfl (lv_at hl 1 rfl) ?_
    obtain ⟨z_41, e_z_41, h⟩ := bi h
    refine roVi (rest := []) ⟨hx, hb, hml, hown, ht⟩ (c_X12_isAlive l D cy fu A_m m_at m_names m_status m_top m_bottom m_sort m_trayMany m_trays m_tape m_text m_taped m_size m_token m_from m_end m_value m_faultKind m_faultPlace m_faults m_seen m_toldParts m_opened m_depth m_counted m_bestOrder m_standers m_has m_bestHas m_standerMany m_bestCouples m_bestFondness m_cameTo m_doesStandFirst m_stoodBy m_drawn m_ranSteps m_loops m_ran m_told1 m_isTold m_marks x1 z_41 e_z_41) (cV ht mv_X12_isAlive tb_1531 rfl rfl ⟨Nat.le_of_ble_eq_true rfl, Nat.le_of_ble_eq_true rfl⟩) (P_sub hP.1 [0] rfl) hX rfl rfl rfl hl.1 rfl (Nat.le_of_ble_eq_true rfl) dX12_luck_17 ⟨Nat.le_of_ble_eq_true rfl, Nat.le_of_ble_eq_true rfl⟩ ?_
    refine lv_if_eq (tgt := 31) hx hb dX12_luck_20 (by decide) (fun c_42 => ?_) (fun c_42 => ?_)
    · have h := it c_42 h
      refine lv_aload_n hx hb dX12_luck_31 rfl (lv_at hl 0 rfl) ?_
      refine lv_bipush (v := 7) hx hb dX12_luck_32 (by decide) ?_
      obtain ⟨z_43, e_z_43, h⟩ := bi h
      refine efVi (rest := []) ⟨hx, hb, hml, hown, ht⟩ (c_X12_is l D cy fu A_m m_at m_names m_status m_top m_bottom m_sort m_trayMany m_trays m_tape m_text m_taped m_size m_token m_from m_end m_value m_faultKind m_faultPlace m_faults m_seen m_toldParts m_opened m_depth m_counted m_bestOrder m_standers m_has m_bestHas m_standerMany m_bestCouples m_bestFondness m_cameTo m_doesStandFirst m_stoodBy m_drawn m_ranSteps m_loops m_ran m_told1 m_isTold m_marks 7 z_43 e_z_43 _ rfl _ rfl) (cV ht mv_X12_is tb_1372 rfl rfl ⟨Nat.le_of_ble_eq_true rfl, Nat.le_of_ble_eq_true rfl⟩) hP hS hX [0] rfl rfl rfl rfl rfl rfl hl.1 rfl (Nat.le_of_ble_eq_true rfl) dX12_luck_34 ⟨Nat.le_of_ble_eq_true rfl, Nat.le_of_ble_eq_true rfl⟩ (fun H locs hP hS => ?_)
      have hP : PD D A [bl_X12 cy A_m m_at m_names z_43.2 m_top m_bottom m_sort m_trayMany m_trays m_tape m_text m_taped m_size m_token m_from m_end m_value m_faultKind m_faultPlace m_faults m_seen m_toldParts m_opened m_depth m_counted m_bestOrder m_standers m_has m_bestHas m_standerMany m_bestCouples m_bestFondness m_cameTo m_doesStandFirst m_stoodBy m_drawn m_ranSteps m_loops m_ran m_told1 m_isTold m_marks] H := hP
      obtain ⟨b_44, e_b_44, h⟩ := bi h
      obtain ⟨-, n_b_44, -⟩ := bz_ok e_b_44
      cases h
      subst hW1
      exact W.zret hx hb hr n_b_44 (fun _ ht9 _ => ⟨⟨_, (), rfl, rfl, hPt ht9 hP.1⟩, hS.F ht9⟩) hS.2.2 dX12_luck_37
    · have h := ie c_42 h
      refine lv_aload_n hx hb dX12_luck_23 rfl (lv_at hl 0 rfl) ?_
      refine lv_iload_n hx hb dX12_luck_24 rfl (lv_at hl 2 rfl) ?_
      obtain ⟨z_45, e_z_45, h⟩ := bi h
      refine roVi (rest := []) ⟨hx, hb, hml, hown, ht⟩ (c_X12_isAlive l D cy fu A_m m_at m_names m_status m_top m_bottom m_sort m_trayMany m_trays m_tape m_text m_taped m_size m_token m_from m_end m_value m_faultKind m_faultPlace m_faults m_seen m_toldParts m_opened m_depth m_counted m_bestOrder m_standers m_has m_bestHas m_standerMany m_bestCouples m_bestFondness m_cameTo m_doesStandFirst m_stoodBy m_drawn m_ranSteps m_loops m_ran m_told1 m_isTold m_marks x2 z_45 e_z_45) (cV ht mv_X12_isAlive tb_1531 rfl rfl ⟨Nat.le_of_ble_eq_true rfl, Nat.le_of_ble_eq_true rfl⟩) (P_sub hP.1 [0] rfl) hX rfl rfl rfl hl.1 rfl (Nat.le_of_ble_eq_true rfl) dX12_luck_25 ⟨Nat.le_of_ble_eq_true rfl, Nat.le_of_ble_eq_true rfl⟩ ?_
      refine lv_if_ne (tgt := 38) hx hb dX12_luck_28 (by decide) (fun c_46 => ?_) (fun c_46 => ?_)
      · have h := ie c_46 h
        refine lv_iconst (v := 0) hx hb dX12_luck_38 (by decide) ?_
        refine lv_istore_n (lv' := [(3, .int 0), (0, .ref (A_m 0)), (1, .int x1), (2, .int x2)]) hx hb dX12_luck_39 rfl hl (by decide) rfl (fun ls hl => ?_)
        refine lv_iconst (v := 1) hx hb dX12_luck_40 (by decide) ?_
        refine lv_istore (lv' := [(4, .int 1), (3, .int 0), (0, .ref (A_m 0)), (1, .int x1), (2, .int x2)]) hx hb dX12_luck_41 hl (by decide) rfl (fun ls hl => ?_)
        exact l43 fu m_status m_top m_bottom 0 1 _ _ hP hS ls (lv_sub hl [2, 3, 4, 1, 0] rfl) h
      · have h := it c_46 h
        refine lv_aload_n hx hb dX12_luck_31 rfl (lv_at hl 0 rfl) ?_
        refine lv_bipush (v := 7) hx hb dX12_luck_32 (by decide) ?_
        obtain ⟨z_47, e_z_47, h⟩ := bi h
        refine efVi (rest := []) ⟨hx, hb, hml, hown, ht⟩ (c_X12_is l D cy fu A_m m_at m_names m_status m_top m_bottom m_sort m_trayMany m_trays m_tape m_text m_taped m_size m_token m_from m_end m_value m_faultKind m_faultPlace m_faults m_seen m_toldParts m_opened m_depth m_counted m_bestOrder m_standers m_has m_bestHas m_standerMany m_bestCouples m_bestFondness m_cameTo m_doesStandFirst m_stoodBy m_drawn m_ranSteps m_loops m_ran m_told1 m_isTold m_marks 7 z_47 e_z_47 _ rfl _ rfl) (cV ht mv_X12_is tb_1372 rfl rfl ⟨Nat.le_of_ble_eq_true rfl, Nat.le_of_ble_eq_true rfl⟩) hP hS hX [0] rfl rfl rfl rfl rfl rfl hl.1 rfl (Nat.le_of_ble_eq_true rfl) dX12_luck_34 ⟨Nat.le_of_ble_eq_true rfl, Nat.le_of_ble_eq_true rfl⟩ (fun H locs hP hS => ?_)
        have hP : PD D A [bl_X12 cy A_m m_at m_names z_47.2 m_top m_bottom m_sort m_trayMany m_trays m_tape m_text m_taped m_size m_token m_from m_end m_value m_faultKind m_faultPlace m_faults m_seen m_toldParts m_opened m_depth m_counted m_bestOrder m_standers m_has m_bestHas m_standerMany m_bestCouples m_bestFondness m_cameTo m_doesStandFirst m_stoodBy m_drawn m_ranSteps m_loops m_ran m_told1 m_isTold m_marks] H := hP
        obtain ⟨b_48, e_b_48, h⟩ := bi h
        obtain ⟨-, n_b_48, -⟩ := bz_ok e_b_48
        cases h
        subst hW1
        exact W.zret hx hb hr n_b_48 (fun _ ht9 _ => ⟨⟨_, (), rfl, rfl, hPt ht9 hP.1⟩, hS.F ht9⟩) hS.2.2 dX12_luck_37
  · have h := it c_40 h
    refine lv_aload_n hx hb dX12_luck_9 rfl (lv_at hl 0 rfl) ?_
    refine lv_iconst (v := 1) hx hb dX12_luck_10 (by decide) ?_
    obtain ⟨z_49, e_z_49, h⟩ := bi h
    refine efVi (rest := []) ⟨hx, hb, hml, hown, ht⟩ (c_X12_is l D cy fu A_m m_at m_names m_status m_top m_bottom m_sort m_trayMany m_trays m_tape m_text m_taped m_size m_token m_from m_end m_value m_faultKind m_faultPlace m_faults m_seen m_toldParts m_opened m_depth m_counted m_bestOrder m_standers m_has m_bestHas m_standerMany m_bestCouples m_bestFondness m_cameTo m_doesStandFirst m_stoodBy m_drawn m_ranSteps m_loops m_ran m_told1 m_isTold m_marks 1 z_49 e_z_49 _ rfl _ rfl) (cV ht mv_X12_is tb_1372 rfl rfl ⟨Nat.le_of_ble_eq_true rfl, Nat.le_of_ble_eq_true rfl⟩) hP hS hX [0] rfl rfl rfl rfl rfl rfl hl.1 rfl (Nat.le_of_ble_eq_true rfl) dX12_luck_11 ⟨Nat.le_of_ble_eq_true rfl, Nat.le_of_ble_eq_true rfl⟩ (fun H locs hP hS => ?_)
    have hP : PD D A [bl_X12 cy A_m m_at m_names z_49.2 m_top m_bottom m_sort m_trayMany m_trays m_tape m_text m_taped m_size m_token m_from m_end m_value m_faultKind m_faultPlace m_faults m_seen m_toldParts m_opened m_depth m_counted m_bestOrder m_standers m_has m_bestHas m_standerMany m_bestCouples m_bestFondness m_cameTo m_doesStandFirst m_stoodBy m_drawn m_ranSteps m_loops m_ran m_told1 m_isTold m_marks] H := hP
    obtain ⟨b_50, e_b_50, h⟩ := bi h
    obtain ⟨-, n_b_50, -⟩ := bz_ok e_b_50
    cases h
    subst hW1
    exact W.zret hx hb hr n_b_50 (fun _ ht9 _ => ⟨⟨_, (), rfl, rfl, hPt ht9 hP.1⟩, hS.F ht9⟩) hS.2.2 dX12_luck_14
theorem dX12_hopeful_0 : decode cX12_hopeful 0 = .ok (.iconst 0, 1) := by decide +kernel
theorem dX12_hopeful_1 : decode cX12_hopeful 1 = .ok (.istore_n 1, 1) := by decide +kernel
theorem dX12_hopeful_2 : decode cX12_hopeful 2 = .ok (.iconst 0, 1) := by decide +kernel
theorem dX12_hopeful_3 : decode cX12_hopeful 3 = .ok (.istore_n 2, 1) := by decide +kernel
theorem dX12_hopeful_4 : decode cX12_hopeful 4 = .ok (.iload_n 2, 1) := by decide +kernel
theorem dX12_hopeful_5 : decode cX12_hopeful 5 = .ok (.aload_n 0, 1) := by decide +kernel
theorem dX12_hopeful_6 : decode cX12_hopeful 6 = .ok (.getfield 7, 3) := by decide +kernel
theorem dX12_hopeful_9 : decode cX12_hopeful 9 = .ok (.iconst 0, 1) := by decide +kernel
theorem dX12_hopeful_10 : decode cX12_hopeful 10 = .ok (.iaload, 1) := by decide +kernel
theorem dX12_hopeful_11 : decode cX12_hopeful 11 = .ok (.if_icmp .ge 69, 3) := by decide +kernel
theorem dX12_hopeful_14 : decode cX12_hopeful 14 = .ok (.iconst 1, 1) := by decide +kernel
theorem dX12_hopeful_15 : decode cX12_hopeful 15 = .ok (.istore_n 3, 1) := by decide +kernel
theorem dX12_hopeful_16 : decode cX12_hopeful 16 = .ok (.iload_n 3, 1) := by decide +kernel
theorem dX12_hopeful_17 : decode cX12_hopeful 17 = .ok (.bipush 99, 2) := by decide +kernel
theorem dX12_hopeful_19 : decode cX12_hopeful 19 = .ok (.if_icmp .gt 55, 3) := by decide +kernel
theorem dX12_hopeful_22 : decode cX12_hopeful 22 = .ok (.aload_n 0, 1) := by decide +kernel
theorem dX12_hopeful_23 : decode cX12_hopeful 23 = .ok (.iload_n 2, 1) := by decide +kernel
theorem dX12_hopeful_24 : decode cX12_hopeful 24 = .ok (.invokevirtual 253, 3) := by decide +kernel
theorem dX12_hopeful_27 : decode cX12_hopeful 27 = .ok (.ifCond .eq 47, 3) := by decide +kernel
theorem dX12_hopeful_30 : decode cX12_hopeful 30 = .ok (.aload_n 0, 1) := by decide +kernel
theorem dX12_hopeful_31 : decode cX12_hopeful 31 = .ok (.iload_n 2, 1) := by decide +kernel
theorem dX12_hopeful_32 : decode cX12_hopeful 32 = .ok (.iload_n 3, 1) := by decide +kernel
theorem dX12_hopeful_33 : decode cX12_hopeful 33 = .ok (.invokevirtual 271, 3) := by decide +kernel
theorem dX12_hopeful_36 : decode cX12_hopeful 36 = .ok (.ifCond .eq 12, 3) := by decide +kernel
theorem dX12_hopeful_39 : decode cX12_hopeful 39 = .ok (.aload_n 0, 1) := by decide +kernel
theorem dX12_hopeful_40 : decode cX12_hopeful 40 = .ok (.iload_n 2, 1) := by decide +kernel
theorem dX12_hopeful_41 : decode cX12_hopeful 41 = .ok (.iload_n 3, 1) := by decide +kernel
theorem dX12_hopeful_42 : decode cX12_hopeful 42 = .ok (.invokevirtual 286, 3) := by decide +kernel
theorem dX12_hopeful_45 : decode cX12_hopeful 45 = .ok (.goto 4, 3) := by decide +kernel
theorem dX12_hopeful_48 : decode cX12_hopeful 48 = .ok (.iconst (-1), 1) := by decide +kernel
theorem dX12_hopeful_49 : decode cX12_hopeful 49 = .ok (.istore 4, 2) := by decide +kernel
theorem dX12_hopeful_51 : decode cX12_hopeful 51 = .ok (.iload_n 1, 1) := by decide +kernel
theorem dX12_hopeful_52 : decode cX12_hopeful 52 = .ok (.iload 4, 2) := by decide +kernel
theorem dX12_hopeful_54 : decode cX12_hopeful 54 = .ok (.iconst (-1), 1) := by decide +kernel
theorem dX12_hopeful_55 : decode cX12_hopeful 55 = .ok (.if_icmp .ne 7, 3) := by decide +kernel
theorem dX12_hopeful_58 : decode cX12_hopeful 58 = .ok (.iconst 0, 1) := by decide +kernel
theorem dX12_hopeful_59 : decode cX12_hopeful 59 = .ok (.goto 7, 3) := by decide +kernel
theorem dX12_hopeful_62 : decode cX12_hopeful 62 = .ok (.iconst 1, 1) := by decide +kernel
theorem dX12_hopeful_63 : decode cX12_hopeful 63 = .ok (.iload 4, 2) := by decide +kernel
theorem dX12_hopeful_65 : decode cX12_hopeful 65 = .ok (.ishl, 1) := by decide +kernel
theorem dX12_hopeful_66 : decode cX12_hopeful 66 = .ok (.ior, 1) := by decide +kernel
theorem dX12_hopeful_67 : decode cX12_hopeful 67 = .ok (.istore_n 1, 1) := by decide +kernel
theorem dX12_hopeful_68 : decode cX12_hopeful 68 = .ok (.iinc 3 1, 3) := by decide +kernel
theorem dX12_hopeful_71 : decode cX12_hopeful 71 = .ok (.goto (-55), 3) := by decide +kernel
theorem dX12_hopeful_74 : decode cX12_hopeful 74 = .ok (.iinc 2 1, 3) := by decide +kernel
theorem dX12_hopeful_77 : decode cX12_hopeful 77 = .ok (.goto (-73), 3) := by decide +kernel
theorem dX12_hopeful_80 : decode cX12_hopeful 80 = .ok (.aload_n 0, 1) := by decide +kernel
theorem dX12_hopeful_81 : decode cX12_hopeful 81 = .ok (.iload_n 1, 1) := by decide +kernel
theorem dX12_hopeful_82 : decode cX12_hopeful 82 = .ok (.invokevirtual 88, 3) := by decide +kernel
theorem dX12_hopeful_85 : decode cX12_hopeful 85 = .ok (.ireturn, 1) := by decide +kernel
theorem mv_X12_hopeful : MV yX12_hopeful RX12 cX12_hopeful 5 (some .int) 0 := ⟨tb_1861, tb_1859, tb_1860, tb_16, by decide +kernel, by decide +kernel, by decide +kernel⟩
def f_X12_hopeful_j49 (fu : Nat) (m_at : Nat → Int32) (k4 : Int32 → Int32 → Int32 → Option (Int32 × Int32)) (k16 : Int32 → Int32 → Int32 → Int32 → Option (Int32 × Int32)) (m_status : Int32) (x1 : Int32) (x2 : Int32) (x3 : Int32) (s0 : Int32) : Option (Int32 × Int32) := (if s0 = (-1) then bnd (x1 ||| 0) fun x1_20 => bnd (x3 + 1) fun x3_21 => k16 m_status x1_20 x2 x3_21 else bnd (x1 ||| ((1 : Int32) <<< (s0 &&& 31))) fun x1_18 => bnd (x3 + 1) fun x3_19 => k16 m_status x1_18 x2 x3_19)
def f_X12_hopeful_b16 (fu : Nat) (m_at : Nat → Int32) (k4 : Int32 → Int32 → Int32 → Option (Int32 × Int32)) (k16 : Int32 → Int32 → Int32 → Int32 → Option (Int32 × Int32)) (m_status : Int32) (x1 : Int32) (x2 : Int32) (x3 : Int32) : Option (Int32 × Int32) := (if 99 < x3 then bnd (x2 + 1) fun x2_23 => k4 m_status x1 x2_23 else (f_X12_isAlive fu m_at x2).bind fun z_24 => (if z_24 = 0 then bnd (x2 + 1) fun x2_26 => k4 m_status x1 x2_26 else (f_X12_stands fu m_at x2 x3).bind fun z_27 => (if z_27 = 0 then f_X12_hopeful_j49 fu m_at k4 k16 m_status x1 x2 x3 (-1) else (f_X12_winner fu m_at x2 x3).bind fun z_29 => f_X12_hopeful_j49 fu m_at k4 k16 m_status x1 x2 x3 z_29)))
def f_X12_hopeful_l16 (fu : Nat) (m_at : Nat → Int32) (k4 : Int32 → Int32 → Int32 → Option (Int32 × Int32)) : Nat → Int32 → Int32 → Int32 → Int32 → Option (Int32 × Int32)
  | 0, _, _, _, _ => none
  | n + 1, m_status, x1, x2, x3 => f_X12_hopeful_b16 fu m_at k4 (f_X12_hopeful_l16 fu m_at k4 n) m_status x1 x2 x3
def f_X12_hopeful_b4 (fu : Nat) (m_at : Nat → Int32) (k4 : Int32 → Int32 → Int32 → Option (Int32 × Int32)) (m_status : Int32) (x1 : Int32) (x2 : Int32) : Option (Int32 × Int32) := (rdI m_at 3648 0).bind fun y_30 => (if y_30 ≤ x2 then (f_X12_gives fu m_status x1).bind fun z_32 => some (z_32.1, z_32.2) else f_X12_hopeful_l16 fu m_at k4 fu m_status x1 x2 1)
def f_X12_hopeful_l4 (fu : Nat) (m_at : Nat → Int32) : Nat → Int32 → Int32 → Int32 → Option (Int32 × Int32)
  | 0, _, _, _ => none
  | n + 1, m_status, x1, x2 => f_X12_hopeful_b4 fu m_at (f_X12_hopeful_l4 fu m_at n) m_status x1 x2
def f_X12_hopeful (fu : Nat) (m_at : Nat → Int32) (m_status : Int32) : Option (Int32 × Int32) := f_X12_hopeful_l4 fu m_at fu m_status 0 0
abbrev rm_X12_hopeful : Room := { frames := 6, cells := 0, slots := 0, locals := 139 }
set_option maxHeartbeats 4000000 in
set_option maxRecDepth 100000 in
theorem c_X12_hopeful (l : Launch) (D : va_G) (cy : Nat → ClassId) (fu : Nat) (A_m : Nat → Nat) (m_at : Nat → Int32) (m_names : Nat → Int64) (m_status : Int32) (m_top : Int64) (m_bottom : Int64) (m_sort : Nat → Int32) (m_trayMany : Nat → Int32) (m_trays : Nat → Int64) (m_tape : Nat → Int32) (m_text : Nat → Int32) (m_taped : Int32) (m_size : Int32) (m_token : Int32) (m_from : Int32) (m_end : Int32) (m_value : Int32) (m_faultKind : Int32) (m_faultPlace : Int32) (m_faults : Int32) (m_seen : Int32) (m_toldParts : Int32) (m_opened : Nat → Int32) (m_depth : Int32) (m_counted : Int32) (m_bestOrder : Int32) (m_standers : Nat → Int32) (m_has : Nat → Int32) (m_bestHas : Nat → Int32) (m_standerMany : Int32) (m_bestCouples : Int32) (m_bestFondness : Int32) (m_cameTo : Nat → Int32) (m_doesStandFirst : Int32) (m_stoodBy : Nat → Int64) (m_drawn : Int32) (m_ranSteps : Int32) (m_loops : Nat → Int32) (m_ran : Nat → Int32) (m_told1 : Nat → Int32) (m_isTold : Int32) (m_marks : Int32) (res : Int32 × Int32) (h : f_X12_hopeful fu m_at m_status = some res) (A : Nat → Prop) (hA : A = adr [bl_X12 cy A_m m_at m_names m_status m_top m_bottom m_sort m_trayMany m_trays m_tape m_text m_taped m_size m_token m_from m_end m_value m_faultKind m_faultPlace m_faults m_seen m_toldParts m_opened m_depth m_counted m_bestOrder m_standers m_has m_bestHas m_standerMany m_bestCouples m_bestFondness m_cameTo m_doesStandFirst m_stoodBy m_drawn m_ranSteps m_loops m_ran m_told1 m_isTold m_marks]) (W1 : List va_W) (hW1 : W1 = [bl_X12 cy A_m m_at m_names res.2 m_top m_bottom m_sort m_trayMany m_trays m_tape m_text m_taped m_size m_token m_from m_end m_value m_faultKind m_faultPlace m_faults m_seen m_toldParts m_opened m_depth m_counted m_bestOrder m_standers m_has m_bestHas m_standerMany m_bestCouples m_bestFondness m_cameTo m_doesStandFirst m_stoodBy m_drawn m_ranSteps m_loops m_ran m_told1 m_isTold m_marks]) : Met l yX12_hopeful (WW yX12_hopeful cX12_hopeful 5 (some .int)) rm_X12_hopeful (Ed D cy [.ref (A_m 0)] [bl_X12 cy A_m m_at m_names m_status m_top m_bottom m_sort m_trayMany m_trays m_tape m_text m_taped m_size m_token m_from m_end m_value m_faultKind m_faultPlace m_faults m_seen m_toldParts m_opened m_depth m_counted m_bestOrder m_standers m_has m_bestHas m_standerMany m_bestCouples m_bestFondness m_cameTo m_doesStandFirst m_stoodBy m_drawn m_ranSteps m_loops m_ran m_told1 m_isTold m_marks]) (Qei D res.1 A W1) 0 0 A := by
  refine Met.ofW (cc := cX12_hopeful) (maxL := 5) (ret := (some .int)) (by decide) rfl ?_
  intro p e s m args below meth c s₁ B hml hv
  obtain ⟨hargs, hP, hX, hD0⟩ := hv
  have hx := B.exec
  have hb := B.bytes
  have hr := B.returns
  have ht : ∀ w ∈ lw_gd, w.before args s = true := fun w hw => atoms_spec (ws := WW yX12_hopeful cX12_hopeful 5 (some .int)) B.pre w (List.mem_cons_of_mem _ hw)
  have hown : s.vm.findClass RX12 = some m.cls := findClass_of_methodNamed B.named
  have hlocks := B.notSynchronized
  have hP : PD D A [bl_X12 cy A_m m_at m_names m_status m_top m_bottom m_sort m_trayMany m_trays m_tape m_text m_taped m_size m_token m_from m_end m_value m_faultKind m_faultPlace m_faults m_seen m_toldParts m_opened m_depth m_counted m_bestOrder m_standers m_has m_bestHas m_standerMany m_bestCouples m_bestFondness m_cameTo m_doesStandFirst m_stoodBy m_drawn m_ranSteps m_loops m_ran m_told1 m_isTold m_marks] s.heap := ⟨hP, by rw [hA]; exact hD0.own⟩
  have hS : va_S A s.heap s.heap [] := va_S.rf
  obtain ⟨ls, hl, hent⟩ := ent (m := m) (n := 5) hargs (Nat.le_of_ble_eq_true rfl) (lv := [(0, .ref (A_m 0))]) rfl
  rw [hent]
  clear hent
  have l4 : ∀ (n4 : Nat) (m_status : Int32) (x1 : Int32) (x2 : Int32) (H : Heap) (locs : List Loc) (_ : PD D A [bl_X12 cy A_m m_at m_names m_status m_top m_bottom m_sort m_trayMany m_trays m_tape m_text m_taped m_size m_token m_from m_end m_value m_faultKind m_faultPlace m_faults m_seen m_toldParts m_opened m_depth m_counted m_bestOrder m_standers m_has m_bestHas m_standerMany m_bestCouples m_bestFondness m_cameTo m_doesStandFirst m_stoodBy m_drawn m_ranSteps m_loops m_ran m_told1 m_isTold m_marks] H) (_ : va_S A s.heap H locs) (ls : Array Slot), lv_has ls 5 [(0, .ref (A_m 0)), (1, .int x1), (2, .int x2)] → f_X12_hopeful_l4 fu m_at n4 m_status x1 x2 = some res → W p l e (headSpec (WW yX12_hopeful cX12_hopeful 5 (some .int)) rm_X12_hopeful).room s m args below meth c H locs 0 0 (MQ below (Qei D res.1 A W1) args s 0 0 A) (F0 m 4 ls []) := by
    intro n4
    induction n4 with
    | zero => intro m_status x1 x2 H locs hP hS ls hl h; cases h
    | succ n4 ih4 =>
      have l16 : ∀ (n16 : Nat) (m_status : Int32) (x1 : Int32) (x2 : Int32) (x3 : Int32) (H : Heap) (locs : List Loc) (_ : PD D A [bl_X12 cy A_m m_at m_names m_status m_top m_bottom m_sort m_trayMany m_trays m_tape m_text m_taped m_size m_token m_from m_end m_value m_faultKind m_faultPlace m_faults m_seen m_toldParts m_opened m_depth m_counted m_bestOrder m_standers m_has m_bestHas m_standerMany m_bestCouples m_bestFondness m_cameTo m_doesStandFirst m_stoodBy m_drawn m_ranSteps m_loops m_ran m_told1 m_isTold m_marks] H) (_ : va_S A s.heap H locs) (ls : Array Slot), lv_has ls 5 [(0, .ref (A_m 0)), (1, .int x1), (2, .int x2), (3, .int x3)] → f_X12_hopeful_l16 fu m_at (f_X12_hopeful_l4 fu m_at n4) n16 m_status x1 x2 x3 = some res → W p l e (headSpec (WW yX12_hopeful cX12_hopeful 5 (some .int)) rm_X12_hopeful).room s m args below meth c H locs 0 0 (MQ below (Qei D res.1 A W1) args s 0 0 A) (F0 m 16 ls []) := by
        intro n16
        induction n16 with
        | zero => intro m_status x1 x2 x3 H locs hP hS ls hl h; cases h
        | succ n16 ih16 =>
          have j49 : ∀ (m_status : Int32) (x1 : Int32) (x2 : Int32) (x3 : Int32) (s0 : Int32) (H : Heap) (locs : List Loc) (_ : PD D A [bl_X12 cy A_m m_at m_names m_status m_top m_bottom m_sort m_trayMany m_trays m_tape m_text m_taped m_size m_token m_from m_end m_value m_faultKind m_faultPlace m_faults m_seen m_toldParts m_opened m_depth m_counted m_bestOrder m_standers m_has m_bestHas m_standerMany m_bestCouples m_bestFondness m_cameTo m_doesStandFirst m_stoodBy m_drawn m_ranSteps m_loops m_ran m_told1 m_isTold m_marks] H) (_ : va_S A s.heap H locs) (ls : Array Slot), lv_has ls 5 [(0, .ref (A_m 0)), (1, .int x1), (2, .int x2), (3, .int x3)] → f_X12_hopeful_j49 fu m_at (f_X12_hopeful_l4 fu m_at n4) (f_X12_hopeful_l16 fu m_at (f_X12_hopeful_l4 fu m_at n4) n16) m_status x1 x2 x3 s0 = some res → W p l e (headSpec (WW yX12_hopeful cX12_hopeful 5 (some .int)) rm_X12_hopeful).room s m args below meth c H locs 0 0 (MQ below (Qei D res.1 A W1) args s 0 0 A) (F0 m 49 ls [.int s0]) := by
            intro m_status x1 x2 x3 s0 H locs hP hS ls hl h
            unfold f_X12_hopeful_j49 at h
            refine lv_istore (lv' := [(4, .int s0), (0, .ref (A_m 0)), (1, .int x1), (2, .int x2), (3, .int x3)]) hx hb dX12_hopeful_49 hl (by decide) rfl (fun ls hl => ?_)
            refine lv_iload_n hx hb dX12_hopeful_51 rfl (lv_at hl 2 rfl) ?_
            refine lv_iload hx hb dX12_hopeful_52 (lv_at hl 0 rfl) ?_
            refine lv_iconst (v := (-1)) hx hb dX12_hopeful_54 (by decide) ?_
            refine lv_icmp_ne (tgt := 62) hx hb dX12_hopeful_55 (by decide) (fun c_17 => ?_) (fun c_17 => ?_)
            · have h := ie c_17 h
              refine lv_iconst (v := 1) hx hb dX12_hopeful_62 (by decide) ?_
              refine lv_iload hx hb dX12_hopeful_63 (lv_at hl 0 rfl) ?_
              refine lv_ishl hx hb dX12_hopeful_65 ?_
              refine lv_ior hx hb dX12_hopeful_66 ?_
              refine lv_topi (fun x1_18 e_x1_18 => ?_)
              have h := bn e_x1_18 h
              refine lv_istore_n (lv' := [(1, .int x1_18), (4, .int s0), (0, .ref (A_m 0)), (2, .int x2), (3, .int x3)]) hx hb dX12_hopeful_67 rfl hl (by decide) rfl (fun ls hl => ?_)
              obtain ⟨x3_19, e_x3_19⟩ : ∃ y : Int32, y = x3 + 1 := ⟨_, rfl⟩
              have h := bn e_x3_19 h
              refine lv_iinc (v := x3_19) (lv' := [(3, .int x3_19), (1, .int x1_18), (4, .int s0), (0, .ref (A_m 0)), (2, .int x2)]) hx hb dX12_hopeful_68 hl (k := 4) rfl (by rw [e_x3_19]; rfl) (by decide) rfl (fun ls hl => ?_)
              refine lv_goto (tgt := 16) hx hb dX12_hopeful_71 (by decide) ?_
              exact ih16 m_status x1_18 x2 x3_19 _ _ hP hS ls (lv_sub hl [3, 1, 4, 0] rfl) h
            · have h := it c_17 h
              refine lv_iconst (v := 0) hx hb dX12_hopeful_58 (by decide) ?_
              refine lv_goto (tgt := 66) hx hb dX12_hopeful_59 (by decide) ?_
              refine lv_ior hx hb dX12_hopeful_66 ?_
              refine lv_topi (fun x1_20 e_x1_20 => ?_)
              have h := bn e_x1_20 h
              refine lv_istore_n (lv' := [(1, .int x1_20), (4, .int s0), (0, .ref (A_m 0)), (2, .int x2), (3, .int x3)]) hx hb dX12_hopeful_67 rfl hl (by decide) rfl (fun ls hl => ?_)
              obtain ⟨x3_21, e_x3_21⟩ : ∃ y : Int32, y = x3 + 1 := ⟨_, rfl⟩
              have h := bn e_x3_21 h
              refine lv_iinc (v := x3_21) (lv' := [(3, .int x3_21), (1, .int x1_20), (4, .int s0), (0, .ref (A_m 0)), (2, .int x2)]) hx hb dX12_hopeful_68 hl (k := 4) rfl (by rw [e_x3_21]; rfl) (by decide) rfl (fun ls hl => ?_)
              refine lv_goto (tgt := 16) hx hb dX12_hopeful_71 (by decide) ?_
              exact ih16 m_status x1_20 x2 x3_21 _ _ hP hS ls (lv_sub hl [3, 1, 4, 0] rfl) h
          intro m_status x1 x2 x3 H locs hP hS ls hl h
          have h : f_X12_hopeful_b16 fu m_at (f_X12_hopeful_l4 fu m_at n4) (f_X12_hopeful_l16 fu m_at (f_X12_hopeful_l4 fu m_at n4) n16) m_status x1 x2 x3 = some res := h
          unfold f_X12_hopeful_b16 at h
          refine lv_iload_n hx hb dX12_hopeful_16 rfl (lv_at hl 3 rfl) ?_
          refine lv_bipush (v := 99) hx hb dX12_hopeful_17 (by decide) ?_
          refine lv_icmp_gt (tgt := 74) hx hb dX12_hopeful_19 (by decide) (fun c_22 => ?_) (fun c_22 => ?_)
          · have h := it c_22 h
            obtain ⟨x2_23, e_x2_23⟩ : ∃ y : Int32, y = x2 + 1 := ⟨_, rfl⟩
            have h := bn e_x2_23 h
            refine lv_iinc (v := x2_23) (lv' := [(2, .int x2_23), (0, .ref (A_m 0)), (1, .int x1), (3, .int x3)]) hx hb dX12_hopeful_74 hl (k := 2) rfl (by rw [e_x2_23]; rfl) (by decide) rfl (fun ls hl => ?_)
            refine lv_goto (tgt := 4) hx hb dX12_hopeful_77 (by decide) ?_
            exact ih4 m_status x1 x2_23 _ _ hP hS ls (lv_sub hl [1, 2, 0] rfl) h
          · have h := ie c_22 h
            refine lv_aload_n hx hb dX12_hopeful_22 rfl (lv_at hl 0 rfl) ?_
            refine lv_iload_n hx hb dX12_hopeful_23 rfl (lv_at hl 2 rfl) ?_
            obtain ⟨z_24, e_z_24, h⟩ := bi h
            refine roVi (rest := []) ⟨hx, hb, hml, hown, ht⟩ (c_X12_isAlive l D cy fu A_m m_at m_names m_status m_top m_bottom m_sort m_trayMany m_trays m_tape m_text m_taped m_size m_token m_from m_end m_value m_faultKind m_faultPlace m_faults m_seen m_toldParts m_opened m_depth m_counted m_bestOrder m_standers m_has m_bestHas m_standerMany m_bestCouples m_bestFondness m_cameTo m_doesStandFirst m_stoodBy m_drawn m_ranSteps m_loops m_ran m_told1 m_isTold m_marks x2 z_24 e_z_24) (cV ht mv_X12_isAlive tb_1531 rfl rfl ⟨Nat.le_of_ble_eq_true rfl, Nat.le_of_ble_eq_true rfl⟩) (P_sub hP.1 [0] rfl) hX rfl rfl rfl hl.1 rfl (Nat.le_of_ble_eq_true rfl) dX12_hopeful_24 ⟨Nat.le_of_ble_eq_true rfl, Nat.le_of_ble_eq_true rfl⟩ ?_
            refine lv_if_eq (tgt := 74) hx hb dX12_hopeful_27 (by decide) (fun c_25 => ?_) (fun c_25 => ?_)
            · have h := it c_25 h
              obtain ⟨x2_26, e_x2_26⟩ : ∃ y : Int32, y = x2 + 1 := ⟨_, rfl⟩
              have h := bn e_x2_26 h
              refine lv_iinc (v := x2_26) (lv' := [(2, .int x2_26), (0, .ref (A_m 0)), (1, .int x1), (3, .int x3)]) hx hb dX12_hopeful_74 hl (k := 2) rfl (by rw [e_x2_26]; rfl) (by decide) rfl (fun ls hl => ?_)
              refine lv_goto (tgt := 4) hx hb dX12_hopeful_77 (by decide) ?_
              exact ih4 m_status x1 x2_26 _ _ hP hS ls (lv_sub hl [1, 2, 0] rfl) h
            · have h := ie c_25 h
              refine lv_aload_n hx hb dX12_hopeful_30 rfl (lv_at hl 0 rfl) ?_
              refine lv_iload_n hx hb dX12_hopeful_31 rfl (lv_at hl 2 rfl) ?_
              refine lv_iload_n hx hb dX12_hopeful_32 rfl (lv_at hl 3 rfl) ?_
              obtain ⟨z_27, e_z_27, h⟩ := bi h
              refine roVi (rest := []) ⟨hx, hb, hml, hown, ht⟩ (c_X12_stands l D cy fu A_m m_at m_names m_status m_top m_bottom m_sort m_trayMany m_trays m_tape m_text m_taped m_size m_token m_from m_end m_value m_faultKind m_faultPlace m_faults m_seen m_toldParts m_opened m_depth m_counted m_bestOrder m_standers m_has m_bestHas m_standerMany m_bestCouples m_bestFondness m_cameTo m_doesStandFirst m_stoodBy m_drawn m_ranSteps m_loops m_ran m_told1 m_isTold m_marks x2 x3 z_27 e_z_27) (cV ht mv_X12_stands tb_1582 rfl rfl ⟨Nat.le_of_ble_eq_true rfl, Nat.le_of_ble_eq_true rfl⟩) (P_sub hP.1 [0] rfl) hX rfl rfl rfl hl.1 rfl (Nat.le_of_ble_eq_true rfl) dX12_hopeful_33 ⟨Nat.le_of_ble_eq_true rfl, Nat.le_of_ble_eq_true rfl⟩ ?_
              refine lv_if_eq (tgt := 48) hx hb dX12_hopeful_36 (by decide) (fun c_28 => ?_) (fun c_28 => ?_)
              · have h := it c_28 h
                refine lv_iconst (v := (-1)) hx hb dX12_hopeful_48 (by decide) ?_
                exact j49 m_status x1 x2 x3 (-1) _ _ hP hS ls (lv_sub hl [0, 1, 2, 3] rfl) h
              · have h := ie c_28 h
                refine lv_aload_n hx hb dX12_hopeful_39 rfl (lv_at hl 0 rfl) ?_
                refine lv_iload_n hx hb dX12_hopeful_40 rfl (lv_at hl 2 rfl) ?_
                refine lv_iload_n hx hb dX12_hopeful_41 rfl (lv_at hl 3 rfl) ?_
                obtain ⟨z_29, e_z_29, h⟩ := bi h
                refine roVi (rest := []) ⟨hx, hb, hml, hown, ht⟩ (c_X12_winner l D cy fu A_m m_at m_names m_status m_top m_bottom m_sort m_trayMany m_trays m_tape m_text m_taped m_size m_token m_from m_end m_value m_faultKind m_faultPlace m_faults m_seen m_toldParts m_opened m_depth m_counted m_bestOrder m_standers m_has m_bestHas m_standerMany m_bestCouples m_bestFondness m_cameTo m_doesStandFirst m_stoodBy m_drawn m_ranSteps m_loops m_ran m_told1 m_isTold m_marks x2 x3 z_29 e_z_29) (cV ht mv_X12_winner tb_1590 rfl rfl ⟨Nat.le_of_ble_eq_true rfl, Nat.le_of_ble_eq_true rfl⟩) (P_sub hP.1 [0] rfl) hX rfl rfl rfl hl.1 rfl (Nat.le_of_ble_eq_true rfl) dX12_hopeful_42 ⟨Nat.le_of_ble_eq_true rfl, Nat.le_of_ble_eq_true rfl⟩ ?_
                refine lv_goto (tgt := 49) hx hb dX12_hopeful_45 (by decide) ?_
                exact j49 m_status x1 x2 x3 z_29 _ _ hP hS ls (lv_sub hl [0, 1, 2, 3] rfl) h
      intro m_status x1 x2 H locs hP hS ls hl h
      have h : f_X12_hopeful_b4 fu m_at (f_X12_hopeful_l4 fu m_at n4) m_status x1 x2 = some res := h
      unfold f_X12_hopeful_b4 at h
      refine lv_iload_n hx hb dX12_hopeful_4 rfl (lv_at hl 2 rfl) ?_
      refine lv_aload_n hx hb dX12_hopeful_5 rfl (lv_at hl 0 rfl) ?_
      refine xget (i := 0) (j := 0) (k := 0) (T := TX12) hx hb ht tb_iX12 hown hX hP.1 rfl rfl rfl (by decide) tb_1229 rfl dX12_hopeful_6 ?_
      refine lv_iconst (v := 0) hx hb dX12_hopeful_9 (by decide) ?_
      obtain ⟨y_30, e_y_30, h⟩ := bi h
      refine xiald (i0 := 0) (j0 := 1) hx hb hX hP.1 rfl rfl e_y_30 dX12_hopeful_10 ?_
      refine lv_icmp_ge (tgt := 80) hx hb dX12_hopeful_11 (by decide) (fun c_31 => ?_) (fun c_31 => ?_)
      · have h := it c_31 h
        refine lv_aload_n hx hb dX12_hopeful_80 rfl (lv_at hl 0 rfl) ?_
        refine lv_iload_n hx hb dX12_hopeful_81 rfl (lv_at hl 1 rfl) ?_
        obtain ⟨z_32, e_z_32, h⟩ := bi h
        refine efVi (rest := []) ⟨hx, hb, hml, hown, ht⟩ (c_X12_gives l D cy fu A_m m_at m_names m_status m_top m_bottom m_sort m_trayMany m_trays m_tape m_text m_taped m_size m_token m_from m_end m_value m_faultKind m_faultPlace m_faults m_seen m_toldParts m_opened m_depth m_counted m_bestOrder m_standers m_has m_bestHas m_standerMany m_bestCouples m_bestFondness m_cameTo m_doesStandFirst m_stoodBy m_drawn m_ranSteps m_loops m_ran m_told1 m_isTold m_marks x1 z_32 e_z_32 _ rfl _ rfl) (cV ht mv_X12_gives tb_1499 rfl rfl ⟨Nat.le_of_ble_eq_true rfl, Nat.le_of_ble_eq_true rfl⟩) hP hS hX [0] rfl rfl rfl rfl rfl rfl hl.1 rfl (Nat.le_of_ble_eq_true rfl) dX12_hopeful_82 ⟨Nat.le_of_ble_eq_true rfl, Nat.le_of_ble_eq_true rfl⟩ (fun H locs hP hS => ?_)
        have hP : PD D A [bl_X12 cy A_m m_at m_names z_32.2 m_top m_bottom m_sort m_trayMany m_trays m_tape m_text m_taped m_size m_token m_from m_end m_value m_faultKind m_faultPlace m_faults m_seen m_toldParts m_opened m_depth m_counted m_bestOrder m_standers m_has m_bestHas m_standerMany m_bestCouples m_bestFondness m_cameTo m_doesStandFirst m_stoodBy m_drawn m_ranSteps m_loops m_ran m_told1 m_isTold m_marks] H := hP
        cases h
        subst hW1
        exact W.iret hx hb hr (fun _ ht9 _ => ⟨⟨_, (), rfl, rfl, hPt ht9 hP.1⟩, hS.F ht9⟩) hS.2.2 dX12_hopeful_85
      · have h := ie c_31 h
        refine lv_iconst (v := 1) hx hb dX12_hopeful_14 (by decide) ?_
        refine lv_istore_n (lv' := [(3, .int 1), (0, .ref (A_m 0)), (1, .int x1), (2, .int x2)]) hx hb dX12_hopeful_15 rfl hl (by decide) rfl (fun ls hl => ?_)
        exact l16 fu m_status x1 x2 1 _ _ hP hS ls (lv_sub hl [1, 2, 3, 0] rfl) h
  unfold f_X12_hopeful at h
  refine lv_iconst (v := 0) hx hb dX12_hopeful_0 (by decide) ?_
  refine lv_istore_n (lv' := [(1, .int 0), (0, .ref (A_m 0))]) hx hb dX12_hopeful_1 rfl hl (by decide) rfl (fun ls hl => ?_)
  refine lv_iconst (v := 0) hx hb dX12_hopeful_2 (by decide) ?_
  refine lv_istore_n (lv' := [(2, .int 0), (1, .int 0), (0, .ref (A_m 0))]) hx hb dX12_hopeful_3 rfl hl (by decide) rfl (fun ls hl => ?_)
  exact l4 fu m_status 0 0 _ _ hP hS ls (lv_sub hl [2, 1, 0] rfl) h
theorem dX12_copyMedals_0 : decode cX12_copyMedals 0 = .ok (.iload_n 1, 1) := by decide +kernel
theorem dX12_copyMedals_1 : decode cX12_copyMedals 1 = .ok (.invokestatic 95, 3) := by decide +kernel
theorem dX12_copyMedals_4 : decode cX12_copyMedals 4 = .ok (.ifCond .ne 9, 3) := by decide +kernel
theorem dX12_copyMedals_7 : decode cX12_copyMedals 7 = .ok (.aload_n 0, 1) := by decide +kernel
theorem dX12_copyMedals_8 : decode cX12_copyMedals 8 = .ok (.iconst 1, 1) := by decide +kernel
theorem dX12_copyMedals_9 : decode cX12_copyMedals 9 = .ok (.invokevirtual 85, 3) := by decide +kernel
theorem dX12_copyMedals_12 : decode cX12_copyMedals 12 = .ok (.ireturn, 1) := by decide +kernel
theorem dX12_copyMedals_13 : decode cX12_copyMedals 13 = .ok (.aload_n 0, 1) := by decide +kernel
theorem dX12_copyMedals_14 : decode cX12_copyMedals 14 = .ok (.getfield 24, 3) := by decide +kernel
theorem dX12_copyMedals_17 : decode cX12_copyMedals 17 = .ok (.iload_n 1, 1) := by decide +kernel
theorem dX12_copyMedals_18 : decode cX12_copyMedals 18 = .ok (.iaload, 1) := by decide +kernel
theorem dX12_copyMedals_19 : decode cX12_copyMedals 19 = .ok (.iconst (-1), 1) := by decide +kernel
theorem dX12_copyMedals_20 : decode cX12_copyMedals 20 = .ok (.if_icmp .ne 9, 3) := by decide +kernel
theorem dX12_copyMedals_23 : decode cX12_copyMedals 23 = .ok (.aload_n 0, 1) := by decide +kernel
theorem dX12_copyMedals_24 : decode cX12_copyMedals 24 = .ok (.iconst 2, 1) := by decide +kernel
theorem dX12_copyMedals_25 : decode cX12_copyMedals 25 = .ok (.invokevirtual 85, 3) := by decide +kernel
theorem dX12_copyMedals_28 : decode cX12_copyMedals 28 = .ok (.ireturn, 1) := by decide +kernel
theorem dX12_copyMedals_29 : decode cX12_copyMedals 29 = .ok (.aload_n 0, 1) := by decide +kernel
theorem dX12_copyMedals_30 : decode cX12_copyMedals 30 = .ok (.getfield 24, 3) := by decide +kernel
theorem dX12_copyMedals_33 : decode cX12_copyMedals 33 = .ok (.iload_n 1, 1) := by decide +kernel
theorem dX12_copyMedals_34 : decode cX12_copyMedals 34 = .ok (.iaload, 1) := by decide +kernel
theorem dX12_copyMedals_35 : decode cX12_copyMedals 35 = .ok (.aload_n 0, 1) := by decide +kernel
theorem dX12_copyMedals_36 : decode cX12_copyMedals 36 = .ok (.getfield 7, 3) := by decide +kernel
theorem dX12_copyMedals_39 : decode cX12_copyMedals 39 = .ok (.iconst 0, 1) := by decide +kernel
theorem dX12_copyMedals_40 : decode cX12_copyMedals 40 = .ok (.iaload, 1) := by decide +kernel
theorem dX12_copyMedals_41 : decode cX12_copyMedals 41 = .ok (.if_icmp .ge 9, 3) := by decide +kernel
theorem dX12_copyMedals_44 : decode cX12_copyMedals 44 = .ok (.aload_n 0, 1) := by decide +kernel
theorem dX12_copyMedals_45 : decode cX12_copyMedals 45 = .ok (.iconst 3, 1) := by decide +kernel
theorem dX12_copyMedals_46 : decode cX12_copyMedals 46 = .ok (.invokevirtual 85, 3) := by decide +kernel
theorem dX12_copyMedals_49 : decode cX12_copyMedals 49 = .ok (.ireturn, 1) := by decide +kernel
theorem dX12_copyMedals_50 : decode cX12_copyMedals 50 = .ok (.iconst 0, 1) := by decide +kernel
theorem dX12_copyMedals_51 : decode cX12_copyMedals 51 = .ok (.istore_n 2, 1) := by decide +kernel
theorem dX12_copyMedals_52 : decode cX12_copyMedals 52 = .ok (.iload_n 2, 1) := by decide +kernel
theorem dX12_copyMedals_53 : decode cX12_copyMedals 53 = .ok (.aload_n 0, 1) := by decide +kernel
theorem dX12_copyMedals_54 : decode cX12_copyMedals 54 = .ok (.getfield 7, 3) := by decide +kernel
theorem dX12_copyMedals_57 : decode cX12_copyMedals 57 = .ok (.iconst 0, 1) := by decide +kernel
theorem dX12_copyMedals_58 : decode cX12_copyMedals 58 = .ok (.iaload, 1) := by decide +kernel
theorem dX12_copyMedals_59 : decode cX12_copyMedals 59 = .ok (.if_icmp .ge 36, 3) := by decide +kernel
theorem dX12_copyMedals_62 : decode cX12_copyMedals 62 = .ok (.aload_n 0, 1) := by decide +kernel
theorem dX12_copyMedals_63 : decode cX12_copyMedals 63 = .ok (.getfield 27, 3) := by decide +kernel
theorem dX12_copyMedals_66 : decode cX12_copyMedals 66 = .ok (.bipush 60, 2) := by decide +kernel
theorem dX12_copyMedals_68 : decode cX12_copyMedals 68 = .ok (.iload_n 1, 1) := by decide +kernel
theorem dX12_copyMedals_69 : decode cX12_copyMedals 69 = .ok (.imul, 1) := by decide +kernel
theorem dX12_copyMedals_70 : decode cX12_copyMedals 70 = .ok (.iload_n 2, 1) := by decide +kernel
theorem dX12_copyMedals_71 : decode cX12_copyMedals 71 = .ok (.iadd, 1) := by decide +kernel
theorem dX12_copyMedals_72 : decode cX12_copyMedals 72 = .ok (.aload_n 0, 1) := by decide +kernel
theorem dX12_copyMedals_73 : decode cX12_copyMedals 73 = .ok (.iload_n 2, 1) := by decide +kernel
theorem dX12_copyMedals_74 : decode cX12_copyMedals 74 = .ok (.iconst 2, 1) := by decide +kernel
theorem dX12_copyMedals_75 : decode cX12_copyMedals 75 = .ok (.invokevirtual 250, 3) := by decide +kernel
theorem dX12_copyMedals_78 : decode cX12_copyMedals 78 = .ok (.i2l, 1) := by decide +kernel
theorem dX12_copyMedals_79 : decode cX12_copyMedals 79 = .ok (.aload_n 0, 1) := by decide +kernel
theorem dX12_copyMedals_80 : decode cX12_copyMedals 80 = .ok (.getfield 21, 3) := by decide +kernel
theorem dX12_copyMedals_83 : decode cX12_copyMedals 83 = .ok (.iload_n 1, 1) := by decide +kernel
theorem dX12_copyMedals_84 : decode cX12_copyMedals 84 = .ok (.iaload, 1) := by decide +kernel
theorem dX12_copyMedals_85 : decode cX12_copyMedals 85 = .ok (.invokestatic 102, 3) := by decide +kernel
theorem dX12_copyMedals_88 : decode cX12_copyMedals 88 = .ok (.lastore, 1) := by decide +kernel
theorem dX12_copyMedals_89 : decode cX12_copyMedals 89 = .ok (.iinc 2 1, 3) := by decide +kernel
theorem dX12_copyMedals_92 : decode cX12_copyMedals 92 = .ok (.goto (-40), 3) := by decide +kernel
theorem dX12_copyMedals_95 : decode cX12_copyMedals 95 = .ok (.aload_n 0, 1) := by decide +kernel
theorem dX12_copyMedals_96 : decode cX12_copyMedals 96 = .ok (.aload_n 0, 1) := by decide +kernel
theorem dX12_copyMedals_97 : decode cX12_copyMedals 97 = .ok (.getfield 7, 3) := by decide +kernel
theorem dX12_copyMedals_100 : decode cX12_copyMedals 100 = .ok (.iconst 0, 1) := by decide +kernel
theorem dX12_copyMedals_101 : decode cX12_copyMedals 101 = .ok (.iaload, 1) := by decide +kernel
theorem dX12_copyMedals_102 : decode cX12_copyMedals 102 = .ok (.invokevirtual 88, 3) := by decide +kernel
theorem dX12_copyMedals_105 : decode cX12_copyMedals 105 = .ok (.ireturn, 1) := by decide +kernel
theorem mv_X12_copyMedals : MV yX12_copyMedals RX12 cX12_copyMedals 3 (some .int) 1 := ⟨tb_1865, tb_1863, tb_1864, tb_16, by decide +kernel, by decide +kernel, by decide +kernel⟩
def f_X12_copyMedals_b52 (fu : Nat) (m_at : Nat → Int32) (m_sort : Nat → Int32) (m_trayMany : Nat → Int32) (x1 : Int32) (k52 : Int32 → (Nat → Int64) → Int32 → (Option (Int32 × Int32 × (Nat → Int64)))) (m_status : Int32) (m_trays : Nat → Int64) (x2 : Int32) : Option (Int32 × Int32 × (Nat → Int64)) := (rdI m_at 3648 0).bind fun y_20 => (if y_20 ≤ x2 then (rdI m_at 3648 0).bind fun y_22 => (f_X12_gives fu m_status y_22).bind fun z_23 => some (z_23.1, z_23.2, m_trays) else (f_X12_manOf fu m_at x2 2).bind fun z_24 => (rdI m_sort 4 x1).bind fun y_25 => (f_X12_cut fu (Int32.toInt64 z_24) y_25).bind fun z_26 => (wrJ m_trays 240 ((60 * x1) + x2) z_26).bind fun m_trays_27 => bnd (x2 + 1) fun x2_28 => k52 m_status m_trays_27 x2_28)
def f_X12_copyMedals_l52 (fu : Nat) (m_at : Nat → Int32) (m_sort : Nat → Int32) (m_trayMany : Nat → Int32) (x1 : Int32) : Nat → Int32 → (Nat → Int64) → Int32 → (Option (Int32 × Int32 × (Nat → Int64)))
  | 0, _, _, _ => none
  | n + 1, m_status, m_trays, x2 => f_X12_copyMedals_b52 fu m_at m_sort m_trayMany x1 (f_X12_copyMedals_l52 fu m_at m_sort m_trayMany x1 n) m_status m_trays x2
def f_X12_copyMedals (fu : Nat) (m_at : Nat → Int32) (m_status : Int32) (m_sort : Nat → Int32) (m_trayMany : Nat → Int32) (m_trays : Nat → Int64) (x1 : Int32) : Option (Int32 × Int32 × (Nat → Int64)) := (f_X12_isTray fu x1).bind fun z_29 => (if z_29 = 0 then (f_X12_refuse fu m_status 1).bind fun z_38 => some (z_38.1, z_38.2, m_trays) else (rdI m_trayMany 4 x1).bind fun y_31 => (if y_31 = (-1) then (f_X12_refuse fu m_status 2).bind fun z_37 => some (z_37.1, z_37.2, m_trays) else (rdI m_trayMany 4 x1).bind fun y_33 => (rdI m_at 3648 0).bind fun y_34 => (if y_34 ≤ y_33 then f_X12_copyMedals_l52 fu m_at m_sort m_trayMany x1 fu m_status m_trays 0 else (f_X12_refuse fu m_status 3).bind fun z_36 => some (z_36.1, z_36.2, m_trays))))
abbrev rm_X12_copyMedals : Room := { frames := 2, cells := 0, slots := 0, locals := 42 }
set_option maxHeartbeats 4000000 in
set_option maxRecDepth 100000 in
theorem c_X12_copyMedals (l : Launch) (D : va_G) (cy : Nat → ClassId) (fu : Nat) (A_m : Nat → Nat) (m_at : Nat → Int32) (m_names : Nat → Int64) (m_status : Int32) (m_top : Int64) (m_bottom : Int64) (m_sort : Nat → Int32) (m_trayMany : Nat → Int32) (m_trays : Nat → Int64) (m_tape : Nat → Int32) (m_text : Nat → Int32) (m_taped : Int32) (m_size : Int32) (m_token : Int32) (m_from : Int32) (m_end : Int32) (m_value : Int32) (m_faultKind : Int32) (m_faultPlace : Int32) (m_faults : Int32) (m_seen : Int32) (m_toldParts : Int32) (m_opened : Nat → Int32) (m_depth : Int32) (m_counted : Int32) (m_bestOrder : Int32) (m_standers : Nat → Int32) (m_has : Nat → Int32) (m_bestHas : Nat → Int32) (m_standerMany : Int32) (m_bestCouples : Int32) (m_bestFondness : Int32) (m_cameTo : Nat → Int32) (m_doesStandFirst : Int32) (m_stoodBy : Nat → Int64) (m_drawn : Int32) (m_ranSteps : Int32) (m_loops : Nat → Int32) (m_ran : Nat → Int32) (m_told1 : Nat → Int32) (m_isTold : Int32) (m_marks : Int32) (x1 : Int32) (res : Int32 × Int32 × (Nat → Int64)) (h : f_X12_copyMedals fu m_at m_status m_sort m_trayMany m_trays x1 = some res) (A : Nat → Prop) (hA : A = adr [bl_X12 cy A_m m_at m_names m_status m_top m_bottom m_sort m_trayMany m_trays m_tape m_text m_taped m_size m_token m_from m_end m_value m_faultKind m_faultPlace m_faults m_seen m_toldParts m_opened m_depth m_counted m_bestOrder m_standers m_has m_bestHas m_standerMany m_bestCouples m_bestFondness m_cameTo m_doesStandFirst m_stoodBy m_drawn m_ranSteps m_loops m_ran m_told1 m_isTold m_marks]) (W1 : List va_W) (hW1 : W1 = [bl_X12 cy A_m m_at m_names res.2.1 m_top m_bottom m_sort m_trayMany res.2.2 m_tape m_text m_taped m_size m_token m_from m_end m_value m_faultKind m_faultPlace m_faults m_seen m_toldParts m_opened m_depth m_counted m_bestOrder m_standers m_has m_bestHas m_standerMany m_bestCouples m_bestFondness m_cameTo m_doesStandFirst m_stoodBy m_drawn m_ranSteps m_loops m_ran m_told1 m_isTold m_marks]) : Met l yX12_copyMedals (WW yX12_copyMedals cX12_copyMedals 3 (some .int)) rm_X12_copyMedals (Ed D cy [.ref (A_m 0), .int x1] [bl_X12 cy A_m m_at m_names m_status m_top m_bottom m_sort m_trayMany m_trays m_tape m_text m_taped m_size m_token m_from m_end m_value m_faultKind m_faultPlace m_faults m_seen m_toldParts m_opened m_depth m_counted m_bestOrder m_standers m_has m_bestHas m_standerMany m_bestCouples m_bestFondness m_cameTo m_doesStandFirst m_stoodBy m_drawn m_ranSteps m_loops m_ran m_told1 m_isTold m_marks]) (Qei D res.1 A W1) 0 0 A := by
  refine Met.ofW (cc := cX12_copyMedals) (maxL := 3) (ret := (some .int)) (by decide) rfl ?_
  intro p e s m args below meth c s₁ B hml hv
  obtain ⟨hargs, hP, hX, hD0⟩ := hv
  have hx := B.exec
  have hb := B.bytes
  have hr := B.returns
  have ht : ∀ w ∈ lw_gd, w.before args s = true := fun w hw => atoms_spec (ws := WW yX12_copyMedals cX12_copyMedals 3 (some .int)) B.pre w (List.mem_cons_of_mem _ hw)
  have hown : s.vm.findClass RX12 = some m.cls := findClass_of_methodNamed B.named
  have hlocks := B.notSynchronized
  have hP : PD D A [bl_X12 cy A_m m_at m_names m_status m_top m_bottom m_sort m_trayMany m_trays m_tape m_text m_taped m_size m_token m_from m_end m_value m_faultKind m_faultPlace m_faults m_seen m_toldParts m_opened m_depth m_counted m_bestOrder m_standers m_has m_bestHas m_standerMany m_bestCouples m_bestFondness m_cameTo m_doesStandFirst m_stoodBy m_drawn m_ranSteps m_loops m_ran m_told1 m_isTold m_marks] s.heap := ⟨hP, by rw [hA]; exact hD0.own⟩
  have hS : va_S A s.heap s.heap [] := va_S.rf
  obtain ⟨ls, hl, hent⟩ := ent (m := m) (n := 3) hargs (Nat.le_of_ble_eq_true rfl) (lv := [(0, .ref (A_m 0)), (1, .int x1)]) rfl
  rw [hent]
  clear hent
  have l52 : ∀ (n52 : Nat) (m_status : Int32) (m_trays : Nat → Int64) (x2 : Int32) (H : Heap) (locs : List Loc) (_ : PD D A [bl_X12 cy A_m m_at m_names m_status m_top m_bottom m_sort m_trayMany m_trays m_tape m_text m_taped m_size m_token m_from m_end m_value m_faultKind m_faultPlace m_faults m_seen m_toldParts m_opened m_depth m_counted m_bestOrder m_standers m_has m_bestHas m_standerMany m_bestCouples m_bestFondness m_cameTo m_doesStandFirst m_stoodBy m_drawn m_ranSteps m_loops m_ran m_told1 m_isTold m_marks] H) (_ : va_S A s.heap H locs) (ls : Array Slot), lv_has ls 3 [(0, .ref (A_m 0)), (1, .int x1), (2, .int x2)] → f_X12_copyMedals_l52 fu m_at m_sort m_trayMany x1 n52 m_status m_trays x2 = some res → W p l e (headSpec (WW yX12_copyMedals cX12_copyMedals 3 (some .int)) rm_X12_copyMedals).room s m args below meth c H locs 0 0 (MQ below (Qei D res.1 A W1) args s 0 0 A) (F0 m 52 ls []) := by
    intro n52
    induction n52 with
    | zero => intro m_status m_trays x2 H locs hP hS ls hl h; cases h
    | succ n52 ih52 =>
      intro m_status m_trays x2 H locs hP hS ls hl h
      have h : f_X12_copyMedals_b52 fu m_at m_sort m_trayMany x1 (f_X12_copyMedals_l52 fu m_at m_sort m_trayMany x1 n52) m_status m_trays x2 = some res := h
      unfold f_X12_copyMedals_b52 at h
      refine lv_iload_n hx hb dX12_copyMedals_52 rfl (lv_at hl 2 rfl) ?_
      refine lv_aload_n hx hb dX12_copyMedals_53 rfl (lv_at hl 0 rfl) ?_
      refine xget (i := 0) (j := 0) (k := 0) (T := TX12) hx hb ht tb_iX12 hown hX hP.1 rfl rfl rfl (by decide) tb_1229 rfl dX12_copyMedals_54 ?_
      refine lv_iconst (v := 0) hx hb dX12_copyMedals_57 (by decide) ?_
      obtain ⟨y_20, e_y_20, h⟩ := bi h
      refine xiald (i0 := 0) (j0 := 1) hx hb hX hP.1 rfl rfl e_y_20 dX12_copyMedals_58 ?_
      refine lv_icmp_ge (tgt := 95) hx hb dX12_copyMedals_59 (by decide) (fun c_21 => ?_) (fun c_21 => ?_)
      · have h := it c_21 h
        refine lv_aload_n hx hb dX12_copyMedals_95 rfl (lv_at hl 0 rfl) ?_
        refine lv_aload_n hx hb dX12_copyMedals_96 rfl (lv_at hl 0 rfl) ?_
        refine xget (i := 0) (j := 0) (k := 0) (T := TX12) hx hb ht tb_iX12 hown hX hP.1 rfl rfl rfl (by decide) tb_1229 rfl dX12_copyMedals_97 ?_
        refine lv_iconst (v := 0) hx hb dX12_copyMedals_100 (by decide) ?_
        obtain ⟨y_22, e_y_22, h⟩ := bi h
        refine xiald (i0 := 0) (j0 := 1) hx hb hX hP.1 rfl rfl e_y_22 dX12_copyMedals_101 ?_
        obtain ⟨z_23, e_z_23, h⟩ := bi h
        refine efVi (rest := []) ⟨hx, hb, hml, hown, ht⟩ (c_X12_gives l D cy fu A_m m_at m_names m_status m_top m_bottom m_sort m_trayMany m_trays m_tape m_text m_taped m_size m_token m_from m_end m_value m_faultKind m_faultPlace m_faults m_seen m_toldParts m_opened m_depth m_counted m_bestOrder m_standers m_has m_bestHas m_standerMany m_bestCouples m_bestFondness m_cameTo m_doesStandFirst m_stoodBy m_drawn m_ranSteps m_loops m_ran m_told1 m_isTold m_marks y_22 z_23 e_z_23 _ rfl _ rfl) (cV ht mv_X12_gives tb_1499 rfl rfl ⟨Nat.le_of_ble_eq_true rfl, Nat.le_of_ble_eq_true rfl⟩) hP hS hX [0] rfl rfl rfl rfl rfl rfl hl.1 rfl (Nat.le_of_ble_eq_true rfl) dX12_copyMedals_102 ⟨Nat.le_of_ble_eq_true rfl, Nat.le_of_ble_eq_true rfl⟩ (fun H locs hP hS => ?_)
        have hP : PD D A [bl_X12 cy A_m m_at m_names z_23.2 m_top m_bottom m_sort m_trayMany m_trays m_tape m_text m_taped m_size m_token m_from m_end m_value m_faultKind m_faultPlace m_faults m_seen m_toldParts m_opened m_depth m_counted m_bestOrder m_standers m_has m_bestHas m_standerMany m_bestCouples m_bestFondness m_cameTo m_doesStandFirst m_stoodBy m_drawn m_ranSteps m_loops m_ran m_told1 m_isTold m_marks] H := hP
        cases h
        subst hW1
        exact W.iret hx hb hr (fun _ ht9 _ => ⟨⟨_, (), rfl, rfl, hPt ht9 hP.1⟩, hS.F ht9⟩) hS.2.2 dX12_copyMedals_105
      · have h := ie c_21 h
        refine lv_aload_n hx hb dX12_copyMedals_62 rfl (lv_at hl 0 rfl) ?_
        refine xget (i := 0) (j := 0) (k := 7) (T := TX12) hx hb ht tb_iX12 hown hX hP.1 rfl rfl rfl (by decide) tb_1236 rfl dX12_copyMedals_63 ?_
        refine lv_bipush (v := 60) hx hb dX12_copyMedals_66 (by decide) ?_
        refine lv_iload_n hx hb dX12_copyMedals_68 rfl (lv_at hl 1 rfl) ?_
        refine lv_imul hx hb dX12_copyMedals_69 ?_
        refine lv_iload_n hx hb dX12_copyMedals_70 rfl (lv_at hl 2 rfl) ?_
        refine lv_iadd hx hb dX12_copyMedals_71 ?_
        refine lv_aload_n hx hb dX12_copyMedals_72 rfl (lv_at hl 0 rfl) ?_
        refine lv_iload_n hx hb dX12_copyMedals_73 rfl (lv_at hl 2 rfl) ?_
        refine lv_iconst (v := 2) hx hb dX12_copyMedals_74 (by decide) ?_
        obtain ⟨z_24, e_z_24, h⟩ := bi h
        refine roVi (rest := [.int ((60 * x1) + x2), .ref (A_m 5)]) ⟨hx, hb, hml, hown, ht⟩ (c_X12_manOf l D cy fu A_m m_at m_names m_status m_top m_bottom m_sort m_trayMany m_trays m_tape m_text m_taped m_size m_token m_from m_end m_value m_faultKind m_faultPlace m_faults m_seen m_toldParts m_opened m_depth m_counted m_bestOrder m_standers m_has m_bestHas m_standerMany m_bestCouples m_bestFondness m_cameTo m_doesStandFirst m_stoodBy m_drawn m_ranSteps m_loops m_ran m_told1 m_isTold m_marks x2 2 z_24 e_z_24) (cV ht mv_X12_manOf tb_1535 rfl rfl ⟨Nat.le_of_ble_eq_true rfl, Nat.le_of_ble_eq_true rfl⟩) (P_sub hP.1 [0] rfl) hX rfl rfl rfl hl.1 rfl (Nat.le_of_ble_eq_true rfl) dX12_copyMedals_75 ⟨Nat.le_of_ble_eq_true rfl, Nat.le_of_ble_eq_true rfl⟩ ?_
        refine lv_i2l (v := Int32.toInt64 z_24) hx hb dX12_copyMedals_78 rfl ?_
        refine lv_aload_n hx hb dX12_copyMedals_79 rfl (lv_at hl 0 rfl) ?_
        refine xget (i := 0) (j := 0) (k := 5) (T := TX12) hx hb ht tb_iX12 hown hX hP.1 rfl rfl rfl (by decide) tb_1234 rfl dX12_copyMedals_80 ?_
        refine lv_iload_n hx hb dX12_copyMedals_83 rfl (lv_at hl 1 rfl) ?_
        obtain ⟨y_25, e_y_25, h⟩ := bi h
        refine xiald (i0 := 0) (j0 := 3) hx hb hX hP.1 rfl rfl e_y_25 dX12_copyMedals_84 ?_
        obtain ⟨z_26, e_z_26, h⟩ := bi h
        refine roSl (rest := [.int ((60 * x1) + x2), .ref (A_m 5)]) ⟨hx, hb, hml, hown, ht⟩ (c_X12_cut l D cy fu  (Int32.toInt64 z_24) y_25 z_26 e_z_26) (cS ht ms_X12_cut tb_1384 rfl rfl ⟨Nat.le_of_ble_eq_true rfl, Nat.le_of_ble_eq_true rfl⟩) (P_sub hP.1 [] rfl) hX rfl hl.1 rfl (Nat.le_of_ble_eq_true rfl) dX12_copyMedals_85 ⟨Nat.le_of_ble_eq_true rfl, Nat.le_of_ble_eq_true rfl⟩ ?_
        obtain ⟨m_trays_27, e_m_trays_27, h⟩ := bi h
        refine xlast (i0 := 0) (j0 := 5) hx hb hX hP hS rfl rfl e_m_trays_27 dX12_copyMedals_88 (fun H locs hP hS => ?_)
        have hP : PD D A [bl_X12 cy A_m m_at m_names m_status m_top m_bottom m_sort m_trayMany m_trays_27 m_tape m_text m_taped m_size m_token m_from m_end m_value m_faultKind m_faultPlace m_faults m_seen m_toldParts m_opened m_depth m_counted m_bestOrder m_standers m_has m_bestHas m_standerMany m_bestCouples m_bestFondness m_cameTo m_doesStandFirst m_stoodBy m_drawn m_ranSteps m_loops m_ran m_told1 m_isTold m_marks] H := hP
        obtain ⟨x2_28, e_x2_28⟩ : ∃ y : Int32, y = x2 + 1 := ⟨_, rfl⟩
        have h := bn e_x2_28 h
        refine lv_iinc (v := x2_28) (lv' := [(2, .int x2_28), (0, .ref (A_m 0)), (1, .int x1)]) hx hb dX12_copyMedals_89 hl (k := 2) rfl (by rw [e_x2_28]; rfl) (by decide) rfl (fun ls hl => ?_)
        refine lv_goto (tgt := 52) hx hb dX12_copyMedals_92 (by decide) ?_
        exact ih52 m_status m_trays_27 x2_28 _ _ hP hS ls (lv_sub hl [1, 2, 0] rfl) h
  unfold f_X12_copyMedals at h
  refine lv_iload_n hx hb dX12_copyMedals_0 rfl (lv_at hl 1 rfl) ?_
  obtain ⟨z_29, e_z_29, h⟩ := bi h
  refine roSi (rest := []) ⟨hx, hb, hml, hown, ht⟩ (c_X12_isTray l D cy fu  x1 z_29 e_z_29) (cS ht ms_X12_isTray tb_1369 rfl rfl ⟨Nat.le_of_ble_eq_true rfl, Nat.le_of_ble_eq_true rfl⟩) (P_sub hP.1 [] rfl) hX rfl hl.1 rfl (Nat.le_of_ble_eq_true rfl) dX12_copyMedals_1 ⟨Nat.le_of_ble_eq_true rfl, Nat.le_of_ble_eq_true rfl⟩ ?_
  refine lv_if_ne (tgt := 13) hx hb dX12_copyMedals_4 (by decide) (fun c_30 => ?_) (fun c_30 => ?_)
  · have h := ie c_30 h
    refine lv_aload_n hx hb dX12_copyMedals_13 rfl (lv_at hl 0 rfl) ?_
    refine xget (i := 0) (j := 0) (k := 6) (T := TX12) hx hb ht tb_iX12 hown hX hP.1 rfl rfl rfl (by decide) tb_1235 rfl dX12_copyMedals_14 ?_
    refine lv_iload_n hx hb dX12_copyMedals_17 rfl (lv_at hl 1 rfl) ?_
    obtain ⟨y_31, e_y_31, h⟩ := bi h
    refine xiald (i0 := 0) (j0 := 4) hx hb hX hP.1 rfl rfl e_y_31 dX12_copyMedals_18 ?_
    refine lv_iconst (v := (-1)) hx hb dX12_copyMedals_19 (by decide) ?_
    refine lv_icmp_ne (tgt := 29) hx hb dX12_copyMedals_20 (by decide) (fun c_32 => ?_) (fun c_32 => ?_)
    · have h := ie c_32 h
      refine lv_aload_n hx hb dX12_copyMedals_29 rfl (lv_at hl 0 rfl) ?_
      refine xget (i := 0) (j := 0) (k := 6) (T := TX12) hx hb ht tb_iX12 hown hX hP.1 rfl rfl rfl (by decide) tb_1235 rfl dX12_copyMedals_30 ?_
      refine lv_iload_n hx hb dX12_copyMedals_33 rfl (lv_at hl 1 rfl) ?_
      obtain ⟨y_33, e_y_33, h⟩ := bi h
      refine xiald (i0 := 0) (j0 := 4) hx hb hX hP.1 rfl rfl e_y_33 dX12_copyMedals_34 ?_
      refine lv_aload_n hx hb dX12_copyMedals_35 rfl (lv_at hl 0 rfl) ?_
      refine xget (i := 0) (j := 0) (k := 0) (T := TX12) hx hb ht tb_iX12 hown hX hP.1 rfl rfl rfl (by decide) tb_1229 rfl dX12_copyMedals_36 ?_
      refine lv_iconst (v := 0) hx hb dX12_copyMedals_39 (by decide) ?_
      obtain ⟨y_34, e_y_34, h⟩ := bi h
      refine xiald (i0 := 0) (j0 := 1) hx hb hX hP.1 rfl rfl e_y_34 dX12_copyMedals_40 ?_
      refine lv_icmp_ge (tgt := 50) hx hb dX12_copyMedals_41 (by decide) (fun c_35 => ?_) (fun c_35 => ?_)
      · have h := it c_35 h
        refine lv_iconst (v := 0) hx hb dX12_copyMedals_50 (by decide) ?_
        refine lv_istore_n (lv' := [(2, .int 0), (0, .ref (A_m 0)), (1, .int x1)]) hx hb dX12_copyMedals_51 rfl hl (by decide) rfl (fun ls hl => ?_)
        exact l52 fu m_status m_trays 0 _ _ hP hS ls (lv_sub hl [1, 2, 0] rfl) h
      · have h := ie c_35 h
        refine lv_aload_n hx hb dX12_copyMedals_44 rfl (lv_at hl 0 rfl) ?_
        refine lv_iconst (v := 3) hx hb dX12_copyMedals_45 (by decide) ?_
        obtain ⟨z_36, e_z_36, h⟩ := bi h
        refine efVi (rest := []) ⟨hx, hb, hml, hown, ht⟩ (c_X12_refuse l D cy fu A_m m_at m_names m_status m_top m_bottom m_sort m_trayMany m_trays m_tape m_text m_taped m_size m_token m_from m_end m_value m_faultKind m_faultPlace m_faults m_seen m_toldParts m_opened m_depth m_counted m_bestOrder m_standers m_has m_bestHas m_standerMany m_bestCouples m_bestFondness m_cameTo m_doesStandFirst m_stoodBy m_drawn m_ranSteps m_loops m_ran m_told1 m_isTold m_marks 3 z_36 e_z_36 _ rfl _ rfl) (cV ht mv_X12_refuse tb_1432 rfl rfl ⟨Nat.le_of_ble_eq_true rfl, Nat.le_of_ble_eq_true rfl⟩) hP hS hX [0] rfl rfl rfl rfl rfl rfl hl.1 rfl (Nat.le_of_ble_eq_true rfl) dX12_copyMedals_46 ⟨Nat.le_of_ble_eq_true rfl, Nat.le_of_ble_eq_true rfl⟩ (fun H locs hP hS => ?_)
        have hP : PD D A [bl_X12 cy A_m m_at m_names z_36.2 m_top m_bottom m_sort m_trayMany m_trays m_tape m_text m_taped m_size m_token m_from m_end m_value m_faultKind m_faultPlace m_faults m_seen m_toldParts m_opened m_depth m_counted m_bestOrder m_standers m_has m_bestHas m_standerMany m_bestCouples m_bestFondness m_cameTo m_doesStandFirst m_stoodBy m_drawn m_ranSteps m_loops m_ran m_told1 m_isTold m_marks] H := hP
        cases h
        subst hW1
        exact W.iret hx hb hr (fun _ ht9 _ => ⟨⟨_, (), rfl, rfl, hPt ht9 hP.1⟩, hS.F ht9⟩) hS.2.2 dX12_copyMedals_49
    · have h := it c_32 h
      refine lv_aload_n hx hb dX12_copyMedals_23 rfl (lv_at hl 0 rfl) ?_
      refine lv_iconst (v := 2) hx hb dX12_copyMedals_24 (by decide) ?_
      obtain ⟨z_37, e_z_37, h⟩ := bi h
      refine efVi (rest := []) ⟨hx, hb, hml, hown, ht⟩ (c_X12_refuse l D cy fu A_m m_at m_names m_status m_top m_bottom m_sort m_trayMany m_trays m_tape m_text m_taped m_size m_token m_from m_end m_value m_faultKind m_faultPlace m_faults m_seen m_toldParts m_opened m_depth m_counted m_bestOrder m_standers m_has m_bestHas m_standerMany m_bestCouples m_bestFondness m_cameTo m_doesStandFirst m_stoodBy m_drawn m_ranSteps m_loops m_ran m_told1 m_isTold m_marks 2 z_37 e_z_37 _ rfl _ rfl) (cV ht mv_X12_refuse tb_1432 rfl rfl ⟨Nat.le_of_ble_eq_true rfl, Nat.le_of_ble_eq_true rfl⟩) hP hS hX [0] rfl rfl rfl rfl rfl rfl hl.1 rfl (Nat.le_of_ble_eq_true rfl) dX12_copyMedals_25 ⟨Nat.le_of_ble_eq_true rfl, Nat.le_of_ble_eq_true rfl⟩ (fun H locs hP hS => ?_)
      have hP : PD D A [bl_X12 cy A_m m_at m_names z_37.2 m_top m_bottom m_sort m_trayMany m_trays m_tape m_text m_taped m_size m_token m_from m_end m_value m_faultKind m_faultPlace m_faults m_seen m_toldParts m_opened m_depth m_counted m_bestOrder m_standers m_has m_bestHas m_standerMany m_bestCouples m_bestFondness m_cameTo m_doesStandFirst m_stoodBy m_drawn m_ranSteps m_loops m_ran m_told1 m_isTold m_marks] H := hP
      cases h
      subst hW1
      exact W.iret hx hb hr (fun _ ht9 _ => ⟨⟨_, (), rfl, rfl, hPt ht9 hP.1⟩, hS.F ht9⟩) hS.2.2 dX12_copyMedals_28
  · have h := it c_30 h
    refine lv_aload_n hx hb dX12_copyMedals_7 rfl (lv_at hl 0 rfl) ?_
    refine lv_iconst (v := 1) hx hb dX12_copyMedals_8 (by decide) ?_
    obtain ⟨z_38, e_z_38, h⟩ := bi h
    refine efVi (rest := []) ⟨hx, hb, hml, hown, ht⟩ (c_X12_refuse l D cy fu A_m m_at m_names m_status m_top m_bottom m_sort m_trayMany m_trays m_tape m_text m_taped m_size m_token m_from m_end m_value m_faultKind m_faultPlace m_faults m_seen m_toldParts m_opened m_depth m_counted m_bestOrder m_standers m_has m_bestHas m_standerMany m_bestCouples m_bestFondness m_cameTo m_doesStandFirst m_stoodBy m_drawn m_ranSteps m_loops m_ran m_told1 m_isTold m_marks 1 z_38 e_z_38 _ rfl _ rfl) (cV ht mv_X12_refuse tb_1432 rfl rfl ⟨Nat.le_of_ble_eq_true rfl, Nat.le_of_ble_eq_true rfl⟩) hP hS hX [0] rfl rfl rfl rfl rfl rfl hl.1 rfl (Nat.le_of_ble_eq_true rfl) dX12_copyMedals_9 ⟨Nat.le_of_ble_eq_true rfl, Nat.le_of_ble_eq_true rfl⟩ (fun H locs hP hS => ?_)
    have hP : PD D A [bl_X12 cy A_m m_at m_names z_38.2 m_top m_bottom m_sort m_trayMany m_trays m_tape m_text m_taped m_size m_token m_from m_end m_value m_faultKind m_faultPlace m_faults m_seen m_toldParts m_opened m_depth m_counted m_bestOrder m_standers m_has m_bestHas m_standerMany m_bestCouples m_bestFondness m_cameTo m_doesStandFirst m_stoodBy m_drawn m_ranSteps m_loops m_ran m_told1 m_isTold m_marks] H := hP
    cases h
    subst hW1
    exact W.iret hx hb hr (fun _ ht9 _ => ⟨⟨_, (), rfl, rfl, hPt ht9 hP.1⟩, hS.F ht9⟩) hS.2.2 dX12_copyMedals_12
theorem dX12_draw_0 : decode cX12_draw 0 = .ok (.aload_n 0, 1) := by decide +kernel
theorem dX12_draw_1 : decode cX12_draw 1 = .ok (.aload_n 0, 1) := by decide +kernel
theorem dX12_draw_2 : decode cX12_draw 2 = .ok (.getfield 418, 3) := by decide +kernel
theorem dX12_draw_5 : decode cX12_draw 5 = .ok (.sipush 3109, 3) := by decide +kernel
theorem dX12_draw_8 : decode cX12_draw 8 = .ok (.imul, 1) := by decide +kernel
theorem dX12_draw_9 : decode cX12_draw 9 = .ok (.sipush 11321, 3) := by decide +kernel
theorem dX12_draw_12 : decode cX12_draw 12 = .ok (.iadd, 1) := by decide +kernel
theorem dX12_draw_13 : decode cX12_draw 13 = .ok (.ldc_w 421, 3) := by decide +kernel
theorem dX12_draw_16 : decode cX12_draw 16 = .ok (.irem, 1) := by decide +kernel
theorem dX12_draw_17 : decode cX12_draw 17 = .ok (.putfield 418, 3) := by decide +kernel
theorem dX12_draw_20 : decode cX12_draw 20 = .ok (.aload_n 0, 1) := by decide +kernel
theorem dX12_draw_21 : decode cX12_draw 21 = .ok (.getfield 418, 3) := by decide +kernel
theorem dX12_draw_24 : decode cX12_draw 24 = .ok (.bipush 8, 2) := by decide +kernel
theorem dX12_draw_26 : decode cX12_draw 26 = .ok (.idiv, 1) := by decide +kernel
theorem dX12_draw_27 : decode cX12_draw 27 = .ok (.iload_n 1, 1) := by decide +kernel
theorem dX12_draw_28 : decode cX12_draw 28 = .ok (.irem, 1) := by decide +kernel
theorem dX12_draw_29 : decode cX12_draw 29 = .ok (.ireturn, 1) := by decide +kernel
theorem mv_X12_draw : MV yX12_draw RX12 cX12_draw 2 (some .int) 1 := ⟨tb_1890, tb_1889, ts_114, tb_16, by decide +kernel, by decide +kernel, by decide +kernel⟩
def f_X12_draw (fu : Nat) (m_drawn : Int32) (x1 : Int32) : Option (Int32 × Int32) := bnd (((m_drawn * 3109) + 11321) - ((m_drawn * 3109) + 11321) / 65536 * 65536) fun m_drawn_3 => (nzI x1).bind fun y_4 => some ((m_drawn_3 / 8) - (m_drawn_3 / 8) / x1 * x1, m_drawn_3)
abbrev rm_X12_draw : Room := { frames := 0, cells := 0, slots := 0, locals := 0 }
set_option maxHeartbeats 4000000 in
set_option maxRecDepth 100000 in
theorem c_X12_draw (l : Launch) (D : va_G) (cy : Nat → ClassId) (fu : Nat) (A_m : Nat → Nat) (m_at : Nat → Int32) (m_names : Nat → Int64) (m_status : Int32) (m_top : Int64) (m_bottom : Int64) (m_sort : Nat → Int32) (m_trayMany : Nat → Int32) (m_trays : Nat → Int64) (m_tape : Nat → Int32) (m_text : Nat → Int32) (m_taped : Int32) (m_size : Int32) (m_token : Int32) (m_from : Int32) (m_end : Int32) (m_value : Int32) (m_faultKind : Int32) (m_faultPlace : Int32) (m_faults : Int32) (m_seen : Int32) (m_toldParts : Int32) (m_opened : Nat → Int32) (m_depth : Int32) (m_counted : Int32) (m_bestOrder : Int32) (m_standers : Nat → Int32) (m_has : Nat → Int32) (m_bestHas : Nat → Int32) (m_standerMany : Int32) (m_bestCouples : Int32) (m_bestFondness : Int32) (m_cameTo : Nat → Int32) (m_doesStandFirst : Int32) (m_stoodBy : Nat → Int64) (m_drawn : Int32) (m_ranSteps : Int32) (m_loops : Nat → Int32) (m_ran : Nat → Int32) (m_told1 : Nat → Int32) (m_isTold : Int32) (m_marks : Int32) (x1 : Int32) (res : Int32 × Int32) (h : f_X12_draw fu m_drawn x1 = some res) (A : Nat → Prop) (hA : A = adr [bl_X12 cy A_m m_at m_names m_status m_top m_bottom m_sort m_trayMany m_trays m_tape m_text m_taped m_size m_token m_from m_end m_value m_faultKind m_faultPlace m_faults m_seen m_toldParts m_opened m_depth m_counted m_bestOrder m_standers m_has m_bestHas m_standerMany m_bestCouples m_bestFondness m_cameTo m_doesStandFirst m_stoodBy m_drawn m_ranSteps m_loops m_ran m_told1 m_isTold m_marks]) (W1 : List va_W) (hW1 : W1 = [bl_X12 cy A_m m_at m_names m_status m_top m_bottom m_sort m_trayMany m_trays m_tape m_text m_taped m_size m_token m_from m_end m_value m_faultKind m_faultPlace m_faults m_seen m_toldParts m_opened m_depth m_counted m_bestOrder m_standers m_has m_bestHas m_standerMany m_bestCouples m_bestFondness m_cameTo m_doesStandFirst m_stoodBy res.2 m_ranSteps m_loops m_ran m_told1 m_isTold m_marks]) : Met l yX12_draw (WW yX12_draw cX12_draw 2 (some .int)) rm_X12_draw (Ed D cy [.ref (A_m 0), .int x1] [bl_X12 cy A_m m_at m_names m_status m_top m_bottom m_sort m_trayMany m_trays m_tape m_text m_taped m_size m_token m_from m_end m_value m_faultKind m_faultPlace m_faults m_seen m_toldParts m_opened m_depth m_counted m_bestOrder m_standers m_has m_bestHas m_standerMany m_bestCouples m_bestFondness m_cameTo m_doesStandFirst m_stoodBy m_drawn m_ranSteps m_loops m_ran m_told1 m_isTold m_marks]) (Qei D res.1 A W1) 0 0 A := by
  refine Met.ofW (cc := cX12_draw) (maxL := 2) (ret := (some .int)) (by decide) rfl ?_
  intro p e s m args below meth c s₁ B hml hv
  obtain ⟨hargs, hP, hX, hD0⟩ := hv
  have hx := B.exec
  have hb := B.bytes
  have hr := B.returns
  have ht : ∀ w ∈ lw_gd, w.before args s = true := fun w hw => atoms_spec (ws := WW yX12_draw cX12_draw 2 (some .int)) B.pre w (List.mem_cons_of_mem _ hw)
  have hown : s.vm.findClass RX12 = some m.cls := findClass_of_methodNamed B.named
  have hlocks := B.notSynchronized
  have hP : PD D A [bl_X12 cy A_m m_at m_names m_status m_top m_bottom m_sort m_trayMany m_trays m_tape m_text m_taped m_size m_token m_from m_end m_value m_faultKind m_faultPlace m_faults m_seen m_toldParts m_opened m_depth m_counted m_bestOrder m_standers m_has m_bestHas m_standerMany m_bestCouples m_bestFondness m_cameTo m_doesStandFirst m_stoodBy m_drawn m_ranSteps m_loops m_ran m_told1 m_isTold m_marks] s.heap := ⟨hP, by rw [hA]; exact hD0.own⟩
  have hS : va_S A s.heap s.heap [] := va_S.rf
  obtain ⟨ls, hl, hent⟩ := ent (m := m) (n := 2) hargs (Nat.le_of_ble_eq_true rfl) (lv := [(0, .ref (A_m 0)), (1, .int x1)]) rfl
  rw [hent]
  clear hent
  unfold f_X12_draw at h
  refine lv_aload_n hx hb dX12_draw_0 rfl (lv_at hl 0 rfl) ?_
  refine lv_aload_n hx hb dX12_draw_1 rfl (lv_at hl 0 rfl) ?_
  refine xget (i := 0) (j := 0) (k := 34) (T := TX12) hx hb ht tb_iX12 hown hX hP.1 rfl rfl rfl (by decide) tb_1263 rfl dX12_draw_2 ?_
  refine lv_sipush (v := 3109) hx hb dX12_draw_5 (by decide) ?_
  refine lv_imul hx hb dX12_draw_8 ?_
  refine lv_sipush (v := 11321) hx hb dX12_draw_9 (by decide) ?_
  refine lv_iadd hx hb dX12_draw_12 ?_
  refine lv_ldcw (v := 65536) hx hb hown (ht _ tb_1891) dX12_draw_13 ?_
  refine lv_irem hx hb dX12_draw_16 (by decide) ?_
  refine lv_topi (fun m_drawn_3 e_m_drawn_3 => ?_)
  have h := bn e_m_drawn_3 h
  refine xput (i := 0) (j := 0) (k := 34) (T := TX12) tyX12 tyX12_ok nmX12 hx hb ht tb_iX12 hown hX hP hS rfl rfl rfl (by decide) tb_1263 rfl rfl rfl (Nat.le_of_ble_eq_true rfl) dX12_draw_17 (fun H locs hP hS => ?_)
  have hP : PD D A [bl_X12 cy A_m m_at m_names m_status m_top m_bottom m_sort m_trayMany m_trays m_tape m_text m_taped m_size m_token m_from m_end m_value m_faultKind m_faultPlace m_faults m_seen m_toldParts m_opened m_depth m_counted m_bestOrder m_standers m_has m_bestHas m_standerMany m_bestCouples m_bestFondness m_cameTo m_doesStandFirst m_stoodBy m_drawn_3 m_ranSteps m_loops m_ran m_told1 m_isTold m_marks] H := hP
  refine lv_aload_n hx hb dX12_draw_20 rfl (lv_at hl 0 rfl) ?_
  refine xget (i := 0) (j := 0) (k := 34) (T := TX12) hx hb ht tb_iX12 hown hX hP.1 rfl rfl rfl (by decide) tb_1263 rfl dX12_draw_21 ?_
  refine lv_bipush (v := 8) hx hb dX12_draw_24 (by decide) ?_
  refine lv_idiv hx hb dX12_draw_26 (by decide) ?_
  refine lv_iload_n hx hb dX12_draw_27 rfl (lv_at hl 1 rfl) ?_
  obtain ⟨y_4, e_y_4, h⟩ := bi h
  refine lv_irem hx hb dX12_draw_28 (nzI_ok e_y_4).1 ?_
  cases h
  subst hW1
  exact W.iret hx hb hr (fun _ ht9 _ => ⟨⟨_, (), rfl, rfl, hPt ht9 hP.1⟩, hS.F ht9⟩) hS.2.2 dX12_draw_29
theorem dX12_facesBy_0 : decode cX12_facesBy 0 = .ok (.aload_n 0, 1) := by decide +kernel
theorem dX12_facesBy_1 : decode cX12_facesBy 1 = .ok (.iload_n 1, 1) := by decide +kernel
theorem dX12_facesBy_2 : decode cX12_facesBy 2 = .ok (.invokevirtual 253, 3) := by decide +kernel
theorem dX12_facesBy_5 : decode cX12_facesBy 5 = .ok (.ifCond .ne 5, 3) := by decide +kernel
theorem dX12_facesBy_8 : decode cX12_facesBy 8 = .ok (.iconst 0, 1) := by decide +kernel
theorem dX12_facesBy_9 : decode cX12_facesBy 9 = .ok (.ireturn, 1) := by decide +kernel
theorem dX12_facesBy_10 : decode cX12_facesBy 10 = .ok (.aload_n 0, 1) := by decide +kernel
theorem dX12_facesBy_11 : decode cX12_facesBy 11 = .ok (.iload_n 1, 1) := by decide +kernel
theorem dX12_facesBy_12 : decode cX12_facesBy 12 = .ok (.iload_n 2, 1) := by decide +kernel
theorem dX12_facesBy_13 : decode cX12_facesBy 13 = .ok (.invokevirtual 296, 3) := by decide +kernel
theorem dX12_facesBy_16 : decode cX12_facesBy 16 = .ok (.istore_n 3, 1) := by decide +kernel
theorem dX12_facesBy_17 : decode cX12_facesBy 17 = .ok (.aload_n 0, 1) := by decide +kernel
theorem dX12_facesBy_18 : decode cX12_facesBy 18 = .ok (.getfield 65, 3) := by decide +kernel
theorem dX12_facesBy_21 : decode cX12_facesBy 21 = .ok (.iload_n 3, 1) := by decide +kernel
theorem dX12_facesBy_22 : decode cX12_facesBy 22 = .ok (.bipush 9, 2) := by decide +kernel
theorem dX12_facesBy_24 : decode cX12_facesBy 24 = .ok (.if_icmp .ne 7, 3) := by decide +kernel
theorem dX12_facesBy_27 : decode cX12_facesBy 27 = .ok (.iconst 2, 1) := by decide +kernel
theorem dX12_facesBy_28 : decode cX12_facesBy 28 = .ok (.goto 4, 3) := by decide +kernel
theorem dX12_facesBy_31 : decode cX12_facesBy 31 = .ok (.iconst 1, 1) := by decide +kernel
theorem dX12_facesBy_32 : decode cX12_facesBy 32 = .ok (.dup2, 1) := by decide +kernel
theorem dX12_facesBy_33 : decode cX12_facesBy 33 = .ok (.iaload, 1) := by decide +kernel
theorem dX12_facesBy_34 : decode cX12_facesBy 34 = .ok (.iconst 1, 1) := by decide +kernel
theorem dX12_facesBy_35 : decode cX12_facesBy 35 = .ok (.iadd, 1) := by decide +kernel
theorem dX12_facesBy_36 : decode cX12_facesBy 36 = .ok (.iastore, 1) := by decide +kernel
theorem dX12_facesBy_37 : decode cX12_facesBy 37 = .ok (.aload_n 0, 1) := by decide +kernel
theorem dX12_facesBy_38 : decode cX12_facesBy 38 = .ok (.getfield 65, 3) := by decide +kernel
theorem dX12_facesBy_41 : decode cX12_facesBy 41 = .ok (.iconst 3, 1) := by decide +kernel
theorem dX12_facesBy_42 : decode cX12_facesBy 42 = .ok (.dup2, 1) := by decide +kernel
theorem dX12_facesBy_43 : decode cX12_facesBy 43 = .ok (.iaload, 1) := by decide +kernel
theorem dX12_facesBy_44 : decode cX12_facesBy 44 = .ok (.iload_n 3, 1) := by decide +kernel
theorem dX12_facesBy_45 : decode cX12_facesBy 45 = .ok (.bipush 8, 2) := by decide +kernel
theorem dX12_facesBy_47 : decode cX12_facesBy 47 = .ok (.if_icmp .ge 7, 3) := by decide +kernel
theorem dX12_facesBy_50 : decode cX12_facesBy 50 = .ok (.iconst 1, 1) := by decide +kernel
theorem dX12_facesBy_51 : decode cX12_facesBy 51 = .ok (.goto 4, 3) := by decide +kernel
theorem dX12_facesBy_54 : decode cX12_facesBy 54 = .ok (.iconst 0, 1) := by decide +kernel
theorem dX12_facesBy_55 : decode cX12_facesBy 55 = .ok (.iadd, 1) := by decide +kernel
theorem dX12_facesBy_56 : decode cX12_facesBy 56 = .ok (.iastore, 1) := by decide +kernel
theorem dX12_facesBy_57 : decode cX12_facesBy 57 = .ok (.iconst 1, 1) := by decide +kernel
theorem dX12_facesBy_58 : decode cX12_facesBy 58 = .ok (.ireturn, 1) := by decide +kernel
theorem mv_X12_facesBy : MV yX12_facesBy RX12 cX12_facesBy 4 (some .boolean) 2 := ⟨tb_1882, tb_1881, ts_112, tb_16, by decide +kernel, by decide +kernel, by decide +kernel⟩
def f_X12_facesBy_j32 (fu : Nat) (x1 : Int32) (x2 : Int32) (m_at : Nat → Int32) (m_ran : Nat → Int32) (x3 : Int32) (s1 : Int32) : Option (Int32 × (Nat → Int32) × (Nat → Int32)) := (rdI m_ran 5 s1).bind fun y_11 => (wrI m_ran 5 s1 (y_11 + 1)).bind fun m_ran_12 => (rdI m_ran_12 5 3).bind fun y_13 => (if 8 ≤ x3 then (wrI m_ran_12 5 3 (y_13 + 0)).bind fun m_ran_15 => some (1, m_at, m_ran_15) else (wrI m_ran_12 5 3 (y_13 + 1)).bind fun m_ran_16 => some (1, m_at, m_ran_16))
def f_X12_facesBy (fu : Nat) (m_at : Nat → Int32) (m_ran : Nat → Int32) (x1 : Int32) (x2 : Int32) : Option (Int32 × (Nat → Int32) × (Nat → Int32)) := (f_X12_isAlive fu m_at x1).bind fun z_17 => (if z_17 = 0 then some (0, m_at, m_ran) else (f_X12_faces fu m_at x1 x2).bind fun z_19 => (if z_19.1 = 9 then f_X12_facesBy_j32 fu x1 x2 z_19.2 m_ran z_19.1 2 else f_X12_facesBy_j32 fu x1 x2 z_19.2 m_ran z_19.1 1))
abbrev rm_X12_facesBy : Room := { frames := 8, cells := 0, slots := 0, locals := 185 }
set_option maxHeartbeats 4000000 in
set_option maxRecDepth 100000 in
theorem c_X12_facesBy (l : Launch) (D : va_G) (cy : Nat → ClassId) (fu : Nat) (A_m : Nat → Nat) (m_at : Nat → Int32) (m_names : Nat → Int64) (m_status : Int32) (m_top : Int64) (m_bottom : Int64) (m_sort : Nat → Int32) (m_trayMany : Nat → Int32) (m_trays : Nat → Int64) (m_tape : Nat → Int32) (m_text : Nat → Int32) (m_taped : Int32) (m_size : Int32) (m_token : Int32) (m_from : Int32) (m_end : Int32) (m_value : Int32) (m_faultKind : Int32) (m_faultPlace : Int32) (m_faults : Int32) (m_seen : Int32) (m_toldParts : Int32) (m_opened : Nat → Int32) (m_depth : Int32) (m_counted : Int32) (m_bestOrder : Int32) (m_standers : Nat → Int32) (m_has : Nat → Int32) (m_bestHas : Nat → Int32) (m_standerMany : Int32) (m_bestCouples : Int32) (m_bestFondness : Int32) (m_cameTo : Nat → Int32) (m_doesStandFirst : Int32) (m_stoodBy : Nat → Int64) (m_drawn : Int32) (m_ranSteps : Int32) (m_loops : Nat → Int32) (m_ran : Nat → Int32) (m_told1 : Nat → Int32) (m_isTold : Int32) (m_marks : Int32) (x1 : Int32) (x2 : Int32) (res : Int32 × (Nat → Int32) × (Nat → Int32)) (h : f_X12_facesBy fu m_at m_ran x1 x2 = some res) (A : Nat → Prop) (hA : A = adr [bl_X12 cy A_m m_at m_names m_status m_top m_bottom m_sort m_trayMany m_trays m_tape m_text m_taped m_size m_token m_from m_end m_value m_faultKind m_faultPlace m_faults m_seen m_toldParts m_opened m_depth m_counted m_bestOrder m_standers m_has m_bestHas m_standerMany m_bestCouples m_bestFondness m_cameTo m_doesStandFirst m_stoodBy m_drawn m_ranSteps m_loops m_ran m_told1 m_isTold m_marks]) (W1 : List va_W) (hW1 : W1 = [bl_X12 cy A_m res.2.1 m_names m_status m_top m_bottom m_sort m_trayMany m_trays m_tape m_text m_taped m_size m_token m_from m_end m_value m_faultKind m_faultPlace m_faults m_seen m_toldParts m_opened m_depth m_counted m_bestOrder m_standers m_has m_bestHas m_standerMany m_bestCouples m_bestFondness m_cameTo m_doesStandFirst m_stoodBy m_drawn m_ranSteps m_loops res.2.2 m_told1 m_isTold m_marks]) : Met l yX12_facesBy (WW yX12_facesBy cX12_facesBy 4 (some .boolean)) rm_X12_facesBy (Ed D cy [.ref (A_m 0), .int x1, .int x2] [bl_X12 cy A_m m_at m_names m_status m_top m_bottom m_sort m_trayMany m_trays m_tape m_text m_taped m_size m_token m_from m_end m_value m_faultKind m_faultPlace m_faults m_seen m_toldParts m_opened m_depth m_counted m_bestOrder m_standers m_has m_bestHas m_standerMany m_bestCouples m_bestFondness m_cameTo m_doesStandFirst m_stoodBy m_drawn m_ranSteps m_loops m_ran m_told1 m_isTold m_marks]) (Qei D res.1 A W1) 0 0 A := by
  refine Met.ofW (cc := cX12_facesBy) (maxL := 4) (ret := (some .boolean)) (by decide) rfl ?_
  intro p e s m args below meth c s₁ B hml hv
  obtain ⟨hargs, hP, hX, hD0⟩ := hv
  have hx := B.exec
  have hb := B.bytes
  have hr := B.returns
  have ht : ∀ w ∈ lw_gd, w.before args s = true := fun w hw => atoms_spec (ws := WW yX12_facesBy cX12_facesBy 4 (some .boolean)) B.pre w (List.mem_cons_of_mem _ hw)
  have hown : s.vm.findClass RX12 = some m.cls := findClass_of_methodNamed B.named
  have hlocks := B.notSynchronized
  have hP : PD D A [bl_X12 cy A_m m_at m_names m_status m_top m_bottom m_sort m_trayMany m_trays m_tape m_text m_taped m_size m_token m_from m_end m_value m_faultKind m_faultPlace m_faults m_seen m_toldParts m_opened m_depth m_counted m_bestOrder m_standers m_has m_bestHas m_standerMany m_bestCouples m_bestFondness m_cameTo m_doesStandFirst m_stoodBy m_drawn m_ranSteps m_loops m_ran m_told1 m_isTold m_marks] s.heap := ⟨hP, by rw [hA]; exact hD0.own⟩
  have hS : va_S A s.heap s.heap [] := va_S.rf
  obtain ⟨ls, hl, hent⟩ := ent (m := m) (n := 4) hargs (Nat.le_of_ble_eq_true rfl) (lv := [(0, .ref (A_m 0)), (1, .int x1), (2, .int x2)]) rfl
  rw [hent]
  clear hent
  have j32 : ∀ (m_at : Nat → Int32) (m_ran : Nat → Int32) (x3 : Int32) (s1 : Int32) (H : Heap) (locs : List Loc) (_ : PD D A [bl_X12 cy A_m m_at m_names m_status m_top m_bottom m_sort m_trayMany m_trays m_tape m_text m_taped m_size m_token m_from m_end m_value m_faultKind m_faultPlace m_faults m_seen m_toldParts m_opened m_depth m_counted m_bestOrder m_standers m_has m_bestHas m_standerMany m_bestCouples m_bestFondness m_cameTo m_doesStandFirst m_stoodBy m_drawn m_ranSteps m_loops m_ran m_told1 m_isTold m_marks] H) (_ : va_S A s.heap H locs) (ls : Array Slot), lv_has ls 4 [(0, .ref (A_m 0)), (3, .int x3)] → f_X12_facesBy_j32 fu x1 x2 m_at m_ran x3 s1 = some res → W p l e (headSpec (WW yX12_facesBy cX12_facesBy 4 (some .boolean)) rm_X12_facesBy).room s m args below meth c H locs 0 0 (MQ below (Qei D res.1 A W1) args s 0 0 A) (F0 m 32 ls [.int s1, .ref (A_m 15)]) := by
    intro m_at m_ran x3 s1 H locs hP hS ls hl h
    unfold f_X12_facesBy_j32 at h
    refine lv_dup2_11 hx hb dX12_facesBy_32 rfl rfl ?_
    obtain ⟨y_11, e_y_11, h⟩ := bi h
    refine xiald (i0 := 0) (j0 := 15) hx hb hX hP.1 rfl rfl e_y_11 dX12_facesBy_33 ?_
    refine lv_iconst (v := 1) hx hb dX12_facesBy_34 (by decide) ?_
    refine lv_iadd hx hb dX12_facesBy_35 ?_
    obtain ⟨m_ran_12, e_m_ran_12, h⟩ := bi h
    refine xiast (i0 := 0) (j0 := 15) hx hb hX hP hS rfl rfl e_m_ran_12 dX12_facesBy_36 (fun H locs hP hS => ?_)
    have hP : PD D A [bl_X12 cy A_m m_at m_names m_status m_top m_bottom m_sort m_trayMany m_trays m_tape m_text m_taped m_size m_token m_from m_end m_value m_faultKind m_faultPlace m_faults m_seen m_toldParts m_opened m_depth m_counted m_bestOrder m_standers m_has m_bestHas m_standerMany m_bestCouples m_bestFondness m_cameTo m_doesStandFirst m_stoodBy m_drawn m_ranSteps m_loops m_ran_12 m_told1 m_isTold m_marks] H := hP
    refine lv_aload_n hx hb dX12_facesBy_37 rfl (lv_at hl 0 rfl) ?_
    refine xget (i := 0) (j := 0) (k := 37) (T := TX12) hx hb ht tb_iX12 hown hX hP.1 rfl rfl rfl (by decide) tb_1266 rfl dX12_facesBy_38 ?_
    refine lv_iconst (v := 3) hx hb dX12_facesBy_41 (by decide) ?_
    refine lv_dup2_11 hx hb dX12_facesBy_42 rfl rfl ?_
    obtain ⟨y_13, e_y_13, h⟩ := bi h
    refine xiald (i0 := 0) (j0 := 15) hx hb hX hP.1 rfl rfl e_y_13 dX12_facesBy_43 ?_
    refine lv_iload_n hx hb dX12_facesBy_44 rfl (lv_at hl 1 rfl) ?_
    refine lv_bipush (v := 8) hx hb dX12_facesBy_45 (by decide) ?_
    refine lv_icmp_ge (tgt := 54) hx hb dX12_facesBy_47 (by decide) (fun c_14 => ?_) (fun c_14 => ?_)
    · have h := it c_14 h
      refine lv_iconst (v := 0) hx hb dX12_facesBy_54 (by decide) ?_
      refine lv_iadd hx hb dX12_facesBy_55 ?_
      obtain ⟨m_ran_15, e_m_ran_15, h⟩ := bi h
      refine xiast (i0 := 0) (j0 := 15) hx hb hX hP hS rfl rfl e_m_ran_15 dX12_facesBy_56 (fun H locs hP hS => ?_)
      have hP : PD D A [bl_X12 cy A_m m_at m_names m_status m_top m_bottom m_sort m_trayMany m_trays m_tape m_text m_taped m_size m_token m_from m_end m_value m_faultKind m_faultPlace m_faults m_seen m_toldParts m_opened m_depth m_counted m_bestOrder m_standers m_has m_bestHas m_standerMany m_bestCouples m_bestFondness m_cameTo m_doesStandFirst m_stoodBy m_drawn m_ranSteps m_loops m_ran_15 m_told1 m_isTold m_marks] H := hP
      refine lv_iconst (v := 1) hx hb dX12_facesBy_57 (by decide) ?_
      cases h
      subst hW1
      exact W.zret hx hb hr rfl (fun _ ht9 _ => ⟨⟨_, (), rfl, rfl, hPt ht9 hP.1⟩, hS.F ht9⟩) hS.2.2 dX12_facesBy_58
    · have h := ie c_14 h
      refine lv_iconst (v := 1) hx hb dX12_facesBy_50 (by decide) ?_
      refine lv_goto (tgt := 55) hx hb dX12_facesBy_51 (by decide) ?_
      refine lv_iadd hx hb dX12_facesBy_55 ?_
      obtain ⟨m_ran_16, e_m_ran_16, h⟩ := bi h
      refine xiast (i0 := 0) (j0 := 15) hx hb hX hP hS rfl rfl e_m_ran_16 dX12_facesBy_56 (fun H locs hP hS => ?_)
      have hP : PD D A [bl_X12 cy A_m m_at m_names m_status m_top m_bottom m_sort m_trayMany m_trays m_tape m_text m_taped m_size m_token m_from m_end m_value m_faultKind m_faultPlace m_faults m_seen m_toldParts m_opened m_depth m_counted m_bestOrder m_standers m_has m_bestHas m_standerMany m_bestCouples m_bestFondness m_cameTo m_doesStandFirst m_stoodBy m_drawn m_ranSteps m_loops m_ran_16 m_told1 m_isTold m_marks] H := hP
      refine lv_iconst (v := 1) hx hb dX12_facesBy_57 (by decide) ?_
      cases h
      subst hW1
      exact W.zret hx hb hr rfl (fun _ ht9 _ => ⟨⟨_, (), rfl, rfl, hPt ht9 hP.1⟩, hS.F ht9⟩) hS.2.2 dX12_facesBy_58
  unfold f_X12_facesBy at h
  refine lv_aload_n hx hb dX12_facesBy_0 rfl (lv_at hl 0 rfl) ?_
  refine lv_iload_n hx hb dX12_facesBy_1 rfl (lv_at hl 1 rfl) ?_
  obtain ⟨z_17, e_z_17, h⟩ := bi h
  refine roVi (rest := []) ⟨hx, hb, hml, hown, ht⟩ (c_X12_isAlive l D cy fu A_m m_at m_names m_status m_top m_bottom m_sort m_trayMany m_trays m_tape m_text m_taped m_size m_token m_from m_end m_value m_faultKind m_faultPlace m_faults m_seen m_toldParts m_opened m_depth m_counted m_bestOrder m_standers m_has m_bestHas m_standerMany m_bestCouples m_bestFondness m_cameTo m_doesStandFirst m_stoodBy m_drawn m_ranSteps m_loops m_ran m_told1 m_isTold m_marks x1 z_17 e_z_17) (cV ht mv_X12_isAlive tb_1531 rfl rfl ⟨Nat.le_of_ble_eq_true rfl, Nat.le_of_ble_eq_true rfl⟩) (P_sub hP.1 [0] rfl) hX rfl rfl rfl hl.1 rfl (Nat.le_of_ble_eq_true rfl) dX12_facesBy_2 ⟨Nat.le_of_ble_eq_true rfl, Nat.le_of_ble_eq_true rfl⟩ ?_
  refine lv_if_ne (tgt := 10) hx hb dX12_facesBy_5 (by decide) (fun c_18 => ?_) (fun c_18 => ?_)
  · have h := ie c_18 h
    refine lv_aload_n hx hb dX12_facesBy_10 rfl (lv_at hl 0 rfl) ?_
    refine lv_iload_n hx hb dX12_facesBy_11 rfl (lv_at hl 1 rfl) ?_
    refine lv_iload_n hx hb dX12_facesBy_12 rfl (lv_at hl 2 rfl) ?_
    obtain ⟨z_19, e_z_19, h⟩ := bi h
    refine efVi (rest := []) ⟨hx, hb, hml, hown, ht⟩ (c_X12_faces l D cy fu A_m m_at m_names m_status m_top m_bottom m_sort m_trayMany m_trays m_tape m_text m_taped m_size m_token m_from m_end m_value m_faultKind m_faultPlace m_faults m_seen m_toldParts m_opened m_depth m_counted m_bestOrder m_standers m_has m_bestHas m_standerMany m_bestCouples m_bestFondness m_cameTo m_doesStandFirst m_stoodBy m_drawn m_ranSteps m_loops m_ran m_told1 m_isTold m_marks x1 x2 z_19 e_z_19 _ rfl _ rfl) (cV ht mv_X12_faces tb_1578 rfl rfl ⟨Nat.le_of_ble_eq_true rfl, Nat.le_of_ble_eq_true rfl⟩) hP hS hX [0] rfl rfl rfl rfl rfl rfl hl.1 rfl (Nat.le_of_ble_eq_true rfl) dX12_facesBy_13 ⟨Nat.le_of_ble_eq_true rfl, Nat.le_of_ble_eq_true rfl⟩ (fun H locs hP hS => ?_)
    have hP : PD D A [bl_X12 cy A_m z_19.2 m_names m_status m_top m_bottom m_sort m_trayMany m_trays m_tape m_text m_taped m_size m_token m_from m_end m_value m_faultKind m_faultPlace m_faults m_seen m_toldParts m_opened m_depth m_counted m_bestOrder m_standers m_has m_bestHas m_standerMany m_bestCouples m_bestFondness m_cameTo m_doesStandFirst m_stoodBy m_drawn m_ranSteps m_loops m_ran m_told1 m_isTold m_marks] H := hP
    refine lv_istore_n (lv' := [(3, .int z_19.1), (0, .ref (A_m 0)), (1, .int x1), (2, .int x2)]) hx hb dX12_facesBy_16 rfl hl (by decide) rfl (fun ls hl => ?_)
    refine lv_aload_n hx hb dX12_facesBy_17 rfl (lv_at hl 1 rfl) ?_
    refine xget (i := 0) (j := 0) (k := 37) (T := TX12) hx hb ht tb_iX12 hown hX hP.1 rfl rfl rfl (by decide) tb_1266 rfl dX12_facesBy_18 ?_
    refine lv_iload_n hx hb dX12_facesBy_21 rfl (lv_at hl 0 rfl) ?_
    refine lv_bipush (v := 9) hx hb dX12_facesBy_22 (by decide) ?_
    refine lv_icmp_ne (tgt := 31) hx hb dX12_facesBy_24 (by decide) (fun c_20 => ?_) (fun c_20 => ?_)
    · have h := ie c_20 h
      refine lv_iconst (v := 1) hx hb dX12_facesBy_31 (by decide) ?_
      exact j32 z_19.2 m_ran z_19.1 1 _ _ hP hS ls (lv_sub hl [1, 0] rfl) h
    · have h := it c_20 h
      refine lv_iconst (v := 2) hx hb dX12_facesBy_27 (by decide) ?_
      refine lv_goto (tgt := 32) hx hb dX12_facesBy_28 (by decide) ?_
      exact j32 z_19.2 m_ran z_19.1 2 _ _ hP hS ls (lv_sub hl [1, 0] rfl) h
  · have h := it c_18 h
    refine lv_iconst (v := 0) hx hb dX12_facesBy_8 (by decide) ?_
    cases h
    subst hW1
    exact W.zret hx hb hr rfl (fun _ ht9 _ => ⟨⟨_, (), rfl, rfl, hPt ht9 hP.1⟩, hS.F ht9⟩) hS.2.2 dX12_facesBy_9
theorem dX12_facesAny_0 : decode cX12_facesAny 0 = .ok (.aload_n 0, 1) := by decide +kernel
theorem dX12_facesAny_1 : decode cX12_facesAny 1 = .ok (.getfield 7, 3) := by decide +kernel
theorem dX12_facesAny_4 : decode cX12_facesAny 4 = .ok (.iconst 0, 1) := by decide +kernel
theorem dX12_facesAny_5 : decode cX12_facesAny 5 = .ok (.iaload, 1) := by decide +kernel
theorem dX12_facesAny_6 : decode cX12_facesAny 6 = .ok (.ifCond .ne 5, 3) := by decide +kernel
theorem dX12_facesAny_9 : decode cX12_facesAny 9 = .ok (.iconst 0, 1) := by decide +kernel
theorem dX12_facesAny_10 : decode cX12_facesAny 10 = .ok (.ireturn, 1) := by decide +kernel
theorem dX12_facesAny_11 : decode cX12_facesAny 11 = .ok (.aload_n 0, 1) := by decide +kernel
theorem dX12_facesAny_12 : decode cX12_facesAny 12 = .ok (.aload_n 0, 1) := by decide +kernel
theorem dX12_facesAny_13 : decode cX12_facesAny 13 = .ok (.getfield 7, 3) := by decide +kernel
theorem dX12_facesAny_16 : decode cX12_facesAny 16 = .ok (.iconst 0, 1) := by decide +kernel
theorem dX12_facesAny_17 : decode cX12_facesAny 17 = .ok (.iaload, 1) := by decide +kernel
theorem dX12_facesAny_18 : decode cX12_facesAny 18 = .ok (.invokevirtual 422, 3) := by decide +kernel
theorem dX12_facesAny_21 : decode cX12_facesAny 21 = .ok (.istore_n 1, 1) := by decide +kernel
theorem dX12_facesAny_22 : decode cX12_facesAny 22 = .ok (.aload_n 0, 1) := by decide +kernel
theorem dX12_facesAny_23 : decode cX12_facesAny 23 = .ok (.iload_n 1, 1) := by decide +kernel
theorem dX12_facesAny_24 : decode cX12_facesAny 24 = .ok (.iconst 1, 1) := by decide +kernel
theorem dX12_facesAny_25 : decode cX12_facesAny 25 = .ok (.aload_n 0, 1) := by decide +kernel
theorem dX12_facesAny_26 : decode cX12_facesAny 26 = .ok (.bipush 20, 2) := by decide +kernel
theorem dX12_facesAny_28 : decode cX12_facesAny 28 = .ok (.invokevirtual 422, 3) := by decide +kernel
theorem dX12_facesAny_31 : decode cX12_facesAny 31 = .ok (.iadd, 1) := by decide +kernel
theorem dX12_facesAny_32 : decode cX12_facesAny 32 = .ok (.invokevirtual 425, 3) := by decide +kernel
theorem dX12_facesAny_35 : decode cX12_facesAny 35 = .ok (.ireturn, 1) := by decide +kernel
theorem mv_X12_facesAny : MV yX12_facesAny RX12 cX12_facesAny 2 (some .boolean) 0 := ⟨tb_1886, tb_1885, ts_113, tb_16, by decide +kernel, by decide +kernel, by decide +kernel⟩
def f_X12_facesAny (fu : Nat) (m_at : Nat → Int32) (m_drawn : Int32) (m_ran : Nat → Int32) : Option (Int32 × (Nat → Int32) × Int32 × (Nat → Int32)) := (rdI m_at 3648 0).bind fun y_8 => (if y_8 = 0 then some (0, m_at, m_drawn, m_ran) else (rdI m_at 3648 0).bind fun y_10 => (f_X12_draw fu m_drawn y_10).bind fun z_11 => (f_X12_draw fu z_11.2 20).bind fun z_12 => (f_X12_facesBy fu m_at m_ran z_11.1 (1 + z_12.1)).bind fun z_13 => (bz z_13.1).bind fun _ => some (z_13.1, z_13.2.1, z_12.2, z_13.2.2))
abbrev rm_X12_facesAny : Room := { frames := 9, cells := 0, slots := 0, locals := 208 }
set_option maxHeartbeats 4000000 in
set_option maxRecDepth 100000 in
theorem c_X12_facesAny (l : Launch) (D : va_G) (cy : Nat → ClassId) (fu : Nat) (A_m : Nat → Nat) (m_at : Nat → Int32) (m_names : Nat → Int64) (m_status : Int32) (m_top : Int64) (m_bottom : Int64) (m_sort : Nat → Int32) (m_trayMany : Nat → Int32) (m_trays : Nat → Int64) (m_tape : Nat → Int32) (m_text : Nat → Int32) (m_taped : Int32) (m_size : Int32) (m_token : Int32) (m_from : Int32) (m_end : Int32) (m_value : Int32) (m_faultKind : Int32) (m_faultPlace : Int32) (m_faults : Int32) (m_seen : Int32) (m_toldParts : Int32) (m_opened : Nat → Int32) (m_depth : Int32) (m_counted : Int32) (m_bestOrder : Int32) (m_standers : Nat → Int32) (m_has : Nat → Int32) (m_bestHas : Nat → Int32) (m_standerMany : Int32) (m_bestCouples : Int32) (m_bestFondness : Int32) (m_cameTo : Nat → Int32) (m_doesStandFirst : Int32) (m_stoodBy : Nat → Int64) (m_drawn : Int32) (m_ranSteps : Int32) (m_loops : Nat → Int32) (m_ran : Nat → Int32) (m_told1 : Nat → Int32) (m_isTold : Int32) (m_marks : Int32) (res : Int32 × (Nat → Int32) × Int32 × (Nat → Int32)) (h : f_X12_facesAny fu m_at m_drawn m_ran = some res) (A : Nat → Prop) (hA : A = adr [bl_X12 cy A_m m_at m_names m_status m_top m_bottom m_sort m_trayMany m_trays m_tape m_text m_taped m_size m_token m_from m_end m_value m_faultKind m_faultPlace m_faults m_seen m_toldParts m_opened m_depth m_counted m_bestOrder m_standers m_has m_bestHas m_standerMany m_bestCouples m_bestFondness m_cameTo m_doesStandFirst m_stoodBy m_drawn m_ranSteps m_loops m_ran m_told1 m_isTold m_marks]) (W1 : List va_W) (hW1 : W1 = [bl_X12 cy A_m res.2.1 m_names m_status m_top m_bottom m_sort m_trayMany m_trays m_tape m_text m_taped m_size m_token m_from m_end m_value m_faultKind m_faultPlace m_faults m_seen m_toldParts m_opened m_depth m_counted m_bestOrder m_standers m_has m_bestHas m_standerMany m_bestCouples m_bestFondness m_cameTo m_doesStandFirst m_stoodBy res.2.2.1 m_ranSteps m_loops res.2.2.2 m_told1 m_isTold m_marks]) : Met l yX12_facesAny (WW yX12_facesAny cX12_facesAny 2 (some .boolean)) rm_X12_facesAny (Ed D cy [.ref (A_m 0)] [bl_X12 cy A_m m_at m_names m_status m_top m_bottom m_sort m_trayMany m_trays m_tape m_text m_taped m_size m_token m_from m_end m_value m_faultKind m_faultPlace m_faults m_seen m_toldParts m_opened m_depth m_counted m_bestOrder m_standers m_has m_bestHas m_standerMany m_bestCouples m_bestFondness m_cameTo m_doesStandFirst m_stoodBy m_drawn m_ranSteps m_loops m_ran m_told1 m_isTold m_marks]) (Qei D res.1 A W1) 0 0 A := by
  refine Met.ofW (cc := cX12_facesAny) (maxL := 2) (ret := (some .boolean)) (by decide) rfl ?_
  intro p e s m args below meth c s₁ B hml hv
  obtain ⟨hargs, hP, hX, hD0⟩ := hv
  have hx := B.exec
  have hb := B.bytes
  have hr := B.returns
  have ht : ∀ w ∈ lw_gd, w.before args s = true := fun w hw => atoms_spec (ws := WW yX12_facesAny cX12_facesAny 2 (some .boolean)) B.pre w (List.mem_cons_of_mem _ hw)
  have hown : s.vm.findClass RX12 = some m.cls := findClass_of_methodNamed B.named
  have hlocks := B.notSynchronized
  have hP : PD D A [bl_X12 cy A_m m_at m_names m_status m_top m_bottom m_sort m_trayMany m_trays m_tape m_text m_taped m_size m_token m_from m_end m_value m_faultKind m_faultPlace m_faults m_seen m_toldParts m_opened m_depth m_counted m_bestOrder m_standers m_has m_bestHas m_standerMany m_bestCouples m_bestFondness m_cameTo m_doesStandFirst m_stoodBy m_drawn m_ranSteps m_loops m_ran m_told1 m_isTold m_marks] s.heap := ⟨hP, by rw [hA]; exact hD0.own⟩
  have hS : va_S A s.heap s.heap [] := va_S.rf
  obtain ⟨ls, hl, hent⟩ := ent (m := m) (n := 2) hargs (Nat.le_of_ble_eq_true rfl) (lv := [(0, .ref (A_m 0))]) rfl
  rw [hent]
  clear hent
  unfold f_X12_facesAny at h
  refine lv_aload_n hx hb dX12_facesAny_0 rfl (lv_at hl 0 rfl) ?_
  refine xget (i := 0) (j := 0) (k := 0) (T := TX12) hx hb ht tb_iX12 hown hX hP.1 rfl rfl rfl (by decide) tb_1229 rfl dX12_facesAny_1 ?_
  refine lv_iconst (v := 0) hx hb dX12_facesAny_4 (by decide) ?_
  obtain ⟨y_8, e_y_8, h⟩ := bi h
  refine xiald (i0 := 0) (j0 := 1) hx hb hX hP.1 rfl rfl e_y_8 dX12_facesAny_5 ?_
  refine lv_if_ne (tgt := 11) hx hb dX12_facesAny_6 (by decide) (fun c_9 => ?_) (fun c_9 => ?_)
  · have h := ie c_9 h
    refine lv_aload_n hx hb dX12_facesAny_11 rfl (lv_at hl 0 rfl) ?_
    refine lv_aload_n hx hb dX12_facesAny_12 rfl (lv_at hl 0 rfl) ?_
    refine xget (i := 0) (j := 0) (k := 0) (T := TX12) hx hb ht tb_iX12 hown hX hP.1 rfl rfl rfl (by decide) tb_1229 rfl dX12_facesAny_13 ?_
    refine lv_iconst (v := 0) hx hb dX12_facesAny_16 (by decide) ?_
    obtain ⟨y_10, e_y_10, h⟩ := bi h
    refine xiald (i0 := 0) (j0 := 1) hx hb hX hP.1 rfl rfl e_y_10 dX12_facesAny_17 ?_
    obtain ⟨z_11, e_z_11, h⟩ := bi h
    refine efVi (rest := []) ⟨hx, hb, hml, hown, ht⟩ (c_X12_draw l D cy fu A_m m_at m_names m_status m_top m_bottom m_sort m_trayMany m_trays m_tape m_text m_taped m_size m_token m_from m_end m_value m_faultKind m_faultPlace m_faults m_seen m_toldParts m_opened m_depth m_counted m_bestOrder m_standers m_has m_bestHas m_standerMany m_bestCouples m_bestFondness m_cameTo m_doesStandFirst m_stoodBy m_drawn m_ranSteps m_loops m_ran m_told1 m_isTold m_marks y_10 z_11 e_z_11 _ rfl _ rfl) (cV ht mv_X12_draw tb_1887 rfl rfl ⟨Nat.le_of_ble_eq_true rfl, Nat.le_of_ble_eq_true rfl⟩) hP hS hX [0] rfl rfl rfl rfl rfl rfl hl.1 rfl (Nat.le_of_ble_eq_true rfl) dX12_facesAny_18 ⟨Nat.le_of_ble_eq_true rfl, Nat.le_of_ble_eq_true rfl⟩ (fun H locs hP hS => ?_)
    have hP : PD D A [bl_X12 cy A_m m_at m_names m_status m_top m_bottom m_sort m_trayMany m_trays m_tape m_text m_taped m_size m_token m_from m_end m_value m_faultKind m_faultPlace m_faults m_seen m_toldParts m_opened m_depth m_counted m_bestOrder m_standers m_has m_bestHas m_standerMany m_bestCouples m_bestFondness m_cameTo m_doesStandFirst m_stoodBy z_11.2 m_ranSteps m_loops m_ran m_told1 m_isTold m_marks] H := hP
    refine lv_istore_n (lv' := [(1, .int z_11.1), (0, .ref (A_m 0))]) hx hb dX12_facesAny_21 rfl hl (by decide) rfl (fun ls hl => ?_)
    refine lv_aload_n hx hb dX12_facesAny_22 rfl (lv_at hl 1 rfl) ?_
    refine lv_iload_n hx hb dX12_facesAny_23 rfl (lv_at hl 0 rfl) ?_
    refine lv_iconst (v := 1) hx hb dX12_facesAny_24 (by decide) ?_
    refine lv_aload_n hx hb dX12_facesAny_25 rfl (lv_at hl 1 rfl) ?_
    refine lv_bipush (v := 20) hx hb dX12_facesAny_26 (by decide) ?_
    obtain ⟨z_12, e_z_12, h⟩ := bi h
    refine efVi (rest := [.int 1, .int z_11.1, .ref (A_m 0)]) ⟨hx, hb, hml, hown, ht⟩ (c_X12_draw l D cy fu A_m m_at m_names m_status m_top m_bottom m_sort m_trayMany m_trays m_tape m_text m_taped m_size m_token m_from m_end m_value m_faultKind m_faultPlace m_faults m_seen m_toldParts m_opened m_depth m_counted m_bestOrder m_standers m_has m_bestHas m_standerMany m_bestCouples m_bestFondness m_cameTo m_doesStandFirst m_stoodBy z_11.2 m_ranSteps m_loops m_ran m_told1 m_isTold m_marks 20 z_12 e_z_12 _ rfl _ rfl) (cV ht mv_X12_draw tb_1887 rfl rfl ⟨Nat.le_of_ble_eq_true rfl, Nat.le_of_ble_eq_true rfl⟩) hP hS hX [0] rfl rfl rfl rfl rfl rfl hl.1 rfl (Nat.le_of_ble_eq_true rfl) dX12_facesAny_28 ⟨Nat.le_of_ble_eq_true rfl, Nat.le_of_ble_eq_true rfl⟩ (fun H locs hP hS => ?_)
    have hP : PD D A [bl_X12 cy A_m m_at m_names m_status m_top m_bottom m_sort m_trayMany m_trays m_tape m_text m_taped m_size m_token m_from m_end m_value m_faultKind m_faultPlace m_faults m_seen m_toldParts m_opened m_depth m_counted m_bestOrder m_standers m_has m_bestHas m_standerMany m_bestCouples m_bestFondness m_cameTo m_doesStandFirst m_stoodBy z_12.2 m_ranSteps m_loops m_ran m_told1 m_isTold m_marks] H := hP
    refine lv_iadd hx hb dX12_facesAny_31 ?_
    obtain ⟨z_13, e_z_13, h⟩ := bi h
    refine efVi (rest := []) ⟨hx, hb, hml, hown, ht⟩ (c_X12_facesBy l D cy fu A_m m_at m_names m_status m_top m_bottom m_sort m_trayMany m_trays m_tape m_text m_taped m_size m_token m_from m_end m_value m_faultKind m_faultPlace m_faults m_seen m_toldParts m_opened m_depth m_counted m_bestOrder m_standers m_has m_bestHas m_standerMany m_bestCouples m_bestFondness m_cameTo m_doesStandFirst m_stoodBy z_12.2 m_ranSteps m_loops m_ran m_told1 m_isTold m_marks z_11.1 (1 + z_12.1) z_13 e_z_13 _ rfl _ rfl) (cV ht mv_X12_facesBy tb_1879 rfl rfl ⟨Nat.le_of_ble_eq_true rfl, Nat.le_of_ble_eq_true rfl⟩) hP hS hX [0] rfl rfl rfl rfl rfl rfl hl.1 rfl (Nat.le_of_ble_eq_true rfl) dX12_facesAny_32 ⟨Nat.le_of_ble_eq_true rfl, Nat.le_of_ble_eq_true rfl⟩ (fun H locs hP hS => ?_)
    have hP : PD D A [bl_X12 cy A_m z_13.2.1 m_names m_status m_top m_bottom m_sort m_trayMany m_trays m_tape m_text m_taped m_size m_token m_from m_end m_value m_faultKind m_faultPlace m_faults m_seen m_toldParts m_opened m_depth m_counted m_bestOrder m_standers m_has m_bestHas m_standerMany m_bestCouples m_bestFondness m_cameTo m_doesStandFirst m_stoodBy z_12.2 m_ranSteps m_loops z_13.2.2 m_told1 m_isTold m_marks] H := hP
    obtain ⟨b_14, e_b_14, h⟩ := bi h
    obtain ⟨-, n_b_14, -⟩ := bz_ok e_b_14
    cases h
    subst hW1
    exact W.zret hx hb hr n_b_14 (fun _ ht9 _ => ⟨⟨_, (), rfl, rfl, hPt ht9 hP.1⟩, hS.F ht9⟩) hS.2.2 dX12_facesAny_35
  · have h := it c_9 h
    refine lv_iconst (v := 0) hx hb dX12_facesAny_9 (by decide) ?_
    cases h
    subst hW1
    exact W.zret hx hb hr rfl (fun _ ht9 _ => ⟨⟨_, (), rfl, rfl, hPt ht9 hP.1⟩, hS.F ht9⟩) hS.2.2 dX12_facesAny_10
theorem dX12_does_0 : decode cX12_does 0 = .ok (.aload_n 0, 1) := by decide +kernel
theorem dX12_does_1 : decode cX12_does 1 = .ok (.getfield 7, 3) := by decide +kernel
theorem dX12_does_4 : decode cX12_does 4 = .ok (.iload_n 1, 1) := by decide +kernel
theorem dX12_does_5 : decode cX12_does 5 = .ok (.iconst 1, 1) := by decide +kernel
theorem dX12_does_6 : decode cX12_does 6 = .ok (.iadd, 1) := by decide +kernel
theorem dX12_does_7 : decode cX12_does 7 = .ok (.iaload, 1) := by decide +kernel
theorem dX12_does_8 : decode cX12_does 8 = .ok (.istore_n 2, 1) := by decide +kernel
theorem dX12_does_9 : decode cX12_does 9 = .ok (.aload_n 0, 1) := by decide +kernel
theorem dX12_does_10 : decode cX12_does 10 = .ok (.getfield 7, 3) := by decide +kernel
theorem dX12_does_13 : decode cX12_does 13 = .ok (.iload_n 1, 1) := by decide +kernel
theorem dX12_does_14 : decode cX12_does 14 = .ok (.iaload, 1) := by decide +kernel
theorem dX12_does_15 : decode cX12_does 15 = .ok (.tableswitch 78 7 11 #[33, 47, 61, 67, 73], 33) := by decide +kernel
theorem dX12_does_48 : decode cX12_does 48 = .ok (.aload_n 0, 1) := by decide +kernel
theorem dX12_does_49 : decode cX12_does 49 = .ok (.iload_n 2, 1) := by decide +kernel
theorem dX12_does_50 : decode cX12_does 50 = .ok (.aload_n 0, 1) := by decide +kernel
theorem dX12_does_51 : decode cX12_does 51 = .ok (.getfield 7, 3) := by decide +kernel
theorem dX12_does_54 : decode cX12_does 54 = .ok (.iload_n 1, 1) := by decide +kernel
theorem dX12_does_55 : decode cX12_does 55 = .ok (.iconst 2, 1) := by decide +kernel
theorem dX12_does_56 : decode cX12_does 56 = .ok (.iadd, 1) := by decide +kernel
theorem dX12_does_57 : decode cX12_does 57 = .ok (.iaload, 1) := by decide +kernel
theorem dX12_does_58 : decode cX12_does 58 = .ok (.invokevirtual 425, 3) := by decide +kernel
theorem dX12_does_61 : decode cX12_does 61 = .ok (.ireturn, 1) := by decide +kernel
theorem dX12_does_62 : decode cX12_does 62 = .ok (.aload_n 0, 1) := by decide +kernel
theorem dX12_does_63 : decode cX12_does 63 = .ok (.iload_n 2, 1) := by decide +kernel
theorem dX12_does_64 : decode cX12_does 64 = .ok (.aload_n 0, 1) := by decide +kernel
theorem dX12_does_65 : decode cX12_does 65 = .ok (.getfield 7, 3) := by decide +kernel
theorem dX12_does_68 : decode cX12_does 68 = .ok (.iload_n 1, 1) := by decide +kernel
theorem dX12_does_69 : decode cX12_does 69 = .ok (.iconst 2, 1) := by decide +kernel
theorem dX12_does_70 : decode cX12_does 70 = .ok (.iadd, 1) := by decide +kernel
theorem dX12_does_71 : decode cX12_does 71 = .ok (.iaload, 1) := by decide +kernel
theorem dX12_does_72 : decode cX12_does 72 = .ok (.invokevirtual 299, 3) := by decide +kernel
theorem dX12_does_75 : decode cX12_does 75 = .ok (.ireturn, 1) := by decide +kernel
theorem dX12_does_76 : decode cX12_does 76 = .ok (.aload_n 0, 1) := by decide +kernel
theorem dX12_does_77 : decode cX12_does 77 = .ok (.iload_n 2, 1) := by decide +kernel
theorem dX12_does_78 : decode cX12_does 78 = .ok (.invokevirtual 302, 3) := by decide +kernel
theorem dX12_does_81 : decode cX12_does 81 = .ok (.ireturn, 1) := by decide +kernel
theorem dX12_does_82 : decode cX12_does 82 = .ok (.aload_n 0, 1) := by decide +kernel
theorem dX12_does_83 : decode cX12_does 83 = .ok (.iload_n 2, 1) := by decide +kernel
theorem dX12_does_84 : decode cX12_does 84 = .ok (.invokevirtual 305, 3) := by decide +kernel
theorem dX12_does_87 : decode cX12_does 87 = .ok (.ireturn, 1) := by decide +kernel
theorem dX12_does_88 : decode cX12_does 88 = .ok (.aload_n 0, 1) := by decide +kernel
theorem dX12_does_89 : decode cX12_does 89 = .ok (.invokevirtual 428, 3) := by decide +kernel
theorem dX12_does_92 : decode cX12_does 92 = .ok (.ireturn, 1) := by decide +kernel
theorem dX12_does_93 : decode cX12_does 93 = .ok (.iconst 1, 1) := by decide +kernel
theorem dX12_does_94 : decode cX12_does 94 = .ok (.ireturn, 1) := by decide +kernel
theorem mv_X12_does : MV yX12_does RX12 cX12_does 3 (some .boolean) 1 := ⟨tb_1878, tb_1877, ts_111, tb_16, by decide +kernel, by decide +kernel, by decide +kernel⟩
def f_X12_does (fu : Nat) (m_at : Nat → Int32) (m_drawn : Int32) (m_ran : Nat → Int32) (x1 : Int32) : Option (Int32 × (Nat → Int32) × Int32 × (Nat → Int32)) := (rdI m_at 3648 (x1 + 1)).bind fun y_20 => (rdI m_at 3648 x1).bind fun y_21 => (if y_21 = 7 then (rdI m_at 3648 (x1 + 2)).bind fun y_23 => (f_X12_facesBy fu m_at m_ran y_20 y_23).bind fun z_24 => (bz z_24.1).bind fun _ => some (z_24.1, z_24.2.1, m_drawn, z_24.2.2) else (if y_21 = 8 then (rdI m_at 3648 (x1 + 2)).bind fun y_27 => (f_X12_hands fu m_at y_20 y_27).bind fun z_28 => (bz z_28.1).bind fun _ => some (z_28.1, z_28.2, m_drawn, m_ran) else (if y_21 = 9 then (f_X12_loses fu m_at y_20).bind fun z_31 => (bz z_31.1).bind fun _ => some (z_31.1, z_31.2, m_drawn, m_ran) else (if y_21 = 10 then (f_X12_falls fu m_at y_20).bind fun z_34 => (bz z_34.1).bind fun _ => some (z_34.1, z_34.2, m_drawn, m_ran) else (if y_21 = 11 then (f_X12_facesAny fu m_at m_drawn m_ran).bind fun z_37 => (bz z_37.1).bind fun _ => some (z_37.1, z_37.2.1, z_37.2.2.1, z_37.2.2.2) else some (1, m_at, m_drawn, m_ran))))))
abbrev rm_X12_does : Room := { frames := 10, cells := 0, slots := 0, locals := 229 }
set_option maxHeartbeats 4000000 in
set_option maxRecDepth 100000 in
theorem c_X12_does (l : Launch) (D : va_G) (cy : Nat → ClassId) (fu : Nat) (A_m : Nat → Nat) (m_at : Nat → Int32) (m_names : Nat → Int64) (m_status : Int32) (m_top : Int64) (m_bottom : Int64) (m_sort : Nat → Int32) (m_trayMany : Nat → Int32) (m_trays : Nat → Int64) (m_tape : Nat → Int32) (m_text : Nat → Int32) (m_taped : Int32) (m_size : Int32) (m_token : Int32) (m_from : Int32) (m_end : Int32) (m_value : Int32) (m_faultKind : Int32) (m_faultPlace : Int32) (m_faults : Int32) (m_seen : Int32) (m_toldParts : Int32) (m_opened : Nat → Int32) (m_depth : Int32) (m_counted : Int32) (m_bestOrder : Int32) (m_standers : Nat → Int32) (m_has : Nat → Int32) (m_bestHas : Nat → Int32) (m_standerMany : Int32) (m_bestCouples : Int32) (m_bestFondness : Int32) (m_cameTo : Nat → Int32) (m_doesStandFirst : Int32) (m_stoodBy : Nat → Int64) (m_drawn : Int32) (m_ranSteps : Int32) (m_loops : Nat → Int32) (m_ran : Nat → Int32) (m_told1 : Nat → Int32) (m_isTold : Int32) (m_marks : Int32) (x1 : Int32) (res : Int32 × (Nat → Int32) × Int32 × (Nat → Int32)) (h : f_X12_does fu m_at m_drawn m_ran x1 = some res) (A : Nat → Prop) (hA : A = adr [bl_X12 cy A_m m_at m_names m_status m_top m_bottom m_sort m_trayMany m_trays m_tape m_text m_taped m_size m_token m_from m_end m_value m_faultKind m_faultPlace m_faults m_seen m_toldParts m_opened m_depth m_counted m_bestOrder m_standers m_has m_bestHas m_standerMany m_bestCouples m_bestFondness m_cameTo m_doesStandFirst m_stoodBy m_drawn m_ranSteps m_loops m_ran m_told1 m_isTold m_marks]) (W1 : List va_W) (hW1 : W1 = [bl_X12 cy A_m res.2.1 m_names m_status m_top m_bottom m_sort m_trayMany m_trays m_tape m_text m_taped m_size m_token m_from m_end m_value m_faultKind m_faultPlace m_faults m_seen m_toldParts m_opened m_depth m_counted m_bestOrder m_standers m_has m_bestHas m_standerMany m_bestCouples m_bestFondness m_cameTo m_doesStandFirst m_stoodBy res.2.2.1 m_ranSteps m_loops res.2.2.2 m_told1 m_isTold m_marks]) : Met l yX12_does (WW yX12_does cX12_does 3 (some .boolean)) rm_X12_does (Ed D cy [.ref (A_m 0), .int x1] [bl_X12 cy A_m m_at m_names m_status m_top m_bottom m_sort m_trayMany m_trays m_tape m_text m_taped m_size m_token m_from m_end m_value m_faultKind m_faultPlace m_faults m_seen m_toldParts m_opened m_depth m_counted m_bestOrder m_standers m_has m_bestHas m_standerMany m_bestCouples m_bestFondness m_cameTo m_doesStandFirst m_stoodBy m_drawn m_ranSteps m_loops m_ran m_told1 m_isTold m_marks]) (Qei D res.1 A W1) 0 0 A := by
  refine Met.ofW (cc := cX12_does) (maxL := 3) (ret := (some .boolean)) (by decide) rfl ?_
  intro p e s m args below meth c s₁ B hml hv
  obtain ⟨hargs, hP, hX, hD0⟩ := hv
  have hx := B.exec
  have hb := B.bytes
  have hr := B.returns
  have ht : ∀ w ∈ lw_gd, w.before args s = true := fun w hw => atoms_spec (ws := WW yX12_does cX12_does 3 (some .boolean)) B.pre w (List.mem_cons_of_mem _ hw)
  have hown : s.vm.findClass RX12 = some m.cls := findClass_of_methodNamed B.named
  have hlocks := B.notSynchronized
  have hP : PD D A [bl_X12 cy A_m m_at m_names m_status m_top m_bottom m_sort m_trayMany m_trays m_tape m_text m_taped m_size m_token m_from m_end m_value m_faultKind m_faultPlace m_faults m_seen m_toldParts m_opened m_depth m_counted m_bestOrder m_standers m_has m_bestHas m_standerMany m_bestCouples m_bestFondness m_cameTo m_doesStandFirst m_stoodBy m_drawn m_ranSteps m_loops m_ran m_told1 m_isTold m_marks] s.heap := ⟨hP, by rw [hA]; exact hD0.own⟩
  have hS : va_S A s.heap s.heap [] := va_S.rf
  obtain ⟨ls, hl, hent⟩ := ent (m := m) (n := 3) hargs (Nat.le_of_ble_eq_true rfl) (lv := [(0, .ref (A_m 0)), (1, .int x1)]) rfl
  rw [hent]
  clear hent
  unfold f_X12_does at h
  refine lv_aload_n hx hb dX12_does_0 rfl (lv_at hl 0 rfl) ?_
  refine xget (i := 0) (j := 0) (k := 0) (T := TX12) hx hb ht tb_iX12 hown hX hP.1 rfl rfl rfl (by decide) tb_1229 rfl dX12_does_1 ?_
  refine lv_iload_n hx hb dX12_does_4 rfl (lv_at hl 1 rfl) ?_
  refine lv_iconst (v := 1) hx hb dX12_does_5 (by decide) ?_
  refine lv_iadd hx hb dX12_does_6 ?_
  obtain ⟨y_20, e_y_20, h⟩ := bi h
  refine xiald (i0 := 0) (j0 := 1) hx hb hX hP.1 rfl rfl e_y_20 dX12_does_7 ?_
  refine lv_istore_n (lv' := [(2, .int y_20), (0, .ref (A_m 0)), (1, .int x1)]) hx hb dX12_does_8 rfl hl (by decide) rfl (fun ls hl => ?_)
  refine lv_aload_n hx hb dX12_does_9 rfl (lv_at hl 1 rfl) ?_
  refine xget (i := 0) (j := 0) (k := 0) (T := TX12) hx hb ht tb_iX12 hown hX hP.1 rfl rfl rfl (by decide) tb_1229 rfl dX12_does_10 ?_
  refine lv_iload_n hx hb dX12_does_13 rfl (lv_at hl 2 rfl) ?_
  obtain ⟨y_21, e_y_21, h⟩ := bi h
  refine xiald (i0 := 0) (j0 := 1) hx hb hX hP.1 rfl rfl e_y_21 dX12_does_14 ?_
  by_cases c_22 : y_21 = 7
  · have h := it c_22 h
    refine lv_tableIn (tgt := 48) hx hb dX12_does_15 (by rw [c_22]; decide) (by rw [c_22]; decide) (by rw [c_22]; rfl) (by decide) ?_
    refine lv_aload_n hx hb dX12_does_48 rfl (lv_at hl 1 rfl) ?_
    refine lv_iload_n hx hb dX12_does_49 rfl (lv_at hl 0 rfl) ?_
    refine lv_aload_n hx hb dX12_does_50 rfl (lv_at hl 1 rfl) ?_
    refine xget (i := 0) (j := 0) (k := 0) (T := TX12) hx hb ht tb_iX12 hown hX hP.1 rfl rfl rfl (by decide) tb_1229 rfl dX12_does_51 ?_
    refine lv_iload_n hx hb dX12_does_54 rfl (lv_at hl 2 rfl) ?_
    refine lv_iconst (v := 2) hx hb dX12_does_55 (by decide) ?_
    refine lv_iadd hx hb dX12_does_56 ?_
    obtain ⟨y_23, e_y_23, h⟩ := bi h
    refine xiald (i0 := 0) (j0 := 1) hx hb hX hP.1 rfl rfl e_y_23 dX12_does_57 ?_
    obtain ⟨z_24, e_z_24, h⟩ := bi h
    refine efVi (rest := []) ⟨hx, hb, hml, hown, ht⟩ (c_X12_facesBy l D cy fu A_m m_at m_names m_status m_top m_bottom m_sort m_trayMany m_trays m_tape m_text m_taped m_size m_token m_from m_end m_value m_faultKind m_faultPlace m_faults m_seen m_toldParts m_opened m_depth m_counted m_bestOrder m_standers m_has m_bestHas m_standerMany m_bestCouples m_bestFondness m_cameTo m_doesStandFirst m_stoodBy m_drawn m_ranSteps m_loops m_ran m_told1 m_isTold m_marks y_20 y_23 z_24 e_z_24 _ rfl _ rfl) (cV ht mv_X12_facesBy tb_1879 rfl rfl ⟨Nat.le_of_ble_eq_true rfl, Nat.le_of_ble_eq_true rfl⟩) hP hS hX [0] rfl rfl rfl rfl rfl rfl hl.1 rfl (Nat.le_of_ble_eq_true rfl) dX12_does_58 ⟨Nat.le_of_ble_eq_true rfl, Nat.le_of_ble_eq_true rfl⟩ (fun H locs hP hS => ?_)
    have hP : PD D A [bl_X12 cy A_m z_24.2.1 m_names m_status m_top m_bottom m_sort m_trayMany m_trays m_tape m_text m_taped m_size m_token m_from m_end m_value m_faultKind m_faultPlace m_faults m_seen m_toldParts m_opened m_depth m_counted m_bestOrder m_standers m_has m_bestHas m_standerMany m_bestCouples m_bestFondness m_cameTo m_doesStandFirst m_stoodBy m_drawn m_ranSteps m_loops z_24.2.2 m_told1 m_isTold m_marks] H := hP
    obtain ⟨b_25, e_b_25, h⟩ := bi h
    obtain ⟨-, n_b_25, -⟩ := bz_ok e_b_25
    cases h
    subst hW1
    exact W.zret hx hb hr n_b_25 (fun _ ht9 _ => ⟨⟨_, (), rfl, rfl, hPt ht9 hP.1⟩, hS.F ht9⟩) hS.2.2 dX12_does_61
  have h := ie c_22 h
  by_cases c_26 : y_21 = 8
  · have h := it c_26 h
    refine lv_tableIn (tgt := 62) hx hb dX12_does_15 (by rw [c_26]; decide) (by rw [c_26]; decide) (by rw [c_26]; rfl) (by decide) ?_
    refine lv_aload_n hx hb dX12_does_62 rfl (lv_at hl 1 rfl) ?_
    refine lv_iload_n hx hb dX12_does_63 rfl (lv_at hl 0 rfl) ?_
    refine lv_aload_n hx hb dX12_does_64 rfl (lv_at hl 1 rfl) ?_
    refine xget (i := 0) (j := 0) (k := 0) (T := TX12) hx hb ht tb_iX12 hown hX hP.1 rfl rfl rfl (by decide) tb_1229 rfl dX12_does_65 ?_
    refine lv_iload_n hx hb dX12_does_68 rfl (lv_at hl 2 rfl) ?_
    refine lv_iconst (v := 2) hx hb dX12_does_69 (by decide) ?_
    refine lv_iadd hx hb dX12_does_70 ?_
    obtain ⟨y_27, e_y_27, h⟩ := bi h
    refine xiald (i0 := 0) (j0 := 1) hx hb hX hP.1 rfl rfl e_y_27 dX12_does_71 ?_
    obtain ⟨z_28, e_z_28, h⟩ := bi h
    refine efVi (rest := []) ⟨hx, hb, hml, hown, ht⟩ (c_X12_hands l D cy fu A_m m_at m_names m_status m_top m_bottom m_sort m_trayMany m_trays m_tape m_text m_taped m_size m_token m_from m_end m_value m_faultKind m_faultPlace m_faults m_seen m_toldParts m_opened m_depth m_counted m_bestOrder m_standers m_has m_bestHas m_standerMany m_bestCouples m_bestFondness m_cameTo m_doesStandFirst m_stoodBy m_drawn m_ranSteps m_loops m_ran m_told1 m_isTold m_marks y_20 y_27 z_28 e_z_28 _ rfl _ rfl) (cV ht mv_X12_hands tb_1614 rfl rfl ⟨Nat.le_of_ble_eq_true rfl, Nat.le_of_ble_eq_true rfl⟩) hP hS hX [0] rfl rfl rfl rfl rfl rfl hl.1 rfl (Nat.le_of_ble_eq_true rfl) dX12_does_72 ⟨Nat.le_of_ble_eq_true rfl, Nat.le_of_ble_eq_true rfl⟩ (fun H locs hP hS => ?_)
    have hP : PD D A [bl_X12 cy A_m z_28.2 m_names m_status m_top m_bottom m_sort m_trayMany m_trays m_tape m_text m_taped m_size m_token m_from m_end m_value m_faultKind m_faultPlace m_faults m_seen m_toldParts m_opened m_depth m_counted m_bestOrder m_standers m_has m_bestHas m_standerMany m_bestCouples m_bestFondness m_cameTo m_doesStandFirst m_stoodBy m_drawn m_ranSteps m_loops m_ran m_told1 m_isTold m_marks] H := hP
    obtain ⟨b_29, e_b_29, h⟩ := bi h
    obtain ⟨-, n_b_29, -⟩ := bz_ok e_b_29
    cases h
    subst hW1
    exact W.zret hx hb hr n_b_29 (fun _ ht9 _ => ⟨⟨_, (), rfl, rfl, hPt ht9 hP.1⟩, hS.F ht9⟩) hS.2.2 dX12_does_75
  have h := ie c_26 h
  by_cases c_30 : y_21 = 9
  · have h := it c_30 h
    refine lv_tableIn (tgt := 76) hx hb dX12_does_15 (by rw [c_30]; decide) (by rw [c_30]; decide) (by rw [c_30]; rfl) (by decide) ?_
    refine lv_aload_n hx hb dX12_does_76 rfl (lv_at hl 1 rfl) ?_
    refine lv_iload_n hx hb dX12_does_77 rfl (lv_at hl 0 rfl) ?_
    obtain ⟨z_31, e_z_31, h⟩ := bi h
    refine efVi (rest := []) ⟨hx, hb, hml, hown, ht⟩ (c_X12_loses l D cy fu A_m m_at m_names m_status m_top m_bottom m_sort m_trayMany m_trays m_tape m_text m_taped m_size m_token m_from m_end m_value m_faultKind m_faultPlace m_faults m_seen m_toldParts m_opened m_depth m_counted m_bestOrder m_standers m_has m_bestHas m_standerMany m_bestCouples m_bestFondness m_cameTo m_doesStandFirst m_stoodBy m_drawn m_ranSteps m_loops m_ran m_told1 m_isTold m_marks y_20 z_31 e_z_31 _ rfl _ rfl) (cV ht mv_X12_loses tb_1622 rfl rfl ⟨Nat.le_of_ble_eq_true rfl, Nat.le_of_ble_eq_true rfl⟩) hP hS hX [0] rfl rfl rfl rfl rfl rfl hl.1 rfl (Nat.le_of_ble_eq_true rfl) dX12_does_78 ⟨Nat.le_of_ble_eq_true rfl, Nat.le_of_ble_eq_true rfl⟩ (fun H locs hP hS => ?_)
    have hP : PD D A [bl_X12 cy A_m z_31.2 m_names m_status m_top m_bottom m_sort m_trayMany m_trays m_tape m_text m_taped m_size m_token m_from m_end m_value m_faultKind m_faultPlace m_faults m_seen m_toldParts m_opened m_depth m_counted m_bestOrder m_standers m_has m_bestHas m_standerMany m_bestCouples m_bestFondness m_cameTo m_doesStandFirst m_stoodBy m_drawn m_ranSteps m_loops m_ran m_told1 m_isTold m_marks] H := hP
    obtain ⟨b_32, e_b_32, h⟩ := bi h
    obtain ⟨-, n_b_32, -⟩ := bz_ok e_b_32
    cases h
    subst hW1
    exact W.zret hx hb hr n_b_32 (fun _ ht9 _ => ⟨⟨_, (), rfl, rfl, hPt ht9 hP.1⟩, hS.F ht9⟩) hS.2.2 dX12_does_81
  have h := ie c_30 h
  by_cases c_33 : y_21 = 10
  · have h := it c_33 h
    refine lv_tableIn (tgt := 82) hx hb dX12_does_15 (by rw [c_33]; decide) (by rw [c_33]; decide) (by rw [c_33]; rfl) (by decide) ?_
    refine lv_aload_n hx hb dX12_does_82 rfl (lv_at hl 1 rfl) ?_
    refine lv_iload_n hx hb dX12_does_83 rfl (lv_at hl 0 rfl) ?_
    obtain ⟨z_34, e_z_34, h⟩ := bi h
    refine efVi (rest := []) ⟨hx, hb, hml, hown, ht⟩ (c_X12_falls l D cy fu A_m m_at m_names m_status m_top m_bottom m_sort m_trayMany m_trays m_tape m_text m_taped m_size m_token m_from m_end m_value m_faultKind m_faultPlace m_faults m_seen m_toldParts m_opened m_depth m_counted m_bestOrder m_standers m_has m_bestHas m_standerMany m_bestCouples m_bestFondness m_cameTo m_doesStandFirst m_stoodBy m_drawn m_ranSteps m_loops m_ran m_told1 m_isTold m_marks y_20 z_34 e_z_34 _ rfl _ rfl) (cV ht mv_X12_falls tb_1630 rfl rfl ⟨Nat.le_of_ble_eq_true rfl, Nat.le_of_ble_eq_true rfl⟩) hP hS hX [0] rfl rfl rfl rfl rfl rfl hl.1 rfl (Nat.le_of_ble_eq_true rfl) dX12_does_84 ⟨Nat.le_of_ble_eq_true rfl, Nat.le_of_ble_eq_true rfl⟩ (fun H locs hP hS => ?_)
    have hP : PD D A [bl_X12 cy A_m z_34.2 m_names m_status m_top m_bottom m_sort m_trayMany m_trays m_tape m_text m_taped m_size m_token m_from m_end m_value m_faultKind m_faultPlace m_faults m_seen m_toldParts m_opened m_depth m_counted m_bestOrder m_standers m_has m_bestHas m_standerMany m_bestCouples m_bestFondness m_cameTo m_doesStandFirst m_stoodBy m_drawn m_ranSteps m_loops m_ran m_told1 m_isTold m_marks] H := hP
    obtain ⟨b_35, e_b_35, h⟩ := bi h
    obtain ⟨-, n_b_35, -⟩ := bz_ok e_b_35
    cases h
    subst hW1
    exact W.zret hx hb hr n_b_35 (fun _ ht9 _ => ⟨⟨_, (), rfl, rfl, hPt ht9 hP.1⟩, hS.F ht9⟩) hS.2.2 dX12_does_87
  have h := ie c_33 h
  by_cases c_36 : y_21 = 11
  · have h := it c_36 h
    refine lv_tableIn (tgt := 88) hx hb dX12_does_15 (by rw [c_36]; decide) (by rw [c_36]; decide) (by rw [c_36]; rfl) (by decide) ?_
    refine lv_aload_n hx hb dX12_does_88 rfl (lv_at hl 1 rfl) ?_
    obtain ⟨z_37, e_z_37, h⟩ := bi h
    refine efVi (rest := []) ⟨hx, hb, hml, hown, ht⟩ (c_X12_facesAny l D cy fu A_m m_at m_names m_status m_top m_bottom m_sort m_trayMany m_trays m_tape m_text m_taped m_size m_token m_from m_end m_value m_faultKind m_faultPlace m_faults m_seen m_toldParts m_opened m_depth m_counted m_bestOrder m_standers m_has m_bestHas m_standerMany m_bestCouples m_bestFondness m_cameTo m_doesStandFirst m_stoodBy m_drawn m_ranSteps m_loops m_ran m_told1 m_isTold m_marks z_37 e_z_37 _ rfl _ rfl) (cV ht mv_X12_facesAny tb_1883 rfl rfl ⟨Nat.le_of_ble_eq_true rfl, Nat.le_of_ble_eq_true rfl⟩) hP hS hX [0] rfl rfl rfl rfl rfl rfl hl.1 rfl (Nat.le_of_ble_eq_true rfl) dX12_does_89 ⟨Nat.le_of_ble_eq_true rfl, Nat.le_of_ble_eq_true rfl⟩ (fun H locs hP hS => ?_)
    have hP : PD D A [bl_X12 cy A_m z_37.2.1 m_names m_status m_top m_bottom m_sort m_trayMany m_trays m_tape m_text m_taped m_size m_token m_from m_end m_value m_faultKind m_faultPlace m_faults m_seen m_toldParts m_opened m_depth m_counted m_bestOrder m_standers m_has m_bestHas m_standerMany m_bestCouples m_bestFondness m_cameTo m_doesStandFirst m_stoodBy z_37.2.2.1 m_ranSteps m_loops z_37.2.2.2 m_told1 m_isTold m_marks] H := hP
    obtain ⟨b_38, e_b_38, h⟩ := bi h
    obtain ⟨-, n_b_38, -⟩ := bz_ok e_b_38
    cases h
    subst hW1
    exact W.zret hx hb hr n_b_38 (fun _ ht9 _ => ⟨⟨_, (), rfl, rfl, hPt ht9 hP.1⟩, hS.F ht9⟩) hS.2.2 dX12_does_92
  have h := ie c_36 h
  refine lv_tableOut (tgt := 93) hx hb dX12_does_15 (by have n_c_22 := lv_neT (a := 7) c_22 rfl; have n_c_26 := lv_neT (a := 8) c_26 rfl; have n_c_30 := lv_neT (a := 9) c_30 rfl; have n_c_33 := lv_neT (a := 10) c_33 rfl; have n_c_36 := lv_neT (a := 11) c_36 rfl; omega) (by decide) ?_
  refine lv_iconst (v := 1) hx hb dX12_does_93 (by decide) ?_
  cases h
  subst hW1
  exact W.zret hx hb hr rfl (fun _ ht9 _ => ⟨⟨_, (), rfl, rfl, hPt ht9 hP.1⟩, hS.F ht9⟩) hS.2.2 dX12_does_94
theorem dX12_holds_0 : decode cX12_holds 0 = .ok (.aload_n 0, 1) := by decide +kernel
theorem dX12_holds_1 : decode cX12_holds 1 = .ok (.getfield 7, 3) := by decide +kernel
theorem dX12_holds_4 : decode cX12_holds 4 = .ok (.iload_n 1, 1) := by decide +kernel
theorem dX12_holds_5 : decode cX12_holds 5 = .ok (.iaload, 1) := by decide +kernel
theorem dX12_holds_6 : decode cX12_holds 6 = .ok (.sipush 1200, 3) := by decide +kernel
theorem dX12_holds_9 : decode cX12_holds 9 = .ok (.isub, 1) := by decide +kernel
theorem dX12_holds_10 : decode cX12_holds 10 = .ok (.istore_n 2, 1) := by decide +kernel
theorem dX12_holds_11 : decode cX12_holds 11 = .ok (.aload_n 0, 1) := by decide +kernel
theorem dX12_holds_12 : decode cX12_holds 12 = .ok (.getfield 7, 3) := by decide +kernel
theorem dX12_holds_15 : decode cX12_holds 15 = .ok (.iload_n 1, 1) := by decide +kernel
theorem dX12_holds_16 : decode cX12_holds 16 = .ok (.iconst 1, 1) := by decide +kernel
theorem dX12_holds_17 : decode cX12_holds 17 = .ok (.iadd, 1) := by decide +kernel
theorem dX12_holds_18 : decode cX12_holds 18 = .ok (.iaload, 1) := by decide +kernel
theorem dX12_holds_19 : decode cX12_holds 19 = .ok (.istore_n 3, 1) := by decide +kernel
theorem dX12_holds_20 : decode cX12_holds 20 = .ok (.iload_n 2, 1) := by decide +kernel
theorem dX12_holds_21 : decode cX12_holds 21 = .ok (.bipush 16, 2) := by decide +kernel
theorem dX12_holds_23 : decode cX12_holds 23 = .ok (.if_icmp .ne 11, 3) := by decide +kernel
theorem dX12_holds_26 : decode cX12_holds 26 = .ok (.aload_n 0, 1) := by decide +kernel
theorem dX12_holds_27 : decode cX12_holds 27 = .ok (.iload_n 3, 1) := by decide +kernel
theorem dX12_holds_28 : decode cX12_holds 28 = .ok (.invokevirtual 256, 3) := by decide +kernel
theorem dX12_holds_31 : decode cX12_holds 31 = .ok (.goto 19, 3) := by decide +kernel
theorem dX12_holds_34 : decode cX12_holds 34 = .ok (.aload_n 0, 1) := by decide +kernel
theorem dX12_holds_35 : decode cX12_holds 35 = .ok (.iload_n 3, 1) := by decide +kernel
theorem dX12_holds_36 : decode cX12_holds 36 = .ok (.iload_n 2, 1) := by decide +kernel
theorem dX12_holds_37 : decode cX12_holds 37 = .ok (.bipush 17, 2) := by decide +kernel
theorem dX12_holds_39 : decode cX12_holds 39 = .ok (.if_icmp .ne 7, 3) := by decide +kernel
theorem dX12_holds_42 : decode cX12_holds 42 = .ok (.iconst 2, 1) := by decide +kernel
theorem dX12_holds_43 : decode cX12_holds 43 = .ok (.goto 4, 3) := by decide +kernel
theorem dX12_holds_46 : decode cX12_holds 46 = .ok (.iconst 4, 1) := by decide +kernel
theorem dX12_holds_47 : decode cX12_holds 47 = .ok (.invokevirtual 250, 3) := by decide +kernel
theorem dX12_holds_50 : decode cX12_holds 50 = .ok (.istore 4, 2) := by decide +kernel
theorem dX12_holds_52 : decode cX12_holds 52 = .ok (.aload_n 0, 1) := by decide +kernel
theorem dX12_holds_53 : decode cX12_holds 53 = .ok (.getfield 7, 3) := by decide +kernel
theorem dX12_holds_56 : decode cX12_holds 56 = .ok (.iload_n 1, 1) := by decide +kernel
theorem dX12_holds_57 : decode cX12_holds 57 = .ok (.iconst 5, 1) := by decide +kernel
theorem dX12_holds_58 : decode cX12_holds 58 = .ok (.iadd, 1) := by decide +kernel
theorem dX12_holds_59 : decode cX12_holds 59 = .ok (.iaload, 1) := by decide +kernel
theorem dX12_holds_60 : decode cX12_holds 60 = .ok (.bipush 60, 2) := by decide +kernel
theorem dX12_holds_62 : decode cX12_holds 62 = .ok (.if_icmp .ne 24, 3) := by decide +kernel
theorem dX12_holds_65 : decode cX12_holds 65 = .ok (.iload 4, 2) := by decide +kernel
theorem dX12_holds_67 : decode cX12_holds 67 = .ok (.aload_n 0, 1) := by decide +kernel
theorem dX12_holds_68 : decode cX12_holds 68 = .ok (.getfield 7, 3) := by decide +kernel
theorem dX12_holds_71 : decode cX12_holds 71 = .ok (.iload_n 1, 1) := by decide +kernel
theorem dX12_holds_72 : decode cX12_holds 72 = .ok (.iconst 2, 1) := by decide +kernel
theorem dX12_holds_73 : decode cX12_holds 73 = .ok (.iadd, 1) := by decide +kernel
theorem dX12_holds_74 : decode cX12_holds 74 = .ok (.iaload, 1) := by decide +kernel
theorem dX12_holds_75 : decode cX12_holds 75 = .ok (.if_icmp .ge 7, 3) := by decide +kernel
theorem dX12_holds_78 : decode cX12_holds 78 = .ok (.iconst 1, 1) := by decide +kernel
theorem dX12_holds_79 : decode cX12_holds 79 = .ok (.goto 59, 3) := by decide +kernel
theorem dX12_holds_82 : decode cX12_holds 82 = .ok (.iconst 0, 1) := by decide +kernel
theorem dX12_holds_83 : decode cX12_holds 83 = .ok (.goto 55, 3) := by decide +kernel
theorem dX12_holds_86 : decode cX12_holds 86 = .ok (.aload_n 0, 1) := by decide +kernel
theorem dX12_holds_87 : decode cX12_holds 87 = .ok (.getfield 7, 3) := by decide +kernel
theorem dX12_holds_90 : decode cX12_holds 90 = .ok (.iload_n 1, 1) := by decide +kernel
theorem dX12_holds_91 : decode cX12_holds 91 = .ok (.iconst 5, 1) := by decide +kernel
theorem dX12_holds_92 : decode cX12_holds 92 = .ok (.iadd, 1) := by decide +kernel
theorem dX12_holds_93 : decode cX12_holds 93 = .ok (.iaload, 1) := by decide +kernel
theorem dX12_holds_94 : decode cX12_holds 94 = .ok (.bipush 62, 2) := by decide +kernel
theorem dX12_holds_96 : decode cX12_holds 96 = .ok (.if_icmp .ne 24, 3) := by decide +kernel
theorem dX12_holds_99 : decode cX12_holds 99 = .ok (.iload 4, 2) := by decide +kernel
theorem dX12_holds_101 : decode cX12_holds 101 = .ok (.aload_n 0, 1) := by decide +kernel
theorem dX12_holds_102 : decode cX12_holds 102 = .ok (.getfield 7, 3) := by decide +kernel
theorem dX12_holds_105 : decode cX12_holds 105 = .ok (.iload_n 1, 1) := by decide +kernel
theorem dX12_holds_106 : decode cX12_holds 106 = .ok (.iconst 2, 1) := by decide +kernel
theorem dX12_holds_107 : decode cX12_holds 107 = .ok (.iadd, 1) := by decide +kernel
theorem dX12_holds_108 : decode cX12_holds 108 = .ok (.iaload, 1) := by decide +kernel
theorem dX12_holds_109 : decode cX12_holds 109 = .ok (.if_icmp .le 7, 3) := by decide +kernel
theorem dX12_holds_112 : decode cX12_holds 112 = .ok (.iconst 1, 1) := by decide +kernel
theorem dX12_holds_113 : decode cX12_holds 113 = .ok (.goto 25, 3) := by decide +kernel
theorem dX12_holds_116 : decode cX12_holds 116 = .ok (.iconst 0, 1) := by decide +kernel
theorem dX12_holds_117 : decode cX12_holds 117 = .ok (.goto 21, 3) := by decide +kernel
theorem dX12_holds_120 : decode cX12_holds 120 = .ok (.iload 4, 2) := by decide +kernel
theorem dX12_holds_122 : decode cX12_holds 122 = .ok (.aload_n 0, 1) := by decide +kernel
theorem dX12_holds_123 : decode cX12_holds 123 = .ok (.getfield 7, 3) := by decide +kernel
theorem dX12_holds_126 : decode cX12_holds 126 = .ok (.iload_n 1, 1) := by decide +kernel
theorem dX12_holds_127 : decode cX12_holds 127 = .ok (.iconst 2, 1) := by decide +kernel
theorem dX12_holds_128 : decode cX12_holds 128 = .ok (.iadd, 1) := by decide +kernel
theorem dX12_holds_129 : decode cX12_holds 129 = .ok (.iaload, 1) := by decide +kernel
theorem dX12_holds_130 : decode cX12_holds 130 = .ok (.if_icmp .ne 7, 3) := by decide +kernel
theorem dX12_holds_133 : decode cX12_holds 133 = .ok (.iconst 1, 1) := by decide +kernel
theorem dX12_holds_134 : decode cX12_holds 134 = .ok (.goto 4, 3) := by decide +kernel
theorem dX12_holds_137 : decode cX12_holds 137 = .ok (.iconst 0, 1) := by decide +kernel
theorem dX12_holds_138 : decode cX12_holds 138 = .ok (.ireturn, 1) := by decide +kernel
theorem mv_X12_holds : MV yX12_holds RX12 cX12_holds 5 (some .boolean) 1 := ⟨tb_1895, tb_1894, ts_115, tb_16, by decide +kernel, by decide +kernel, by decide +kernel⟩
def f_X12_holds_j50 (fu : Nat) (m_at : Nat → Int32) (x1 : Int32) (s0 : Int32) : Option (Int32) := (rdI m_at 3648 (x1 + 5)).bind fun y_19 => (if y_19 = 60 then (rdI m_at 3648 (x1 + 2)).bind fun y_27 => (if y_27 ≤ s0 then some (0) else some (1)) else (rdI m_at 3648 (x1 + 5)).bind fun y_21 => (if y_21 = 62 then (rdI m_at 3648 (x1 + 2)).bind fun y_25 => (if s0 ≤ y_25 then some (0) else some (1)) else (rdI m_at 3648 (x1 + 2)).bind fun y_23 => (if s0 = y_23 then some (1) else some (0))))
def f_X12_holds (fu : Nat) (m_at : Nat → Int32) (x1 : Int32) : Option (Int32) := (rdI m_at 3648 x1).bind fun y_29 => bnd (y_29 - 1200) fun x2_30 => (rdI m_at 3648 (x1 + 1)).bind fun y_31 => (if x2_30 = 16 then (f_X12_braveOf fu m_at y_31).bind fun z_36 => f_X12_holds_j50 fu m_at x1 z_36 else (if x2_30 = 17 then (f_X12_manOf fu m_at y_31 2).bind fun z_35 => f_X12_holds_j50 fu m_at x1 z_35 else (f_X12_manOf fu m_at y_31 4).bind fun z_34 => f_X12_holds_j50 fu m_at x1 z_34))
abbrev rm_X12_holds : Room := { frames := 3, cells := 0, slots := 0, locals := 63 }
set_option maxHeartbeats 4000000 in
set_option maxRecDepth 100000 in
theorem c_X12_holds (l : Launch) (D : va_G) (cy : Nat → ClassId) (fu : Nat) (A_m : Nat → Nat) (m_at : Nat → Int32) (m_names : Nat → Int64) (m_status : Int32) (m_top : Int64) (m_bottom : Int64) (m_sort : Nat → Int32) (m_trayMany : Nat → Int32) (m_trays : Nat → Int64) (m_tape : Nat → Int32) (m_text : Nat → Int32) (m_taped : Int32) (m_size : Int32) (m_token : Int32) (m_from : Int32) (m_end : Int32) (m_value : Int32) (m_faultKind : Int32) (m_faultPlace : Int32) (m_faults : Int32) (m_seen : Int32) (m_toldParts : Int32) (m_opened : Nat → Int32) (m_depth : Int32) (m_counted : Int32) (m_bestOrder : Int32) (m_standers : Nat → Int32) (m_has : Nat → Int32) (m_bestHas : Nat → Int32) (m_standerMany : Int32) (m_bestCouples : Int32) (m_bestFondness : Int32) (m_cameTo : Nat → Int32) (m_doesStandFirst : Int32) (m_stoodBy : Nat → Int64) (m_drawn : Int32) (m_ranSteps : Int32) (m_loops : Nat → Int32) (m_ran : Nat → Int32) (m_told1 : Nat → Int32) (m_isTold : Int32) (m_marks : Int32) (x1 : Int32) (res : Int32) (h : f_X12_holds fu m_at x1 = some res) : Met l yX12_holds (WW yX12_holds cX12_holds 5 (some .boolean)) rm_X12_holds (Rd D cy [.ref (A_m 0), .int x1] [bl_X12 cy A_m m_at m_names m_status m_top m_bottom m_sort m_trayMany m_trays m_tape m_text m_taped m_size m_token m_from m_end m_value m_faultKind m_faultPlace m_faults m_seen m_toldParts m_opened m_depth m_counted m_bestOrder m_standers m_has m_bestHas m_standerMany m_bestCouples m_bestFondness m_cameTo m_doesStandFirst m_stoodBy m_drawn m_ranSteps m_loops m_ran m_told1 m_isTold m_marks]) (vp_Si (fun v => v = res)) 0 0 (fun _ => False) := by
  refine Met.ofW (cc := cX12_holds) (maxL := 5) (ret := (some .boolean)) (by decide) rfl ?_
  intro p e s m args below meth c s₁ B hml hv
  obtain ⟨hargs, hP, hX⟩ := hv
  have hx := B.exec
  have hb := B.bytes
  have hr := B.returns
  have ht : ∀ w ∈ lw_gd, w.before args s = true := fun w hw => atoms_spec (ws := WW yX12_holds cX12_holds 5 (some .boolean)) B.pre w (List.mem_cons_of_mem _ hw)
  have hown : s.vm.findClass RX12 = some m.cls := findClass_of_methodNamed B.named
  have hlocks := B.notSynchronized
  have hP : PB D [bl_X12 cy A_m m_at m_names m_status m_top m_bottom m_sort m_trayMany m_trays m_tape m_text m_taped m_size m_token m_from m_end m_value m_faultKind m_faultPlace m_faults m_seen m_toldParts m_opened m_depth m_counted m_bestOrder m_standers m_has m_bestHas m_standerMany m_bestCouples m_bestFondness m_cameTo m_doesStandFirst m_stoodBy m_drawn m_ranSteps m_loops m_ran m_told1 m_isTold m_marks] s.heap := hP
  obtain ⟨ls, hl, hent⟩ := ent (m := m) (n := 5) hargs (Nat.le_of_ble_eq_true rfl) (lv := [(0, .ref (A_m 0)), (1, .int x1)]) rfl
  rw [hent]
  clear hent
  have j50 : ∀ (s0 : Int32) (ls : Array Slot), lv_has ls 5 [(0, .ref (A_m 0)), (1, .int x1)] → f_X12_holds_j50 fu m_at x1 s0 = some res → W p l e (headSpec (WW yX12_holds cX12_holds 5 (some .boolean)) rm_X12_holds).room s m args below meth c s.heap [] 0 0 (MQ below (vp_Si (fun v => v = res)) args s 0 0 (fun _ => False)) (F0 m 50 ls [.int s0]) := by
    intro s0 ls hl h
    unfold f_X12_holds_j50 at h
    refine lv_istore (lv' := [(4, .int s0), (0, .ref (A_m 0)), (1, .int x1)]) hx hb dX12_holds_50 hl (by decide) rfl (fun ls hl => ?_)
    refine lv_aload_n hx hb dX12_holds_52 rfl (lv_at hl 1 rfl) ?_
    refine xget (i := 0) (j := 0) (k := 0) (T := TX12) hx hb ht tb_iX12 hown hX hP rfl rfl rfl (by decide) tb_1229 rfl dX12_holds_53 ?_
    refine lv_iload_n hx hb dX12_holds_56 rfl (lv_at hl 2 rfl) ?_
    refine lv_iconst (v := 5) hx hb dX12_holds_57 (by decide) ?_
    refine lv_iadd hx hb dX12_holds_58 ?_
    obtain ⟨y_19, e_y_19, h⟩ := bi h
    refine xiald (i0 := 0) (j0 := 1) hx hb hX hP rfl rfl e_y_19 dX12_holds_59 ?_
    refine lv_bipush (v := 60) hx hb dX12_holds_60 (by decide) ?_
    refine lv_icmp_ne (tgt := 86) hx hb dX12_holds_62 (by decide) (fun c_20 => ?_) (fun c_20 => ?_)
    · have h := ie c_20 h
      refine lv_aload_n hx hb dX12_holds_86 rfl (lv_at hl 1 rfl) ?_
      refine xget (i := 0) (j := 0) (k := 0) (T := TX12) hx hb ht tb_iX12 hown hX hP rfl rfl rfl (by decide) tb_1229 rfl dX12_holds_87 ?_
      refine lv_iload_n hx hb dX12_holds_90 rfl (lv_at hl 2 rfl) ?_
      refine lv_iconst (v := 5) hx hb dX12_holds_91 (by decide) ?_
      refine lv_iadd hx hb dX12_holds_92 ?_
      obtain ⟨y_21, e_y_21, h⟩ := bi h
      refine xiald (i0 := 0) (j0 := 1) hx hb hX hP rfl rfl e_y_21 dX12_holds_93 ?_
      refine lv_bipush (v := 62) hx hb dX12_holds_94 (by decide) ?_
      refine lv_icmp_ne (tgt := 120) hx hb dX12_holds_96 (by decide) (fun c_22 => ?_) (fun c_22 => ?_)
      · have h := ie c_22 h
        refine lv_iload hx hb dX12_holds_120 (lv_at hl 0 rfl) ?_
        refine lv_aload_n hx hb dX12_holds_122 rfl (lv_at hl 1 rfl) ?_
        refine xget (i := 0) (j := 0) (k := 0) (T := TX12) hx hb ht tb_iX12 hown hX hP rfl rfl rfl (by decide) tb_1229 rfl dX12_holds_123 ?_
        refine lv_iload_n hx hb dX12_holds_126 rfl (lv_at hl 2 rfl) ?_
        refine lv_iconst (v := 2) hx hb dX12_holds_127 (by decide) ?_
        refine lv_iadd hx hb dX12_holds_128 ?_
        obtain ⟨y_23, e_y_23, h⟩ := bi h
        refine xiald (i0 := 0) (j0 := 1) hx hb hX hP rfl rfl e_y_23 dX12_holds_129 ?_
        refine lv_icmp_ne (tgt := 137) hx hb dX12_holds_130 (by decide) (fun c_24 => ?_) (fun c_24 => ?_)
        · have h := ie c_24 h
          refine lv_iconst (v := 0) hx hb dX12_holds_137 (by decide) ?_
          cases h
          exact W.zret hx hb hr rfl (fun _ ht9 _ => ⟨_, rfl, rfl, ht9⟩) (fun _ hq => by cases hq) dX12_holds_138
        · have h := it c_24 h
          refine lv_iconst (v := 1) hx hb dX12_holds_133 (by decide) ?_
          refine lv_goto (tgt := 138) hx hb dX12_holds_134 (by decide) ?_
          cases h
          exact W.zret hx hb hr rfl (fun _ ht9 _ => ⟨_, rfl, rfl, ht9⟩) (fun _ hq => by cases hq) dX12_holds_138
      · have h := it c_22 h
        refine lv_iload hx hb dX12_holds_99 (lv_at hl 0 rfl) ?_
        refine lv_aload_n hx hb dX12_holds_101 rfl (lv_at hl 1 rfl) ?_
        refine xget (i := 0) (j := 0) (k := 0) (T := TX12) hx hb ht tb_iX12 hown hX hP rfl rfl rfl (by decide) tb_1229 rfl dX12_holds_102 ?_
        refine lv_iload_n hx hb dX12_holds_105 rfl (lv_at hl 2 rfl) ?_
        refine lv_iconst (v := 2) hx hb dX12_holds_106 (by decide) ?_
        refine lv_iadd hx hb dX12_holds_107 ?_
        obtain ⟨y_25, e_y_25, h⟩ := bi h
        refine xiald (i0 := 0) (j0 := 1) hx hb hX hP rfl rfl e_y_25 dX12_holds_108 ?_
        refine lv_icmp_le (tgt := 116) hx hb dX12_holds_109 (by decide) (fun c_26 => ?_) (fun c_26 => ?_)
        · have h := it c_26 h
          refine lv_iconst (v := 0) hx hb dX12_holds_116 (by decide) ?_
          refine lv_goto (tgt := 138) hx hb dX12_holds_117 (by decide) ?_
          cases h
          exact W.zret hx hb hr rfl (fun _ ht9 _ => ⟨_, rfl, rfl, ht9⟩) (fun _ hq => by cases hq) dX12_holds_138
        · have h := ie c_26 h
          refine lv_iconst (v := 1) hx hb dX12_holds_112 (by decide) ?_
          refine lv_goto (tgt := 138) hx hb dX12_holds_113 (by decide) ?_
          cases h
          exact W.zret hx hb hr rfl (fun _ ht9 _ => ⟨_, rfl, rfl, ht9⟩) (fun _ hq => by cases hq) dX12_holds_138
    · have h := it c_20 h
      refine lv_iload hx hb dX12_holds_65 (lv_at hl 0 rfl) ?_
      refine lv_aload_n hx hb dX12_holds_67 rfl (lv_at hl 1 rfl) ?_
      refine xget (i := 0) (j := 0) (k := 0) (T := TX12) hx hb ht tb_iX12 hown hX hP rfl rfl rfl (by decide) tb_1229 rfl dX12_holds_68 ?_
      refine lv_iload_n hx hb dX12_holds_71 rfl (lv_at hl 2 rfl) ?_
      refine lv_iconst (v := 2) hx hb dX12_holds_72 (by decide) ?_
      refine lv_iadd hx hb dX12_holds_73 ?_
      obtain ⟨y_27, e_y_27, h⟩ := bi h
      refine xiald (i0 := 0) (j0 := 1) hx hb hX hP rfl rfl e_y_27 dX12_holds_74 ?_
      refine lv_icmp_ge (tgt := 82) hx hb dX12_holds_75 (by decide) (fun c_28 => ?_) (fun c_28 => ?_)
      · have h := it c_28 h
        refine lv_iconst (v := 0) hx hb dX12_holds_82 (by decide) ?_
        refine lv_goto (tgt := 138) hx hb dX12_holds_83 (by decide) ?_
        cases h
        exact W.zret hx hb hr rfl (fun _ ht9 _ => ⟨_, rfl, rfl, ht9⟩) (fun _ hq => by cases hq) dX12_holds_138
      · have h := ie c_28 h
        refine lv_iconst (v := 1) hx hb dX12_holds_78 (by decide) ?_
        refine lv_goto (tgt := 138) hx hb dX12_holds_79 (by decide) ?_
        cases h
        exact W.zret hx hb hr rfl (fun _ ht9 _ => ⟨_, rfl, rfl, ht9⟩) (fun _ hq => by cases hq) dX12_holds_138
  unfold f_X12_holds at h
  refine lv_aload_n hx hb dX12_holds_0 rfl (lv_at hl 0 rfl) ?_
  refine xget (i := 0) (j := 0) (k := 0) (T := TX12) hx hb ht tb_iX12 hown hX hP rfl rfl rfl (by decide) tb_1229 rfl dX12_holds_1 ?_
  refine lv_iload_n hx hb dX12_holds_4 rfl (lv_at hl 1 rfl) ?_
  obtain ⟨y_29, e_y_29, h⟩ := bi h
  refine xiald (i0 := 0) (j0 := 1) hx hb hX hP rfl rfl e_y_29 dX12_holds_5 ?_
  refine lv_sipush (v := 1200) hx hb dX12_holds_6 (by decide) ?_
  refine lv_isub hx hb dX12_holds_9 ?_
  refine lv_topi (fun x2_30 e_x2_30 => ?_)
  have h := bn e_x2_30 h
  refine lv_istore_n (lv' := [(2, .int x2_30), (0, .ref (A_m 0)), (1, .int x1)]) hx hb dX12_holds_10 rfl hl (by decide) rfl (fun ls hl => ?_)
  refine lv_aload_n hx hb dX12_holds_11 rfl (lv_at hl 1 rfl) ?_
  refine xget (i := 0) (j := 0) (k := 0) (T := TX12) hx hb ht tb_iX12 hown hX hP rfl rfl rfl (by decide) tb_1229 rfl dX12_holds_12 ?_
  refine lv_iload_n hx hb dX12_holds_15 rfl (lv_at hl 2 rfl) ?_
  refine lv_iconst (v := 1) hx hb dX12_holds_16 (by decide) ?_
  refine lv_iadd hx hb dX12_holds_17 ?_
  obtain ⟨y_31, e_y_31, h⟩ := bi h
  refine xiald (i0 := 0) (j0 := 1) hx hb hX hP rfl rfl e_y_31 dX12_holds_18 ?_
  refine lv_istore_n (lv' := [(3, .int y_31), (2, .int x2_30), (0, .ref (A_m 0)), (1, .int x1)]) hx hb dX12_holds_19 rfl hl (by decide) rfl (fun ls hl => ?_)
  refine lv_iload_n hx hb dX12_holds_20 rfl (lv_at hl 1 rfl) ?_
  refine lv_bipush (v := 16) hx hb dX12_holds_21 (by decide) ?_
  refine lv_icmp_ne (tgt := 34) hx hb dX12_holds_23 (by decide) (fun c_32 => ?_) (fun c_32 => ?_)
  · have h := ie c_32 h
    refine lv_aload_n hx hb dX12_holds_34 rfl (lv_at hl 2 rfl) ?_
    refine lv_iload_n hx hb dX12_holds_35 rfl (lv_at hl 0 rfl) ?_
    refine lv_iload_n hx hb dX12_holds_36 rfl (lv_at hl 1 rfl) ?_
    refine lv_bipush (v := 17) hx hb dX12_holds_37 (by decide) ?_
    refine lv_icmp_ne (tgt := 46) hx hb dX12_holds_39 (by decide) (fun c_33 => ?_) (fun c_33 => ?_)
    · have h := ie c_33 h
      refine lv_iconst (v := 4) hx hb dX12_holds_46 (by decide) ?_
      obtain ⟨z_34, e_z_34, h⟩ := bi h
      refine roVi (rest := []) ⟨hx, hb, hml, hown, ht⟩ (c_X12_manOf l D cy fu A_m m_at m_names m_status m_top m_bottom m_sort m_trayMany m_trays m_tape m_text m_taped m_size m_token m_from m_end m_value m_faultKind m_faultPlace m_faults m_seen m_toldParts m_opened m_depth m_counted m_bestOrder m_standers m_has m_bestHas m_standerMany m_bestCouples m_bestFondness m_cameTo m_doesStandFirst m_stoodBy m_drawn m_ranSteps m_loops m_ran m_told1 m_isTold m_marks y_31 4 z_34 e_z_34) (cV ht mv_X12_manOf tb_1535 rfl rfl ⟨Nat.le_of_ble_eq_true rfl, Nat.le_of_ble_eq_true rfl⟩) (P_sub hP [0] rfl) hX rfl rfl rfl hl.1 rfl (Nat.le_of_ble_eq_true rfl) dX12_holds_47 ⟨Nat.le_of_ble_eq_true rfl, Nat.le_of_ble_eq_true rfl⟩ ?_
      exact j50 z_34 ls (lv_sub hl [2, 3] rfl) h
    · have h := it c_33 h
      refine lv_iconst (v := 2) hx hb dX12_holds_42 (by decide) ?_
      refine lv_goto (tgt := 47) hx hb dX12_holds_43 (by decide) ?_
      obtain ⟨z_35, e_z_35, h⟩ := bi h
      refine roVi (rest := []) ⟨hx, hb, hml, hown, ht⟩ (c_X12_manOf l D cy fu A_m m_at m_names m_status m_top m_bottom m_sort m_trayMany m_trays m_tape m_text m_taped m_size m_token m_from m_end m_value m_faultKind m_faultPlace m_faults m_seen m_toldParts m_opened m_depth m_counted m_bestOrder m_standers m_has m_bestHas m_standerMany m_bestCouples m_bestFondness m_cameTo m_doesStandFirst m_stoodBy m_drawn m_ranSteps m_loops m_ran m_told1 m_isTold m_marks y_31 2 z_35 e_z_35) (cV ht mv_X12_manOf tb_1535 rfl rfl ⟨Nat.le_of_ble_eq_true rfl, Nat.le_of_ble_eq_true rfl⟩) (P_sub hP [0] rfl) hX rfl rfl rfl hl.1 rfl (Nat.le_of_ble_eq_true rfl) dX12_holds_47 ⟨Nat.le_of_ble_eq_true rfl, Nat.le_of_ble_eq_true rfl⟩ ?_
      exact j50 z_35 ls (lv_sub hl [2, 3] rfl) h
  · have h := it c_32 h
    refine lv_aload_n hx hb dX12_holds_26 rfl (lv_at hl 2 rfl) ?_
    refine lv_iload_n hx hb dX12_holds_27 rfl (lv_at hl 0 rfl) ?_
    obtain ⟨z_36, e_z_36, h⟩ := bi h
    refine roVi (rest := []) ⟨hx, hb, hml, hown, ht⟩ (c_X12_braveOf l D cy fu A_m m_at m_names m_status m_top m_bottom m_sort m_trayMany m_trays m_tape m_text m_taped m_size m_token m_from m_end m_value m_faultKind m_faultPlace m_faults m_seen m_toldParts m_opened m_depth m_counted m_bestOrder m_standers m_has m_bestHas m_standerMany m_bestCouples m_bestFondness m_cameTo m_doesStandFirst m_stoodBy m_drawn m_ranSteps m_loops m_ran m_told1 m_isTold m_marks y_31 z_36 e_z_36) (cV ht mv_X12_braveOf tb_1555 rfl rfl ⟨Nat.le_of_ble_eq_true rfl, Nat.le_of_ble_eq_true rfl⟩) (P_sub hP [0] rfl) hX rfl rfl rfl hl.1 rfl (Nat.le_of_ble_eq_true rfl) dX12_holds_28 ⟨Nat.le_of_ble_eq_true rfl, Nat.le_of_ble_eq_true rfl⟩ ?_
    refine lv_goto (tgt := 50) hx hb dX12_holds_31 (by decide) ?_
    exact j50 z_36 ls (lv_sub hl [2, 3] rfl) h
theorem dX12_behindEnds_0 : decode cX12_behindEnds 0 = .ok (.iload_n 1, 1) := by decide +kernel
theorem dX12_behindEnds_1 : decode cX12_behindEnds 1 = .ok (.istore_n 2, 1) := by decide +kernel
theorem dX12_behindEnds_2 : decode cX12_behindEnds 2 = .ok (.iload_n 2, 1) := by decide +kernel
theorem dX12_behindEnds_3 : decode cX12_behindEnds 3 = .ok (.aload_n 0, 1) := by decide +kernel
theorem dX12_behindEnds_4 : decode cX12_behindEnds 4 = .ok (.getfield 7, 3) := by decide +kernel
theorem dX12_behindEnds_7 : decode cX12_behindEnds 7 = .ok (.iconst 5, 1) := by decide +kernel
theorem dX12_behindEnds_8 : decode cX12_behindEnds 8 = .ok (.iaload, 1) := by decide +kernel
theorem dX12_behindEnds_9 : decode cX12_behindEnds 9 = .ok (.if_icmp .ge 105, 3) := by decide +kernel
theorem dX12_behindEnds_12 : decode cX12_behindEnds 12 = .ok (.aload_n 0, 1) := by decide +kernel
theorem dX12_behindEnds_13 : decode cX12_behindEnds 13 = .ok (.getfield 7, 3) := by decide +kernel
theorem dX12_behindEnds_16 : decode cX12_behindEnds 16 = .ok (.bipush 120, 2) := by decide +kernel
theorem dX12_behindEnds_18 : decode cX12_behindEnds 18 = .ok (.bipush 6, 2) := by decide +kernel
theorem dX12_behindEnds_20 : decode cX12_behindEnds 20 = .ok (.iload_n 2, 1) := by decide +kernel
theorem dX12_behindEnds_21 : decode cX12_behindEnds 21 = .ok (.imul, 1) := by decide +kernel
theorem dX12_behindEnds_22 : decode cX12_behindEnds 22 = .ok (.iadd, 1) := by decide +kernel
theorem dX12_behindEnds_23 : decode cX12_behindEnds 23 = .ok (.iaload, 1) := by decide +kernel
theorem dX12_behindEnds_24 : decode cX12_behindEnds 24 = .ok (.bipush 14, 2) := by decide +kernel
theorem dX12_behindEnds_26 : decode cX12_behindEnds 26 = .ok (.if_icmp .ne 88, 3) := by decide +kernel
theorem dX12_behindEnds_29 : decode cX12_behindEnds 29 = .ok (.aload_n 0, 1) := by decide +kernel
theorem dX12_behindEnds_30 : decode cX12_behindEnds 30 = .ok (.getfield 7, 3) := by decide +kernel
theorem dX12_behindEnds_33 : decode cX12_behindEnds 33 = .ok (.bipush 120, 2) := by decide +kernel
theorem dX12_behindEnds_35 : decode cX12_behindEnds 35 = .ok (.bipush 6, 2) := by decide +kernel
theorem dX12_behindEnds_37 : decode cX12_behindEnds 37 = .ok (.iload_n 2, 1) := by decide +kernel
theorem dX12_behindEnds_38 : decode cX12_behindEnds 38 = .ok (.imul, 1) := by decide +kernel
theorem dX12_behindEnds_39 : decode cX12_behindEnds 39 = .ok (.iadd, 1) := by decide +kernel
theorem dX12_behindEnds_40 : decode cX12_behindEnds 40 = .ok (.iconst 4, 1) := by decide +kernel
theorem dX12_behindEnds_41 : decode cX12_behindEnds 41 = .ok (.iadd, 1) := by decide +kernel
theorem dX12_behindEnds_42 : decode cX12_behindEnds 42 = .ok (.iaload, 1) := by decide +kernel
theorem dX12_behindEnds_43 : decode cX12_behindEnds 43 = .ok (.istore_n 3, 1) := by decide +kernel
theorem dX12_behindEnds_44 : decode cX12_behindEnds 44 = .ok (.aload_n 0, 1) := by decide +kernel
theorem dX12_behindEnds_45 : decode cX12_behindEnds 45 = .ok (.getfield 7, 3) := by decide +kernel
theorem dX12_behindEnds_48 : decode cX12_behindEnds 48 = .ok (.bipush 120, 2) := by decide +kernel
theorem dX12_behindEnds_50 : decode cX12_behindEnds 50 = .ok (.bipush 6, 2) := by decide +kernel
theorem dX12_behindEnds_52 : decode cX12_behindEnds 52 = .ok (.iload_n 3, 1) := by decide +kernel
theorem dX12_behindEnds_53 : decode cX12_behindEnds 53 = .ok (.imul, 1) := by decide +kernel
theorem dX12_behindEnds_54 : decode cX12_behindEnds 54 = .ok (.iadd, 1) := by decide +kernel
theorem dX12_behindEnds_55 : decode cX12_behindEnds 55 = .ok (.iaload, 1) := by decide +kernel
theorem dX12_behindEnds_56 : decode cX12_behindEnds 56 = .ok (.bipush 13, 2) := by decide +kernel
theorem dX12_behindEnds_58 : decode cX12_behindEnds 58 = .ok (.if_icmp .ne 16, 3) := by decide +kernel
theorem dX12_behindEnds_61 : decode cX12_behindEnds 61 = .ok (.aload_n 0, 1) := by decide +kernel
theorem dX12_behindEnds_62 : decode cX12_behindEnds 62 = .ok (.getfield 62, 3) := by decide +kernel
theorem dX12_behindEnds_65 : decode cX12_behindEnds 65 = .ok (.iload_n 3, 1) := by decide +kernel
theorem dX12_behindEnds_66 : decode cX12_behindEnds 66 = .ok (.iaload, 1) := by decide +kernel
theorem dX12_behindEnds_67 : decode cX12_behindEnds 67 = .ok (.ifCond .le 7, 3) := by decide +kernel
theorem dX12_behindEnds_70 : decode cX12_behindEnds 70 = .ok (.iconst 1, 1) := by decide +kernel
theorem dX12_behindEnds_71 : decode cX12_behindEnds 71 = .ok (.goto 4, 3) := by decide +kernel
theorem dX12_behindEnds_74 : decode cX12_behindEnds 74 = .ok (.iconst 0, 1) := by decide +kernel
theorem dX12_behindEnds_75 : decode cX12_behindEnds 75 = .ok (.istore 4, 2) := by decide +kernel
theorem dX12_behindEnds_77 : decode cX12_behindEnds 77 = .ok (.aload_n 0, 1) := by decide +kernel
theorem dX12_behindEnds_78 : decode cX12_behindEnds 78 = .ok (.getfield 62, 3) := by decide +kernel
theorem dX12_behindEnds_81 : decode cX12_behindEnds 81 = .ok (.iload_n 3, 1) := by decide +kernel
theorem dX12_behindEnds_82 : decode cX12_behindEnds 82 = .ok (.dup2, 1) := by decide +kernel
theorem dX12_behindEnds_83 : decode cX12_behindEnds 83 = .ok (.iaload, 1) := by decide +kernel
theorem dX12_behindEnds_84 : decode cX12_behindEnds 84 = .ok (.iload 4, 2) := by decide +kernel
theorem dX12_behindEnds_86 : decode cX12_behindEnds 86 = .ok (.ifCond .eq 7, 3) := by decide +kernel
theorem dX12_behindEnds_89 : decode cX12_behindEnds 89 = .ok (.iconst 1, 1) := by decide +kernel
theorem dX12_behindEnds_90 : decode cX12_behindEnds 90 = .ok (.goto 4, 3) := by decide +kernel
theorem dX12_behindEnds_93 : decode cX12_behindEnds 93 = .ok (.iconst 0, 1) := by decide +kernel
theorem dX12_behindEnds_94 : decode cX12_behindEnds 94 = .ok (.isub, 1) := by decide +kernel
theorem dX12_behindEnds_95 : decode cX12_behindEnds 95 = .ok (.iastore, 1) := by decide +kernel
theorem dX12_behindEnds_96 : decode cX12_behindEnds 96 = .ok (.iload 4, 2) := by decide +kernel
theorem dX12_behindEnds_98 : decode cX12_behindEnds 98 = .ok (.ifCond .eq 9, 3) := by decide +kernel
theorem dX12_behindEnds_101 : decode cX12_behindEnds 101 = .ok (.iload_n 3, 1) := by decide +kernel
theorem dX12_behindEnds_102 : decode cX12_behindEnds 102 = .ok (.iconst 1, 1) := by decide +kernel
theorem dX12_behindEnds_103 : decode cX12_behindEnds 103 = .ok (.iadd, 1) := by decide +kernel
theorem dX12_behindEnds_104 : decode cX12_behindEnds 104 = .ok (.goto 6, 3) := by decide +kernel
theorem dX12_behindEnds_107 : decode cX12_behindEnds 107 = .ok (.iload_n 2, 1) := by decide +kernel
theorem dX12_behindEnds_108 : decode cX12_behindEnds 108 = .ok (.iconst 1, 1) := by decide +kernel
theorem dX12_behindEnds_109 : decode cX12_behindEnds 109 = .ok (.iadd, 1) := by decide +kernel
theorem dX12_behindEnds_110 : decode cX12_behindEnds 110 = .ok (.istore_n 2, 1) := by decide +kernel
theorem dX12_behindEnds_111 : decode cX12_behindEnds 111 = .ok (.goto (-109), 3) := by decide +kernel
theorem dX12_behindEnds_114 : decode cX12_behindEnds 114 = .ok (.iload_n 2, 1) := by decide +kernel
theorem dX12_behindEnds_115 : decode cX12_behindEnds 115 = .ok (.ireturn, 1) := by decide +kernel
theorem mv_X12_behindEnds : MV yX12_behindEnds RX12 cX12_behindEnds 5 (some .int) 1 := ⟨tb_1899, tb_1898, ts_116, tb_16, by decide +kernel, by decide +kernel, by decide +kernel⟩
def f_X12_behindEnds_j94 (fu : Nat) (m_at : Nat → Int32) (x1 : Int32) (k2 : (Nat → Int32) → Int32 → (Option (Int32 × (Nat → Int32)))) (m_loops : Nat → Int32) (x2 : Int32) (x3 : Int32) (x4 : Int32) (s1 : Int32) (s2 : Int32) (s3 : Int32) : Option (Int32 × (Nat → Int32)) := (wrI m_loops 80 s1 (s2 - s3)).bind fun m_loops_16 => (if x4 = 0 then bnd (x2 + 1) fun x2_18 => k2 m_loops_16 x2_18 else bnd (x3 + 1) fun x2_19 => k2 m_loops_16 x2_19)
def f_X12_behindEnds_j75 (fu : Nat) (m_at : Nat → Int32) (x1 : Int32) (k2 : (Nat → Int32) → Int32 → (Option (Int32 × (Nat → Int32)))) (m_loops : Nat → Int32) (x2 : Int32) (x3 : Int32) (s0 : Int32) : Option (Int32 × (Nat → Int32)) := (rdI m_loops 80 x3).bind fun y_20 => (if s0 = 0 then f_X12_behindEnds_j94 fu m_at x1 k2 m_loops x2 x3 s0 x3 y_20 0 else f_X12_behindEnds_j94 fu m_at x1 k2 m_loops x2 x3 s0 x3 y_20 1)
def f_X12_behindEnds_b2 (fu : Nat) (m_at : Nat → Int32) (x1 : Int32) (k2 : (Nat → Int32) → Int32 → (Option (Int32 × (Nat → Int32)))) (m_loops : Nat → Int32) (x2 : Int32) : Option (Int32 × (Nat → Int32)) := (rdI m_at 3648 5).bind fun y_22 => (if y_22 ≤ x2 then some (x2, m_loops) else (rdI m_at 3648 (120 + (6 * x2))).bind fun y_24 => (if y_24 = 14 then (rdI m_at 3648 ((120 + (6 * x2)) + 4)).bind fun y_26 => (rdI m_at 3648 (120 + (6 * y_26))).bind fun y_27 => (if y_27 = 13 then (rdI m_loops 80 y_26).bind fun y_29 => (if y_29 ≤ 0 then f_X12_behindEnds_j75 fu m_at x1 k2 m_loops x2 y_26 0 else f_X12_behindEnds_j75 fu m_at x1 k2 m_loops x2 y_26 1) else f_X12_behindEnds_j75 fu m_at x1 k2 m_loops x2 y_26 0) else some (x2, m_loops)))
def f_X12_behindEnds_l2 (fu : Nat) (m_at : Nat → Int32) (x1 : Int32) : Nat → (Nat → Int32) → Int32 → (Option (Int32 × (Nat → Int32)))
  | 0, _, _ => none
  | n + 1, m_loops, x2 => f_X12_behindEnds_b2 fu m_at x1 (f_X12_behindEnds_l2 fu m_at x1 n) m_loops x2
def f_X12_behindEnds (fu : Nat) (m_at : Nat → Int32) (m_loops : Nat → Int32) (x1 : Int32) : Option (Int32 × (Nat → Int32)) := f_X12_behindEnds_l2 fu m_at x1 fu m_loops x1
abbrev rm_X12_behindEnds : Room := { frames := 0, cells := 0, slots := 0, locals := 0 }
set_option maxHeartbeats 4000000 in
set_option maxRecDepth 100000 in
theorem c_X12_behindEnds (l : Launch) (D : va_G) (cy : Nat → ClassId) (fu : Nat) (A_m : Nat → Nat) (m_at : Nat → Int32) (m_names : Nat → Int64) (m_status : Int32) (m_top : Int64) (m_bottom : Int64) (m_sort : Nat → Int32) (m_trayMany : Nat → Int32) (m_trays : Nat → Int64) (m_tape : Nat → Int32) (m_text : Nat → Int32) (m_taped : Int32) (m_size : Int32) (m_token : Int32) (m_from : Int32) (m_end : Int32) (m_value : Int32) (m_faultKind : Int32) (m_faultPlace : Int32) (m_faults : Int32) (m_seen : Int32) (m_toldParts : Int32) (m_opened : Nat → Int32) (m_depth : Int32) (m_counted : Int32) (m_bestOrder : Int32) (m_standers : Nat → Int32) (m_has : Nat → Int32) (m_bestHas : Nat → Int32) (m_standerMany : Int32) (m_bestCouples : Int32) (m_bestFondness : Int32) (m_cameTo : Nat → Int32) (m_doesStandFirst : Int32) (m_stoodBy : Nat → Int64) (m_drawn : Int32) (m_ranSteps : Int32) (m_loops : Nat → Int32) (m_ran : Nat → Int32) (m_told1 : Nat → Int32) (m_isTold : Int32) (m_marks : Int32) (x1 : Int32) (res : Int32 × (Nat → Int32)) (h : f_X12_behindEnds fu m_at m_loops x1 = some res) (A : Nat → Prop) (hA : A = adr [bl_X12 cy A_m m_at m_names m_status m_top m_bottom m_sort m_trayMany m_trays m_tape m_text m_taped m_size m_token m_from m_end m_value m_faultKind m_faultPlace m_faults m_seen m_toldParts m_opened m_depth m_counted m_bestOrder m_standers m_has m_bestHas m_standerMany m_bestCouples m_bestFondness m_cameTo m_doesStandFirst m_stoodBy m_drawn m_ranSteps m_loops m_ran m_told1 m_isTold m_marks]) (W1 : List va_W) (hW1 : W1 = [bl_X12 cy A_m m_at m_names m_status m_top m_bottom m_sort m_trayMany m_trays m_tape m_text m_taped m_size m_token m_from m_end m_value m_faultKind m_faultPlace m_faults m_seen m_toldParts m_opened m_depth m_counted m_bestOrder m_standers m_has m_bestHas m_standerMany m_bestCouples m_bestFondness m_cameTo m_doesStandFirst m_stoodBy m_drawn m_ranSteps res.2 m_ran m_told1 m_isTold m_marks]) : Met l yX12_behindEnds (WW yX12_behindEnds cX12_behindEnds 5 (some .int)) rm_X12_behindEnds (Ed D cy [.ref (A_m 0), .int x1] [bl_X12 cy A_m m_at m_names m_status m_top m_bottom m_sort m_trayMany m_trays m_tape m_text m_taped m_size m_token m_from m_end m_value m_faultKind m_faultPlace m_faults m_seen m_toldParts m_opened m_depth m_counted m_bestOrder m_standers m_has m_bestHas m_standerMany m_bestCouples m_bestFondness m_cameTo m_doesStandFirst m_stoodBy m_drawn m_ranSteps m_loops m_ran m_told1 m_isTold m_marks]) (Qei D res.1 A W1) 0 0 A := by
  refine Met.ofW (cc := cX12_behindEnds) (maxL := 5) (ret := (some .int)) (by decide) rfl ?_
  intro p e s m args below meth c s₁ B hml hv
  obtain ⟨hargs, hP, hX, hD0⟩ := hv
  have hx := B.exec
  have hb := B.bytes
  have hr := B.returns
  have ht : ∀ w ∈ lw_gd, w.before args s = true := fun w hw => atoms_spec (ws := WW yX12_behindEnds cX12_behindEnds 5 (some .int)) B.pre w (List.mem_cons_of_mem _ hw)
  have hown : s.vm.findClass RX12 = some m.cls := findClass_of_methodNamed B.named
  have hlocks := B.notSynchronized
  have hP : PD D A [bl_X12 cy A_m m_at m_names m_status m_top m_bottom m_sort m_trayMany m_trays m_tape m_text m_taped m_size m_token m_from m_end m_value m_faultKind m_faultPlace m_faults m_seen m_toldParts m_opened m_depth m_counted m_bestOrder m_standers m_has m_bestHas m_standerMany m_bestCouples m_bestFondness m_cameTo m_doesStandFirst m_stoodBy m_drawn m_ranSteps m_loops m_ran m_told1 m_isTold m_marks] s.heap := ⟨hP, by rw [hA]; exact hD0.own⟩
  have hS : va_S A s.heap s.heap [] := va_S.rf
  obtain ⟨ls, hl, hent⟩ := ent (m := m) (n := 5) hargs (Nat.le_of_ble_eq_true rfl) (lv := [(0, .ref (A_m 0)), (1, .int x1)]) rfl
  rw [hent]
  clear hent
  have l2 : ∀ (n2 : Nat) (m_loops : Nat → Int32) (x2 : Int32) (H : Heap) (locs : List Loc) (_ : PD D A [bl_X12 cy A_m m_at m_names m_status m_top m_bottom m_sort m_trayMany m_trays m_tape m_text m_taped m_size m_token m_from m_end m_value m_faultKind m_faultPlace m_faults m_seen m_toldParts m_opened m_depth m_counted m_bestOrder m_standers m_has m_bestHas m_standerMany m_bestCouples m_bestFondness m_cameTo m_doesStandFirst m_stoodBy m_drawn m_ranSteps m_loops m_ran m_told1 m_isTold m_marks] H) (_ : va_S A s.heap H locs) (ls : Array Slot), lv_has ls 5 [(0, .ref (A_m 0)), (2, .int x2)] → f_X12_behindEnds_l2 fu m_at x1 n2 m_loops x2 = some res → W p l e (headSpec (WW yX12_behindEnds cX12_behindEnds 5 (some .int)) rm_X12_behindEnds).room s m args below meth c H locs 0 0 (MQ below (Qei D res.1 A W1) args s 0 0 A) (F0 m 2 ls []) := by
    intro n2
    induction n2 with
    | zero => intro m_loops x2 H locs hP hS ls hl h; cases h
    | succ n2 ih2 =>
      have j94 : ∀ (m_loops : Nat → Int32) (x2 : Int32) (x3 : Int32) (x4 : Int32) (s1 : Int32) (s2 : Int32) (s3 : Int32) (H : Heap) (locs : List Loc) (_ : PD D A [bl_X12 cy A_m m_at m_names m_status m_top m_bottom m_sort m_trayMany m_trays m_tape m_text m_taped m_size m_token m_from m_end m_value m_faultKind m_faultPlace m_faults m_seen m_toldParts m_opened m_depth m_counted m_bestOrder m_standers m_has m_bestHas m_standerMany m_bestCouples m_bestFondness m_cameTo m_doesStandFirst m_stoodBy m_drawn m_ranSteps m_loops m_ran m_told1 m_isTold m_marks] H) (_ : va_S A s.heap H locs) (ls : Array Slot), lv_has ls 5 [(0, .ref (A_m 0)), (2, .int x2), (3, .int x3), (4, .int x4)] → f_X12_behindEnds_j94 fu m_at x1 (f_X12_behindEnds_l2 fu m_at x1 n2) m_loops x2 x3 x4 s1 s2 s3 = some res → W p l e (headSpec (WW yX12_behindEnds cX12_behindEnds 5 (some .int)) rm_X12_behindEnds).room s m args below meth c H locs 0 0 (MQ below (Qei D res.1 A W1) args s 0 0 A) (F0 m 94 ls [.int s3, .int s2, .int s1, .ref (A_m 14)]) := by
        intro m_loops x2 x3 x4 s1 s2 s3 H locs hP hS ls hl h
        unfold f_X12_behindEnds_j94 at h
        refine lv_isub hx hb dX12_behindEnds_94 ?_
        obtain ⟨m_loops_16, e_m_loops_16, h⟩ := bi h
        refine xiast (i0 := 0) (j0 := 14) hx hb hX hP hS rfl rfl e_m_loops_16 dX12_behindEnds_95 (fun H locs hP hS => ?_)
        have hP : PD D A [bl_X12 cy A_m m_at m_names m_status m_top m_bottom m_sort m_trayMany m_trays m_tape m_text m_taped m_size m_token m_from m_end m_value m_faultKind m_faultPlace m_faults m_seen m_toldParts m_opened m_depth m_counted m_bestOrder m_standers m_has m_bestHas m_standerMany m_bestCouples m_bestFondness m_cameTo m_doesStandFirst m_stoodBy m_drawn m_ranSteps m_loops_16 m_ran m_told1 m_isTold m_marks] H := hP
        refine lv_iload hx hb dX12_behindEnds_96 (lv_at hl 3 rfl) ?_
        refine lv_if_eq (tgt := 107) hx hb dX12_behindEnds_98 (by decide) (fun c_17 => ?_) (fun c_17 => ?_)
        · have h := it c_17 h
          refine lv_iload_n hx hb dX12_behindEnds_107 rfl (lv_at hl 1 rfl) ?_
          refine lv_iconst (v := 1) hx hb dX12_behindEnds_108 (by decide) ?_
          refine lv_iadd hx hb dX12_behindEnds_109 ?_
          refine lv_topi (fun x2_18 e_x2_18 => ?_)
          have h := bn e_x2_18 h
          refine lv_istore_n (lv' := [(2, .int x2_18), (0, .ref (A_m 0)), (3, .int x3), (4, .int x4)]) hx hb dX12_behindEnds_110 rfl hl (by decide) rfl (fun ls hl => ?_)
          refine lv_goto (tgt := 2) hx hb dX12_behindEnds_111 (by decide) ?_
          exact ih2 m_loops_16 x2_18 _ _ hP hS ls (lv_sub hl [1, 0] rfl) h
        · have h := ie c_17 h
          refine lv_iload_n hx hb dX12_behindEnds_101 rfl (lv_at hl 2 rfl) ?_
          refine lv_iconst (v := 1) hx hb dX12_behindEnds_102 (by decide) ?_
          refine lv_iadd hx hb dX12_behindEnds_103 ?_
          refine lv_goto (tgt := 110) hx hb dX12_behindEnds_104 (by decide) ?_
          refine lv_topi (fun x2_19 e_x2_19 => ?_)
          have h := bn e_x2_19 h
          refine lv_istore_n (lv' := [(2, .int x2_19), (0, .ref (A_m 0)), (3, .int x3), (4, .int x4)]) hx hb dX12_behindEnds_110 rfl hl (by decide) rfl (fun ls hl => ?_)
          refine lv_goto (tgt := 2) hx hb dX12_behindEnds_111 (by decide) ?_
          exact ih2 m_loops_16 x2_19 _ _ hP hS ls (lv_sub hl [1, 0] rfl) h
      have j75 : ∀ (m_loops : Nat → Int32) (x2 : Int32) (x3 : Int32) (s0 : Int32) (H : Heap) (locs : List Loc) (_ : PD D A [bl_X12 cy A_m m_at m_names m_status m_top m_bottom m_sort m_trayMany m_trays m_tape m_text m_taped m_size m_token m_from m_end m_value m_faultKind m_faultPlace m_faults m_seen m_toldParts m_opened m_depth m_counted m_bestOrder m_standers m_has m_bestHas m_standerMany m_bestCouples m_bestFondness m_cameTo m_doesStandFirst m_stoodBy m_drawn m_ranSteps m_loops m_ran m_told1 m_isTold m_marks] H) (_ : va_S A s.heap H locs) (ls : Array Slot), lv_has ls 5 [(0, .ref (A_m 0)), (2, .int x2), (3, .int x3)] → f_X12_behindEnds_j75 fu m_at x1 (f_X12_behindEnds_l2 fu m_at x1 n2) m_loops x2 x3 s0 = some res → W p l e (headSpec (WW yX12_behindEnds cX12_behindEnds 5 (some .int)) rm_X12_behindEnds).room s m args below meth c H locs 0 0 (MQ below (Qei D res.1 A W1) args s 0 0 A) (F0 m 75 ls [.int s0]) := by
        intro m_loops x2 x3 s0 H locs hP hS ls hl h
        unfold f_X12_behindEnds_j75 at h
        refine lv_istore (lv' := [(4, .int s0), (0, .ref (A_m 0)), (2, .int x2), (3, .int x3)]) hx hb dX12_behindEnds_75 hl (by decide) rfl (fun ls hl => ?_)
        refine lv_aload_n hx hb dX12_behindEnds_77 rfl (lv_at hl 1 rfl) ?_
        refine xget (i := 0) (j := 0) (k := 36) (T := TX12) hx hb ht tb_iX12 hown hX hP.1 rfl rfl rfl (by decide) tb_1265 rfl dX12_behindEnds_78 ?_
        refine lv_iload_n hx hb dX12_behindEnds_81 rfl (lv_at hl 3 rfl) ?_
        refine lv_dup2_11 hx hb dX12_behindEnds_82 rfl rfl ?_
        obtain ⟨y_20, e_y_20, h⟩ := bi h
        refine xiald (i0 := 0) (j0 := 14) hx hb hX hP.1 rfl rfl e_y_20 dX12_behindEnds_83 ?_
        refine lv_iload hx hb dX12_behindEnds_84 (lv_at hl 0 rfl) ?_
        refine lv_if_eq (tgt := 93) hx hb dX12_behindEnds_86 (by decide) (fun c_21 => ?_) (fun c_21 => ?_)
        · have h := it c_21 h
          refine lv_iconst (v := 0) hx hb dX12_behindEnds_93 (by decide) ?_
          exact j94 m_loops x2 x3 s0 x3 y_20 0 _ _ hP hS ls (lv_sub hl [1, 2, 3, 0] rfl) h
        · have h := ie c_21 h
          refine lv_iconst (v := 1) hx hb dX12_behindEnds_89 (by decide) ?_
          refine lv_goto (tgt := 94) hx hb dX12_behindEnds_90 (by decide) ?_
          exact j94 m_loops x2 x3 s0 x3 y_20 1 _ _ hP hS ls (lv_sub hl [1, 2, 3, 0] rfl) h
      intro m_loops x2 H locs hP hS ls hl h
      have h : f_X12_behindEnds_b2 fu m_at x1 (f_X12_behindEnds_l2 fu m_at x1 n2) m_loops x2 = some res := h
      unfold f_X12_behindEnds_b2 at h
      refine lv_iload_n hx hb dX12_behindEnds_2 rfl (lv_at hl 1 rfl) ?_
      refine lv_aload_n hx hb dX12_behindEnds_3 rfl (lv_at hl 0 rfl) ?_
      refine xget (i := 0) (j := 0) (k := 0) (T := TX12) hx hb ht tb_iX12 hown hX hP.1 rfl rfl rfl (by decide) tb_1229 rfl dX12_behindEnds_4 ?_
      refine lv_iconst (v := 5) hx hb dX12_behindEnds_7 (by decide) ?_
      obtain ⟨y_22, e_y_22, h⟩ := bi h
      refine xiald (i0 := 0) (j0 := 1) hx hb hX hP.1 rfl rfl e_y_22 dX12_behindEnds_8 ?_
      refine lv_icmp_ge (tgt := 114) hx hb dX12_behindEnds_9 (by decide) (fun c_23 => ?_) (fun c_23 => ?_)
      · have h := it c_23 h
        refine lv_iload_n hx hb dX12_behindEnds_114 rfl (lv_at hl 1 rfl) ?_
        cases h
        subst hW1
        exact W.iret hx hb hr (fun _ ht9 _ => ⟨⟨_, (), rfl, rfl, hPt ht9 hP.1⟩, hS.F ht9⟩) hS.2.2 dX12_behindEnds_115
      · have h := ie c_23 h
        refine lv_aload_n hx hb dX12_behindEnds_12 rfl (lv_at hl 0 rfl) ?_
        refine xget (i := 0) (j := 0) (k := 0) (T := TX12) hx hb ht tb_iX12 hown hX hP.1 rfl rfl rfl (by decide) tb_1229 rfl dX12_behindEnds_13 ?_
        refine lv_bipush (v := 120) hx hb dX12_behindEnds_16 (by decide) ?_
        refine lv_bipush (v := 6) hx hb dX12_behindEnds_18 (by decide) ?_
        refine lv_iload_n hx hb dX12_behindEnds_20 rfl (lv_at hl 1 rfl) ?_
        refine lv_imul hx hb dX12_behindEnds_21 ?_
        refine lv_iadd hx hb dX12_behindEnds_22 ?_
        obtain ⟨y_24, e_y_24, h⟩ := bi h
        refine xiald (i0 := 0) (j0 := 1) hx hb hX hP.1 rfl rfl e_y_24 dX12_behindEnds_23 ?_
        refine lv_bipush (v := 14) hx hb dX12_behindEnds_24 (by decide) ?_
        refine lv_icmp_ne (tgt := 114) hx hb dX12_behindEnds_26 (by decide) (fun c_25 => ?_) (fun c_25 => ?_)
        · have h := ie c_25 h
          refine lv_iload_n hx hb dX12_behindEnds_114 rfl (lv_at hl 1 rfl) ?_
          cases h
          subst hW1
          exact W.iret hx hb hr (fun _ ht9 _ => ⟨⟨_, (), rfl, rfl, hPt ht9 hP.1⟩, hS.F ht9⟩) hS.2.2 dX12_behindEnds_115
        · have h := it c_25 h
          refine lv_aload_n hx hb dX12_behindEnds_29 rfl (lv_at hl 0 rfl) ?_
          refine xget (i := 0) (j := 0) (k := 0) (T := TX12) hx hb ht tb_iX12 hown hX hP.1 rfl rfl rfl (by decide) tb_1229 rfl dX12_behindEnds_30 ?_
          refine lv_bipush (v := 120) hx hb dX12_behindEnds_33 (by decide) ?_
          refine lv_bipush (v := 6) hx hb dX12_behindEnds_35 (by decide) ?_
          refine lv_iload_n hx hb dX12_behindEnds_37 rfl (lv_at hl 1 rfl) ?_
          refine lv_imul hx hb dX12_behindEnds_38 ?_
          refine lv_iadd hx hb dX12_behindEnds_39 ?_
          refine lv_iconst (v := 4) hx hb dX12_behindEnds_40 (by decide) ?_
          refine lv_iadd hx hb dX12_behindEnds_41 ?_
          obtain ⟨y_26, e_y_26, h⟩ := bi h
          refine xiald (i0 := 0) (j0 := 1) hx hb hX hP.1 rfl rfl e_y_26 dX12_behindEnds_42 ?_
          refine lv_istore_n (lv' := [(3, .int y_26), (0, .ref (A_m 0)), (2, .int x2)]) hx hb dX12_behindEnds_43 rfl hl (by decide) rfl (fun ls hl => ?_)
          refine lv_aload_n hx hb dX12_behindEnds_44 rfl (lv_at hl 1 rfl) ?_
          refine xget (i := 0) (j := 0) (k := 0) (T := TX12) hx hb ht tb_iX12 hown hX hP.1 rfl rfl rfl (by decide) tb_1229 rfl dX12_behindEnds_45 ?_
          refine lv_bipush (v := 120) hx hb dX12_behindEnds_48 (by decide) ?_
          refine lv_bipush (v := 6) hx hb dX12_behindEnds_50 (by decide) ?_
          refine lv_iload_n hx hb dX12_behindEnds_52 rfl (lv_at hl 0 rfl) ?_
          refine lv_imul hx hb dX12_behindEnds_53 ?_
          refine lv_iadd hx hb dX12_behindEnds_54 ?_
          obtain ⟨y_27, e_y_27, h⟩ := bi h
          refine xiald (i0 := 0) (j0 := 1) hx hb hX hP.1 rfl rfl e_y_27 dX12_behindEnds_55 ?_
          refine lv_bipush (v := 13) hx hb dX12_behindEnds_56 (by decide) ?_
          refine lv_icmp_ne (tgt := 74) hx hb dX12_behindEnds_58 (by decide) (fun c_28 => ?_) (fun c_28 => ?_)
          · have h := ie c_28 h
            refine lv_iconst (v := 0) hx hb dX12_behindEnds_74 (by decide) ?_
            exact j75 m_loops x2 y_26 0 _ _ hP hS ls (lv_sub hl [1, 2, 0] rfl) h
          · have h := it c_28 h
            refine lv_aload_n hx hb dX12_behindEnds_61 rfl (lv_at hl 1 rfl) ?_
            refine xget (i := 0) (j := 0) (k := 36) (T := TX12) hx hb ht tb_iX12 hown hX hP.1 rfl rfl rfl (by decide) tb_1265 rfl dX12_behindEnds_62 ?_
            refine lv_iload_n hx hb dX12_behindEnds_65 rfl (lv_at hl 0 rfl) ?_
            obtain ⟨y_29, e_y_29, h⟩ := bi h
            refine xiald (i0 := 0) (j0 := 14) hx hb hX hP.1 rfl rfl e_y_29 dX12_behindEnds_66 ?_
            refine lv_if_le (tgt := 74) hx hb dX12_behindEnds_67 (by decide) (fun c_30 => ?_) (fun c_30 => ?_)
            · have h := it c_30 h
              refine lv_iconst (v := 0) hx hb dX12_behindEnds_74 (by decide) ?_
              exact j75 m_loops x2 y_26 0 _ _ hP hS ls (lv_sub hl [1, 2, 0] rfl) h
            · have h := ie c_30 h
              refine lv_iconst (v := 1) hx hb dX12_behindEnds_70 (by decide) ?_
              refine lv_goto (tgt := 75) hx hb dX12_behindEnds_71 (by decide) ?_
              exact j75 m_loops x2 y_26 1 _ _ hP hS ls (lv_sub hl [1, 2, 0] rfl) h
  unfold f_X12_behindEnds at h
  refine lv_iload_n hx hb dX12_behindEnds_0 rfl (lv_at hl 1 rfl) ?_
  refine lv_istore_n (lv' := [(2, .int x1), (0, .ref (A_m 0)), (1, .int x1)]) hx hb dX12_behindEnds_1 rfl hl (by decide) rfl (fun ls hl => ?_)
  exact l2 fu m_loops x1 _ _ hP hS ls (lv_sub hl [1, 0] rfl) h
