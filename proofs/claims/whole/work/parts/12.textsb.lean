theorem dX12_test_0 : decode cX12_test 0 = .ok (.aload_n 0, 1) := by decide +kernel
theorem dX12_test_1 : decode cX12_test 1 = .ok (.ldc 177, 2) := by decide +kernel
theorem dX12_test_3 : decode cX12_test 3 = .ok (.invokevirtual 169, 3) := by decide +kernel
theorem dX12_test_6 : decode cX12_test 6 = .ok (.istore_n 2, 1) := by decide +kernel
theorem dX12_test_7 : decode cX12_test 7 = .ok (.iload_n 2, 1) := by decide +kernel
theorem dX12_test_8 : decode cX12_test 8 = .ok (.bipush 16, 2) := by decide +kernel
theorem dX12_test_10 : decode cX12_test 10 = .ok (.if_icmp .ge 9, 3) := by decide +kernel
theorem dX12_test_13 : decode cX12_test 13 = .ok (.aload_n 0, 1) := by decide +kernel
theorem dX12_test_14 : decode cX12_test 14 = .ok (.iconst 2, 1) := by decide +kernel
theorem dX12_test_15 : decode cX12_test 15 = .ok (.invokevirtual 166, 3) := by decide +kernel
theorem dX12_test_18 : decode cX12_test 18 = .ok (.ireturn, 1) := by decide +kernel
theorem dX12_test_19 : decode cX12_test 19 = .ok (.aload_n 0, 1) := by decide +kernel
theorem dX12_test_20 : decode cX12_test 20 = .ok (.getfield 7, 3) := by decide +kernel
theorem dX12_test_23 : decode cX12_test 23 = .ok (.iload_n 1, 1) := by decide +kernel
theorem dX12_test_24 : decode cX12_test 24 = .ok (.sipush 1200, 3) := by decide +kernel
theorem dX12_test_27 : decode cX12_test 27 = .ok (.iload_n 2, 1) := by decide +kernel
theorem dX12_test_28 : decode cX12_test 28 = .ok (.iadd, 1) := by decide +kernel
theorem dX12_test_29 : decode cX12_test 29 = .ok (.iastore, 1) := by decide +kernel
theorem dX12_test_30 : decode cX12_test 30 = .ok (.aload_n 0, 1) := by decide +kernel
theorem dX12_test_31 : decode cX12_test 31 = .ok (.invokevirtual 160, 3) := by decide +kernel
theorem dX12_test_34 : decode cX12_test 34 = .ok (.aload_n 0, 1) := by decide +kernel
theorem dX12_test_35 : decode cX12_test 35 = .ok (.iload_n 1, 1) := by decide +kernel
theorem dX12_test_36 : decode cX12_test 36 = .ok (.iconst 1, 1) := by decide +kernel
theorem dX12_test_37 : decode cX12_test 37 = .ok (.iadd, 1) := by decide +kernel
theorem dX12_test_38 : decode cX12_test 38 = .ok (.invokevirtual 223, 3) := by decide +kernel
theorem dX12_test_41 : decode cX12_test 41 = .ok (.ifCond .ne 5, 3) := by decide +kernel
theorem dX12_test_44 : decode cX12_test 44 = .ok (.iconst 0, 1) := by decide +kernel
theorem dX12_test_45 : decode cX12_test 45 = .ok (.ireturn, 1) := by decide +kernel
theorem dX12_test_46 : decode cX12_test 46 = .ok (.aload_n 0, 1) := by decide +kernel
theorem dX12_test_47 : decode cX12_test 47 = .ok (.bipush 60, 2) := by decide +kernel
theorem dX12_test_49 : decode cX12_test 49 = .ok (.invokevirtual 163, 3) := by decide +kernel
theorem dX12_test_52 : decode cX12_test 52 = .ok (.ifCond .ne 27, 3) := by decide +kernel
theorem dX12_test_55 : decode cX12_test 55 = .ok (.aload_n 0, 1) := by decide +kernel
theorem dX12_test_56 : decode cX12_test 56 = .ok (.bipush 62, 2) := by decide +kernel
theorem dX12_test_58 : decode cX12_test 58 = .ok (.invokevirtual 163, 3) := by decide +kernel
theorem dX12_test_61 : decode cX12_test 61 = .ok (.ifCond .ne 18, 3) := by decide +kernel
theorem dX12_test_64 : decode cX12_test 64 = .ok (.aload_n 0, 1) := by decide +kernel
theorem dX12_test_65 : decode cX12_test 65 = .ok (.bipush 61, 2) := by decide +kernel
theorem dX12_test_67 : decode cX12_test 67 = .ok (.invokevirtual 163, 3) := by decide +kernel
theorem dX12_test_70 : decode cX12_test 70 = .ok (.ifCond .ne 9, 3) := by decide +kernel
theorem dX12_test_73 : decode cX12_test 73 = .ok (.aload_n 0, 1) := by decide +kernel
theorem dX12_test_74 : decode cX12_test 74 = .ok (.iconst 2, 1) := by decide +kernel
theorem dX12_test_75 : decode cX12_test 75 = .ok (.invokevirtual 166, 3) := by decide +kernel
theorem dX12_test_78 : decode cX12_test 78 = .ok (.ireturn, 1) := by decide +kernel
theorem dX12_test_79 : decode cX12_test 79 = .ok (.aload_n 0, 1) := by decide +kernel
theorem dX12_test_80 : decode cX12_test 80 = .ok (.getfield 7, 3) := by decide +kernel
theorem dX12_test_83 : decode cX12_test 83 = .ok (.iload_n 1, 1) := by decide +kernel
theorem dX12_test_84 : decode cX12_test 84 = .ok (.iconst 5, 1) := by decide +kernel
theorem dX12_test_85 : decode cX12_test 85 = .ok (.iadd, 1) := by decide +kernel
theorem dX12_test_86 : decode cX12_test 86 = .ok (.aload_n 0, 1) := by decide +kernel
theorem dX12_test_87 : decode cX12_test 87 = .ok (.getfield 126, 3) := by decide +kernel
theorem dX12_test_90 : decode cX12_test 90 = .ok (.iastore, 1) := by decide +kernel
theorem dX12_test_91 : decode cX12_test 91 = .ok (.aload_n 0, 1) := by decide +kernel
theorem dX12_test_92 : decode cX12_test 92 = .ok (.invokevirtual 160, 3) := by decide +kernel
theorem dX12_test_95 : decode cX12_test 95 = .ok (.aload_n 0, 1) := by decide +kernel
theorem dX12_test_96 : decode cX12_test 96 = .ok (.iload_n 1, 1) := by decide +kernel
theorem dX12_test_97 : decode cX12_test 97 = .ok (.iconst 2, 1) := by decide +kernel
theorem dX12_test_98 : decode cX12_test 98 = .ok (.iadd, 1) := by decide +kernel
theorem dX12_test_99 : decode cX12_test 99 = .ok (.iconst 0, 1) := by decide +kernel
theorem dX12_test_100 : decode cX12_test 100 = .ok (.sipush 999, 3) := by decide +kernel
theorem dX12_test_103 : decode cX12_test 103 = .ok (.invokevirtual 190, 3) := by decide +kernel
theorem dX12_test_106 : decode cX12_test 106 = .ok (.ireturn, 1) := by decide +kernel
theorem mv_X12_test : MV yX12_test RX12 cX12_test 3 (some .boolean) 1 := ⟨tb_1522, tb_1521, ts_66, tb_16, by decide +kernel, by decide +kernel, by decide +kernel⟩
def f_X12_test_j79 (fu : Nat) (m_names : Nat → Int64) (m_text : Nat → Int32) (m_size : Int32) (x1 : Int32) (m_at : Nat → Int32) (m_token : Int32) (m_from : Int32) (m_end : Int32) (m_value : Int32) (m_faultPlace : Int32) (m_faults : Int32) : Option (Int32 × (Nat → Int32) × Int32 × Int32 × Int32 × Int32 × Int32 × Int32) := (wrI m_at 3648 (x1 + 5) m_value).bind fun m_at_21 => (f_X12_ahead fu m_text m_size m_token m_from m_end m_value).bind fun z_22 => (f_X12_number fu m_at_21 m_text m_size z_22.1 z_22.2.1 z_22.2.2.1 z_22.2.2.2 m_faultPlace m_faults (x1 + 2) 0 999).bind fun z_23 => (bz z_23.1).bind fun _ => some (z_23.1, z_23.2.1, z_23.2.2.1, z_23.2.2.2.1, z_23.2.2.2.2.1, z_23.2.2.2.2.2.1, z_23.2.2.2.2.2.2.1, z_23.2.2.2.2.2.2.2)
def f_X12_test (fu : Nat) (m_at : Nat → Int32) (m_names : Nat → Int64) (m_text : Nat → Int32) (m_size : Int32) (m_token : Int32) (m_from : Int32) (m_end : Int32) (m_value : Int32) (m_faultPlace : Int32) (m_faults : Int32) (x1 : Int32) : Option (Int32 × (Nat → Int32) × Int32 × Int32 × Int32 × Int32 × Int32 × Int32) := (f_X12_inWords fu 1 m_text m_size m_token m_from m_end).bind fun z_25 => (if 16 ≤ z_25 then (wrI m_at 3648 x1 (1200 + z_25)).bind fun m_at_27 => (f_X12_ahead fu m_text m_size m_token m_from m_end m_value).bind fun z_28 => (f_X12_manTo fu m_at_27 m_names m_text m_size z_28.1 z_28.2.1 z_28.2.2.1 z_28.2.2.2 m_faultPlace m_faults (x1 + 1)).bind fun z_29 => (if z_29.1 = 0 then some (0, z_29.2.1, z_29.2.2.1, z_29.2.2.2.1, z_29.2.2.2.2.1, z_29.2.2.2.2.2.1, z_29.2.2.2.2.2.2.1, z_29.2.2.2.2.2.2.2) else (f_X12_isSign fu z_29.2.2.1 z_29.2.2.2.2.2.1 60).bind fun z_31 => (if z_31 = 0 then (f_X12_isSign fu z_29.2.2.1 z_29.2.2.2.2.2.1 62).bind fun z_33 => (if z_33 = 0 then (f_X12_isSign fu z_29.2.2.1 z_29.2.2.2.2.2.1 61).bind fun z_35 => (if z_35 = 0 then (f_X12_fails fu z_29.2.2.1 z_29.2.2.2.1 z_29.2.2.2.2.2.2.1 z_29.2.2.2.2.2.2.2 2).bind fun z_37 => (bz z_37.1).bind fun _ => some (z_37.1, z_29.2.1, z_29.2.2.1, z_29.2.2.2.1, z_29.2.2.2.2.1, z_29.2.2.2.2.2.1, z_37.2.1, z_37.2.2) else f_X12_test_j79 fu m_names m_text m_size x1 z_29.2.1 z_29.2.2.1 z_29.2.2.2.1 z_29.2.2.2.2.1 z_29.2.2.2.2.2.1 z_29.2.2.2.2.2.2.1 z_29.2.2.2.2.2.2.2) else f_X12_test_j79 fu m_names m_text m_size x1 z_29.2.1 z_29.2.2.1 z_29.2.2.2.1 z_29.2.2.2.2.1 z_29.2.2.2.2.2.1 z_29.2.2.2.2.2.2.1 z_29.2.2.2.2.2.2.2) else f_X12_test_j79 fu m_names m_text m_size x1 z_29.2.1 z_29.2.2.1 z_29.2.2.2.1 z_29.2.2.2.2.1 z_29.2.2.2.2.2.1 z_29.2.2.2.2.2.2.1 z_29.2.2.2.2.2.2.2)) else (f_X12_fails fu m_token m_from m_faultPlace m_faults 2).bind fun z_39 => (bz z_39.1).bind fun _ => some (z_39.1, m_at, m_token, m_from, m_end, m_value, z_39.2.1, z_39.2.2))
abbrev rm_X12_test : Room := { frames := 8, cells := 0, slots := 0, locals := 176 }
set_option maxHeartbeats 4000000 in
set_option maxRecDepth 100000 in
theorem c_X12_test (l : Launch) (D : va_G) (cy : Nat → ClassId) (fu : Nat) (tO : Nat) (aK aV : Nat → Nat) (A_m : Nat → Nat) (m_at : Nat → Int32) (m_names : Nat → Int64) (m_status : Int32) (m_top : Int64) (m_bottom : Int64) (m_sort : Nat → Int32) (m_trayMany : Nat → Int32) (m_trays : Nat → Int64) (m_tape : Nat → Int32) (m_text : Nat → Int32) (m_taped : Int32) (m_size : Int32) (m_token : Int32) (m_from : Int32) (m_end : Int32) (m_value : Int32) (m_faultKind : Int32) (m_faultPlace : Int32) (m_faults : Int32) (m_seen : Int32) (m_toldParts : Int32) (m_opened : Nat → Int32) (m_depth : Int32) (m_counted : Int32) (m_bestOrder : Int32) (m_standers : Nat → Int32) (m_has : Nat → Int32) (m_bestHas : Nat → Int32) (m_standerMany : Int32) (m_bestCouples : Int32) (m_bestFondness : Int32) (m_cameTo : Nat → Int32) (m_doesStandFirst : Int32) (m_stoodBy : Nat → Int64) (m_drawn : Int32) (m_ranSteps : Int32) (m_loops : Nat → Int32) (m_ran : Nat → Int32) (m_told1 : Nat → Int32) (m_isTold : Int32) (m_marks : Int32) (x1 : Int32) (res : Int32 × (Nat → Int32) × Int32 × Int32 × Int32 × Int32 × Int32 × Int32) (h : f_X12_test fu m_at m_names m_text m_size m_token m_from m_end m_value m_faultPlace m_faults x1 = some res) (A : Nat → Prop) (hA : A = adr [bl_X12 cy A_m m_at m_names m_status m_top m_bottom m_sort m_trayMany m_trays m_tape m_text m_taped m_size m_token m_from m_end m_value m_faultKind m_faultPlace m_faults m_seen m_toldParts m_opened m_depth m_counted m_bestOrder m_standers m_has m_bestHas m_standerMany m_bestCouples m_bestFondness m_cameTo m_doesStandFirst m_stoodBy m_drawn m_ranSteps m_loops m_ran m_told1 m_isTold m_marks]) (W1 : List va_W) (hW1 : W1 = [bl_X12 cy A_m res.2.1 m_names m_status m_top m_bottom m_sort m_trayMany m_trays m_tape m_text m_taped m_size res.2.2.1 res.2.2.2.1 res.2.2.2.2.1 res.2.2.2.2.2.1 m_faultKind res.2.2.2.2.2.2.1 res.2.2.2.2.2.2.2 m_seen m_toldParts m_opened m_depth m_counted m_bestOrder m_standers m_has m_bestHas m_standerMany m_bestCouples m_bestFondness m_cameTo m_doesStandFirst m_stoodBy m_drawn m_ranSteps m_loops m_ran m_told1 m_isTold m_marks]) : Met l yX12_test (WW yX12_test cX12_test 3 (some .boolean)) rm_X12_test (EdX D cy tO aK aV A [.ref (A_m 0), .int x1] [bl_X12 cy A_m m_at m_names m_status m_top m_bottom m_sort m_trayMany m_trays m_tape m_text m_taped m_size m_token m_from m_end m_value m_faultKind m_faultPlace m_faults m_seen m_toldParts m_opened m_depth m_counted m_bestOrder m_standers m_has m_bestHas m_standerMany m_bestCouples m_bestFondness m_cameTo m_doesStandFirst m_stoodBy m_drawn m_ranSteps m_loops m_ran m_told1 m_isTold m_marks]) (Qei D res.1 A W1) 0 0 A := by
  refine Met.ofW (cc := cX12_test) (maxL := 3) (ret := (some .boolean)) (by decide) rfl ?_
  intro p e s m args below meth c s₁ B hml hv
  obtain ⟨hargs, hP, hX, hD0, hE⟩ := hv
  have hx := B.exec
  have hb := B.bytes
  have hr := B.returns
  have ht : ∀ w ∈ lw_gd, w.before args s = true := fun w hw => atoms_spec (ws := WW yX12_test cX12_test 3 (some .boolean)) B.pre w (List.mem_cons_of_mem _ hw)
  have hown : s.vm.findClass RX12 = some m.cls := findClass_of_methodNamed B.named
  have hlocks := B.notSynchronized
  have hP : PD D A [bl_X12 cy A_m m_at m_names m_status m_top m_bottom m_sort m_trayMany m_trays m_tape m_text m_taped m_size m_token m_from m_end m_value m_faultKind m_faultPlace m_faults m_seen m_toldParts m_opened m_depth m_counted m_bestOrder m_standers m_has m_bestHas m_standerMany m_bestCouples m_bestFondness m_cameTo m_doesStandFirst m_stoodBy m_drawn m_ranSteps m_loops m_ran m_told1 m_isTold m_marks] s.heap := ⟨hP, by rw [hA]; exact hD0.own⟩
  have hS : va_S A s.heap s.heap [] := va_S.rf
  obtain ⟨ls, hl, hent⟩ := ent (m := m) (n := 3) hargs (Nat.le_of_ble_eq_true rfl) (lv := [(0, .ref (A_m 0)), (1, .int x1)]) rfl
  rw [hent]
  clear hent
  have j79 : ∀ (m_at : Nat → Int32) (m_token : Int32) (m_from : Int32) (m_end : Int32) (m_value : Int32) (m_faultPlace : Int32) (m_faults : Int32) (H : Heap) (locs : List Loc) (_ : PD D A [bl_X12 cy A_m m_at m_names m_status m_top m_bottom m_sort m_trayMany m_trays m_tape m_text m_taped m_size m_token m_from m_end m_value m_faultKind m_faultPlace m_faults m_seen m_toldParts m_opened m_depth m_counted m_bestOrder m_standers m_has m_bestHas m_standerMany m_bestCouples m_bestFondness m_cameTo m_doesStandFirst m_stoodBy m_drawn m_ranSteps m_loops m_ran m_told1 m_isTold m_marks] H) (_ : va_S A s.heap H locs) (ls : Array Slot), lv_has ls 3 [(0, .ref (A_m 0)), (1, .int x1)] → f_X12_test_j79 fu m_names m_text m_size x1 m_at m_token m_from m_end m_value m_faultPlace m_faults = some res → W p l e (headSpec (WW yX12_test cX12_test 3 (some .boolean)) rm_X12_test).room s m args below meth c H locs 0 0 (MQ below (Qei D res.1 A W1) args s 0 0 A) (F0 m 79 ls []) := by
    intro m_at m_token m_from m_end m_value m_faultPlace m_faults H locs hP hS ls hl h
    unfold f_X12_test_j79 at h
    refine lv_aload_n hx hb dX12_test_79 rfl (lv_at hl 0 rfl) ?_
    refine xget (i := 0) (j := 0) (k := 0) (T := TX12) hx hb ht tb_iX12 hown hX hP.1 rfl rfl rfl (by decide) tb_1229 rfl dX12_test_80 ?_
    refine lv_iload_n hx hb dX12_test_83 rfl (lv_at hl 1 rfl) ?_
    refine lv_iconst (v := 5) hx hb dX12_test_84 (by decide) ?_
    refine lv_iadd hx hb dX12_test_85 ?_
    refine lv_aload_n hx hb dX12_test_86 rfl (lv_at hl 0 rfl) ?_
    refine xget (i := 0) (j := 0) (k := 15) (T := TX12) hx hb ht tb_iX12 hown hX hP.1 rfl rfl rfl (by decide) tb_1244 rfl dX12_test_87 ?_
    obtain ⟨m_at_21, e_m_at_21, h⟩ := bi h
    refine xiast (i0 := 0) (j0 := 1) hx hb hX hP hS rfl rfl e_m_at_21 dX12_test_90 (fun H locs hP hS => ?_)
    have hP : PD D A [bl_X12 cy A_m m_at_21 m_names m_status m_top m_bottom m_sort m_trayMany m_trays m_tape m_text m_taped m_size m_token m_from m_end m_value m_faultKind m_faultPlace m_faults m_seen m_toldParts m_opened m_depth m_counted m_bestOrder m_standers m_has m_bestHas m_standerMany m_bestCouples m_bestFondness m_cameTo m_doesStandFirst m_stoodBy m_drawn m_ranSteps m_loops m_ran m_told1 m_isTold m_marks] H := hP
    refine lv_aload_n hx hb dX12_test_91 rfl (lv_at hl 0 rfl) ?_
    obtain ⟨z_22, e_z_22, h⟩ := bi h
    refine efVv (rest := []) ⟨hx, hb, hml, hown, ht⟩ (c_X12_ahead l D cy fu A_m m_at_21 m_names m_status m_top m_bottom m_sort m_trayMany m_trays m_tape m_text m_taped m_size m_token m_from m_end m_value m_faultKind m_faultPlace m_faults m_seen m_toldParts m_opened m_depth m_counted m_bestOrder m_standers m_has m_bestHas m_standerMany m_bestCouples m_bestFondness m_cameTo m_doesStandFirst m_stoodBy m_drawn m_ranSteps m_loops m_ran m_told1 m_isTold m_marks z_22 e_z_22 _ rfl _ rfl) (cV ht mv_X12_ahead tb_1416 rfl rfl ⟨Nat.le_of_ble_eq_true rfl, Nat.le_of_ble_eq_true rfl⟩) hP hS hX [0] rfl rfl rfl rfl rfl rfl hl.1 rfl (Nat.le_of_ble_eq_true rfl) dX12_test_92 ⟨Nat.le_of_ble_eq_true rfl, Nat.le_of_ble_eq_true rfl⟩ (fun H locs hP hS => ?_)
    have hP : PD D A [bl_X12 cy A_m m_at_21 m_names m_status m_top m_bottom m_sort m_trayMany m_trays m_tape m_text m_taped m_size z_22.1 z_22.2.1 z_22.2.2.1 z_22.2.2.2 m_faultKind m_faultPlace m_faults m_seen m_toldParts m_opened m_depth m_counted m_bestOrder m_standers m_has m_bestHas m_standerMany m_bestCouples m_bestFondness m_cameTo m_doesStandFirst m_stoodBy m_drawn m_ranSteps m_loops m_ran m_told1 m_isTold m_marks] H := hP
    refine lv_aload_n hx hb dX12_test_95 rfl (lv_at hl 0 rfl) ?_
    refine lv_iload_n hx hb dX12_test_96 rfl (lv_at hl 1 rfl) ?_
    refine lv_iconst (v := 2) hx hb dX12_test_97 (by decide) ?_
    refine lv_iadd hx hb dX12_test_98 ?_
    refine lv_iconst (v := 0) hx hb dX12_test_99 (by decide) ?_
    refine lv_sipush (v := 999) hx hb dX12_test_100 (by decide) ?_
    obtain ⟨z_23, e_z_23, h⟩ := bi h
    refine efVi (rest := []) ⟨hx, hb, hml, hown, ht⟩ (c_X12_number l D cy fu A_m m_at_21 m_names m_status m_top m_bottom m_sort m_trayMany m_trays m_tape m_text m_taped m_size z_22.1 z_22.2.1 z_22.2.2.1 z_22.2.2.2 m_faultKind m_faultPlace m_faults m_seen m_toldParts m_opened m_depth m_counted m_bestOrder m_standers m_has m_bestHas m_standerMany m_bestCouples m_bestFondness m_cameTo m_doesStandFirst m_stoodBy m_drawn m_ranSteps m_loops m_ran m_told1 m_isTold m_marks (x1 + 2) 0 999 z_23 e_z_23 _ rfl _ rfl) (cV ht mv_X12_number tb_1451 rfl rfl ⟨Nat.le_of_ble_eq_true rfl, Nat.le_of_ble_eq_true rfl⟩) hP hS hX [0] rfl rfl rfl rfl rfl rfl hl.1 rfl (Nat.le_of_ble_eq_true rfl) dX12_test_103 ⟨Nat.le_of_ble_eq_true rfl, Nat.le_of_ble_eq_true rfl⟩ (fun H locs hP hS => ?_)
    have hP : PD D A [bl_X12 cy A_m z_23.2.1 m_names m_status m_top m_bottom m_sort m_trayMany m_trays m_tape m_text m_taped m_size z_23.2.2.1 z_23.2.2.2.1 z_23.2.2.2.2.1 z_23.2.2.2.2.2.1 m_faultKind z_23.2.2.2.2.2.2.1 z_23.2.2.2.2.2.2.2 m_seen m_toldParts m_opened m_depth m_counted m_bestOrder m_standers m_has m_bestHas m_standerMany m_bestCouples m_bestFondness m_cameTo m_doesStandFirst m_stoodBy m_drawn m_ranSteps m_loops m_ran m_told1 m_isTold m_marks] H := hP
    obtain ⟨b_24, e_b_24, h⟩ := bi h
    obtain ⟨-, n_b_24, -⟩ := bz_ok e_b_24
    cases h
    subst hW1
    exact W.zret hx hb hr n_b_24 (fun _ ht9 _ => ⟨⟨_, (), rfl, rfl, hPt ht9 hP.1⟩, hS.F ht9⟩) hS.2.2 dX12_test_106
  unfold f_X12_test at h
  refine lv_aload_n hx hb dX12_test_0 rfl (lv_at hl 0 rfl) ?_
  refine va_ldcS hx hb hown hE.2.2.2.2.2.2.2 dX12_test_1 ?_
  obtain ⟨z_25, e_z_25, h⟩ := bi h
  refine roViX (rest := []) ⟨hx, hb, hml, hown, ht⟩ (c_X12_inWords l D cy fu tO aK aV 1 (by decide) A_m m_at m_names m_status m_top m_bottom m_sort m_trayMany m_trays m_tape m_text m_taped m_size m_token m_from m_end m_value m_faultKind m_faultPlace m_faults m_seen m_toldParts m_opened m_depth m_counted m_bestOrder m_standers m_has m_bestHas m_standerMany m_bestCouples m_bestFondness m_cameTo m_doesStandFirst m_stoodBy m_drawn m_ranSteps m_loops m_ran m_told1 m_isTold m_marks z_25 e_z_25) (cV ht mv_X12_inWords tb_1441 rfl rfl ⟨Nat.le_of_ble_eq_true rfl, Nat.le_of_ble_eq_true rfl⟩) (P_sub hP.1 [0] rfl) hX hE hS rfl rfl rfl hl.1 rfl (Nat.le_of_ble_eq_true rfl) dX12_test_3 ⟨Nat.le_of_ble_eq_true rfl, Nat.le_of_ble_eq_true rfl⟩ ?_
  refine lv_istore_n (lv' := [(2, .int z_25), (0, .ref (A_m 0)), (1, .int x1)]) hx hb dX12_test_6 rfl hl (by decide) rfl (fun ls hl => ?_)
  refine lv_iload_n hx hb dX12_test_7 rfl (lv_at hl 0 rfl) ?_
  refine lv_bipush (v := 16) hx hb dX12_test_8 (by decide) ?_
  refine lv_icmp_ge (tgt := 19) hx hb dX12_test_10 (by decide) (fun c_26 => ?_) (fun c_26 => ?_)
  · have h := it c_26 h
    refine lv_aload_n hx hb dX12_test_19 rfl (lv_at hl 1 rfl) ?_
    refine xget (i := 0) (j := 0) (k := 0) (T := TX12) hx hb ht tb_iX12 hown hX hP.1 rfl rfl rfl (by decide) tb_1229 rfl dX12_test_20 ?_
    refine lv_iload_n hx hb dX12_test_23 rfl (lv_at hl 2 rfl) ?_
    refine lv_sipush (v := 1200) hx hb dX12_test_24 (by decide) ?_
    refine lv_iload_n hx hb dX12_test_27 rfl (lv_at hl 0 rfl) ?_
    refine lv_iadd hx hb dX12_test_28 ?_
    obtain ⟨m_at_27, e_m_at_27, h⟩ := bi h
    refine xiast (i0 := 0) (j0 := 1) hx hb hX hP hS rfl rfl e_m_at_27 dX12_test_29 (fun H locs hP hS => ?_)
    have hP : PD D A [bl_X12 cy A_m m_at_27 m_names m_status m_top m_bottom m_sort m_trayMany m_trays m_tape m_text m_taped m_size m_token m_from m_end m_value m_faultKind m_faultPlace m_faults m_seen m_toldParts m_opened m_depth m_counted m_bestOrder m_standers m_has m_bestHas m_standerMany m_bestCouples m_bestFondness m_cameTo m_doesStandFirst m_stoodBy m_drawn m_ranSteps m_loops m_ran m_told1 m_isTold m_marks] H := hP
    refine lv_aload_n hx hb dX12_test_30 rfl (lv_at hl 1 rfl) ?_
    obtain ⟨z_28, e_z_28, h⟩ := bi h
    refine efVv (rest := []) ⟨hx, hb, hml, hown, ht⟩ (c_X12_ahead l D cy fu A_m m_at_27 m_names m_status m_top m_bottom m_sort m_trayMany m_trays m_tape m_text m_taped m_size m_token m_from m_end m_value m_faultKind m_faultPlace m_faults m_seen m_toldParts m_opened m_depth m_counted m_bestOrder m_standers m_has m_bestHas m_standerMany m_bestCouples m_bestFondness m_cameTo m_doesStandFirst m_stoodBy m_drawn m_ranSteps m_loops m_ran m_told1 m_isTold m_marks z_28 e_z_28 _ rfl _ rfl) (cV ht mv_X12_ahead tb_1416 rfl rfl ⟨Nat.le_of_ble_eq_true rfl, Nat.le_of_ble_eq_true rfl⟩) hP hS hX [0] rfl rfl rfl rfl rfl rfl hl.1 rfl (Nat.le_of_ble_eq_true rfl) dX12_test_31 ⟨Nat.le_of_ble_eq_true rfl, Nat.le_of_ble_eq_true rfl⟩ (fun H locs hP hS => ?_)
    have hP : PD D A [bl_X12 cy A_m m_at_27 m_names m_status m_top m_bottom m_sort m_trayMany m_trays m_tape m_text m_taped m_size z_28.1 z_28.2.1 z_28.2.2.1 z_28.2.2.2 m_faultKind m_faultPlace m_faults m_seen m_toldParts m_opened m_depth m_counted m_bestOrder m_standers m_has m_bestHas m_standerMany m_bestCouples m_bestFondness m_cameTo m_doesStandFirst m_stoodBy m_drawn m_ranSteps m_loops m_ran m_told1 m_isTold m_marks] H := hP
    refine lv_aload_n hx hb dX12_test_34 rfl (lv_at hl 1 rfl) ?_
    refine lv_iload_n hx hb dX12_test_35 rfl (lv_at hl 2 rfl) ?_
    refine lv_iconst (v := 1) hx hb dX12_test_36 (by decide) ?_
    refine lv_iadd hx hb dX12_test_37 ?_
    obtain ⟨z_29, e_z_29, h⟩ := bi h
    refine efViX (rest := []) ⟨hx, hb, hml, hown, ht⟩ (c_X12_manTo l D cy fu tO aK aV A_m m_at_27 m_names m_status m_top m_bottom m_sort m_trayMany m_trays m_tape m_text m_taped m_size z_28.1 z_28.2.1 z_28.2.2.1 z_28.2.2.2 m_faultKind m_faultPlace m_faults m_seen m_toldParts m_opened m_depth m_counted m_bestOrder m_standers m_has m_bestHas m_standerMany m_bestCouples m_bestFondness m_cameTo m_doesStandFirst m_stoodBy m_drawn m_ranSteps m_loops m_ran m_told1 m_isTold m_marks (x1 + 1) z_29 e_z_29 _ rfl _ rfl) (cV ht mv_X12_manTo tb_1515 rfl rfl ⟨Nat.le_of_ble_eq_true rfl, Nat.le_of_ble_eq_true rfl⟩) hP hS hX hE [0] rfl rfl rfl rfl rfl rfl hl.1 rfl (Nat.le_of_ble_eq_true rfl) dX12_test_38 ⟨Nat.le_of_ble_eq_true rfl, Nat.le_of_ble_eq_true rfl⟩ (fun H locs hP hS => ?_)
    have hP : PD D A [bl_X12 cy A_m z_29.2.1 m_names m_status m_top m_bottom m_sort m_trayMany m_trays m_tape m_text m_taped m_size z_29.2.2.1 z_29.2.2.2.1 z_29.2.2.2.2.1 z_29.2.2.2.2.2.1 m_faultKind z_29.2.2.2.2.2.2.1 z_29.2.2.2.2.2.2.2 m_seen m_toldParts m_opened m_depth m_counted m_bestOrder m_standers m_has m_bestHas m_standerMany m_bestCouples m_bestFondness m_cameTo m_doesStandFirst m_stoodBy m_drawn m_ranSteps m_loops m_ran m_told1 m_isTold m_marks] H := hP
    refine lv_if_ne (tgt := 46) hx hb dX12_test_41 (by decide) (fun c_30 => ?_) (fun c_30 => ?_)
    · have h := ie c_30 h
      refine lv_aload_n hx hb dX12_test_46 rfl (lv_at hl 1 rfl) ?_
      refine lv_bipush (v := 60) hx hb dX12_test_47 (by decide) ?_
      obtain ⟨z_31, e_z_31, h⟩ := bi h
      refine roVi (rest := []) ⟨hx, hb, hml, hown, ht⟩ (c_X12_isSign l D cy fu A_m z_29.2.1 m_names m_status m_top m_bottom m_sort m_trayMany m_trays m_tape m_text m_taped m_size z_29.2.2.1 z_29.2.2.2.1 z_29.2.2.2.2.1 z_29.2.2.2.2.2.1 m_faultKind z_29.2.2.2.2.2.2.1 z_29.2.2.2.2.2.2.2 m_seen m_toldParts m_opened m_depth m_counted m_bestOrder m_standers m_has m_bestHas m_standerMany m_bestCouples m_bestFondness m_cameTo m_doesStandFirst m_stoodBy m_drawn m_ranSteps m_loops m_ran m_told1 m_isTold m_marks 60 z_31 e_z_31) (cV ht mv_X12_isSign tb_1491 rfl rfl ⟨Nat.le_of_ble_eq_true rfl, Nat.le_of_ble_eq_true rfl⟩) (P_sub hP.1 [0] rfl) hX rfl rfl rfl hl.1 rfl (Nat.le_of_ble_eq_true rfl) dX12_test_49 ⟨Nat.le_of_ble_eq_true rfl, Nat.le_of_ble_eq_true rfl⟩ ?_
      refine lv_if_ne (tgt := 79) hx hb dX12_test_52 (by decide) (fun c_32 => ?_) (fun c_32 => ?_)
      · have h := ie c_32 h
        exact j79 z_29.2.1 z_29.2.2.1 z_29.2.2.2.1 z_29.2.2.2.2.1 z_29.2.2.2.2.2.1 z_29.2.2.2.2.2.2.1 z_29.2.2.2.2.2.2.2 _ _ hP hS ls (lv_sub hl [1, 2] rfl) h
      · have h := it c_32 h
        refine lv_aload_n hx hb dX12_test_55 rfl (lv_at hl 1 rfl) ?_
        refine lv_bipush (v := 62) hx hb dX12_test_56 (by decide) ?_
        obtain ⟨z_33, e_z_33, h⟩ := bi h
        refine roVi (rest := []) ⟨hx, hb, hml, hown, ht⟩ (c_X12_isSign l D cy fu A_m z_29.2.1 m_names m_status m_top m_bottom m_sort m_trayMany m_trays m_tape m_text m_taped m_size z_29.2.2.1 z_29.2.2.2.1 z_29.2.2.2.2.1 z_29.2.2.2.2.2.1 m_faultKind z_29.2.2.2.2.2.2.1 z_29.2.2.2.2.2.2.2 m_seen m_toldParts m_opened m_depth m_counted m_bestOrder m_standers m_has m_bestHas m_standerMany m_bestCouples m_bestFondness m_cameTo m_doesStandFirst m_stoodBy m_drawn m_ranSteps m_loops m_ran m_told1 m_isTold m_marks 62 z_33 e_z_33) (cV ht mv_X12_isSign tb_1491 rfl rfl ⟨Nat.le_of_ble_eq_true rfl, Nat.le_of_ble_eq_true rfl⟩) (P_sub hP.1 [0] rfl) hX rfl rfl rfl hl.1 rfl (Nat.le_of_ble_eq_true rfl) dX12_test_58 ⟨Nat.le_of_ble_eq_true rfl, Nat.le_of_ble_eq_true rfl⟩ ?_
        refine lv_if_ne (tgt := 79) hx hb dX12_test_61 (by decide) (fun c_34 => ?_) (fun c_34 => ?_)
        · have h := ie c_34 h
          exact j79 z_29.2.1 z_29.2.2.1 z_29.2.2.2.1 z_29.2.2.2.2.1 z_29.2.2.2.2.2.1 z_29.2.2.2.2.2.2.1 z_29.2.2.2.2.2.2.2 _ _ hP hS ls (lv_sub hl [1, 2] rfl) h
        · have h := it c_34 h
          refine lv_aload_n hx hb dX12_test_64 rfl (lv_at hl 1 rfl) ?_
          refine lv_bipush (v := 61) hx hb dX12_test_65 (by decide) ?_
          obtain ⟨z_35, e_z_35, h⟩ := bi h
          refine roVi (rest := []) ⟨hx, hb, hml, hown, ht⟩ (c_X12_isSign l D cy fu A_m z_29.2.1 m_names m_status m_top m_bottom m_sort m_trayMany m_trays m_tape m_text m_taped m_size z_29.2.2.1 z_29.2.2.2.1 z_29.2.2.2.2.1 z_29.2.2.2.2.2.1 m_faultKind z_29.2.2.2.2.2.2.1 z_29.2.2.2.2.2.2.2 m_seen m_toldParts m_opened m_depth m_counted m_bestOrder m_standers m_has m_bestHas m_standerMany m_bestCouples m_bestFondness m_cameTo m_doesStandFirst m_stoodBy m_drawn m_ranSteps m_loops m_ran m_told1 m_isTold m_marks 61 z_35 e_z_35) (cV ht mv_X12_isSign tb_1491 rfl rfl ⟨Nat.le_of_ble_eq_true rfl, Nat.le_of_ble_eq_true rfl⟩) (P_sub hP.1 [0] rfl) hX rfl rfl rfl hl.1 rfl (Nat.le_of_ble_eq_true rfl) dX12_test_67 ⟨Nat.le_of_ble_eq_true rfl, Nat.le_of_ble_eq_true rfl⟩ ?_
          refine lv_if_ne (tgt := 79) hx hb dX12_test_70 (by decide) (fun c_36 => ?_) (fun c_36 => ?_)
          · have h := ie c_36 h
            exact j79 z_29.2.1 z_29.2.2.1 z_29.2.2.2.1 z_29.2.2.2.2.1 z_29.2.2.2.2.2.1 z_29.2.2.2.2.2.2.1 z_29.2.2.2.2.2.2.2 _ _ hP hS ls (lv_sub hl [1, 2] rfl) h
          · have h := it c_36 h
            refine lv_aload_n hx hb dX12_test_73 rfl (lv_at hl 1 rfl) ?_
            refine lv_iconst (v := 2) hx hb dX12_test_74 (by decide) ?_
            obtain ⟨z_37, e_z_37, h⟩ := bi h
            refine efVi (rest := []) ⟨hx, hb, hml, hown, ht⟩ (c_X12_fails l D cy fu A_m z_29.2.1 m_names m_status m_top m_bottom m_sort m_trayMany m_trays m_tape m_text m_taped m_size z_29.2.2.1 z_29.2.2.2.1 z_29.2.2.2.2.1 z_29.2.2.2.2.2.1 m_faultKind z_29.2.2.2.2.2.2.1 z_29.2.2.2.2.2.2.2 m_seen m_toldParts m_opened m_depth m_counted m_bestOrder m_standers m_has m_bestHas m_standerMany m_bestCouples m_bestFondness m_cameTo m_doesStandFirst m_stoodBy m_drawn m_ranSteps m_loops m_ran m_told1 m_isTold m_marks 2 z_37 e_z_37 _ rfl _ rfl) (cV ht mv_X12_fails tb_1447 rfl rfl ⟨Nat.le_of_ble_eq_true rfl, Nat.le_of_ble_eq_true rfl⟩) hP hS hX [0] rfl rfl rfl rfl rfl rfl hl.1 rfl (Nat.le_of_ble_eq_true rfl) dX12_test_75 ⟨Nat.le_of_ble_eq_true rfl, Nat.le_of_ble_eq_true rfl⟩ (fun H locs hP hS => ?_)
            have hP : PD D A [bl_X12 cy A_m z_29.2.1 m_names m_status m_top m_bottom m_sort m_trayMany m_trays m_tape m_text m_taped m_size z_29.2.2.1 z_29.2.2.2.1 z_29.2.2.2.2.1 z_29.2.2.2.2.2.1 m_faultKind z_37.2.1 z_37.2.2 m_seen m_toldParts m_opened m_depth m_counted m_bestOrder m_standers m_has m_bestHas m_standerMany m_bestCouples m_bestFondness m_cameTo m_doesStandFirst m_stoodBy m_drawn m_ranSteps m_loops m_ran m_told1 m_isTold m_marks] H := hP
            obtain ⟨b_38, e_b_38, h⟩ := bi h
            obtain ⟨-, n_b_38, -⟩ := bz_ok e_b_38
            cases h
            subst hW1
            exact W.zret hx hb hr n_b_38 (fun _ ht9 _ => ⟨⟨_, (), rfl, rfl, hPt ht9 hP.1⟩, hS.F ht9⟩) hS.2.2 dX12_test_78
    · have h := it c_30 h
      refine lv_iconst (v := 0) hx hb dX12_test_44 (by decide) ?_
      cases h
      subst hW1
      exact W.zret hx hb hr rfl (fun _ ht9 _ => ⟨⟨_, (), rfl, rfl, hPt ht9 hP.1⟩, hS.F ht9⟩) hS.2.2 dX12_test_45
  · have h := ie c_26 h
    refine lv_aload_n hx hb dX12_test_13 rfl (lv_at hl 1 rfl) ?_
    refine lv_iconst (v := 2) hx hb dX12_test_14 (by decide) ?_
    obtain ⟨z_39, e_z_39, h⟩ := bi h
    refine efVi (rest := []) ⟨hx, hb, hml, hown, ht⟩ (c_X12_fails l D cy fu A_m m_at m_names m_status m_top m_bottom m_sort m_trayMany m_trays m_tape m_text m_taped m_size m_token m_from m_end m_value m_faultKind m_faultPlace m_faults m_seen m_toldParts m_opened m_depth m_counted m_bestOrder m_standers m_has m_bestHas m_standerMany m_bestCouples m_bestFondness m_cameTo m_doesStandFirst m_stoodBy m_drawn m_ranSteps m_loops m_ran m_told1 m_isTold m_marks 2 z_39 e_z_39 _ rfl _ rfl) (cV ht mv_X12_fails tb_1447 rfl rfl ⟨Nat.le_of_ble_eq_true rfl, Nat.le_of_ble_eq_true rfl⟩) hP hS hX [0] rfl rfl rfl rfl rfl rfl hl.1 rfl (Nat.le_of_ble_eq_true rfl) dX12_test_15 ⟨Nat.le_of_ble_eq_true rfl, Nat.le_of_ble_eq_true rfl⟩ (fun H locs hP hS => ?_)
    have hP : PD D A [bl_X12 cy A_m m_at m_names m_status m_top m_bottom m_sort m_trayMany m_trays m_tape m_text m_taped m_size m_token m_from m_end m_value m_faultKind z_39.2.1 z_39.2.2 m_seen m_toldParts m_opened m_depth m_counted m_bestOrder m_standers m_has m_bestHas m_standerMany m_bestCouples m_bestFondness m_cameTo m_doesStandFirst m_stoodBy m_drawn m_ranSteps m_loops m_ran m_told1 m_isTold m_marks] H := hP
    obtain ⟨b_40, e_b_40, h⟩ := bi h
    obtain ⟨-, n_b_40, -⟩ := bz_ok e_b_40
    cases h
    subst hW1
    exact W.zret hx hb hr n_b_40 (fun _ ht9 _ => ⟨⟨_, (), rfl, rfl, hPt ht9 hP.1⟩, hS.F ht9⟩) hS.2.2 dX12_test_18
theorem dX12_warOrder_0 : decode cX12_warOrder 0 = .ok (.iload_n 1, 1) := by decide +kernel
theorem dX12_warOrder_1 : decode cX12_warOrder 1 = .ok (.tableswitch 123 7 13 #[43, 72, 98, 98, 123, 117, 106], 43) := by decide +kernel
theorem dX12_warOrder_44 : decode cX12_warOrder 44 = .ok (.aload_n 0, 1) := by decide +kernel
theorem dX12_warOrder_45 : decode cX12_warOrder 45 = .ok (.iload_n 2, 1) := by decide +kernel
theorem dX12_warOrder_46 : decode cX12_warOrder 46 = .ok (.iconst 1, 1) := by decide +kernel
theorem dX12_warOrder_47 : decode cX12_warOrder 47 = .ok (.iadd, 1) := by decide +kernel
theorem dX12_warOrder_48 : decode cX12_warOrder 48 = .ok (.invokevirtual 223, 3) := by decide +kernel
theorem dX12_warOrder_51 : decode cX12_warOrder 51 = .ok (.ifCond .eq 20, 3) := by decide +kernel
theorem dX12_warOrder_54 : decode cX12_warOrder 54 = .ok (.aload_n 0, 1) := by decide +kernel
theorem dX12_warOrder_55 : decode cX12_warOrder 55 = .ok (.iload_n 2, 1) := by decide +kernel
theorem dX12_warOrder_56 : decode cX12_warOrder 56 = .ok (.iconst 2, 1) := by decide +kernel
theorem dX12_warOrder_57 : decode cX12_warOrder 57 = .ok (.iadd, 1) := by decide +kernel
theorem dX12_warOrder_58 : decode cX12_warOrder 58 = .ok (.iconst 1, 1) := by decide +kernel
theorem dX12_warOrder_59 : decode cX12_warOrder 59 = .ok (.bipush 99, 2) := by decide +kernel
theorem dX12_warOrder_61 : decode cX12_warOrder 61 = .ok (.invokevirtual 190, 3) := by decide +kernel
theorem dX12_warOrder_64 : decode cX12_warOrder 64 = .ok (.ifCond .eq 7, 3) := by decide +kernel
theorem dX12_warOrder_67 : decode cX12_warOrder 67 = .ok (.iconst 1, 1) := by decide +kernel
theorem dX12_warOrder_68 : decode cX12_warOrder 68 = .ok (.goto 4, 3) := by decide +kernel
theorem dX12_warOrder_71 : decode cX12_warOrder 71 = .ok (.iconst 0, 1) := by decide +kernel
theorem dX12_warOrder_72 : decode cX12_warOrder 72 = .ok (.ireturn, 1) := by decide +kernel
theorem dX12_warOrder_73 : decode cX12_warOrder 73 = .ok (.aload_n 0, 1) := by decide +kernel
theorem dX12_warOrder_74 : decode cX12_warOrder 74 = .ok (.iload_n 2, 1) := by decide +kernel
theorem dX12_warOrder_75 : decode cX12_warOrder 75 = .ok (.iconst 1, 1) := by decide +kernel
theorem dX12_warOrder_76 : decode cX12_warOrder 76 = .ok (.iadd, 1) := by decide +kernel
theorem dX12_warOrder_77 : decode cX12_warOrder 77 = .ok (.invokevirtual 223, 3) := by decide +kernel
theorem dX12_warOrder_80 : decode cX12_warOrder 80 = .ok (.ifCond .eq 17, 3) := by decide +kernel
theorem dX12_warOrder_83 : decode cX12_warOrder 83 = .ok (.aload_n 0, 1) := by decide +kernel
theorem dX12_warOrder_84 : decode cX12_warOrder 84 = .ok (.iload_n 2, 1) := by decide +kernel
theorem dX12_warOrder_85 : decode cX12_warOrder 85 = .ok (.iconst 2, 1) := by decide +kernel
theorem dX12_warOrder_86 : decode cX12_warOrder 86 = .ok (.iadd, 1) := by decide +kernel
theorem dX12_warOrder_87 : decode cX12_warOrder 87 = .ok (.invokevirtual 223, 3) := by decide +kernel
theorem dX12_warOrder_90 : decode cX12_warOrder 90 = .ok (.ifCond .eq 7, 3) := by decide +kernel
theorem dX12_warOrder_93 : decode cX12_warOrder 93 = .ok (.iconst 1, 1) := by decide +kernel
theorem dX12_warOrder_94 : decode cX12_warOrder 94 = .ok (.goto 4, 3) := by decide +kernel
theorem dX12_warOrder_97 : decode cX12_warOrder 97 = .ok (.iconst 0, 1) := by decide +kernel
theorem dX12_warOrder_98 : decode cX12_warOrder 98 = .ok (.ireturn, 1) := by decide +kernel
theorem dX12_warOrder_99 : decode cX12_warOrder 99 = .ok (.aload_n 0, 1) := by decide +kernel
theorem dX12_warOrder_100 : decode cX12_warOrder 100 = .ok (.iload_n 2, 1) := by decide +kernel
theorem dX12_warOrder_101 : decode cX12_warOrder 101 = .ok (.iconst 1, 1) := by decide +kernel
theorem dX12_warOrder_102 : decode cX12_warOrder 102 = .ok (.iadd, 1) := by decide +kernel
theorem dX12_warOrder_103 : decode cX12_warOrder 103 = .ok (.invokevirtual 223, 3) := by decide +kernel
theorem dX12_warOrder_106 : decode cX12_warOrder 106 = .ok (.ireturn, 1) := by decide +kernel
theorem dX12_warOrder_107 : decode cX12_warOrder 107 = .ok (.aload_n 0, 1) := by decide +kernel
theorem dX12_warOrder_108 : decode cX12_warOrder 108 = .ok (.iload_n 2, 1) := by decide +kernel
theorem dX12_warOrder_109 : decode cX12_warOrder 109 = .ok (.iconst 1, 1) := by decide +kernel
theorem dX12_warOrder_110 : decode cX12_warOrder 110 = .ok (.iadd, 1) := by decide +kernel
theorem dX12_warOrder_111 : decode cX12_warOrder 111 = .ok (.iconst 1, 1) := by decide +kernel
theorem dX12_warOrder_112 : decode cX12_warOrder 112 = .ok (.bipush 99, 2) := by decide +kernel
theorem dX12_warOrder_114 : decode cX12_warOrder 114 = .ok (.invokevirtual 190, 3) := by decide +kernel
theorem dX12_warOrder_117 : decode cX12_warOrder 117 = .ok (.ireturn, 1) := by decide +kernel
theorem dX12_warOrder_118 : decode cX12_warOrder 118 = .ok (.aload_n 0, 1) := by decide +kernel
theorem dX12_warOrder_119 : decode cX12_warOrder 119 = .ok (.iload_n 2, 1) := by decide +kernel
theorem dX12_warOrder_120 : decode cX12_warOrder 120 = .ok (.invokevirtual 226, 3) := by decide +kernel
theorem dX12_warOrder_123 : decode cX12_warOrder 123 = .ok (.ireturn, 1) := by decide +kernel
theorem dX12_warOrder_124 : decode cX12_warOrder 124 = .ok (.iconst 1, 1) := by decide +kernel
theorem dX12_warOrder_125 : decode cX12_warOrder 125 = .ok (.ireturn, 1) := by decide +kernel
theorem mv_X12_warOrder : MV yX12_warOrder RX12 cX12_warOrder 3 (some .boolean) 2 := ⟨tb_1514, tb_1513, ts_64, tb_16, by decide +kernel, by decide +kernel, by decide +kernel⟩
def f_X12_warOrder (fu : Nat) (m_at : Nat → Int32) (m_names : Nat → Int64) (m_text : Nat → Int32) (m_size : Int32) (m_token : Int32) (m_from : Int32) (m_end : Int32) (m_value : Int32) (m_faultPlace : Int32) (m_faults : Int32) (x1 : Int32) (x2 : Int32) : Option (Int32 × (Nat → Int32) × Int32 × Int32 × Int32 × Int32 × Int32 × Int32) := (if x1 = 7 then (f_X12_manTo fu m_at m_names m_text m_size m_token m_from m_end m_value m_faultPlace m_faults (x2 + 1)).bind fun z_25 => (if z_25.1 = 0 then some (0, z_25.2.1, z_25.2.2.1, z_25.2.2.2.1, z_25.2.2.2.2.1, z_25.2.2.2.2.2.1, z_25.2.2.2.2.2.2.1, z_25.2.2.2.2.2.2.2) else (f_X12_number fu z_25.2.1 m_text m_size z_25.2.2.1 z_25.2.2.2.1 z_25.2.2.2.2.1 z_25.2.2.2.2.2.1 z_25.2.2.2.2.2.2.1 z_25.2.2.2.2.2.2.2 (x2 + 2) 1 99).bind fun z_27 => (if z_27.1 = 0 then some (0, z_27.2.1, z_27.2.2.1, z_27.2.2.2.1, z_27.2.2.2.2.1, z_27.2.2.2.2.2.1, z_27.2.2.2.2.2.2.1, z_27.2.2.2.2.2.2.2) else some (1, z_27.2.1, z_27.2.2.1, z_27.2.2.2.1, z_27.2.2.2.2.1, z_27.2.2.2.2.2.1, z_27.2.2.2.2.2.2.1, z_27.2.2.2.2.2.2.2))) else (if x1 = 8 then (f_X12_manTo fu m_at m_names m_text m_size m_token m_from m_end m_value m_faultPlace m_faults (x2 + 1)).bind fun z_30 => (if z_30.1 = 0 then some (0, z_30.2.1, z_30.2.2.1, z_30.2.2.2.1, z_30.2.2.2.2.1, z_30.2.2.2.2.2.1, z_30.2.2.2.2.2.2.1, z_30.2.2.2.2.2.2.2) else (f_X12_manTo fu z_30.2.1 m_names m_text m_size z_30.2.2.1 z_30.2.2.2.1 z_30.2.2.2.2.1 z_30.2.2.2.2.2.1 z_30.2.2.2.2.2.2.1 z_30.2.2.2.2.2.2.2 (x2 + 2)).bind fun z_32 => (if z_32.1 = 0 then some (0, z_32.2.1, z_32.2.2.1, z_32.2.2.2.1, z_32.2.2.2.2.1, z_32.2.2.2.2.2.1, z_32.2.2.2.2.2.2.1, z_32.2.2.2.2.2.2.2) else some (1, z_32.2.1, z_32.2.2.1, z_32.2.2.2.1, z_32.2.2.2.2.1, z_32.2.2.2.2.2.1, z_32.2.2.2.2.2.2.1, z_32.2.2.2.2.2.2.2))) else (if x1 = 9 then (f_X12_manTo fu m_at m_names m_text m_size m_token m_from m_end m_value m_faultPlace m_faults (x2 + 1)).bind fun z_35 => (bz z_35.1).bind fun _ => some (z_35.1, z_35.2.1, z_35.2.2.1, z_35.2.2.2.1, z_35.2.2.2.2.1, z_35.2.2.2.2.2.1, z_35.2.2.2.2.2.2.1, z_35.2.2.2.2.2.2.2) else (if x1 = 10 then (f_X12_manTo fu m_at m_names m_text m_size m_token m_from m_end m_value m_faultPlace m_faults (x2 + 1)).bind fun z_38 => (bz z_38.1).bind fun _ => some (z_38.1, z_38.2.1, z_38.2.2.1, z_38.2.2.2.1, z_38.2.2.2.2.1, z_38.2.2.2.2.2.1, z_38.2.2.2.2.2.2.1, z_38.2.2.2.2.2.2.2) else (if x1 = 11 then some (1, m_at, m_token, m_from, m_end, m_value, m_faultPlace, m_faults) else (if x1 = 12 then (f_X12_test fu m_at m_names m_text m_size m_token m_from m_end m_value m_faultPlace m_faults x2).bind fun z_42 => (bz z_42.1).bind fun _ => some (z_42.1, z_42.2.1, z_42.2.2.1, z_42.2.2.2.1, z_42.2.2.2.2.1, z_42.2.2.2.2.2.1, z_42.2.2.2.2.2.2.1, z_42.2.2.2.2.2.2.2) else (if x1 = 13 then (f_X12_number fu m_at m_text m_size m_token m_from m_end m_value m_faultPlace m_faults (x2 + 1) 1 99).bind fun z_45 => (bz z_45.1).bind fun _ => some (z_45.1, z_45.2.1, z_45.2.2.1, z_45.2.2.2.1, z_45.2.2.2.2.1, z_45.2.2.2.2.2.1, z_45.2.2.2.2.2.2.1, z_45.2.2.2.2.2.2.2) else some (1, m_at, m_token, m_from, m_end, m_value, m_faultPlace, m_faults))))))))
abbrev rm_X12_warOrder : Room := { frames := 9, cells := 0, slots := 0, locals := 198 }
set_option maxHeartbeats 4000000 in
set_option maxRecDepth 100000 in
theorem c_X12_warOrder (l : Launch) (D : va_G) (cy : Nat → ClassId) (fu : Nat) (tO : Nat) (aK aV : Nat → Nat) (A_m : Nat → Nat) (m_at : Nat → Int32) (m_names : Nat → Int64) (m_status : Int32) (m_top : Int64) (m_bottom : Int64) (m_sort : Nat → Int32) (m_trayMany : Nat → Int32) (m_trays : Nat → Int64) (m_tape : Nat → Int32) (m_text : Nat → Int32) (m_taped : Int32) (m_size : Int32) (m_token : Int32) (m_from : Int32) (m_end : Int32) (m_value : Int32) (m_faultKind : Int32) (m_faultPlace : Int32) (m_faults : Int32) (m_seen : Int32) (m_toldParts : Int32) (m_opened : Nat → Int32) (m_depth : Int32) (m_counted : Int32) (m_bestOrder : Int32) (m_standers : Nat → Int32) (m_has : Nat → Int32) (m_bestHas : Nat → Int32) (m_standerMany : Int32) (m_bestCouples : Int32) (m_bestFondness : Int32) (m_cameTo : Nat → Int32) (m_doesStandFirst : Int32) (m_stoodBy : Nat → Int64) (m_drawn : Int32) (m_ranSteps : Int32) (m_loops : Nat → Int32) (m_ran : Nat → Int32) (m_told1 : Nat → Int32) (m_isTold : Int32) (m_marks : Int32) (x1 : Int32) (x2 : Int32) (res : Int32 × (Nat → Int32) × Int32 × Int32 × Int32 × Int32 × Int32 × Int32) (h : f_X12_warOrder fu m_at m_names m_text m_size m_token m_from m_end m_value m_faultPlace m_faults x1 x2 = some res) (A : Nat → Prop) (hA : A = adr [bl_X12 cy A_m m_at m_names m_status m_top m_bottom m_sort m_trayMany m_trays m_tape m_text m_taped m_size m_token m_from m_end m_value m_faultKind m_faultPlace m_faults m_seen m_toldParts m_opened m_depth m_counted m_bestOrder m_standers m_has m_bestHas m_standerMany m_bestCouples m_bestFondness m_cameTo m_doesStandFirst m_stoodBy m_drawn m_ranSteps m_loops m_ran m_told1 m_isTold m_marks]) (W1 : List va_W) (hW1 : W1 = [bl_X12 cy A_m res.2.1 m_names m_status m_top m_bottom m_sort m_trayMany m_trays m_tape m_text m_taped m_size res.2.2.1 res.2.2.2.1 res.2.2.2.2.1 res.2.2.2.2.2.1 m_faultKind res.2.2.2.2.2.2.1 res.2.2.2.2.2.2.2 m_seen m_toldParts m_opened m_depth m_counted m_bestOrder m_standers m_has m_bestHas m_standerMany m_bestCouples m_bestFondness m_cameTo m_doesStandFirst m_stoodBy m_drawn m_ranSteps m_loops m_ran m_told1 m_isTold m_marks]) : Met l yX12_warOrder (WW yX12_warOrder cX12_warOrder 3 (some .boolean)) rm_X12_warOrder (EdX D cy tO aK aV A [.ref (A_m 0), .int x1, .int x2] [bl_X12 cy A_m m_at m_names m_status m_top m_bottom m_sort m_trayMany m_trays m_tape m_text m_taped m_size m_token m_from m_end m_value m_faultKind m_faultPlace m_faults m_seen m_toldParts m_opened m_depth m_counted m_bestOrder m_standers m_has m_bestHas m_standerMany m_bestCouples m_bestFondness m_cameTo m_doesStandFirst m_stoodBy m_drawn m_ranSteps m_loops m_ran m_told1 m_isTold m_marks]) (Qei D res.1 A W1) 0 0 A := by
  refine Met.ofW (cc := cX12_warOrder) (maxL := 3) (ret := (some .boolean)) (by decide) rfl ?_
  intro p e s m args below meth c s₁ B hml hv
  obtain ⟨hargs, hP, hX, hD0, hE⟩ := hv
  have hx := B.exec
  have hb := B.bytes
  have hr := B.returns
  have ht : ∀ w ∈ lw_gd, w.before args s = true := fun w hw => atoms_spec (ws := WW yX12_warOrder cX12_warOrder 3 (some .boolean)) B.pre w (List.mem_cons_of_mem _ hw)
  have hown : s.vm.findClass RX12 = some m.cls := findClass_of_methodNamed B.named
  have hlocks := B.notSynchronized
  have hP : PD D A [bl_X12 cy A_m m_at m_names m_status m_top m_bottom m_sort m_trayMany m_trays m_tape m_text m_taped m_size m_token m_from m_end m_value m_faultKind m_faultPlace m_faults m_seen m_toldParts m_opened m_depth m_counted m_bestOrder m_standers m_has m_bestHas m_standerMany m_bestCouples m_bestFondness m_cameTo m_doesStandFirst m_stoodBy m_drawn m_ranSteps m_loops m_ran m_told1 m_isTold m_marks] s.heap := ⟨hP, by rw [hA]; exact hD0.own⟩
  have hS : va_S A s.heap s.heap [] := va_S.rf
  obtain ⟨ls, hl, hent⟩ := ent (m := m) (n := 3) hargs (Nat.le_of_ble_eq_true rfl) (lv := [(0, .ref (A_m 0)), (1, .int x1), (2, .int x2)]) rfl
  rw [hent]
  clear hent
  unfold f_X12_warOrder at h
  refine lv_iload_n hx hb dX12_warOrder_0 rfl (lv_at hl 1 rfl) ?_
  by_cases c_24 : x1 = 7
  · have h := it c_24 h
    refine lv_tableIn (tgt := 44) hx hb dX12_warOrder_1 (by rw [c_24]; decide) (by rw [c_24]; decide) (by rw [c_24]; rfl) (by decide) ?_
    refine lv_aload_n hx hb dX12_warOrder_44 rfl (lv_at hl 0 rfl) ?_
    refine lv_iload_n hx hb dX12_warOrder_45 rfl (lv_at hl 2 rfl) ?_
    refine lv_iconst (v := 1) hx hb dX12_warOrder_46 (by decide) ?_
    refine lv_iadd hx hb dX12_warOrder_47 ?_
    obtain ⟨z_25, e_z_25, h⟩ := bi h
    refine efViX (rest := []) ⟨hx, hb, hml, hown, ht⟩ (c_X12_manTo l D cy fu tO aK aV A_m m_at m_names m_status m_top m_bottom m_sort m_trayMany m_trays m_tape m_text m_taped m_size m_token m_from m_end m_value m_faultKind m_faultPlace m_faults m_seen m_toldParts m_opened m_depth m_counted m_bestOrder m_standers m_has m_bestHas m_standerMany m_bestCouples m_bestFondness m_cameTo m_doesStandFirst m_stoodBy m_drawn m_ranSteps m_loops m_ran m_told1 m_isTold m_marks (x2 + 1) z_25 e_z_25 _ rfl _ rfl) (cV ht mv_X12_manTo tb_1515 rfl rfl ⟨Nat.le_of_ble_eq_true rfl, Nat.le_of_ble_eq_true rfl⟩) hP hS hX hE [0] rfl rfl rfl rfl rfl rfl hl.1 rfl (Nat.le_of_ble_eq_true rfl) dX12_warOrder_48 ⟨Nat.le_of_ble_eq_true rfl, Nat.le_of_ble_eq_true rfl⟩ (fun H locs hP hS => ?_)
    have hP : PD D A [bl_X12 cy A_m z_25.2.1 m_names m_status m_top m_bottom m_sort m_trayMany m_trays m_tape m_text m_taped m_size z_25.2.2.1 z_25.2.2.2.1 z_25.2.2.2.2.1 z_25.2.2.2.2.2.1 m_faultKind z_25.2.2.2.2.2.2.1 z_25.2.2.2.2.2.2.2 m_seen m_toldParts m_opened m_depth m_counted m_bestOrder m_standers m_has m_bestHas m_standerMany m_bestCouples m_bestFondness m_cameTo m_doesStandFirst m_stoodBy m_drawn m_ranSteps m_loops m_ran m_told1 m_isTold m_marks] H := hP
    refine lv_if_eq (tgt := 71) hx hb dX12_warOrder_51 (by decide) (fun c_26 => ?_) (fun c_26 => ?_)
    · have h := it c_26 h
      refine lv_iconst (v := 0) hx hb dX12_warOrder_71 (by decide) ?_
      cases h
      subst hW1
      exact W.zret hx hb hr rfl (fun _ ht9 _ => ⟨⟨_, (), rfl, rfl, hPt ht9 hP.1⟩, hS.F ht9⟩) hS.2.2 dX12_warOrder_72
    · have h := ie c_26 h
      refine lv_aload_n hx hb dX12_warOrder_54 rfl (lv_at hl 0 rfl) ?_
      refine lv_iload_n hx hb dX12_warOrder_55 rfl (lv_at hl 2 rfl) ?_
      refine lv_iconst (v := 2) hx hb dX12_warOrder_56 (by decide) ?_
      refine lv_iadd hx hb dX12_warOrder_57 ?_
      refine lv_iconst (v := 1) hx hb dX12_warOrder_58 (by decide) ?_
      refine lv_bipush (v := 99) hx hb dX12_warOrder_59 (by decide) ?_
      obtain ⟨z_27, e_z_27, h⟩ := bi h
      refine efVi (rest := []) ⟨hx, hb, hml, hown, ht⟩ (c_X12_number l D cy fu A_m z_25.2.1 m_names m_status m_top m_bottom m_sort m_trayMany m_trays m_tape m_text m_taped m_size z_25.2.2.1 z_25.2.2.2.1 z_25.2.2.2.2.1 z_25.2.2.2.2.2.1 m_faultKind z_25.2.2.2.2.2.2.1 z_25.2.2.2.2.2.2.2 m_seen m_toldParts m_opened m_depth m_counted m_bestOrder m_standers m_has m_bestHas m_standerMany m_bestCouples m_bestFondness m_cameTo m_doesStandFirst m_stoodBy m_drawn m_ranSteps m_loops m_ran m_told1 m_isTold m_marks (x2 + 2) 1 99 z_27 e_z_27 _ rfl _ rfl) (cV ht mv_X12_number tb_1451 rfl rfl ⟨Nat.le_of_ble_eq_true rfl, Nat.le_of_ble_eq_true rfl⟩) hP hS hX [0] rfl rfl rfl rfl rfl rfl hl.1 rfl (Nat.le_of_ble_eq_true rfl) dX12_warOrder_61 ⟨Nat.le_of_ble_eq_true rfl, Nat.le_of_ble_eq_true rfl⟩ (fun H locs hP hS => ?_)
      have hP : PD D A [bl_X12 cy A_m z_27.2.1 m_names m_status m_top m_bottom m_sort m_trayMany m_trays m_tape m_text m_taped m_size z_27.2.2.1 z_27.2.2.2.1 z_27.2.2.2.2.1 z_27.2.2.2.2.2.1 m_faultKind z_27.2.2.2.2.2.2.1 z_27.2.2.2.2.2.2.2 m_seen m_toldParts m_opened m_depth m_counted m_bestOrder m_standers m_has m_bestHas m_standerMany m_bestCouples m_bestFondness m_cameTo m_doesStandFirst m_stoodBy m_drawn m_ranSteps m_loops m_ran m_told1 m_isTold m_marks] H := hP
      refine lv_if_eq (tgt := 71) hx hb dX12_warOrder_64 (by decide) (fun c_28 => ?_) (fun c_28 => ?_)
      · have h := it c_28 h
        refine lv_iconst (v := 0) hx hb dX12_warOrder_71 (by decide) ?_
        cases h
        subst hW1
        exact W.zret hx hb hr rfl (fun _ ht9 _ => ⟨⟨_, (), rfl, rfl, hPt ht9 hP.1⟩, hS.F ht9⟩) hS.2.2 dX12_warOrder_72
      · have h := ie c_28 h
        refine lv_iconst (v := 1) hx hb dX12_warOrder_67 (by decide) ?_
        refine lv_goto (tgt := 72) hx hb dX12_warOrder_68 (by decide) ?_
        cases h
        subst hW1
        exact W.zret hx hb hr rfl (fun _ ht9 _ => ⟨⟨_, (), rfl, rfl, hPt ht9 hP.1⟩, hS.F ht9⟩) hS.2.2 dX12_warOrder_72
  have h := ie c_24 h
  by_cases c_29 : x1 = 8
  · have h := it c_29 h
    refine lv_tableIn (tgt := 73) hx hb dX12_warOrder_1 (by rw [c_29]; decide) (by rw [c_29]; decide) (by rw [c_29]; rfl) (by decide) ?_
    refine lv_aload_n hx hb dX12_warOrder_73 rfl (lv_at hl 0 rfl) ?_
    refine lv_iload_n hx hb dX12_warOrder_74 rfl (lv_at hl 2 rfl) ?_
    refine lv_iconst (v := 1) hx hb dX12_warOrder_75 (by decide) ?_
    refine lv_iadd hx hb dX12_warOrder_76 ?_
    obtain ⟨z_30, e_z_30, h⟩ := bi h
    refine efViX (rest := []) ⟨hx, hb, hml, hown, ht⟩ (c_X12_manTo l D cy fu tO aK aV A_m m_at m_names m_status m_top m_bottom m_sort m_trayMany m_trays m_tape m_text m_taped m_size m_token m_from m_end m_value m_faultKind m_faultPlace m_faults m_seen m_toldParts m_opened m_depth m_counted m_bestOrder m_standers m_has m_bestHas m_standerMany m_bestCouples m_bestFondness m_cameTo m_doesStandFirst m_stoodBy m_drawn m_ranSteps m_loops m_ran m_told1 m_isTold m_marks (x2 + 1) z_30 e_z_30 _ rfl _ rfl) (cV ht mv_X12_manTo tb_1515 rfl rfl ⟨Nat.le_of_ble_eq_true rfl, Nat.le_of_ble_eq_true rfl⟩) hP hS hX hE [0] rfl rfl rfl rfl rfl rfl hl.1 rfl (Nat.le_of_ble_eq_true rfl) dX12_warOrder_77 ⟨Nat.le_of_ble_eq_true rfl, Nat.le_of_ble_eq_true rfl⟩ (fun H locs hP hS => ?_)
    have hP : PD D A [bl_X12 cy A_m z_30.2.1 m_names m_status m_top m_bottom m_sort m_trayMany m_trays m_tape m_text m_taped m_size z_30.2.2.1 z_30.2.2.2.1 z_30.2.2.2.2.1 z_30.2.2.2.2.2.1 m_faultKind z_30.2.2.2.2.2.2.1 z_30.2.2.2.2.2.2.2 m_seen m_toldParts m_opened m_depth m_counted m_bestOrder m_standers m_has m_bestHas m_standerMany m_bestCouples m_bestFondness m_cameTo m_doesStandFirst m_stoodBy m_drawn m_ranSteps m_loops m_ran m_told1 m_isTold m_marks] H := hP
    refine lv_if_eq (tgt := 97) hx hb dX12_warOrder_80 (by decide) (fun c_31 => ?_) (fun c_31 => ?_)
    · have h := it c_31 h
      refine lv_iconst (v := 0) hx hb dX12_warOrder_97 (by decide) ?_
      cases h
      subst hW1
      exact W.zret hx hb hr rfl (fun _ ht9 _ => ⟨⟨_, (), rfl, rfl, hPt ht9 hP.1⟩, hS.F ht9⟩) hS.2.2 dX12_warOrder_98
    · have h := ie c_31 h
      refine lv_aload_n hx hb dX12_warOrder_83 rfl (lv_at hl 0 rfl) ?_
      refine lv_iload_n hx hb dX12_warOrder_84 rfl (lv_at hl 2 rfl) ?_
      refine lv_iconst (v := 2) hx hb dX12_warOrder_85 (by decide) ?_
      refine lv_iadd hx hb dX12_warOrder_86 ?_
      obtain ⟨z_32, e_z_32, h⟩ := bi h
      refine efViX (rest := []) ⟨hx, hb, hml, hown, ht⟩ (c_X12_manTo l D cy fu tO aK aV A_m z_30.2.1 m_names m_status m_top m_bottom m_sort m_trayMany m_trays m_tape m_text m_taped m_size z_30.2.2.1 z_30.2.2.2.1 z_30.2.2.2.2.1 z_30.2.2.2.2.2.1 m_faultKind z_30.2.2.2.2.2.2.1 z_30.2.2.2.2.2.2.2 m_seen m_toldParts m_opened m_depth m_counted m_bestOrder m_standers m_has m_bestHas m_standerMany m_bestCouples m_bestFondness m_cameTo m_doesStandFirst m_stoodBy m_drawn m_ranSteps m_loops m_ran m_told1 m_isTold m_marks (x2 + 2) z_32 e_z_32 _ rfl _ rfl) (cV ht mv_X12_manTo tb_1515 rfl rfl ⟨Nat.le_of_ble_eq_true rfl, Nat.le_of_ble_eq_true rfl⟩) hP hS hX hE [0] rfl rfl rfl rfl rfl rfl hl.1 rfl (Nat.le_of_ble_eq_true rfl) dX12_warOrder_87 ⟨Nat.le_of_ble_eq_true rfl, Nat.le_of_ble_eq_true rfl⟩ (fun H locs hP hS => ?_)
      have hP : PD D A [bl_X12 cy A_m z_32.2.1 m_names m_status m_top m_bottom m_sort m_trayMany m_trays m_tape m_text m_taped m_size z_32.2.2.1 z_32.2.2.2.1 z_32.2.2.2.2.1 z_32.2.2.2.2.2.1 m_faultKind z_32.2.2.2.2.2.2.1 z_32.2.2.2.2.2.2.2 m_seen m_toldParts m_opened m_depth m_counted m_bestOrder m_standers m_has m_bestHas m_standerMany m_bestCouples m_bestFondness m_cameTo m_doesStandFirst m_stoodBy m_drawn m_ranSteps m_loops m_ran m_told1 m_isTold m_marks] H := hP
      refine lv_if_eq (tgt := 97) hx hb dX12_warOrder_90 (by decide) (fun c_33 => ?_) (fun c_33 => ?_)
      · have h := it c_33 h
        refine lv_iconst (v := 0) hx hb dX12_warOrder_97 (by decide) ?_
        cases h
        subst hW1
        exact W.zret hx hb hr rfl (fun _ ht9 _ => ⟨⟨_, (), rfl, rfl, hPt ht9 hP.1⟩, hS.F ht9⟩) hS.2.2 dX12_warOrder_98
      · have h := ie c_33 h
        refine lv_iconst (v := 1) hx hb dX12_warOrder_93 (by decide) ?_
        refine lv_goto (tgt := 98) hx hb dX12_warOrder_94 (by decide) ?_
        cases h
        subst hW1
        exact W.zret hx hb hr rfl (fun _ ht9 _ => ⟨⟨_, (), rfl, rfl, hPt ht9 hP.1⟩, hS.F ht9⟩) hS.2.2 dX12_warOrder_98
  have h := ie c_29 h
  by_cases c_34 : x1 = 9
  · have h := it c_34 h
    refine lv_tableIn (tgt := 99) hx hb dX12_warOrder_1 (by rw [c_34]; decide) (by rw [c_34]; decide) (by rw [c_34]; rfl) (by decide) ?_
    refine lv_aload_n hx hb dX12_warOrder_99 rfl (lv_at hl 0 rfl) ?_
    refine lv_iload_n hx hb dX12_warOrder_100 rfl (lv_at hl 2 rfl) ?_
    refine lv_iconst (v := 1) hx hb dX12_warOrder_101 (by decide) ?_
    refine lv_iadd hx hb dX12_warOrder_102 ?_
    obtain ⟨z_35, e_z_35, h⟩ := bi h
    refine efViX (rest := []) ⟨hx, hb, hml, hown, ht⟩ (c_X12_manTo l D cy fu tO aK aV A_m m_at m_names m_status m_top m_bottom m_sort m_trayMany m_trays m_tape m_text m_taped m_size m_token m_from m_end m_value m_faultKind m_faultPlace m_faults m_seen m_toldParts m_opened m_depth m_counted m_bestOrder m_standers m_has m_bestHas m_standerMany m_bestCouples m_bestFondness m_cameTo m_doesStandFirst m_stoodBy m_drawn m_ranSteps m_loops m_ran m_told1 m_isTold m_marks (x2 + 1) z_35 e_z_35 _ rfl _ rfl) (cV ht mv_X12_manTo tb_1515 rfl rfl ⟨Nat.le_of_ble_eq_true rfl, Nat.le_of_ble_eq_true rfl⟩) hP hS hX hE [0] rfl rfl rfl rfl rfl rfl hl.1 rfl (Nat.le_of_ble_eq_true rfl) dX12_warOrder_103 ⟨Nat.le_of_ble_eq_true rfl, Nat.le_of_ble_eq_true rfl⟩ (fun H locs hP hS => ?_)
    have hP : PD D A [bl_X12 cy A_m z_35.2.1 m_names m_status m_top m_bottom m_sort m_trayMany m_trays m_tape m_text m_taped m_size z_35.2.2.1 z_35.2.2.2.1 z_35.2.2.2.2.1 z_35.2.2.2.2.2.1 m_faultKind z_35.2.2.2.2.2.2.1 z_35.2.2.2.2.2.2.2 m_seen m_toldParts m_opened m_depth m_counted m_bestOrder m_standers m_has m_bestHas m_standerMany m_bestCouples m_bestFondness m_cameTo m_doesStandFirst m_stoodBy m_drawn m_ranSteps m_loops m_ran m_told1 m_isTold m_marks] H := hP
    obtain ⟨b_36, e_b_36, h⟩ := bi h
    obtain ⟨-, n_b_36, -⟩ := bz_ok e_b_36
    cases h
    subst hW1
    exact W.zret hx hb hr n_b_36 (fun _ ht9 _ => ⟨⟨_, (), rfl, rfl, hPt ht9 hP.1⟩, hS.F ht9⟩) hS.2.2 dX12_warOrder_106
  have h := ie c_34 h
  by_cases c_37 : x1 = 10
  · have h := it c_37 h
    refine lv_tableIn (tgt := 99) hx hb dX12_warOrder_1 (by rw [c_37]; decide) (by rw [c_37]; decide) (by rw [c_37]; rfl) (by decide) ?_
    refine lv_aload_n hx hb dX12_warOrder_99 rfl (lv_at hl 0 rfl) ?_
    refine lv_iload_n hx hb dX12_warOrder_100 rfl (lv_at hl 2 rfl) ?_
    refine lv_iconst (v := 1) hx hb dX12_warOrder_101 (by decide) ?_
    refine lv_iadd hx hb dX12_warOrder_102 ?_
    obtain ⟨z_38, e_z_38, h⟩ := bi h
    refine efViX (rest := []) ⟨hx, hb, hml, hown, ht⟩ (c_X12_manTo l D cy fu tO aK aV A_m m_at m_names m_status m_top m_bottom m_sort m_trayMany m_trays m_tape m_text m_taped m_size m_token m_from m_end m_value m_faultKind m_faultPlace m_faults m_seen m_toldParts m_opened m_depth m_counted m_bestOrder m_standers m_has m_bestHas m_standerMany m_bestCouples m_bestFondness m_cameTo m_doesStandFirst m_stoodBy m_drawn m_ranSteps m_loops m_ran m_told1 m_isTold m_marks (x2 + 1) z_38 e_z_38 _ rfl _ rfl) (cV ht mv_X12_manTo tb_1515 rfl rfl ⟨Nat.le_of_ble_eq_true rfl, Nat.le_of_ble_eq_true rfl⟩) hP hS hX hE [0] rfl rfl rfl rfl rfl rfl hl.1 rfl (Nat.le_of_ble_eq_true rfl) dX12_warOrder_103 ⟨Nat.le_of_ble_eq_true rfl, Nat.le_of_ble_eq_true rfl⟩ (fun H locs hP hS => ?_)
    have hP : PD D A [bl_X12 cy A_m z_38.2.1 m_names m_status m_top m_bottom m_sort m_trayMany m_trays m_tape m_text m_taped m_size z_38.2.2.1 z_38.2.2.2.1 z_38.2.2.2.2.1 z_38.2.2.2.2.2.1 m_faultKind z_38.2.2.2.2.2.2.1 z_38.2.2.2.2.2.2.2 m_seen m_toldParts m_opened m_depth m_counted m_bestOrder m_standers m_has m_bestHas m_standerMany m_bestCouples m_bestFondness m_cameTo m_doesStandFirst m_stoodBy m_drawn m_ranSteps m_loops m_ran m_told1 m_isTold m_marks] H := hP
    obtain ⟨b_39, e_b_39, h⟩ := bi h
    obtain ⟨-, n_b_39, -⟩ := bz_ok e_b_39
    cases h
    subst hW1
    exact W.zret hx hb hr n_b_39 (fun _ ht9 _ => ⟨⟨_, (), rfl, rfl, hPt ht9 hP.1⟩, hS.F ht9⟩) hS.2.2 dX12_warOrder_106
  have h := ie c_37 h
  by_cases c_40 : x1 = 11
  · have h := it c_40 h
    refine lv_tableIn (tgt := 124) hx hb dX12_warOrder_1 (by rw [c_40]; decide) (by rw [c_40]; decide) (by rw [c_40]; rfl) (by decide) ?_
    refine lv_iconst (v := 1) hx hb dX12_warOrder_124 (by decide) ?_
    cases h
    subst hW1
    exact W.zret hx hb hr rfl (fun _ ht9 _ => ⟨⟨_, (), rfl, rfl, hPt ht9 hP.1⟩, hS.F ht9⟩) hS.2.2 dX12_warOrder_125
  have h := ie c_40 h
  by_cases c_41 : x1 = 12
  · have h := it c_41 h
    refine lv_tableIn (tgt := 118) hx hb dX12_warOrder_1 (by rw [c_41]; decide) (by rw [c_41]; decide) (by rw [c_41]; rfl) (by decide) ?_
    refine lv_aload_n hx hb dX12_warOrder_118 rfl (lv_at hl 0 rfl) ?_
    refine lv_iload_n hx hb dX12_warOrder_119 rfl (lv_at hl 2 rfl) ?_
    obtain ⟨z_42, e_z_42, h⟩ := bi h
    refine efViX (rest := []) ⟨hx, hb, hml, hown, ht⟩ (c_X12_test l D cy fu tO aK aV A_m m_at m_names m_status m_top m_bottom m_sort m_trayMany m_trays m_tape m_text m_taped m_size m_token m_from m_end m_value m_faultKind m_faultPlace m_faults m_seen m_toldParts m_opened m_depth m_counted m_bestOrder m_standers m_has m_bestHas m_standerMany m_bestCouples m_bestFondness m_cameTo m_doesStandFirst m_stoodBy m_drawn m_ranSteps m_loops m_ran m_told1 m_isTold m_marks x2 z_42 e_z_42 _ rfl _ rfl) (cV ht mv_X12_test tb_1519 rfl rfl ⟨Nat.le_of_ble_eq_true rfl, Nat.le_of_ble_eq_true rfl⟩) hP hS hX hE [0] rfl rfl rfl rfl rfl rfl hl.1 rfl (Nat.le_of_ble_eq_true rfl) dX12_warOrder_120 ⟨Nat.le_of_ble_eq_true rfl, Nat.le_of_ble_eq_true rfl⟩ (fun H locs hP hS => ?_)
    have hP : PD D A [bl_X12 cy A_m z_42.2.1 m_names m_status m_top m_bottom m_sort m_trayMany m_trays m_tape m_text m_taped m_size z_42.2.2.1 z_42.2.2.2.1 z_42.2.2.2.2.1 z_42.2.2.2.2.2.1 m_faultKind z_42.2.2.2.2.2.2.1 z_42.2.2.2.2.2.2.2 m_seen m_toldParts m_opened m_depth m_counted m_bestOrder m_standers m_has m_bestHas m_standerMany m_bestCouples m_bestFondness m_cameTo m_doesStandFirst m_stoodBy m_drawn m_ranSteps m_loops m_ran m_told1 m_isTold m_marks] H := hP
    obtain ⟨b_43, e_b_43, h⟩ := bi h
    obtain ⟨-, n_b_43, -⟩ := bz_ok e_b_43
    cases h
    subst hW1
    exact W.zret hx hb hr n_b_43 (fun _ ht9 _ => ⟨⟨_, (), rfl, rfl, hPt ht9 hP.1⟩, hS.F ht9⟩) hS.2.2 dX12_warOrder_123
  have h := ie c_41 h
  by_cases c_44 : x1 = 13
  · have h := it c_44 h
    refine lv_tableIn (tgt := 107) hx hb dX12_warOrder_1 (by rw [c_44]; decide) (by rw [c_44]; decide) (by rw [c_44]; rfl) (by decide) ?_
    refine lv_aload_n hx hb dX12_warOrder_107 rfl (lv_at hl 0 rfl) ?_
    refine lv_iload_n hx hb dX12_warOrder_108 rfl (lv_at hl 2 rfl) ?_
    refine lv_iconst (v := 1) hx hb dX12_warOrder_109 (by decide) ?_
    refine lv_iadd hx hb dX12_warOrder_110 ?_
    refine lv_iconst (v := 1) hx hb dX12_warOrder_111 (by decide) ?_
    refine lv_bipush (v := 99) hx hb dX12_warOrder_112 (by decide) ?_
    obtain ⟨z_45, e_z_45, h⟩ := bi h
    refine efVi (rest := []) ⟨hx, hb, hml, hown, ht⟩ (c_X12_number l D cy fu A_m m_at m_names m_status m_top m_bottom m_sort m_trayMany m_trays m_tape m_text m_taped m_size m_token m_from m_end m_value m_faultKind m_faultPlace m_faults m_seen m_toldParts m_opened m_depth m_counted m_bestOrder m_standers m_has m_bestHas m_standerMany m_bestCouples m_bestFondness m_cameTo m_doesStandFirst m_stoodBy m_drawn m_ranSteps m_loops m_ran m_told1 m_isTold m_marks (x2 + 1) 1 99 z_45 e_z_45 _ rfl _ rfl) (cV ht mv_X12_number tb_1451 rfl rfl ⟨Nat.le_of_ble_eq_true rfl, Nat.le_of_ble_eq_true rfl⟩) hP hS hX [0] rfl rfl rfl rfl rfl rfl hl.1 rfl (Nat.le_of_ble_eq_true rfl) dX12_warOrder_114 ⟨Nat.le_of_ble_eq_true rfl, Nat.le_of_ble_eq_true rfl⟩ (fun H locs hP hS => ?_)
    have hP : PD D A [bl_X12 cy A_m z_45.2.1 m_names m_status m_top m_bottom m_sort m_trayMany m_trays m_tape m_text m_taped m_size z_45.2.2.1 z_45.2.2.2.1 z_45.2.2.2.2.1 z_45.2.2.2.2.2.1 m_faultKind z_45.2.2.2.2.2.2.1 z_45.2.2.2.2.2.2.2 m_seen m_toldParts m_opened m_depth m_counted m_bestOrder m_standers m_has m_bestHas m_standerMany m_bestCouples m_bestFondness m_cameTo m_doesStandFirst m_stoodBy m_drawn m_ranSteps m_loops m_ran m_told1 m_isTold m_marks] H := hP
    obtain ⟨b_46, e_b_46, h⟩ := bi h
    obtain ⟨-, n_b_46, -⟩ := bz_ok e_b_46
    cases h
    subst hW1
    exact W.zret hx hb hr n_b_46 (fun _ ht9 _ => ⟨⟨_, (), rfl, rfl, hPt ht9 hP.1⟩, hS.F ht9⟩) hS.2.2 dX12_warOrder_117
  have h := ie c_44 h
  refine lv_tableOut (tgt := 124) hx hb dX12_warOrder_1 (by have n_c_24 := lv_neT (a := 7) c_24 rfl; have n_c_29 := lv_neT (a := 8) c_29 rfl; have n_c_34 := lv_neT (a := 9) c_34 rfl; have n_c_37 := lv_neT (a := 10) c_37 rfl; have n_c_40 := lv_neT (a := 11) c_40 rfl; have n_c_41 := lv_neT (a := 12) c_41 rfl; have n_c_44 := lv_neT (a := 13) c_44 rfl; omega) (by decide) ?_
  refine lv_iconst (v := 1) hx hb dX12_warOrder_124 (by decide) ?_
  cases h
  subst hW1
  exact W.zret hx hb hr rfl (fun _ ht9 _ => ⟨⟨_, (), rfl, rfl, hPt ht9 hP.1⟩, hS.F ht9⟩) hS.2.2 dX12_warOrder_125
theorem dX12_warStep_0 : decode cX12_warStep 0 = .ok (.aload_n 0, 1) := by decide +kernel
theorem dX12_warStep_1 : decode cX12_warStep 1 = .ok (.ldc 177, 2) := by decide +kernel
theorem dX12_warStep_3 : decode cX12_warStep 3 = .ok (.invokevirtual 169, 3) := by decide +kernel
theorem dX12_warStep_6 : decode cX12_warStep 6 = .ok (.istore_n 1, 1) := by decide +kernel
theorem dX12_warStep_7 : decode cX12_warStep 7 = .ok (.aload_n 0, 1) := by decide +kernel
theorem dX12_warStep_8 : decode cX12_warStep 8 = .ok (.getfield 7, 3) := by decide +kernel
theorem dX12_warStep_11 : decode cX12_warStep 11 = .ok (.sipush 1957, 3) := by decide +kernel
theorem dX12_warStep_14 : decode cX12_warStep 14 = .ok (.iaload, 1) := by decide +kernel
theorem dX12_warStep_15 : decode cX12_warStep 15 = .ok (.istore_n 2, 1) := by decide +kernel
theorem dX12_warStep_16 : decode cX12_warStep 16 = .ok (.sipush 2072, 3) := by decide +kernel
theorem dX12_warStep_19 : decode cX12_warStep 19 = .ok (.bipush 6, 2) := by decide +kernel
theorem dX12_warStep_21 : decode cX12_warStep 21 = .ok (.iload_n 2, 1) := by decide +kernel
theorem dX12_warStep_22 : decode cX12_warStep 22 = .ok (.imul, 1) := by decide +kernel
theorem dX12_warStep_23 : decode cX12_warStep 23 = .ok (.iadd, 1) := by decide +kernel
theorem dX12_warStep_24 : decode cX12_warStep 24 = .ok (.istore_n 3, 1) := by decide +kernel
theorem dX12_warStep_25 : decode cX12_warStep 25 = .ok (.iload_n 1, 1) := by decide +kernel
theorem dX12_warStep_26 : decode cX12_warStep 26 = .ok (.bipush 12, 2) := by decide +kernel
theorem dX12_warStep_28 : decode cX12_warStep 28 = .ok (.if_icmp .eq 9, 3) := by decide +kernel
theorem dX12_warStep_31 : decode cX12_warStep 31 = .ok (.iload_n 1, 1) := by decide +kernel
theorem dX12_warStep_32 : decode cX12_warStep 32 = .ok (.bipush 13, 2) := by decide +kernel
theorem dX12_warStep_34 : decode cX12_warStep 34 = .ok (.if_icmp .ne 7, 3) := by decide +kernel
theorem dX12_warStep_37 : decode cX12_warStep 37 = .ok (.iconst 1, 1) := by decide +kernel
theorem dX12_warStep_38 : decode cX12_warStep 38 = .ok (.goto 4, 3) := by decide +kernel
theorem dX12_warStep_41 : decode cX12_warStep 41 = .ok (.iconst 0, 1) := by decide +kernel
theorem dX12_warStep_42 : decode cX12_warStep 42 = .ok (.istore 4, 2) := by decide +kernel
theorem dX12_warStep_44 : decode cX12_warStep 44 = .ok (.iload_n 1, 1) := by decide +kernel
theorem dX12_warStep_45 : decode cX12_warStep 45 = .ok (.bipush 7, 2) := by decide +kernel
theorem dX12_warStep_47 : decode cX12_warStep 47 = .ok (.if_icmp .lt 22, 3) := by decide +kernel
theorem dX12_warStep_50 : decode cX12_warStep 50 = .ok (.iload_n 1, 1) := by decide +kernel
theorem dX12_warStep_51 : decode cX12_warStep 51 = .ok (.bipush 15, 2) := by decide +kernel
theorem dX12_warStep_53 : decode cX12_warStep 53 = .ok (.if_icmp .gt 16, 3) := by decide +kernel
theorem dX12_warStep_56 : decode cX12_warStep 56 = .ok (.iload_n 1, 1) := by decide +kernel
theorem dX12_warStep_57 : decode cX12_warStep 57 = .ok (.bipush 14, 2) := by decide +kernel
theorem dX12_warStep_59 : decode cX12_warStep 59 = .ok (.if_icmp .ne 16, 3) := by decide +kernel
theorem dX12_warStep_62 : decode cX12_warStep 62 = .ok (.aload_n 0, 1) := by decide +kernel
theorem dX12_warStep_63 : decode cX12_warStep 63 = .ok (.getfield 229, 3) := by decide +kernel
theorem dX12_warStep_66 : decode cX12_warStep 66 = .ok (.ifCond .ne 9, 3) := by decide +kernel
theorem dX12_warStep_69 : decode cX12_warStep 69 = .ok (.aload_n 0, 1) := by decide +kernel
theorem dX12_warStep_70 : decode cX12_warStep 70 = .ok (.iconst 2, 1) := by decide +kernel
theorem dX12_warStep_71 : decode cX12_warStep 71 = .ok (.invokevirtual 166, 3) := by decide +kernel
theorem dX12_warStep_74 : decode cX12_warStep 74 = .ok (.ireturn, 1) := by decide +kernel
theorem dX12_warStep_75 : decode cX12_warStep 75 = .ok (.iload_n 1, 1) := by decide +kernel
theorem dX12_warStep_76 : decode cX12_warStep 76 = .ok (.bipush 14, 2) := by decide +kernel
theorem dX12_warStep_78 : decode cX12_warStep 78 = .ok (.if_icmp .eq 19, 3) := by decide +kernel
theorem dX12_warStep_81 : decode cX12_warStep 81 = .ok (.aload_n 0, 1) := by decide +kernel
theorem dX12_warStep_82 : decode cX12_warStep 82 = .ok (.getfield 232, 3) := by decide +kernel
theorem dX12_warStep_85 : decode cX12_warStep 85 = .ok (.bipush 30, 2) := by decide +kernel
theorem dX12_warStep_87 : decode cX12_warStep 87 = .ok (.if_icmp .ne 10, 3) := by decide +kernel
theorem dX12_warStep_90 : decode cX12_warStep 90 = .ok (.aload_n 0, 1) := by decide +kernel
theorem dX12_warStep_91 : decode cX12_warStep 91 = .ok (.bipush 6, 2) := by decide +kernel
theorem dX12_warStep_93 : decode cX12_warStep 93 = .ok (.invokevirtual 166, 3) := by decide +kernel
theorem dX12_warStep_96 : decode cX12_warStep 96 = .ok (.ireturn, 1) := by decide +kernel
theorem dX12_warStep_97 : decode cX12_warStep 97 = .ok (.iload 4, 2) := by decide +kernel
theorem dX12_warStep_99 : decode cX12_warStep 99 = .ok (.ifCond .eq 18, 3) := by decide +kernel
theorem dX12_warStep_102 : decode cX12_warStep 102 = .ok (.aload_n 0, 1) := by decide +kernel
theorem dX12_warStep_103 : decode cX12_warStep 103 = .ok (.getfield 229, 3) := by decide +kernel
theorem dX12_warStep_106 : decode cX12_warStep 106 = .ok (.iconst 3, 1) := by decide +kernel
theorem dX12_warStep_107 : decode cX12_warStep 107 = .ok (.if_icmp .ne 10, 3) := by decide +kernel
theorem dX12_warStep_110 : decode cX12_warStep 110 = .ok (.aload_n 0, 1) := by decide +kernel
theorem dX12_warStep_111 : decode cX12_warStep 111 = .ok (.bipush 7, 2) := by decide +kernel
theorem dX12_warStep_113 : decode cX12_warStep 113 = .ok (.invokevirtual 166, 3) := by decide +kernel
theorem dX12_warStep_116 : decode cX12_warStep 116 = .ok (.ireturn, 1) := by decide +kernel
theorem dX12_warStep_117 : decode cX12_warStep 117 = .ok (.aload_n 0, 1) := by decide +kernel
theorem dX12_warStep_118 : decode cX12_warStep 118 = .ok (.dup, 1) := by decide +kernel
theorem dX12_warStep_119 : decode cX12_warStep 119 = .ok (.getfield 232, 3) := by decide +kernel
theorem dX12_warStep_122 : decode cX12_warStep 122 = .ok (.iload_n 1, 1) := by decide +kernel
theorem dX12_warStep_123 : decode cX12_warStep 123 = .ok (.bipush 14, 2) := by decide +kernel
theorem dX12_warStep_125 : decode cX12_warStep 125 = .ok (.if_icmp .ne 7, 3) := by decide +kernel
theorem dX12_warStep_128 : decode cX12_warStep 128 = .ok (.iconst 0, 1) := by decide +kernel
theorem dX12_warStep_129 : decode cX12_warStep 129 = .ok (.goto 4, 3) := by decide +kernel
theorem dX12_warStep_132 : decode cX12_warStep 132 = .ok (.iconst 1, 1) := by decide +kernel
theorem dX12_warStep_133 : decode cX12_warStep 133 = .ok (.iadd, 1) := by decide +kernel
theorem dX12_warStep_134 : decode cX12_warStep 134 = .ok (.putfield 232, 3) := by decide +kernel
theorem dX12_warStep_137 : decode cX12_warStep 137 = .ok (.aload_n 0, 1) := by decide +kernel
theorem dX12_warStep_138 : decode cX12_warStep 138 = .ok (.getfield 7, 3) := by decide +kernel
theorem dX12_warStep_141 : decode cX12_warStep 141 = .ok (.iload_n 3, 1) := by decide +kernel
theorem dX12_warStep_142 : decode cX12_warStep 142 = .ok (.iload_n 1, 1) := by decide +kernel
theorem dX12_warStep_143 : decode cX12_warStep 143 = .ok (.iastore, 1) := by decide +kernel
theorem dX12_warStep_144 : decode cX12_warStep 144 = .ok (.iconst 1, 1) := by decide +kernel
theorem dX12_warStep_145 : decode cX12_warStep 145 = .ok (.istore 5, 2) := by decide +kernel
theorem dX12_warStep_147 : decode cX12_warStep 147 = .ok (.iload 5, 2) := by decide +kernel
theorem dX12_warStep_149 : decode cX12_warStep 149 = .ok (.bipush 6, 2) := by decide +kernel
theorem dX12_warStep_151 : decode cX12_warStep 151 = .ok (.if_icmp .ge 19, 3) := by decide +kernel
theorem dX12_warStep_154 : decode cX12_warStep 154 = .ok (.aload_n 0, 1) := by decide +kernel
theorem dX12_warStep_155 : decode cX12_warStep 155 = .ok (.getfield 7, 3) := by decide +kernel
theorem dX12_warStep_158 : decode cX12_warStep 158 = .ok (.iload_n 3, 1) := by decide +kernel
theorem dX12_warStep_159 : decode cX12_warStep 159 = .ok (.iload 5, 2) := by decide +kernel
theorem dX12_warStep_161 : decode cX12_warStep 161 = .ok (.iadd, 1) := by decide +kernel
theorem dX12_warStep_162 : decode cX12_warStep 162 = .ok (.iconst 0, 1) := by decide +kernel
theorem dX12_warStep_163 : decode cX12_warStep 163 = .ok (.iastore, 1) := by decide +kernel
theorem dX12_warStep_164 : decode cX12_warStep 164 = .ok (.iinc 5 1, 3) := by decide +kernel
theorem dX12_warStep_167 : decode cX12_warStep 167 = .ok (.goto (-20), 3) := by decide +kernel
theorem dX12_warStep_170 : decode cX12_warStep 170 = .ok (.aload_n 0, 1) := by decide +kernel
theorem dX12_warStep_171 : decode cX12_warStep 171 = .ok (.getfield 7, 3) := by decide +kernel
theorem dX12_warStep_174 : decode cX12_warStep 174 = .ok (.sipush 1957, 3) := by decide +kernel
theorem dX12_warStep_177 : decode cX12_warStep 177 = .ok (.dup2, 1) := by decide +kernel
theorem dX12_warStep_178 : decode cX12_warStep 178 = .ok (.iaload, 1) := by decide +kernel
theorem dX12_warStep_179 : decode cX12_warStep 179 = .ok (.iconst 1, 1) := by decide +kernel
theorem dX12_warStep_180 : decode cX12_warStep 180 = .ok (.iadd, 1) := by decide +kernel
theorem dX12_warStep_181 : decode cX12_warStep 181 = .ok (.iastore, 1) := by decide +kernel
theorem dX12_warStep_182 : decode cX12_warStep 182 = .ok (.aload_n 0, 1) := by decide +kernel
theorem dX12_warStep_183 : decode cX12_warStep 183 = .ok (.invokevirtual 160, 3) := by decide +kernel
theorem dX12_warStep_186 : decode cX12_warStep 186 = .ok (.aload_n 0, 1) := by decide +kernel
theorem dX12_warStep_187 : decode cX12_warStep 187 = .ok (.iload_n 1, 1) := by decide +kernel
theorem dX12_warStep_188 : decode cX12_warStep 188 = .ok (.iload_n 3, 1) := by decide +kernel
theorem dX12_warStep_189 : decode cX12_warStep 189 = .ok (.invokevirtual 235, 3) := by decide +kernel
theorem dX12_warStep_192 : decode cX12_warStep 192 = .ok (.ifCond .ne 5, 3) := by decide +kernel
theorem dX12_warStep_195 : decode cX12_warStep 195 = .ok (.iconst 0, 1) := by decide +kernel
theorem dX12_warStep_196 : decode cX12_warStep 196 = .ok (.ireturn, 1) := by decide +kernel
theorem dX12_warStep_197 : decode cX12_warStep 197 = .ok (.iload 4, 2) := by decide +kernel
theorem dX12_warStep_199 : decode cX12_warStep 199 = .ok (.ifCond .eq 23, 3) := by decide +kernel
theorem dX12_warStep_202 : decode cX12_warStep 202 = .ok (.aload_n 0, 1) := by decide +kernel
theorem dX12_warStep_203 : decode cX12_warStep 203 = .ok (.getfield 44, 3) := by decide +kernel
theorem dX12_warStep_206 : decode cX12_warStep 206 = .ok (.aload_n 0, 1) := by decide +kernel
theorem dX12_warStep_207 : decode cX12_warStep 207 = .ok (.getfield 229, 3) := by decide +kernel
theorem dX12_warStep_210 : decode cX12_warStep 210 = .ok (.iload_n 2, 1) := by decide +kernel
theorem dX12_warStep_211 : decode cX12_warStep 211 = .ok (.iastore, 1) := by decide +kernel
theorem dX12_warStep_212 : decode cX12_warStep 212 = .ok (.aload_n 0, 1) := by decide +kernel
theorem dX12_warStep_213 : decode cX12_warStep 213 = .ok (.dup, 1) := by decide +kernel
theorem dX12_warStep_214 : decode cX12_warStep 214 = .ok (.getfield 229, 3) := by decide +kernel
theorem dX12_warStep_217 : decode cX12_warStep 217 = .ok (.iconst 1, 1) := by decide +kernel
theorem dX12_warStep_218 : decode cX12_warStep 218 = .ok (.iadd, 1) := by decide +kernel
theorem dX12_warStep_219 : decode cX12_warStep 219 = .ok (.putfield 229, 3) := by decide +kernel
theorem dX12_warStep_222 : decode cX12_warStep 222 = .ok (.iload_n 1, 1) := by decide +kernel
theorem dX12_warStep_223 : decode cX12_warStep 223 = .ok (.bipush 14, 2) := by decide +kernel
theorem dX12_warStep_225 : decode cX12_warStep 225 = .ok (.if_icmp .ne 54, 3) := by decide +kernel
theorem dX12_warStep_228 : decode cX12_warStep 228 = .ok (.aload_n 0, 1) := by decide +kernel
theorem dX12_warStep_229 : decode cX12_warStep 229 = .ok (.dup, 1) := by decide +kernel
theorem dX12_warStep_230 : decode cX12_warStep 230 = .ok (.getfield 229, 3) := by decide +kernel
theorem dX12_warStep_233 : decode cX12_warStep 233 = .ok (.iconst 1, 1) := by decide +kernel
theorem dX12_warStep_234 : decode cX12_warStep 234 = .ok (.isub, 1) := by decide +kernel
theorem dX12_warStep_235 : decode cX12_warStep 235 = .ok (.putfield 229, 3) := by decide +kernel
theorem dX12_warStep_238 : decode cX12_warStep 238 = .ok (.aload_n 0, 1) := by decide +kernel
theorem dX12_warStep_239 : decode cX12_warStep 239 = .ok (.getfield 7, 3) := by decide +kernel
theorem dX12_warStep_242 : decode cX12_warStep 242 = .ok (.iload_n 3, 1) := by decide +kernel
theorem dX12_warStep_243 : decode cX12_warStep 243 = .ok (.iconst 4, 1) := by decide +kernel
theorem dX12_warStep_244 : decode cX12_warStep 244 = .ok (.iadd, 1) := by decide +kernel
theorem dX12_warStep_245 : decode cX12_warStep 245 = .ok (.aload_n 0, 1) := by decide +kernel
theorem dX12_warStep_246 : decode cX12_warStep 246 = .ok (.getfield 44, 3) := by decide +kernel
theorem dX12_warStep_249 : decode cX12_warStep 249 = .ok (.aload_n 0, 1) := by decide +kernel
theorem dX12_warStep_250 : decode cX12_warStep 250 = .ok (.getfield 229, 3) := by decide +kernel
theorem dX12_warStep_253 : decode cX12_warStep 253 = .ok (.iaload, 1) := by decide +kernel
theorem dX12_warStep_254 : decode cX12_warStep 254 = .ok (.iastore, 1) := by decide +kernel
theorem dX12_warStep_255 : decode cX12_warStep 255 = .ok (.aload_n 0, 1) := by decide +kernel
theorem dX12_warStep_256 : decode cX12_warStep 256 = .ok (.getfield 7, 3) := by decide +kernel
theorem dX12_warStep_259 : decode cX12_warStep 259 = .ok (.sipush 2072, 3) := by decide +kernel
theorem dX12_warStep_262 : decode cX12_warStep 262 = .ok (.bipush 6, 2) := by decide +kernel
theorem dX12_warStep_264 : decode cX12_warStep 264 = .ok (.aload_n 0, 1) := by decide +kernel
theorem dX12_warStep_265 : decode cX12_warStep 265 = .ok (.getfield 44, 3) := by decide +kernel
theorem dX12_warStep_268 : decode cX12_warStep 268 = .ok (.aload_n 0, 1) := by decide +kernel
theorem dX12_warStep_269 : decode cX12_warStep 269 = .ok (.getfield 229, 3) := by decide +kernel
theorem dX12_warStep_272 : decode cX12_warStep 272 = .ok (.iaload, 1) := by decide +kernel
theorem dX12_warStep_273 : decode cX12_warStep 273 = .ok (.imul, 1) := by decide +kernel
theorem dX12_warStep_274 : decode cX12_warStep 274 = .ok (.iadd, 1) := by decide +kernel
theorem dX12_warStep_275 : decode cX12_warStep 275 = .ok (.iconst 4, 1) := by decide +kernel
theorem dX12_warStep_276 : decode cX12_warStep 276 = .ok (.iadd, 1) := by decide +kernel
theorem dX12_warStep_277 : decode cX12_warStep 277 = .ok (.iload_n 2, 1) := by decide +kernel
theorem dX12_warStep_278 : decode cX12_warStep 278 = .ok (.iastore, 1) := by decide +kernel
theorem dX12_warStep_279 : decode cX12_warStep 279 = .ok (.aload_n 0, 1) := by decide +kernel
theorem dX12_warStep_280 : decode cX12_warStep 280 = .ok (.bipush 59, 2) := by decide +kernel
theorem dX12_warStep_282 : decode cX12_warStep 282 = .ok (.invokevirtual 210, 3) := by decide +kernel
theorem dX12_warStep_285 : decode cX12_warStep 285 = .ok (.ireturn, 1) := by decide +kernel
theorem mv_X12_warStep : MV yX12_warStep RX12 cX12_warStep 6 (some .boolean) 0 := ⟨tb_1510, tb_1509, ts_63, tb_16, by decide +kernel, by decide +kernel, by decide +kernel⟩
def f_X12_warStep_j222 (fu : Nat) (m_names : Nat → Int64) (m_text : Nat → Int32) (m_size : Int32) (m_at : Nat → Int32) (m_token : Int32) (m_from : Int32) (m_end : Int32) (m_value : Int32) (m_faultPlace : Int32) (m_faults : Int32) (m_opened : Nat → Int32) (m_depth : Int32) (m_counted : Int32) (x1 : Int32) (x2 : Int32) (x3 : Int32) : Option (Int32 × (Nat → Int32) × Int32 × Int32 × Int32 × Int32 × Int32 × Int32 × (Nat → Int32) × Int32 × Int32) := (if x1 = 14 then bnd (m_depth - 1) fun m_depth_51 => (rdI m_opened 3 m_depth_51).bind fun y_52 => (wrI m_at 3648 (x3 + 4) y_52).bind fun m_at_53 => (rdI m_opened 3 m_depth_51).bind fun y_54 => (wrI m_at_53 3648 ((2072 + (6 * y_54)) + 4) x2).bind fun m_at_55 => (f_X12_wantSign fu m_text m_size m_token m_from m_end m_value m_faultPlace m_faults 59).bind fun z_56 => (bz z_56.1).bind fun _ => some (z_56.1, m_at_55, z_56.2.1, z_56.2.2.1, z_56.2.2.2.1, z_56.2.2.2.2.1, z_56.2.2.2.2.2.1, z_56.2.2.2.2.2.2, m_opened, m_depth_51, m_counted) else (f_X12_wantSign fu m_text m_size m_token m_from m_end m_value m_faultPlace m_faults 59).bind fun z_49 => (bz z_49.1).bind fun _ => some (z_49.1, m_at, z_49.2.1, z_49.2.2.1, z_49.2.2.2.1, z_49.2.2.2.2.1, z_49.2.2.2.2.2.1, z_49.2.2.2.2.2.2, m_opened, m_depth, m_counted))
def f_X12_warStep_b147 (fu : Nat) (m_names : Nat → Int64) (m_text : Nat → Int32) (m_size : Int32) (k147 : (Nat → Int32) → Int32 → Int32 → Int32 → Int32 → Int32 → Int32 → (Nat → Int32) → Int32 → Int32 → Int32 → Int32 → Int32 → Int32 → Int32 → (Option (Int32 × (Nat → Int32) × Int32 × Int32 × Int32 × Int32 × Int32 × Int32 × (Nat → Int32) × Int32 × Int32))) (m_at : Nat → Int32) (m_token : Int32) (m_from : Int32) (m_end : Int32) (m_value : Int32) (m_faultPlace : Int32) (m_faults : Int32) (m_opened : Nat → Int32) (m_depth : Int32) (m_counted : Int32) (x1 : Int32) (x2 : Int32) (x3 : Int32) (x4 : Int32) (x5 : Int32) : Option (Int32 × (Nat → Int32) × Int32 × Int32 × Int32 × Int32 × Int32 × Int32 × (Nat → Int32) × Int32 × Int32) := (if 6 ≤ x5 then (rdI m_at 3648 1957).bind fun y_59 => (wrI m_at 3648 1957 (y_59 + 1)).bind fun m_at_60 => (f_X12_ahead fu m_text m_size m_token m_from m_end m_value).bind fun z_61 => (f_X12_warOrder fu m_at_60 m_names m_text m_size z_61.1 z_61.2.1 z_61.2.2.1 z_61.2.2.2 m_faultPlace m_faults x1 x3).bind fun z_62 => (if z_62.1 = 0 then some (0, z_62.2.1, z_62.2.2.1, z_62.2.2.2.1, z_62.2.2.2.2.1, z_62.2.2.2.2.2.1, z_62.2.2.2.2.2.2.1, z_62.2.2.2.2.2.2.2, m_opened, m_depth, m_counted) else (if x4 = 0 then f_X12_warStep_j222 fu m_names m_text m_size z_62.2.1 z_62.2.2.1 z_62.2.2.2.1 z_62.2.2.2.2.1 z_62.2.2.2.2.2.1 z_62.2.2.2.2.2.2.1 z_62.2.2.2.2.2.2.2 m_opened m_depth m_counted x1 x2 x3 else (wrI m_opened 3 m_depth x2).bind fun m_opened_65 => bnd (m_depth + 1) fun m_depth_66 => f_X12_warStep_j222 fu m_names m_text m_size z_62.2.1 z_62.2.2.1 z_62.2.2.2.1 z_62.2.2.2.2.1 z_62.2.2.2.2.2.1 z_62.2.2.2.2.2.2.1 z_62.2.2.2.2.2.2.2 m_opened_65 m_depth_66 m_counted x1 x2 x3)) else (wrI m_at 3648 (x3 + x5) 0).bind fun m_at_67 => bnd (x5 + 1) fun x5_68 => k147 m_at_67 m_token m_from m_end m_value m_faultPlace m_faults m_opened m_depth m_counted x1 x2 x3 x4 x5_68)
def f_X12_warStep_l147 (fu : Nat) (m_names : Nat → Int64) (m_text : Nat → Int32) (m_size : Int32) : Nat → (Nat → Int32) → Int32 → Int32 → Int32 → Int32 → Int32 → Int32 → (Nat → Int32) → Int32 → Int32 → Int32 → Int32 → Int32 → Int32 → Int32 → (Option (Int32 × (Nat → Int32) × Int32 × Int32 × Int32 × Int32 × Int32 × Int32 × (Nat → Int32) × Int32 × Int32))
  | 0, _, _, _, _, _, _, _, _, _, _, _, _, _, _, _ => none
  | n + 1, m_at, m_token, m_from, m_end, m_value, m_faultPlace, m_faults, m_opened, m_depth, m_counted, x1, x2, x3, x4, x5 => f_X12_warStep_b147 fu m_names m_text m_size (f_X12_warStep_l147 fu m_names m_text m_size n) m_at m_token m_from m_end m_value m_faultPlace m_faults m_opened m_depth m_counted x1 x2 x3 x4 x5
def f_X12_warStep_j133 (fu : Nat) (m_names : Nat → Int64) (m_text : Nat → Int32) (m_size : Int32) (m_at : Nat → Int32) (m_token : Int32) (m_from : Int32) (m_end : Int32) (m_value : Int32) (m_faultPlace : Int32) (m_faults : Int32) (m_opened : Nat → Int32) (m_depth : Int32) (m_counted : Int32) (x1 : Int32) (x2 : Int32) (x3 : Int32) (x4 : Int32) (s1 : Int32) (s2 : Int32) : Option (Int32 × (Nat → Int32) × Int32 × Int32 × Int32 × Int32 × Int32 × Int32 × (Nat → Int32) × Int32 × Int32) := bnd (s1 + s2) fun m_counted_69 => (wrI m_at 3648 x3 x1).bind fun m_at_70 => f_X12_warStep_l147 fu m_names m_text m_size fu m_at_70 m_token m_from m_end m_value m_faultPlace m_faults m_opened m_depth m_counted_69 x1 x2 x3 x4 1
def f_X12_warStep_j117 (fu : Nat) (m_names : Nat → Int64) (m_text : Nat → Int32) (m_size : Int32) (m_at : Nat → Int32) (m_token : Int32) (m_from : Int32) (m_end : Int32) (m_value : Int32) (m_faultPlace : Int32) (m_faults : Int32) (m_opened : Nat → Int32) (m_depth : Int32) (m_counted : Int32) (x1 : Int32) (x2 : Int32) (x3 : Int32) (x4 : Int32) : Option (Int32 × (Nat → Int32) × Int32 × Int32 × Int32 × Int32 × Int32 × Int32 × (Nat → Int32) × Int32 × Int32) := (if x1 = 14 then f_X12_warStep_j133 fu m_names m_text m_size m_at m_token m_from m_end m_value m_faultPlace m_faults m_opened m_depth m_counted x1 x2 x3 x4 m_counted 0 else f_X12_warStep_j133 fu m_names m_text m_size m_at m_token m_from m_end m_value m_faultPlace m_faults m_opened m_depth m_counted x1 x2 x3 x4 m_counted 1)
def f_X12_warStep_j97 (fu : Nat) (m_names : Nat → Int64) (m_text : Nat → Int32) (m_size : Int32) (m_at : Nat → Int32) (m_token : Int32) (m_from : Int32) (m_end : Int32) (m_value : Int32) (m_faultPlace : Int32) (m_faults : Int32) (m_opened : Nat → Int32) (m_depth : Int32) (m_counted : Int32) (x1 : Int32) (x2 : Int32) (x3 : Int32) (x4 : Int32) : Option (Int32 × (Nat → Int32) × Int32 × Int32 × Int32 × Int32 × Int32 × Int32 × (Nat → Int32) × Int32 × Int32) := (if x4 = 0 then f_X12_warStep_j117 fu m_names m_text m_size m_at m_token m_from m_end m_value m_faultPlace m_faults m_opened m_depth m_counted x1 x2 x3 x4 else (if m_depth = 3 then (f_X12_fails fu m_token m_from m_faultPlace m_faults 7).bind fun z_74 => (bz z_74.1).bind fun _ => some (z_74.1, m_at, m_token, m_from, m_end, m_value, z_74.2.1, z_74.2.2, m_opened, m_depth, m_counted) else f_X12_warStep_j117 fu m_names m_text m_size m_at m_token m_from m_end m_value m_faultPlace m_faults m_opened m_depth m_counted x1 x2 x3 x4))
def f_X12_warStep_j75 (fu : Nat) (m_names : Nat → Int64) (m_text : Nat → Int32) (m_size : Int32) (m_at : Nat → Int32) (m_token : Int32) (m_from : Int32) (m_end : Int32) (m_value : Int32) (m_faultPlace : Int32) (m_faults : Int32) (m_opened : Nat → Int32) (m_depth : Int32) (m_counted : Int32) (x1 : Int32) (x2 : Int32) (x3 : Int32) (x4 : Int32) : Option (Int32 × (Nat → Int32) × Int32 × Int32 × Int32 × Int32 × Int32 × Int32 × (Nat → Int32) × Int32 × Int32) := (if x1 = 14 then f_X12_warStep_j97 fu m_names m_text m_size m_at m_token m_from m_end m_value m_faultPlace m_faults m_opened m_depth m_counted x1 x2 x3 x4 else (if m_counted = 30 then (f_X12_fails fu m_token m_from m_faultPlace m_faults 6).bind fun z_78 => (bz z_78.1).bind fun _ => some (z_78.1, m_at, m_token, m_from, m_end, m_value, z_78.2.1, z_78.2.2, m_opened, m_depth, m_counted) else f_X12_warStep_j97 fu m_names m_text m_size m_at m_token m_from m_end m_value m_faultPlace m_faults m_opened m_depth m_counted x1 x2 x3 x4))
def f_X12_warStep_j42 (fu : Nat) (m_names : Nat → Int64) (m_text : Nat → Int32) (m_size : Int32) (m_at : Nat → Int32) (m_token : Int32) (m_from : Int32) (m_end : Int32) (m_value : Int32) (m_faultPlace : Int32) (m_faults : Int32) (m_opened : Nat → Int32) (m_depth : Int32) (m_counted : Int32) (x1 : Int32) (x2 : Int32) (x3 : Int32) (s0 : Int32) : Option (Int32 × (Nat → Int32) × Int32 × Int32 × Int32 × Int32 × Int32 × Int32 × (Nat → Int32) × Int32 × Int32) := (if x1 < 7 then (f_X12_fails fu m_token m_from m_faultPlace m_faults 2).bind fun z_81 => (bz z_81.1).bind fun _ => some (z_81.1, m_at, m_token, m_from, m_end, m_value, z_81.2.1, z_81.2.2, m_opened, m_depth, m_counted) else (if 15 < x1 then (f_X12_fails fu m_token m_from m_faultPlace m_faults 2).bind fun z_84 => (bz z_84.1).bind fun _ => some (z_84.1, m_at, m_token, m_from, m_end, m_value, z_84.2.1, z_84.2.2, m_opened, m_depth, m_counted) else (if x1 = 14 then (if m_depth = 0 then (f_X12_fails fu m_token m_from m_faultPlace m_faults 2).bind fun z_88 => (bz z_88.1).bind fun _ => some (z_88.1, m_at, m_token, m_from, m_end, m_value, z_88.2.1, z_88.2.2, m_opened, m_depth, m_counted) else f_X12_warStep_j75 fu m_names m_text m_size m_at m_token m_from m_end m_value m_faultPlace m_faults m_opened m_depth m_counted x1 x2 x3 s0) else f_X12_warStep_j75 fu m_names m_text m_size m_at m_token m_from m_end m_value m_faultPlace m_faults m_opened m_depth m_counted x1 x2 x3 s0)))
def f_X12_warStep (fu : Nat) (m_at : Nat → Int32) (m_names : Nat → Int64) (m_text : Nat → Int32) (m_size : Int32) (m_token : Int32) (m_from : Int32) (m_end : Int32) (m_value : Int32) (m_faultPlace : Int32) (m_faults : Int32) (m_opened : Nat → Int32) (m_depth : Int32) (m_counted : Int32) : Option (Int32 × (Nat → Int32) × Int32 × Int32 × Int32 × Int32 × Int32 × Int32 × (Nat → Int32) × Int32 × Int32) := (f_X12_inWords fu 1 m_text m_size m_token m_from m_end).bind fun z_90 => (rdI m_at 3648 1957).bind fun y_91 => bnd (2072 + (6 * y_91)) fun x3_92 => (if z_90 = 12 then f_X12_warStep_j42 fu m_names m_text m_size m_at m_token m_from m_end m_value m_faultPlace m_faults m_opened m_depth m_counted z_90 y_91 x3_92 1 else (if z_90 = 13 then f_X12_warStep_j42 fu m_names m_text m_size m_at m_token m_from m_end m_value m_faultPlace m_faults m_opened m_depth m_counted z_90 y_91 x3_92 1 else f_X12_warStep_j42 fu m_names m_text m_size m_at m_token m_from m_end m_value m_faultPlace m_faults m_opened m_depth m_counted z_90 y_91 x3_92 0))
abbrev rm_X12_warStep : Room := { frames := 10, cells := 0, slots := 0, locals := 220 }
set_option maxHeartbeats 4000000 in
set_option maxRecDepth 100000 in
theorem c_X12_warStep (l : Launch) (D : va_G) (cy : Nat → ClassId) (fu : Nat) (tO : Nat) (aK aV : Nat → Nat) (A_m : Nat → Nat) (m_at : Nat → Int32) (m_names : Nat → Int64) (m_status : Int32) (m_top : Int64) (m_bottom : Int64) (m_sort : Nat → Int32) (m_trayMany : Nat → Int32) (m_trays : Nat → Int64) (m_tape : Nat → Int32) (m_text : Nat → Int32) (m_taped : Int32) (m_size : Int32) (m_token : Int32) (m_from : Int32) (m_end : Int32) (m_value : Int32) (m_faultKind : Int32) (m_faultPlace : Int32) (m_faults : Int32) (m_seen : Int32) (m_toldParts : Int32) (m_opened : Nat → Int32) (m_depth : Int32) (m_counted : Int32) (m_bestOrder : Int32) (m_standers : Nat → Int32) (m_has : Nat → Int32) (m_bestHas : Nat → Int32) (m_standerMany : Int32) (m_bestCouples : Int32) (m_bestFondness : Int32) (m_cameTo : Nat → Int32) (m_doesStandFirst : Int32) (m_stoodBy : Nat → Int64) (m_drawn : Int32) (m_ranSteps : Int32) (m_loops : Nat → Int32) (m_ran : Nat → Int32) (m_told1 : Nat → Int32) (m_isTold : Int32) (m_marks : Int32) (res : Int32 × (Nat → Int32) × Int32 × Int32 × Int32 × Int32 × Int32 × Int32 × (Nat → Int32) × Int32 × Int32) (h : f_X12_warStep fu m_at m_names m_text m_size m_token m_from m_end m_value m_faultPlace m_faults m_opened m_depth m_counted = some res) (A : Nat → Prop) (hA : A = adr [bl_X12 cy A_m m_at m_names m_status m_top m_bottom m_sort m_trayMany m_trays m_tape m_text m_taped m_size m_token m_from m_end m_value m_faultKind m_faultPlace m_faults m_seen m_toldParts m_opened m_depth m_counted m_bestOrder m_standers m_has m_bestHas m_standerMany m_bestCouples m_bestFondness m_cameTo m_doesStandFirst m_stoodBy m_drawn m_ranSteps m_loops m_ran m_told1 m_isTold m_marks]) (W1 : List va_W) (hW1 : W1 = [bl_X12 cy A_m res.2.1 m_names m_status m_top m_bottom m_sort m_trayMany m_trays m_tape m_text m_taped m_size res.2.2.1 res.2.2.2.1 res.2.2.2.2.1 res.2.2.2.2.2.1 m_faultKind res.2.2.2.2.2.2.1 res.2.2.2.2.2.2.2.1 m_seen m_toldParts res.2.2.2.2.2.2.2.2.1 res.2.2.2.2.2.2.2.2.2.1 res.2.2.2.2.2.2.2.2.2.2 m_bestOrder m_standers m_has m_bestHas m_standerMany m_bestCouples m_bestFondness m_cameTo m_doesStandFirst m_stoodBy m_drawn m_ranSteps m_loops m_ran m_told1 m_isTold m_marks]) : Met l yX12_warStep (WW yX12_warStep cX12_warStep 6 (some .boolean)) rm_X12_warStep (EdX D cy tO aK aV A [.ref (A_m 0)] [bl_X12 cy A_m m_at m_names m_status m_top m_bottom m_sort m_trayMany m_trays m_tape m_text m_taped m_size m_token m_from m_end m_value m_faultKind m_faultPlace m_faults m_seen m_toldParts m_opened m_depth m_counted m_bestOrder m_standers m_has m_bestHas m_standerMany m_bestCouples m_bestFondness m_cameTo m_doesStandFirst m_stoodBy m_drawn m_ranSteps m_loops m_ran m_told1 m_isTold m_marks]) (Qei D res.1 A W1) 0 0 A := by
  refine Met.ofW (cc := cX12_warStep) (maxL := 6) (ret := (some .boolean)) (by decide) rfl ?_
  intro p e s m args below meth c s₁ B hml hv
  obtain ⟨hargs, hP, hX, hD0, hE⟩ := hv
  have hx := B.exec
  have hb := B.bytes
  have hr := B.returns
  have ht : ∀ w ∈ lw_gd, w.before args s = true := fun w hw => atoms_spec (ws := WW yX12_warStep cX12_warStep 6 (some .boolean)) B.pre w (List.mem_cons_of_mem _ hw)
  have hown : s.vm.findClass RX12 = some m.cls := findClass_of_methodNamed B.named
  have hlocks := B.notSynchronized
  have hP : PD D A [bl_X12 cy A_m m_at m_names m_status m_top m_bottom m_sort m_trayMany m_trays m_tape m_text m_taped m_size m_token m_from m_end m_value m_faultKind m_faultPlace m_faults m_seen m_toldParts m_opened m_depth m_counted m_bestOrder m_standers m_has m_bestHas m_standerMany m_bestCouples m_bestFondness m_cameTo m_doesStandFirst m_stoodBy m_drawn m_ranSteps m_loops m_ran m_told1 m_isTold m_marks] s.heap := ⟨hP, by rw [hA]; exact hD0.own⟩
  have hS : va_S A s.heap s.heap [] := va_S.rf
  obtain ⟨ls, hl, hent⟩ := ent (m := m) (n := 6) hargs (Nat.le_of_ble_eq_true rfl) (lv := [(0, .ref (A_m 0))]) rfl
  rw [hent]
  clear hent
  have j222 : ∀ (m_at : Nat → Int32) (m_token : Int32) (m_from : Int32) (m_end : Int32) (m_value : Int32) (m_faultPlace : Int32) (m_faults : Int32) (m_opened : Nat → Int32) (m_depth : Int32) (m_counted : Int32) (x1 : Int32) (x2 : Int32) (x3 : Int32) (H : Heap) (locs : List Loc) (_ : PD D A [bl_X12 cy A_m m_at m_names m_status m_top m_bottom m_sort m_trayMany m_trays m_tape m_text m_taped m_size m_token m_from m_end m_value m_faultKind m_faultPlace m_faults m_seen m_toldParts m_opened m_depth m_counted m_bestOrder m_standers m_has m_bestHas m_standerMany m_bestCouples m_bestFondness m_cameTo m_doesStandFirst m_stoodBy m_drawn m_ranSteps m_loops m_ran m_told1 m_isTold m_marks] H) (_ : va_S A s.heap H locs) (ls : Array Slot), lv_has ls 6 [(0, .ref (A_m 0)), (1, .int x1), (2, .int x2), (3, .int x3)] → f_X12_warStep_j222 fu m_names m_text m_size m_at m_token m_from m_end m_value m_faultPlace m_faults m_opened m_depth m_counted x1 x2 x3 = some res → W p l e (headSpec (WW yX12_warStep cX12_warStep 6 (some .boolean)) rm_X12_warStep).room s m args below meth c H locs 0 0 (MQ below (Qei D res.1 A W1) args s 0 0 A) (F0 m 222 ls []) := by
    intro m_at m_token m_from m_end m_value m_faultPlace m_faults m_opened m_depth m_counted x1 x2 x3 H locs hP hS ls hl h
    unfold f_X12_warStep_j222 at h
    refine lv_iload_n hx hb dX12_warStep_222 rfl (lv_at hl 1 rfl) ?_
    refine lv_bipush (v := 14) hx hb dX12_warStep_223 (by decide) ?_
    refine lv_icmp_ne (tgt := 279) hx hb dX12_warStep_225 (by decide) (fun c_48 => ?_) (fun c_48 => ?_)
    · have h := ie c_48 h
      refine lv_aload_n hx hb dX12_warStep_279 rfl (lv_at hl 0 rfl) ?_
      refine lv_bipush (v := 59) hx hb dX12_warStep_280 (by decide) ?_
      obtain ⟨z_49, e_z_49, h⟩ := bi h
      refine efVi (rest := []) ⟨hx, hb, hml, hown, ht⟩ (c_X12_wantSign l D cy fu A_m m_at m_names m_status m_top m_bottom m_sort m_trayMany m_trays m_tape m_text m_taped m_size m_token m_from m_end m_value m_faultKind m_faultPlace m_faults m_seen m_toldParts m_opened m_depth m_counted m_bestOrder m_standers m_has m_bestHas m_standerMany m_bestCouples m_bestFondness m_cameTo m_doesStandFirst m_stoodBy m_drawn m_ranSteps m_loops m_ran m_told1 m_isTold m_marks 59 z_49 e_z_49 _ rfl _ rfl) (cV ht mv_X12_wantSign tb_1487 rfl rfl ⟨Nat.le_of_ble_eq_true rfl, Nat.le_of_ble_eq_true rfl⟩) hP hS hX [0] rfl rfl rfl rfl rfl rfl hl.1 rfl (Nat.le_of_ble_eq_true rfl) dX12_warStep_282 ⟨Nat.le_of_ble_eq_true rfl, Nat.le_of_ble_eq_true rfl⟩ (fun H locs hP hS => ?_)
      have hP : PD D A [bl_X12 cy A_m m_at m_names m_status m_top m_bottom m_sort m_trayMany m_trays m_tape m_text m_taped m_size z_49.2.1 z_49.2.2.1 z_49.2.2.2.1 z_49.2.2.2.2.1 m_faultKind z_49.2.2.2.2.2.1 z_49.2.2.2.2.2.2 m_seen m_toldParts m_opened m_depth m_counted m_bestOrder m_standers m_has m_bestHas m_standerMany m_bestCouples m_bestFondness m_cameTo m_doesStandFirst m_stoodBy m_drawn m_ranSteps m_loops m_ran m_told1 m_isTold m_marks] H := hP
      obtain ⟨b_50, e_b_50, h⟩ := bi h
      obtain ⟨-, n_b_50, -⟩ := bz_ok e_b_50
      cases h
      subst hW1
      exact W.zret hx hb hr n_b_50 (fun _ ht9 _ => ⟨⟨_, (), rfl, rfl, hPt ht9 hP.1⟩, hS.F ht9⟩) hS.2.2 dX12_warStep_285
    · have h := it c_48 h
      refine lv_aload_n hx hb dX12_warStep_228 rfl (lv_at hl 0 rfl) ?_
      refine lv_dup hx hb dX12_warStep_229 rfl ?_
      refine xget (i := 0) (j := 0) (k := 22) (T := TX12) hx hb ht tb_iX12 hown hX hP.1 rfl rfl rfl (by decide) tb_1251 rfl dX12_warStep_230 ?_
      refine lv_iconst (v := 1) hx hb dX12_warStep_233 (by decide) ?_
      refine lv_isub hx hb dX12_warStep_234 ?_
      refine lv_topi (fun m_depth_51 e_m_depth_51 => ?_)
      have h := bn e_m_depth_51 h
      refine xput (i := 0) (j := 0) (k := 22) (T := TX12) tyX12 tyX12_ok nmX12 hx hb ht tb_iX12 hown hX hP hS rfl rfl rfl (by decide) tb_1251 rfl rfl rfl (Nat.le_of_ble_eq_true rfl) dX12_warStep_235 (fun H locs hP hS => ?_)
      have hP : PD D A [bl_X12 cy A_m m_at m_names m_status m_top m_bottom m_sort m_trayMany m_trays m_tape m_text m_taped m_size m_token m_from m_end m_value m_faultKind m_faultPlace m_faults m_seen m_toldParts m_opened m_depth_51 m_counted m_bestOrder m_standers m_has m_bestHas m_standerMany m_bestCouples m_bestFondness m_cameTo m_doesStandFirst m_stoodBy m_drawn m_ranSteps m_loops m_ran m_told1 m_isTold m_marks] H := hP
      refine lv_aload_n hx hb dX12_warStep_238 rfl (lv_at hl 0 rfl) ?_
      refine xget (i := 0) (j := 0) (k := 0) (T := TX12) hx hb ht tb_iX12 hown hX hP.1 rfl rfl rfl (by decide) tb_1229 rfl dX12_warStep_239 ?_
      refine lv_iload_n hx hb dX12_warStep_242 rfl (lv_at hl 3 rfl) ?_
      refine lv_iconst (v := 4) hx hb dX12_warStep_243 (by decide) ?_
      refine lv_iadd hx hb dX12_warStep_244 ?_
      refine lv_aload_n hx hb dX12_warStep_245 rfl (lv_at hl 0 rfl) ?_
      refine xget (i := 0) (j := 0) (k := 21) (T := TX12) hx hb ht tb_iX12 hown hX hP.1 rfl rfl rfl (by decide) tb_1250 rfl dX12_warStep_246 ?_
      refine lv_aload_n hx hb dX12_warStep_249 rfl (lv_at hl 0 rfl) ?_
      refine xget (i := 0) (j := 0) (k := 22) (T := TX12) hx hb ht tb_iX12 hown hX hP.1 rfl rfl rfl (by decide) tb_1251 rfl dX12_warStep_250 ?_
      obtain ⟨y_52, e_y_52, h⟩ := bi h
      refine xiald (i0 := 0) (j0 := 8) hx hb hX hP.1 rfl rfl e_y_52 dX12_warStep_253 ?_
      obtain ⟨m_at_53, e_m_at_53, h⟩ := bi h
      refine xiast (i0 := 0) (j0 := 1) hx hb hX hP hS rfl rfl e_m_at_53 dX12_warStep_254 (fun H locs hP hS => ?_)
      have hP : PD D A [bl_X12 cy A_m m_at_53 m_names m_status m_top m_bottom m_sort m_trayMany m_trays m_tape m_text m_taped m_size m_token m_from m_end m_value m_faultKind m_faultPlace m_faults m_seen m_toldParts m_opened m_depth_51 m_counted m_bestOrder m_standers m_has m_bestHas m_standerMany m_bestCouples m_bestFondness m_cameTo m_doesStandFirst m_stoodBy m_drawn m_ranSteps m_loops m_ran m_told1 m_isTold m_marks] H := hP
      refine lv_aload_n hx hb dX12_warStep_255 rfl (lv_at hl 0 rfl) ?_
      refine xget (i := 0) (j := 0) (k := 0) (T := TX12) hx hb ht tb_iX12 hown hX hP.1 rfl rfl rfl (by decide) tb_1229 rfl dX12_warStep_256 ?_
      refine lv_sipush (v := 2072) hx hb dX12_warStep_259 (by decide) ?_
      refine lv_bipush (v := 6) hx hb dX12_warStep_262 (by decide) ?_
      refine lv_aload_n hx hb dX12_warStep_264 rfl (lv_at hl 0 rfl) ?_
      refine xget (i := 0) (j := 0) (k := 21) (T := TX12) hx hb ht tb_iX12 hown hX hP.1 rfl rfl rfl (by decide) tb_1250 rfl dX12_warStep_265 ?_
      refine lv_aload_n hx hb dX12_warStep_268 rfl (lv_at hl 0 rfl) ?_
      refine xget (i := 0) (j := 0) (k := 22) (T := TX12) hx hb ht tb_iX12 hown hX hP.1 rfl rfl rfl (by decide) tb_1251 rfl dX12_warStep_269 ?_
      obtain ⟨y_54, e_y_54, h⟩ := bi h
      refine xiald (i0 := 0) (j0 := 8) hx hb hX hP.1 rfl rfl e_y_54 dX12_warStep_272 ?_
      refine lv_imul hx hb dX12_warStep_273 ?_
      refine lv_iadd hx hb dX12_warStep_274 ?_
      refine lv_iconst (v := 4) hx hb dX12_warStep_275 (by decide) ?_
      refine lv_iadd hx hb dX12_warStep_276 ?_
      refine lv_iload_n hx hb dX12_warStep_277 rfl (lv_at hl 2 rfl) ?_
      obtain ⟨m_at_55, e_m_at_55, h⟩ := bi h
      refine xiast (i0 := 0) (j0 := 1) hx hb hX hP hS rfl rfl e_m_at_55 dX12_warStep_278 (fun H locs hP hS => ?_)
      have hP : PD D A [bl_X12 cy A_m m_at_55 m_names m_status m_top m_bottom m_sort m_trayMany m_trays m_tape m_text m_taped m_size m_token m_from m_end m_value m_faultKind m_faultPlace m_faults m_seen m_toldParts m_opened m_depth_51 m_counted m_bestOrder m_standers m_has m_bestHas m_standerMany m_bestCouples m_bestFondness m_cameTo m_doesStandFirst m_stoodBy m_drawn m_ranSteps m_loops m_ran m_told1 m_isTold m_marks] H := hP
      refine lv_aload_n hx hb dX12_warStep_279 rfl (lv_at hl 0 rfl) ?_
      refine lv_bipush (v := 59) hx hb dX12_warStep_280 (by decide) ?_
      obtain ⟨z_56, e_z_56, h⟩ := bi h
      refine efVi (rest := []) ⟨hx, hb, hml, hown, ht⟩ (c_X12_wantSign l D cy fu A_m m_at_55 m_names m_status m_top m_bottom m_sort m_trayMany m_trays m_tape m_text m_taped m_size m_token m_from m_end m_value m_faultKind m_faultPlace m_faults m_seen m_toldParts m_opened m_depth_51 m_counted m_bestOrder m_standers m_has m_bestHas m_standerMany m_bestCouples m_bestFondness m_cameTo m_doesStandFirst m_stoodBy m_drawn m_ranSteps m_loops m_ran m_told1 m_isTold m_marks 59 z_56 e_z_56 _ rfl _ rfl) (cV ht mv_X12_wantSign tb_1487 rfl rfl ⟨Nat.le_of_ble_eq_true rfl, Nat.le_of_ble_eq_true rfl⟩) hP hS hX [0] rfl rfl rfl rfl rfl rfl hl.1 rfl (Nat.le_of_ble_eq_true rfl) dX12_warStep_282 ⟨Nat.le_of_ble_eq_true rfl, Nat.le_of_ble_eq_true rfl⟩ (fun H locs hP hS => ?_)
      have hP : PD D A [bl_X12 cy A_m m_at_55 m_names m_status m_top m_bottom m_sort m_trayMany m_trays m_tape m_text m_taped m_size z_56.2.1 z_56.2.2.1 z_56.2.2.2.1 z_56.2.2.2.2.1 m_faultKind z_56.2.2.2.2.2.1 z_56.2.2.2.2.2.2 m_seen m_toldParts m_opened m_depth_51 m_counted m_bestOrder m_standers m_has m_bestHas m_standerMany m_bestCouples m_bestFondness m_cameTo m_doesStandFirst m_stoodBy m_drawn m_ranSteps m_loops m_ran m_told1 m_isTold m_marks] H := hP
      obtain ⟨b_57, e_b_57, h⟩ := bi h
      obtain ⟨-, n_b_57, -⟩ := bz_ok e_b_57
      cases h
      subst hW1
      exact W.zret hx hb hr n_b_57 (fun _ ht9 _ => ⟨⟨_, (), rfl, rfl, hPt ht9 hP.1⟩, hS.F ht9⟩) hS.2.2 dX12_warStep_285
  have l147 : ∀ (n147 : Nat) (m_at : Nat → Int32) (m_token : Int32) (m_from : Int32) (m_end : Int32) (m_value : Int32) (m_faultPlace : Int32) (m_faults : Int32) (m_opened : Nat → Int32) (m_depth : Int32) (m_counted : Int32) (x1 : Int32) (x2 : Int32) (x3 : Int32) (x4 : Int32) (x5 : Int32) (H : Heap) (locs : List Loc) (_ : PD D A [bl_X12 cy A_m m_at m_names m_status m_top m_bottom m_sort m_trayMany m_trays m_tape m_text m_taped m_size m_token m_from m_end m_value m_faultKind m_faultPlace m_faults m_seen m_toldParts m_opened m_depth m_counted m_bestOrder m_standers m_has m_bestHas m_standerMany m_bestCouples m_bestFondness m_cameTo m_doesStandFirst m_stoodBy m_drawn m_ranSteps m_loops m_ran m_told1 m_isTold m_marks] H) (_ : va_S A s.heap H locs) (ls : Array Slot), lv_has ls 6 [(0, .ref (A_m 0)), (1, .int x1), (2, .int x2), (3, .int x3), (4, .int x4), (5, .int x5)] → f_X12_warStep_l147 fu m_names m_text m_size n147 m_at m_token m_from m_end m_value m_faultPlace m_faults m_opened m_depth m_counted x1 x2 x3 x4 x5 = some res → W p l e (headSpec (WW yX12_warStep cX12_warStep 6 (some .boolean)) rm_X12_warStep).room s m args below meth c H locs 0 0 (MQ below (Qei D res.1 A W1) args s 0 0 A) (F0 m 147 ls []) := by
    intro n147
    induction n147 with
    | zero => intro m_at m_token m_from m_end m_value m_faultPlace m_faults m_opened m_depth m_counted x1 x2 x3 x4 x5 H locs hP hS ls hl h; cases h
    | succ n147 ih147 =>
      intro m_at m_token m_from m_end m_value m_faultPlace m_faults m_opened m_depth m_counted x1 x2 x3 x4 x5 H locs hP hS ls hl h
      have h : f_X12_warStep_b147 fu m_names m_text m_size (f_X12_warStep_l147 fu m_names m_text m_size n147) m_at m_token m_from m_end m_value m_faultPlace m_faults m_opened m_depth m_counted x1 x2 x3 x4 x5 = some res := h
      unfold f_X12_warStep_b147 at h
      refine lv_iload hx hb dX12_warStep_147 (lv_at hl 5 rfl) ?_
      refine lv_bipush (v := 6) hx hb dX12_warStep_149 (by decide) ?_
      refine lv_icmp_ge (tgt := 170) hx hb dX12_warStep_151 (by decide) (fun c_58 => ?_) (fun c_58 => ?_)
      · have h := it c_58 h
        refine lv_aload_n hx hb dX12_warStep_170 rfl (lv_at hl 0 rfl) ?_
        refine xget (i := 0) (j := 0) (k := 0) (T := TX12) hx hb ht tb_iX12 hown hX hP.1 rfl rfl rfl (by decide) tb_1229 rfl dX12_warStep_171 ?_
        refine lv_sipush (v := 1957) hx hb dX12_warStep_174 (by decide) ?_
        refine lv_dup2_11 hx hb dX12_warStep_177 rfl rfl ?_
        obtain ⟨y_59, e_y_59, h⟩ := bi h
        refine xiald (i0 := 0) (j0 := 1) hx hb hX hP.1 rfl rfl e_y_59 dX12_warStep_178 ?_
        refine lv_iconst (v := 1) hx hb dX12_warStep_179 (by decide) ?_
        refine lv_iadd hx hb dX12_warStep_180 ?_
        obtain ⟨m_at_60, e_m_at_60, h⟩ := bi h
        refine xiast (i0 := 0) (j0 := 1) hx hb hX hP hS rfl rfl e_m_at_60 dX12_warStep_181 (fun H locs hP hS => ?_)
        have hP : PD D A [bl_X12 cy A_m m_at_60 m_names m_status m_top m_bottom m_sort m_trayMany m_trays m_tape m_text m_taped m_size m_token m_from m_end m_value m_faultKind m_faultPlace m_faults m_seen m_toldParts m_opened m_depth m_counted m_bestOrder m_standers m_has m_bestHas m_standerMany m_bestCouples m_bestFondness m_cameTo m_doesStandFirst m_stoodBy m_drawn m_ranSteps m_loops m_ran m_told1 m_isTold m_marks] H := hP
        refine lv_aload_n hx hb dX12_warStep_182 rfl (lv_at hl 0 rfl) ?_
        obtain ⟨z_61, e_z_61, h⟩ := bi h
        refine efVv (rest := []) ⟨hx, hb, hml, hown, ht⟩ (c_X12_ahead l D cy fu A_m m_at_60 m_names m_status m_top m_bottom m_sort m_trayMany m_trays m_tape m_text m_taped m_size m_token m_from m_end m_value m_faultKind m_faultPlace m_faults m_seen m_toldParts m_opened m_depth m_counted m_bestOrder m_standers m_has m_bestHas m_standerMany m_bestCouples m_bestFondness m_cameTo m_doesStandFirst m_stoodBy m_drawn m_ranSteps m_loops m_ran m_told1 m_isTold m_marks z_61 e_z_61 _ rfl _ rfl) (cV ht mv_X12_ahead tb_1416 rfl rfl ⟨Nat.le_of_ble_eq_true rfl, Nat.le_of_ble_eq_true rfl⟩) hP hS hX [0] rfl rfl rfl rfl rfl rfl hl.1 rfl (Nat.le_of_ble_eq_true rfl) dX12_warStep_183 ⟨Nat.le_of_ble_eq_true rfl, Nat.le_of_ble_eq_true rfl⟩ (fun H locs hP hS => ?_)
        have hP : PD D A [bl_X12 cy A_m m_at_60 m_names m_status m_top m_bottom m_sort m_trayMany m_trays m_tape m_text m_taped m_size z_61.1 z_61.2.1 z_61.2.2.1 z_61.2.2.2 m_faultKind m_faultPlace m_faults m_seen m_toldParts m_opened m_depth m_counted m_bestOrder m_standers m_has m_bestHas m_standerMany m_bestCouples m_bestFondness m_cameTo m_doesStandFirst m_stoodBy m_drawn m_ranSteps m_loops m_ran m_told1 m_isTold m_marks] H := hP
        refine lv_aload_n hx hb dX12_warStep_186 rfl (lv_at hl 0 rfl) ?_
        refine lv_iload_n hx hb dX12_warStep_187 rfl (lv_at hl 1 rfl) ?_
        refine lv_iload_n hx hb dX12_warStep_188 rfl (lv_at hl 3 rfl) ?_
        obtain ⟨z_62, e_z_62, h⟩ := bi h
        refine efViX (rest := []) ⟨hx, hb, hml, hown, ht⟩ (c_X12_warOrder l D cy fu tO aK aV A_m m_at_60 m_names m_status m_top m_bottom m_sort m_trayMany m_trays m_tape m_text m_taped m_size z_61.1 z_61.2.1 z_61.2.2.1 z_61.2.2.2 m_faultKind m_faultPlace m_faults m_seen m_toldParts m_opened m_depth m_counted m_bestOrder m_standers m_has m_bestHas m_standerMany m_bestCouples m_bestFondness m_cameTo m_doesStandFirst m_stoodBy m_drawn m_ranSteps m_loops m_ran m_told1 m_isTold m_marks x1 x3 z_62 e_z_62 _ rfl _ rfl) (cV ht mv_X12_warOrder tb_1511 rfl rfl ⟨Nat.le_of_ble_eq_true rfl, Nat.le_of_ble_eq_true rfl⟩) hP hS hX hE [0] rfl rfl rfl rfl rfl rfl hl.1 rfl (Nat.le_of_ble_eq_true rfl) dX12_warStep_189 ⟨Nat.le_of_ble_eq_true rfl, Nat.le_of_ble_eq_true rfl⟩ (fun H locs hP hS => ?_)
        have hP : PD D A [bl_X12 cy A_m z_62.2.1 m_names m_status m_top m_bottom m_sort m_trayMany m_trays m_tape m_text m_taped m_size z_62.2.2.1 z_62.2.2.2.1 z_62.2.2.2.2.1 z_62.2.2.2.2.2.1 m_faultKind z_62.2.2.2.2.2.2.1 z_62.2.2.2.2.2.2.2 m_seen m_toldParts m_opened m_depth m_counted m_bestOrder m_standers m_has m_bestHas m_standerMany m_bestCouples m_bestFondness m_cameTo m_doesStandFirst m_stoodBy m_drawn m_ranSteps m_loops m_ran m_told1 m_isTold m_marks] H := hP
        refine lv_if_ne (tgt := 197) hx hb dX12_warStep_192 (by decide) (fun c_63 => ?_) (fun c_63 => ?_)
        · have h := ie c_63 h
          refine lv_iload hx hb dX12_warStep_197 (lv_at hl 4 rfl) ?_
          refine lv_if_eq (tgt := 222) hx hb dX12_warStep_199 (by decide) (fun c_64 => ?_) (fun c_64 => ?_)
          · have h := it c_64 h
            exact j222 z_62.2.1 z_62.2.2.1 z_62.2.2.2.1 z_62.2.2.2.2.1 z_62.2.2.2.2.2.1 z_62.2.2.2.2.2.2.1 z_62.2.2.2.2.2.2.2 m_opened m_depth m_counted x1 x2 x3 _ _ hP hS ls (lv_sub hl [0, 1, 2, 3] rfl) h
          · have h := ie c_64 h
            refine lv_aload_n hx hb dX12_warStep_202 rfl (lv_at hl 0 rfl) ?_
            refine xget (i := 0) (j := 0) (k := 21) (T := TX12) hx hb ht tb_iX12 hown hX hP.1 rfl rfl rfl (by decide) tb_1250 rfl dX12_warStep_203 ?_
            refine lv_aload_n hx hb dX12_warStep_206 rfl (lv_at hl 0 rfl) ?_
            refine xget (i := 0) (j := 0) (k := 22) (T := TX12) hx hb ht tb_iX12 hown hX hP.1 rfl rfl rfl (by decide) tb_1251 rfl dX12_warStep_207 ?_
            refine lv_iload_n hx hb dX12_warStep_210 rfl (lv_at hl 2 rfl) ?_
            obtain ⟨m_opened_65, e_m_opened_65, h⟩ := bi h
            refine xiast (i0 := 0) (j0 := 8) hx hb hX hP hS rfl rfl e_m_opened_65 dX12_warStep_211 (fun H locs hP hS => ?_)
            have hP : PD D A [bl_X12 cy A_m z_62.2.1 m_names m_status m_top m_bottom m_sort m_trayMany m_trays m_tape m_text m_taped m_size z_62.2.2.1 z_62.2.2.2.1 z_62.2.2.2.2.1 z_62.2.2.2.2.2.1 m_faultKind z_62.2.2.2.2.2.2.1 z_62.2.2.2.2.2.2.2 m_seen m_toldParts m_opened_65 m_depth m_counted m_bestOrder m_standers m_has m_bestHas m_standerMany m_bestCouples m_bestFondness m_cameTo m_doesStandFirst m_stoodBy m_drawn m_ranSteps m_loops m_ran m_told1 m_isTold m_marks] H := hP
            refine lv_aload_n hx hb dX12_warStep_212 rfl (lv_at hl 0 rfl) ?_
            refine lv_dup hx hb dX12_warStep_213 rfl ?_
            refine xget (i := 0) (j := 0) (k := 22) (T := TX12) hx hb ht tb_iX12 hown hX hP.1 rfl rfl rfl (by decide) tb_1251 rfl dX12_warStep_214 ?_
            refine lv_iconst (v := 1) hx hb dX12_warStep_217 (by decide) ?_
            refine lv_iadd hx hb dX12_warStep_218 ?_
            refine lv_topi (fun m_depth_66 e_m_depth_66 => ?_)
            have h := bn e_m_depth_66 h
            refine xput (i := 0) (j := 0) (k := 22) (T := TX12) tyX12 tyX12_ok nmX12 hx hb ht tb_iX12 hown hX hP hS rfl rfl rfl (by decide) tb_1251 rfl rfl rfl (Nat.le_of_ble_eq_true rfl) dX12_warStep_219 (fun H locs hP hS => ?_)
            have hP : PD D A [bl_X12 cy A_m z_62.2.1 m_names m_status m_top m_bottom m_sort m_trayMany m_trays m_tape m_text m_taped m_size z_62.2.2.1 z_62.2.2.2.1 z_62.2.2.2.2.1 z_62.2.2.2.2.2.1 m_faultKind z_62.2.2.2.2.2.2.1 z_62.2.2.2.2.2.2.2 m_seen m_toldParts m_opened_65 m_depth_66 m_counted m_bestOrder m_standers m_has m_bestHas m_standerMany m_bestCouples m_bestFondness m_cameTo m_doesStandFirst m_stoodBy m_drawn m_ranSteps m_loops m_ran m_told1 m_isTold m_marks] H := hP
            exact j222 z_62.2.1 z_62.2.2.1 z_62.2.2.2.1 z_62.2.2.2.2.1 z_62.2.2.2.2.2.1 z_62.2.2.2.2.2.2.1 z_62.2.2.2.2.2.2.2 m_opened_65 m_depth_66 m_counted x1 x2 x3 _ _ hP hS ls (lv_sub hl [0, 1, 2, 3] rfl) h
        · have h := it c_63 h
          refine lv_iconst (v := 0) hx hb dX12_warStep_195 (by decide) ?_
          cases h
          subst hW1
          exact W.zret hx hb hr rfl (fun _ ht9 _ => ⟨⟨_, (), rfl, rfl, hPt ht9 hP.1⟩, hS.F ht9⟩) hS.2.2 dX12_warStep_196
      · have h := ie c_58 h
        refine lv_aload_n hx hb dX12_warStep_154 rfl (lv_at hl 0 rfl) ?_
        refine xget (i := 0) (j := 0) (k := 0) (T := TX12) hx hb ht tb_iX12 hown hX hP.1 rfl rfl rfl (by decide) tb_1229 rfl dX12_warStep_155 ?_
        refine lv_iload_n hx hb dX12_warStep_158 rfl (lv_at hl 3 rfl) ?_
        refine lv_iload hx hb dX12_warStep_159 (lv_at hl 5 rfl) ?_
        refine lv_iadd hx hb dX12_warStep_161 ?_
        refine lv_iconst (v := 0) hx hb dX12_warStep_162 (by decide) ?_
        obtain ⟨m_at_67, e_m_at_67, h⟩ := bi h
        refine xiast (i0 := 0) (j0 := 1) hx hb hX hP hS rfl rfl e_m_at_67 dX12_warStep_163 (fun H locs hP hS => ?_)
        have hP : PD D A [bl_X12 cy A_m m_at_67 m_names m_status m_top m_bottom m_sort m_trayMany m_trays m_tape m_text m_taped m_size m_token m_from m_end m_value m_faultKind m_faultPlace m_faults m_seen m_toldParts m_opened m_depth m_counted m_bestOrder m_standers m_has m_bestHas m_standerMany m_bestCouples m_bestFondness m_cameTo m_doesStandFirst m_stoodBy m_drawn m_ranSteps m_loops m_ran m_told1 m_isTold m_marks] H := hP
        obtain ⟨x5_68, e_x5_68⟩ : ∃ y : Int32, y = x5 + 1 := ⟨_, rfl⟩
        have h := bn e_x5_68 h
        refine lv_iinc (v := x5_68) (lv' := [(5, .int x5_68), (0, .ref (A_m 0)), (1, .int x1), (2, .int x2), (3, .int x3), (4, .int x4)]) hx hb dX12_warStep_164 hl (k := 5) rfl (by rw [e_x5_68]; rfl) (by decide) rfl (fun ls hl => ?_)
        refine lv_goto (tgt := 147) hx hb dX12_warStep_167 (by decide) ?_
        exact ih147 m_at_67 m_token m_from m_end m_value m_faultPlace m_faults m_opened m_depth m_counted x1 x2 x3 x4 x5_68 _ _ hP hS ls (lv_sub hl [1, 2, 3, 4, 5, 0] rfl) h
  have j133 : ∀ (m_at : Nat → Int32) (m_token : Int32) (m_from : Int32) (m_end : Int32) (m_value : Int32) (m_faultPlace : Int32) (m_faults : Int32) (m_opened : Nat → Int32) (m_depth : Int32) (m_counted : Int32) (x1 : Int32) (x2 : Int32) (x3 : Int32) (x4 : Int32) (s1 : Int32) (s2 : Int32) (H : Heap) (locs : List Loc) (_ : PD D A [bl_X12 cy A_m m_at m_names m_status m_top m_bottom m_sort m_trayMany m_trays m_tape m_text m_taped m_size m_token m_from m_end m_value m_faultKind m_faultPlace m_faults m_seen m_toldParts m_opened m_depth m_counted m_bestOrder m_standers m_has m_bestHas m_standerMany m_bestCouples m_bestFondness m_cameTo m_doesStandFirst m_stoodBy m_drawn m_ranSteps m_loops m_ran m_told1 m_isTold m_marks] H) (_ : va_S A s.heap H locs) (ls : Array Slot), lv_has ls 6 [(0, .ref (A_m 0)), (1, .int x1), (2, .int x2), (3, .int x3), (4, .int x4)] → f_X12_warStep_j133 fu m_names m_text m_size m_at m_token m_from m_end m_value m_faultPlace m_faults m_opened m_depth m_counted x1 x2 x3 x4 s1 s2 = some res → W p l e (headSpec (WW yX12_warStep cX12_warStep 6 (some .boolean)) rm_X12_warStep).room s m args below meth c H locs 0 0 (MQ below (Qei D res.1 A W1) args s 0 0 A) (F0 m 133 ls [.int s2, .int s1, .ref (A_m 0)]) := by
    intro m_at m_token m_from m_end m_value m_faultPlace m_faults m_opened m_depth m_counted x1 x2 x3 x4 s1 s2 H locs hP hS ls hl h
    unfold f_X12_warStep_j133 at h
    refine lv_iadd hx hb dX12_warStep_133 ?_
    refine lv_topi (fun m_counted_69 e_m_counted_69 => ?_)
    have h := bn e_m_counted_69 h
    refine xput (i := 0) (j := 0) (k := 23) (T := TX12) tyX12 tyX12_ok nmX12 hx hb ht tb_iX12 hown hX hP hS rfl rfl rfl (by decide) tb_1252 rfl rfl rfl (Nat.le_of_ble_eq_true rfl) dX12_warStep_134 (fun H locs hP hS => ?_)
    have hP : PD D A [bl_X12 cy A_m m_at m_names m_status m_top m_bottom m_sort m_trayMany m_trays m_tape m_text m_taped m_size m_token m_from m_end m_value m_faultKind m_faultPlace m_faults m_seen m_toldParts m_opened m_depth m_counted_69 m_bestOrder m_standers m_has m_bestHas m_standerMany m_bestCouples m_bestFondness m_cameTo m_doesStandFirst m_stoodBy m_drawn m_ranSteps m_loops m_ran m_told1 m_isTold m_marks] H := hP
    refine lv_aload_n hx hb dX12_warStep_137 rfl (lv_at hl 0 rfl) ?_
    refine xget (i := 0) (j := 0) (k := 0) (T := TX12) hx hb ht tb_iX12 hown hX hP.1 rfl rfl rfl (by decide) tb_1229 rfl dX12_warStep_138 ?_
    refine lv_iload_n hx hb dX12_warStep_141 rfl (lv_at hl 3 rfl) ?_
    refine lv_iload_n hx hb dX12_warStep_142 rfl (lv_at hl 1 rfl) ?_
    obtain ⟨m_at_70, e_m_at_70, h⟩ := bi h
    refine xiast (i0 := 0) (j0 := 1) hx hb hX hP hS rfl rfl e_m_at_70 dX12_warStep_143 (fun H locs hP hS => ?_)
    have hP : PD D A [bl_X12 cy A_m m_at_70 m_names m_status m_top m_bottom m_sort m_trayMany m_trays m_tape m_text m_taped m_size m_token m_from m_end m_value m_faultKind m_faultPlace m_faults m_seen m_toldParts m_opened m_depth m_counted_69 m_bestOrder m_standers m_has m_bestHas m_standerMany m_bestCouples m_bestFondness m_cameTo m_doesStandFirst m_stoodBy m_drawn m_ranSteps m_loops m_ran m_told1 m_isTold m_marks] H := hP
    refine lv_iconst (v := 1) hx hb dX12_warStep_144 (by decide) ?_
    refine lv_istore (lv' := [(5, .int 1), (0, .ref (A_m 0)), (1, .int x1), (2, .int x2), (3, .int x3), (4, .int x4)]) hx hb dX12_warStep_145 hl (by decide) rfl (fun ls hl => ?_)
    exact l147 fu m_at_70 m_token m_from m_end m_value m_faultPlace m_faults m_opened m_depth m_counted_69 x1 x2 x3 x4 1 _ _ hP hS ls (lv_sub hl [1, 2, 3, 4, 5, 0] rfl) h
  have j117 : ∀ (m_at : Nat → Int32) (m_token : Int32) (m_from : Int32) (m_end : Int32) (m_value : Int32) (m_faultPlace : Int32) (m_faults : Int32) (m_opened : Nat → Int32) (m_depth : Int32) (m_counted : Int32) (x1 : Int32) (x2 : Int32) (x3 : Int32) (x4 : Int32) (H : Heap) (locs : List Loc) (_ : PD D A [bl_X12 cy A_m m_at m_names m_status m_top m_bottom m_sort m_trayMany m_trays m_tape m_text m_taped m_size m_token m_from m_end m_value m_faultKind m_faultPlace m_faults m_seen m_toldParts m_opened m_depth m_counted m_bestOrder m_standers m_has m_bestHas m_standerMany m_bestCouples m_bestFondness m_cameTo m_doesStandFirst m_stoodBy m_drawn m_ranSteps m_loops m_ran m_told1 m_isTold m_marks] H) (_ : va_S A s.heap H locs) (ls : Array Slot), lv_has ls 6 [(0, .ref (A_m 0)), (1, .int x1), (2, .int x2), (3, .int x3), (4, .int x4)] → f_X12_warStep_j117 fu m_names m_text m_size m_at m_token m_from m_end m_value m_faultPlace m_faults m_opened m_depth m_counted x1 x2 x3 x4 = some res → W p l e (headSpec (WW yX12_warStep cX12_warStep 6 (some .boolean)) rm_X12_warStep).room s m args below meth c H locs 0 0 (MQ below (Qei D res.1 A W1) args s 0 0 A) (F0 m 117 ls []) := by
    intro m_at m_token m_from m_end m_value m_faultPlace m_faults m_opened m_depth m_counted x1 x2 x3 x4 H locs hP hS ls hl h
    unfold f_X12_warStep_j117 at h
    refine lv_aload_n hx hb dX12_warStep_117 rfl (lv_at hl 0 rfl) ?_
    refine lv_dup hx hb dX12_warStep_118 rfl ?_
    refine xget (i := 0) (j := 0) (k := 23) (T := TX12) hx hb ht tb_iX12 hown hX hP.1 rfl rfl rfl (by decide) tb_1252 rfl dX12_warStep_119 ?_
    refine lv_iload_n hx hb dX12_warStep_122 rfl (lv_at hl 1 rfl) ?_
    refine lv_bipush (v := 14) hx hb dX12_warStep_123 (by decide) ?_
    refine lv_icmp_ne (tgt := 132) hx hb dX12_warStep_125 (by decide) (fun c_71 => ?_) (fun c_71 => ?_)
    · have h := ie c_71 h
      refine lv_iconst (v := 1) hx hb dX12_warStep_132 (by decide) ?_
      exact j133 m_at m_token m_from m_end m_value m_faultPlace m_faults m_opened m_depth m_counted x1 x2 x3 x4 m_counted 1 _ _ hP hS ls (lv_sub hl [0, 1, 2, 3, 4] rfl) h
    · have h := it c_71 h
      refine lv_iconst (v := 0) hx hb dX12_warStep_128 (by decide) ?_
      refine lv_goto (tgt := 133) hx hb dX12_warStep_129 (by decide) ?_
      exact j133 m_at m_token m_from m_end m_value m_faultPlace m_faults m_opened m_depth m_counted x1 x2 x3 x4 m_counted 0 _ _ hP hS ls (lv_sub hl [0, 1, 2, 3, 4] rfl) h
  have j97 : ∀ (m_at : Nat → Int32) (m_token : Int32) (m_from : Int32) (m_end : Int32) (m_value : Int32) (m_faultPlace : Int32) (m_faults : Int32) (m_opened : Nat → Int32) (m_depth : Int32) (m_counted : Int32) (x1 : Int32) (x2 : Int32) (x3 : Int32) (x4 : Int32) (H : Heap) (locs : List Loc) (_ : PD D A [bl_X12 cy A_m m_at m_names m_status m_top m_bottom m_sort m_trayMany m_trays m_tape m_text m_taped m_size m_token m_from m_end m_value m_faultKind m_faultPlace m_faults m_seen m_toldParts m_opened m_depth m_counted m_bestOrder m_standers m_has m_bestHas m_standerMany m_bestCouples m_bestFondness m_cameTo m_doesStandFirst m_stoodBy m_drawn m_ranSteps m_loops m_ran m_told1 m_isTold m_marks] H) (_ : va_S A s.heap H locs) (ls : Array Slot), lv_has ls 6 [(0, .ref (A_m 0)), (1, .int x1), (2, .int x2), (3, .int x3), (4, .int x4)] → f_X12_warStep_j97 fu m_names m_text m_size m_at m_token m_from m_end m_value m_faultPlace m_faults m_opened m_depth m_counted x1 x2 x3 x4 = some res → W p l e (headSpec (WW yX12_warStep cX12_warStep 6 (some .boolean)) rm_X12_warStep).room s m args below meth c H locs 0 0 (MQ below (Qei D res.1 A W1) args s 0 0 A) (F0 m 97 ls []) := by
    intro m_at m_token m_from m_end m_value m_faultPlace m_faults m_opened m_depth m_counted x1 x2 x3 x4 H locs hP hS ls hl h
    unfold f_X12_warStep_j97 at h
    refine lv_iload hx hb dX12_warStep_97 (lv_at hl 4 rfl) ?_
    refine lv_if_eq (tgt := 117) hx hb dX12_warStep_99 (by decide) (fun c_72 => ?_) (fun c_72 => ?_)
    · have h := it c_72 h
      exact j117 m_at m_token m_from m_end m_value m_faultPlace m_faults m_opened m_depth m_counted x1 x2 x3 x4 _ _ hP hS ls (lv_sub hl [0, 1, 2, 3, 4] rfl) h
    · have h := ie c_72 h
      refine lv_aload_n hx hb dX12_warStep_102 rfl (lv_at hl 0 rfl) ?_
      refine xget (i := 0) (j := 0) (k := 22) (T := TX12) hx hb ht tb_iX12 hown hX hP.1 rfl rfl rfl (by decide) tb_1251 rfl dX12_warStep_103 ?_
      refine lv_iconst (v := 3) hx hb dX12_warStep_106 (by decide) ?_
      refine lv_icmp_ne (tgt := 117) hx hb dX12_warStep_107 (by decide) (fun c_73 => ?_) (fun c_73 => ?_)
      · have h := ie c_73 h
        exact j117 m_at m_token m_from m_end m_value m_faultPlace m_faults m_opened m_depth m_counted x1 x2 x3 x4 _ _ hP hS ls (lv_sub hl [0, 1, 2, 3, 4] rfl) h
      · have h := it c_73 h
        refine lv_aload_n hx hb dX12_warStep_110 rfl (lv_at hl 0 rfl) ?_
        refine lv_bipush (v := 7) hx hb dX12_warStep_111 (by decide) ?_
        obtain ⟨z_74, e_z_74, h⟩ := bi h
        refine efVi (rest := []) ⟨hx, hb, hml, hown, ht⟩ (c_X12_fails l D cy fu A_m m_at m_names m_status m_top m_bottom m_sort m_trayMany m_trays m_tape m_text m_taped m_size m_token m_from m_end m_value m_faultKind m_faultPlace m_faults m_seen m_toldParts m_opened m_depth m_counted m_bestOrder m_standers m_has m_bestHas m_standerMany m_bestCouples m_bestFondness m_cameTo m_doesStandFirst m_stoodBy m_drawn m_ranSteps m_loops m_ran m_told1 m_isTold m_marks 7 z_74 e_z_74 _ rfl _ rfl) (cV ht mv_X12_fails tb_1447 rfl rfl ⟨Nat.le_of_ble_eq_true rfl, Nat.le_of_ble_eq_true rfl⟩) hP hS hX [0] rfl rfl rfl rfl rfl rfl hl.1 rfl (Nat.le_of_ble_eq_true rfl) dX12_warStep_113 ⟨Nat.le_of_ble_eq_true rfl, Nat.le_of_ble_eq_true rfl⟩ (fun H locs hP hS => ?_)
        have hP : PD D A [bl_X12 cy A_m m_at m_names m_status m_top m_bottom m_sort m_trayMany m_trays m_tape m_text m_taped m_size m_token m_from m_end m_value m_faultKind z_74.2.1 z_74.2.2 m_seen m_toldParts m_opened m_depth m_counted m_bestOrder m_standers m_has m_bestHas m_standerMany m_bestCouples m_bestFondness m_cameTo m_doesStandFirst m_stoodBy m_drawn m_ranSteps m_loops m_ran m_told1 m_isTold m_marks] H := hP
        obtain ⟨b_75, e_b_75, h⟩ := bi h
        obtain ⟨-, n_b_75, -⟩ := bz_ok e_b_75
        cases h
        subst hW1
        exact W.zret hx hb hr n_b_75 (fun _ ht9 _ => ⟨⟨_, (), rfl, rfl, hPt ht9 hP.1⟩, hS.F ht9⟩) hS.2.2 dX12_warStep_116
  have j75 : ∀ (m_at : Nat → Int32) (m_token : Int32) (m_from : Int32) (m_end : Int32) (m_value : Int32) (m_faultPlace : Int32) (m_faults : Int32) (m_opened : Nat → Int32) (m_depth : Int32) (m_counted : Int32) (x1 : Int32) (x2 : Int32) (x3 : Int32) (x4 : Int32) (H : Heap) (locs : List Loc) (_ : PD D A [bl_X12 cy A_m m_at m_names m_status m_top m_bottom m_sort m_trayMany m_trays m_tape m_text m_taped m_size m_token m_from m_end m_value m_faultKind m_faultPlace m_faults m_seen m_toldParts m_opened m_depth m_counted m_bestOrder m_standers m_has m_bestHas m_standerMany m_bestCouples m_bestFondness m_cameTo m_doesStandFirst m_stoodBy m_drawn m_ranSteps m_loops m_ran m_told1 m_isTold m_marks] H) (_ : va_S A s.heap H locs) (ls : Array Slot), lv_has ls 6 [(0, .ref (A_m 0)), (1, .int x1), (2, .int x2), (3, .int x3), (4, .int x4)] → f_X12_warStep_j75 fu m_names m_text m_size m_at m_token m_from m_end m_value m_faultPlace m_faults m_opened m_depth m_counted x1 x2 x3 x4 = some res → W p l e (headSpec (WW yX12_warStep cX12_warStep 6 (some .boolean)) rm_X12_warStep).room s m args below meth c H locs 0 0 (MQ below (Qei D res.1 A W1) args s 0 0 A) (F0 m 75 ls []) := by
    intro m_at m_token m_from m_end m_value m_faultPlace m_faults m_opened m_depth m_counted x1 x2 x3 x4 H locs hP hS ls hl h
    unfold f_X12_warStep_j75 at h
    refine lv_iload_n hx hb dX12_warStep_75 rfl (lv_at hl 1 rfl) ?_
    refine lv_bipush (v := 14) hx hb dX12_warStep_76 (by decide) ?_
    refine lv_icmp_eq (tgt := 97) hx hb dX12_warStep_78 (by decide) (fun c_76 => ?_) (fun c_76 => ?_)
    · have h := it c_76 h
      exact j97 m_at m_token m_from m_end m_value m_faultPlace m_faults m_opened m_depth m_counted x1 x2 x3 x4 _ _ hP hS ls (lv_sub hl [0, 1, 2, 3, 4] rfl) h
    · have h := ie c_76 h
      refine lv_aload_n hx hb dX12_warStep_81 rfl (lv_at hl 0 rfl) ?_
      refine xget (i := 0) (j := 0) (k := 23) (T := TX12) hx hb ht tb_iX12 hown hX hP.1 rfl rfl rfl (by decide) tb_1252 rfl dX12_warStep_82 ?_
      refine lv_bipush (v := 30) hx hb dX12_warStep_85 (by decide) ?_
      refine lv_icmp_ne (tgt := 97) hx hb dX12_warStep_87 (by decide) (fun c_77 => ?_) (fun c_77 => ?_)
      · have h := ie c_77 h
        exact j97 m_at m_token m_from m_end m_value m_faultPlace m_faults m_opened m_depth m_counted x1 x2 x3 x4 _ _ hP hS ls (lv_sub hl [0, 1, 2, 3, 4] rfl) h
      · have h := it c_77 h
        refine lv_aload_n hx hb dX12_warStep_90 rfl (lv_at hl 0 rfl) ?_
        refine lv_bipush (v := 6) hx hb dX12_warStep_91 (by decide) ?_
        obtain ⟨z_78, e_z_78, h⟩ := bi h
        refine efVi (rest := []) ⟨hx, hb, hml, hown, ht⟩ (c_X12_fails l D cy fu A_m m_at m_names m_status m_top m_bottom m_sort m_trayMany m_trays m_tape m_text m_taped m_size m_token m_from m_end m_value m_faultKind m_faultPlace m_faults m_seen m_toldParts m_opened m_depth m_counted m_bestOrder m_standers m_has m_bestHas m_standerMany m_bestCouples m_bestFondness m_cameTo m_doesStandFirst m_stoodBy m_drawn m_ranSteps m_loops m_ran m_told1 m_isTold m_marks 6 z_78 e_z_78 _ rfl _ rfl) (cV ht mv_X12_fails tb_1447 rfl rfl ⟨Nat.le_of_ble_eq_true rfl, Nat.le_of_ble_eq_true rfl⟩) hP hS hX [0] rfl rfl rfl rfl rfl rfl hl.1 rfl (Nat.le_of_ble_eq_true rfl) dX12_warStep_93 ⟨Nat.le_of_ble_eq_true rfl, Nat.le_of_ble_eq_true rfl⟩ (fun H locs hP hS => ?_)
        have hP : PD D A [bl_X12 cy A_m m_at m_names m_status m_top m_bottom m_sort m_trayMany m_trays m_tape m_text m_taped m_size m_token m_from m_end m_value m_faultKind z_78.2.1 z_78.2.2 m_seen m_toldParts m_opened m_depth m_counted m_bestOrder m_standers m_has m_bestHas m_standerMany m_bestCouples m_bestFondness m_cameTo m_doesStandFirst m_stoodBy m_drawn m_ranSteps m_loops m_ran m_told1 m_isTold m_marks] H := hP
        obtain ⟨b_79, e_b_79, h⟩ := bi h
        obtain ⟨-, n_b_79, -⟩ := bz_ok e_b_79
        cases h
        subst hW1
        exact W.zret hx hb hr n_b_79 (fun _ ht9 _ => ⟨⟨_, (), rfl, rfl, hPt ht9 hP.1⟩, hS.F ht9⟩) hS.2.2 dX12_warStep_96
  have j42 : ∀ (m_at : Nat → Int32) (m_token : Int32) (m_from : Int32) (m_end : Int32) (m_value : Int32) (m_faultPlace : Int32) (m_faults : Int32) (m_opened : Nat → Int32) (m_depth : Int32) (m_counted : Int32) (x1 : Int32) (x2 : Int32) (x3 : Int32) (s0 : Int32) (H : Heap) (locs : List Loc) (_ : PD D A [bl_X12 cy A_m m_at m_names m_status m_top m_bottom m_sort m_trayMany m_trays m_tape m_text m_taped m_size m_token m_from m_end m_value m_faultKind m_faultPlace m_faults m_seen m_toldParts m_opened m_depth m_counted m_bestOrder m_standers m_has m_bestHas m_standerMany m_bestCouples m_bestFondness m_cameTo m_doesStandFirst m_stoodBy m_drawn m_ranSteps m_loops m_ran m_told1 m_isTold m_marks] H) (_ : va_S A s.heap H locs) (ls : Array Slot), lv_has ls 6 [(0, .ref (A_m 0)), (1, .int x1), (2, .int x2), (3, .int x3)] → f_X12_warStep_j42 fu m_names m_text m_size m_at m_token m_from m_end m_value m_faultPlace m_faults m_opened m_depth m_counted x1 x2 x3 s0 = some res → W p l e (headSpec (WW yX12_warStep cX12_warStep 6 (some .boolean)) rm_X12_warStep).room s m args below meth c H locs 0 0 (MQ below (Qei D res.1 A W1) args s 0 0 A) (F0 m 42 ls [.int s0]) := by
    intro m_at m_token m_from m_end m_value m_faultPlace m_faults m_opened m_depth m_counted x1 x2 x3 s0 H locs hP hS ls hl h
    unfold f_X12_warStep_j42 at h
    refine lv_istore (lv' := [(4, .int s0), (0, .ref (A_m 0)), (1, .int x1), (2, .int x2), (3, .int x3)]) hx hb dX12_warStep_42 hl (by decide) rfl (fun ls hl => ?_)
    refine lv_iload_n hx hb dX12_warStep_44 rfl (lv_at hl 2 rfl) ?_
    refine lv_bipush (v := 7) hx hb dX12_warStep_45 (by decide) ?_
    refine lv_icmp_lt (tgt := 69) hx hb dX12_warStep_47 (by decide) (fun c_80 => ?_) (fun c_80 => ?_)
    · have h := it c_80 h
      refine lv_aload_n hx hb dX12_warStep_69 rfl (lv_at hl 1 rfl) ?_
      refine lv_iconst (v := 2) hx hb dX12_warStep_70 (by decide) ?_
      obtain ⟨z_81, e_z_81, h⟩ := bi h
      refine efVi (rest := []) ⟨hx, hb, hml, hown, ht⟩ (c_X12_fails l D cy fu A_m m_at m_names m_status m_top m_bottom m_sort m_trayMany m_trays m_tape m_text m_taped m_size m_token m_from m_end m_value m_faultKind m_faultPlace m_faults m_seen m_toldParts m_opened m_depth m_counted m_bestOrder m_standers m_has m_bestHas m_standerMany m_bestCouples m_bestFondness m_cameTo m_doesStandFirst m_stoodBy m_drawn m_ranSteps m_loops m_ran m_told1 m_isTold m_marks 2 z_81 e_z_81 _ rfl _ rfl) (cV ht mv_X12_fails tb_1447 rfl rfl ⟨Nat.le_of_ble_eq_true rfl, Nat.le_of_ble_eq_true rfl⟩) hP hS hX [0] rfl rfl rfl rfl rfl rfl hl.1 rfl (Nat.le_of_ble_eq_true rfl) dX12_warStep_71 ⟨Nat.le_of_ble_eq_true rfl, Nat.le_of_ble_eq_true rfl⟩ (fun H locs hP hS => ?_)
      have hP : PD D A [bl_X12 cy A_m m_at m_names m_status m_top m_bottom m_sort m_trayMany m_trays m_tape m_text m_taped m_size m_token m_from m_end m_value m_faultKind z_81.2.1 z_81.2.2 m_seen m_toldParts m_opened m_depth m_counted m_bestOrder m_standers m_has m_bestHas m_standerMany m_bestCouples m_bestFondness m_cameTo m_doesStandFirst m_stoodBy m_drawn m_ranSteps m_loops m_ran m_told1 m_isTold m_marks] H := hP
      obtain ⟨b_82, e_b_82, h⟩ := bi h
      obtain ⟨-, n_b_82, -⟩ := bz_ok e_b_82
      cases h
      subst hW1
      exact W.zret hx hb hr n_b_82 (fun _ ht9 _ => ⟨⟨_, (), rfl, rfl, hPt ht9 hP.1⟩, hS.F ht9⟩) hS.2.2 dX12_warStep_74
    · have h := ie c_80 h
      refine lv_iload_n hx hb dX12_warStep_50 rfl (lv_at hl 2 rfl) ?_
      refine lv_bipush (v := 15) hx hb dX12_warStep_51 (by decide) ?_
      refine lv_icmp_gt (tgt := 69) hx hb dX12_warStep_53 (by decide) (fun c_83 => ?_) (fun c_83 => ?_)
      · have h := it c_83 h
        refine lv_aload_n hx hb dX12_warStep_69 rfl (lv_at hl 1 rfl) ?_
        refine lv_iconst (v := 2) hx hb dX12_warStep_70 (by decide) ?_
        obtain ⟨z_84, e_z_84, h⟩ := bi h
        refine efVi (rest := []) ⟨hx, hb, hml, hown, ht⟩ (c_X12_fails l D cy fu A_m m_at m_names m_status m_top m_bottom m_sort m_trayMany m_trays m_tape m_text m_taped m_size m_token m_from m_end m_value m_faultKind m_faultPlace m_faults m_seen m_toldParts m_opened m_depth m_counted m_bestOrder m_standers m_has m_bestHas m_standerMany m_bestCouples m_bestFondness m_cameTo m_doesStandFirst m_stoodBy m_drawn m_ranSteps m_loops m_ran m_told1 m_isTold m_marks 2 z_84 e_z_84 _ rfl _ rfl) (cV ht mv_X12_fails tb_1447 rfl rfl ⟨Nat.le_of_ble_eq_true rfl, Nat.le_of_ble_eq_true rfl⟩) hP hS hX [0] rfl rfl rfl rfl rfl rfl hl.1 rfl (Nat.le_of_ble_eq_true rfl) dX12_warStep_71 ⟨Nat.le_of_ble_eq_true rfl, Nat.le_of_ble_eq_true rfl⟩ (fun H locs hP hS => ?_)
        have hP : PD D A [bl_X12 cy A_m m_at m_names m_status m_top m_bottom m_sort m_trayMany m_trays m_tape m_text m_taped m_size m_token m_from m_end m_value m_faultKind z_84.2.1 z_84.2.2 m_seen m_toldParts m_opened m_depth m_counted m_bestOrder m_standers m_has m_bestHas m_standerMany m_bestCouples m_bestFondness m_cameTo m_doesStandFirst m_stoodBy m_drawn m_ranSteps m_loops m_ran m_told1 m_isTold m_marks] H := hP
        obtain ⟨b_85, e_b_85, h⟩ := bi h
        obtain ⟨-, n_b_85, -⟩ := bz_ok e_b_85
        cases h
        subst hW1
        exact W.zret hx hb hr n_b_85 (fun _ ht9 _ => ⟨⟨_, (), rfl, rfl, hPt ht9 hP.1⟩, hS.F ht9⟩) hS.2.2 dX12_warStep_74
      · have h := ie c_83 h
        refine lv_iload_n hx hb dX12_warStep_56 rfl (lv_at hl 2 rfl) ?_
        refine lv_bipush (v := 14) hx hb dX12_warStep_57 (by decide) ?_
        refine lv_icmp_ne (tgt := 75) hx hb dX12_warStep_59 (by decide) (fun c_86 => ?_) (fun c_86 => ?_)
        · have h := ie c_86 h
          exact j75 m_at m_token m_from m_end m_value m_faultPlace m_faults m_opened m_depth m_counted x1 x2 x3 s0 _ _ hP hS ls (lv_sub hl [1, 2, 3, 4, 0] rfl) h
        · have h := it c_86 h
          refine lv_aload_n hx hb dX12_warStep_62 rfl (lv_at hl 1 rfl) ?_
          refine xget (i := 0) (j := 0) (k := 22) (T := TX12) hx hb ht tb_iX12 hown hX hP.1 rfl rfl rfl (by decide) tb_1251 rfl dX12_warStep_63 ?_
          refine lv_if_ne (tgt := 75) hx hb dX12_warStep_66 (by decide) (fun c_87 => ?_) (fun c_87 => ?_)
          · have h := ie c_87 h
            exact j75 m_at m_token m_from m_end m_value m_faultPlace m_faults m_opened m_depth m_counted x1 x2 x3 s0 _ _ hP hS ls (lv_sub hl [1, 2, 3, 4, 0] rfl) h
          · have h := it c_87 h
            refine lv_aload_n hx hb dX12_warStep_69 rfl (lv_at hl 1 rfl) ?_
            refine lv_iconst (v := 2) hx hb dX12_warStep_70 (by decide) ?_
            obtain ⟨z_88, e_z_88, h⟩ := bi h
            refine efVi (rest := []) ⟨hx, hb, hml, hown, ht⟩ (c_X12_fails l D cy fu A_m m_at m_names m_status m_top m_bottom m_sort m_trayMany m_trays m_tape m_text m_taped m_size m_token m_from m_end m_value m_faultKind m_faultPlace m_faults m_seen m_toldParts m_opened m_depth m_counted m_bestOrder m_standers m_has m_bestHas m_standerMany m_bestCouples m_bestFondness m_cameTo m_doesStandFirst m_stoodBy m_drawn m_ranSteps m_loops m_ran m_told1 m_isTold m_marks 2 z_88 e_z_88 _ rfl _ rfl) (cV ht mv_X12_fails tb_1447 rfl rfl ⟨Nat.le_of_ble_eq_true rfl, Nat.le_of_ble_eq_true rfl⟩) hP hS hX [0] rfl rfl rfl rfl rfl rfl hl.1 rfl (Nat.le_of_ble_eq_true rfl) dX12_warStep_71 ⟨Nat.le_of_ble_eq_true rfl, Nat.le_of_ble_eq_true rfl⟩ (fun H locs hP hS => ?_)
            have hP : PD D A [bl_X12 cy A_m m_at m_names m_status m_top m_bottom m_sort m_trayMany m_trays m_tape m_text m_taped m_size m_token m_from m_end m_value m_faultKind z_88.2.1 z_88.2.2 m_seen m_toldParts m_opened m_depth m_counted m_bestOrder m_standers m_has m_bestHas m_standerMany m_bestCouples m_bestFondness m_cameTo m_doesStandFirst m_stoodBy m_drawn m_ranSteps m_loops m_ran m_told1 m_isTold m_marks] H := hP
            obtain ⟨b_89, e_b_89, h⟩ := bi h
            obtain ⟨-, n_b_89, -⟩ := bz_ok e_b_89
            cases h
            subst hW1
            exact W.zret hx hb hr n_b_89 (fun _ ht9 _ => ⟨⟨_, (), rfl, rfl, hPt ht9 hP.1⟩, hS.F ht9⟩) hS.2.2 dX12_warStep_74
  unfold f_X12_warStep at h
  refine lv_aload_n hx hb dX12_warStep_0 rfl (lv_at hl 0 rfl) ?_
  refine va_ldcS hx hb hown hE.2.2.2.2.2.2.2 dX12_warStep_1 ?_
  obtain ⟨z_90, e_z_90, h⟩ := bi h
  refine roViX (rest := []) ⟨hx, hb, hml, hown, ht⟩ (c_X12_inWords l D cy fu tO aK aV 1 (by decide) A_m m_at m_names m_status m_top m_bottom m_sort m_trayMany m_trays m_tape m_text m_taped m_size m_token m_from m_end m_value m_faultKind m_faultPlace m_faults m_seen m_toldParts m_opened m_depth m_counted m_bestOrder m_standers m_has m_bestHas m_standerMany m_bestCouples m_bestFondness m_cameTo m_doesStandFirst m_stoodBy m_drawn m_ranSteps m_loops m_ran m_told1 m_isTold m_marks z_90 e_z_90) (cV ht mv_X12_inWords tb_1441 rfl rfl ⟨Nat.le_of_ble_eq_true rfl, Nat.le_of_ble_eq_true rfl⟩) (P_sub hP.1 [0] rfl) hX hE hS rfl rfl rfl hl.1 rfl (Nat.le_of_ble_eq_true rfl) dX12_warStep_3 ⟨Nat.le_of_ble_eq_true rfl, Nat.le_of_ble_eq_true rfl⟩ ?_
  refine lv_istore_n (lv' := [(1, .int z_90), (0, .ref (A_m 0))]) hx hb dX12_warStep_6 rfl hl (by decide) rfl (fun ls hl => ?_)
  refine lv_aload_n hx hb dX12_warStep_7 rfl (lv_at hl 1 rfl) ?_
  refine xget (i := 0) (j := 0) (k := 0) (T := TX12) hx hb ht tb_iX12 hown hX hP.1 rfl rfl rfl (by decide) tb_1229 rfl dX12_warStep_8 ?_
  refine lv_sipush (v := 1957) hx hb dX12_warStep_11 (by decide) ?_
  obtain ⟨y_91, e_y_91, h⟩ := bi h
  refine xiald (i0 := 0) (j0 := 1) hx hb hX hP.1 rfl rfl e_y_91 dX12_warStep_14 ?_
  refine lv_istore_n (lv' := [(2, .int y_91), (1, .int z_90), (0, .ref (A_m 0))]) hx hb dX12_warStep_15 rfl hl (by decide) rfl (fun ls hl => ?_)
  refine lv_sipush (v := 2072) hx hb dX12_warStep_16 (by decide) ?_
  refine lv_bipush (v := 6) hx hb dX12_warStep_19 (by decide) ?_
  refine lv_iload_n hx hb dX12_warStep_21 rfl (lv_at hl 0 rfl) ?_
  refine lv_imul hx hb dX12_warStep_22 ?_
  refine lv_iadd hx hb dX12_warStep_23 ?_
  refine lv_topi (fun x3_92 e_x3_92 => ?_)
  have h := bn e_x3_92 h
  refine lv_istore_n (lv' := [(3, .int x3_92), (2, .int y_91), (1, .int z_90), (0, .ref (A_m 0))]) hx hb dX12_warStep_24 rfl hl (by decide) rfl (fun ls hl => ?_)
  refine lv_iload_n hx hb dX12_warStep_25 rfl (lv_at hl 2 rfl) ?_
  refine lv_bipush (v := 12) hx hb dX12_warStep_26 (by decide) ?_
  refine lv_icmp_eq (tgt := 37) hx hb dX12_warStep_28 (by decide) (fun c_93 => ?_) (fun c_93 => ?_)
  · have h := it c_93 h
    refine lv_iconst (v := 1) hx hb dX12_warStep_37 (by decide) ?_
    refine lv_goto (tgt := 42) hx hb dX12_warStep_38 (by decide) ?_
    exact j42 m_at m_token m_from m_end m_value m_faultPlace m_faults m_opened m_depth m_counted z_90 y_91 x3_92 1 _ _ hP hS ls (lv_sub hl [3, 2, 1, 0] rfl) h
  · have h := ie c_93 h
    refine lv_iload_n hx hb dX12_warStep_31 rfl (lv_at hl 2 rfl) ?_
    refine lv_bipush (v := 13) hx hb dX12_warStep_32 (by decide) ?_
    refine lv_icmp_ne (tgt := 41) hx hb dX12_warStep_34 (by decide) (fun c_94 => ?_) (fun c_94 => ?_)
    · have h := ie c_94 h
      refine lv_iconst (v := 0) hx hb dX12_warStep_41 (by decide) ?_
      exact j42 m_at m_token m_from m_end m_value m_faultPlace m_faults m_opened m_depth m_counted z_90 y_91 x3_92 0 _ _ hP hS ls (lv_sub hl [3, 2, 1, 0] rfl) h
    · have h := it c_94 h
      refine lv_iconst (v := 1) hx hb dX12_warStep_37 (by decide) ?_
      refine lv_goto (tgt := 42) hx hb dX12_warStep_38 (by decide) ?_
      exact j42 m_at m_token m_from m_end m_value m_faultPlace m_faults m_opened m_depth m_counted z_90 y_91 x3_92 1 _ _ hP hS ls (lv_sub hl [3, 2, 1, 0] rfl) h
theorem dX12_war_0 : decode cX12_war 0 = .ok (.aload_n 0, 1) := by decide +kernel
theorem dX12_war_1 : decode cX12_war 1 = .ok (.iload_n 1, 1) := by decide +kernel
theorem dX12_war_2 : decode cX12_war 2 = .ok (.sipush 300, 3) := by decide +kernel
theorem dX12_war_5 : decode cX12_war 5 = .ok (.invokevirtual 213, 3) := by decide +kernel
theorem dX12_war_8 : decode cX12_war 8 = .ok (.ifCond .ne 9, 3) := by decide +kernel
theorem dX12_war_11 : decode cX12_war 11 = .ok (.aload_n 0, 1) := by decide +kernel
theorem dX12_war_12 : decode cX12_war 12 = .ok (.iconst 1, 1) := by decide +kernel
theorem dX12_war_13 : decode cX12_war 13 = .ok (.invokevirtual 85, 3) := by decide +kernel
theorem dX12_war_16 : decode cX12_war 16 = .ok (.ireturn, 1) := by decide +kernel
theorem dX12_war_17 : decode cX12_war 17 = .ok (.aload_n 0, 1) := by decide +kernel
theorem dX12_war_18 : decode cX12_war 18 = .ok (.getfield 7, 3) := by decide +kernel
theorem dX12_war_21 : decode cX12_war 21 = .ok (.sipush 1957, 3) := by decide +kernel
theorem dX12_war_24 : decode cX12_war 24 = .ok (.iconst 0, 1) := by decide +kernel
theorem dX12_war_25 : decode cX12_war 25 = .ok (.iastore, 1) := by decide +kernel
theorem dX12_war_26 : decode cX12_war 26 = .ok (.aload_n 0, 1) := by decide +kernel
theorem dX12_war_27 : decode cX12_war 27 = .ok (.iconst 0, 1) := by decide +kernel
theorem dX12_war_28 : decode cX12_war 28 = .ok (.putfield 229, 3) := by decide +kernel
theorem dX12_war_31 : decode cX12_war 31 = .ok (.aload_n 0, 1) := by decide +kernel
theorem dX12_war_32 : decode cX12_war 32 = .ok (.iconst 0, 1) := by decide +kernel
theorem dX12_war_33 : decode cX12_war 33 = .ok (.putfield 232, 3) := by decide +kernel
theorem dX12_war_36 : decode cX12_war 36 = .ok (.iconst 1, 1) := by decide +kernel
theorem dX12_war_37 : decode cX12_war 37 = .ok (.istore_n 2, 1) := by decide +kernel
theorem dX12_war_38 : decode cX12_war 38 = .ok (.iload_n 2, 1) := by decide +kernel
theorem dX12_war_39 : decode cX12_war 39 = .ok (.ifCond .eq 18, 3) := by decide +kernel
theorem dX12_war_42 : decode cX12_war 42 = .ok (.aload_n 0, 1) := by decide +kernel
theorem dX12_war_43 : decode cX12_war 43 = .ok (.getfield 129, 3) := by decide +kernel
theorem dX12_war_46 : decode cX12_war 46 = .ok (.ifCond .eq 11, 3) := by decide +kernel
theorem dX12_war_49 : decode cX12_war 49 = .ok (.aload_n 0, 1) := by decide +kernel
theorem dX12_war_50 : decode cX12_war 50 = .ok (.invokevirtual 238, 3) := by decide +kernel
theorem dX12_war_53 : decode cX12_war 53 = .ok (.istore_n 2, 1) := by decide +kernel
theorem dX12_war_54 : decode cX12_war 54 = .ok (.goto (-16), 3) := by decide +kernel
theorem dX12_war_57 : decode cX12_war 57 = .ok (.aload_n 0, 1) := by decide +kernel
theorem dX12_war_58 : decode cX12_war 58 = .ok (.getfield 154, 3) := by decide +kernel
theorem dX12_war_61 : decode cX12_war 61 = .ok (.ifCond .ne 16, 3) := by decide +kernel
theorem dX12_war_64 : decode cX12_war 64 = .ok (.aload_n 0, 1) := by decide +kernel
theorem dX12_war_65 : decode cX12_war 65 = .ok (.getfield 229, 3) := by decide +kernel
theorem dX12_war_68 : decode cX12_war 68 = .ok (.ifCond .le 9, 3) := by decide +kernel
theorem dX12_war_71 : decode cX12_war 71 = .ok (.aload_n 0, 1) := by decide +kernel
theorem dX12_war_72 : decode cX12_war 72 = .ok (.iconst 2, 1) := by decide +kernel
theorem dX12_war_73 : decode cX12_war 73 = .ok (.invokevirtual 166, 3) := by decide +kernel
theorem dX12_war_76 : decode cX12_war 76 = .ok (.pop, 1) := by decide +kernel
theorem dX12_war_77 : decode cX12_war 77 = .ok (.aload_n 0, 1) := by decide +kernel
theorem dX12_war_78 : decode cX12_war 78 = .ok (.getfield 154, 3) := by decide +kernel
theorem dX12_war_81 : decode cX12_war 81 = .ok (.ifCond .ne 49, 3) := by decide +kernel
theorem dX12_war_84 : decode cX12_war 84 = .ok (.aload_n 0, 1) := by decide +kernel
theorem dX12_war_85 : decode cX12_war 85 = .ok (.getfield 7, 3) := by decide +kernel
theorem dX12_war_88 : decode cX12_war 88 = .ok (.iconst 5, 1) := by decide +kernel
theorem dX12_war_89 : decode cX12_war 89 = .ok (.aload_n 0, 1) := by decide +kernel
theorem dX12_war_90 : decode cX12_war 90 = .ok (.getfield 7, 3) := by decide +kernel
theorem dX12_war_93 : decode cX12_war 93 = .ok (.sipush 1957, 3) := by decide +kernel
theorem dX12_war_96 : decode cX12_war 96 = .ok (.iaload, 1) := by decide +kernel
theorem dX12_war_97 : decode cX12_war 97 = .ok (.iastore, 1) := by decide +kernel
theorem dX12_war_98 : decode cX12_war 98 = .ok (.bipush 120, 2) := by decide +kernel
theorem dX12_war_100 : decode cX12_war 100 = .ok (.istore_n 3, 1) := by decide +kernel
theorem dX12_war_101 : decode cX12_war 101 = .ok (.iload_n 3, 1) := by decide +kernel
theorem dX12_war_102 : decode cX12_war 102 = .ok (.sipush 480, 3) := by decide +kernel
theorem dX12_war_105 : decode cX12_war 105 = .ok (.if_icmp .ge 25, 3) := by decide +kernel
theorem dX12_war_108 : decode cX12_war 108 = .ok (.aload_n 0, 1) := by decide +kernel
theorem dX12_war_109 : decode cX12_war 109 = .ok (.getfield 7, 3) := by decide +kernel
theorem dX12_war_112 : decode cX12_war 112 = .ok (.iload_n 3, 1) := by decide +kernel
theorem dX12_war_113 : decode cX12_war 113 = .ok (.aload_n 0, 1) := by decide +kernel
theorem dX12_war_114 : decode cX12_war 114 = .ok (.getfield 7, 3) := by decide +kernel
theorem dX12_war_117 : decode cX12_war 117 = .ok (.sipush 1952, 3) := by decide +kernel
theorem dX12_war_120 : decode cX12_war 120 = .ok (.iload_n 3, 1) := by decide +kernel
theorem dX12_war_121 : decode cX12_war 121 = .ok (.iadd, 1) := by decide +kernel
theorem dX12_war_122 : decode cX12_war 122 = .ok (.iaload, 1) := by decide +kernel
theorem dX12_war_123 : decode cX12_war 123 = .ok (.iastore, 1) := by decide +kernel
theorem dX12_war_124 : decode cX12_war 124 = .ok (.iinc 3 1, 3) := by decide +kernel
theorem dX12_war_127 : decode cX12_war 127 = .ok (.goto (-26), 3) := by decide +kernel
theorem dX12_war_130 : decode cX12_war 130 = .ok (.aload_n 0, 1) := by decide +kernel
theorem dX12_war_131 : decode cX12_war 131 = .ok (.aload_n 0, 1) := by decide +kernel
theorem dX12_war_132 : decode cX12_war 132 = .ok (.getfield 232, 3) := by decide +kernel
theorem dX12_war_135 : decode cX12_war 135 = .ok (.invokevirtual 220, 3) := by decide +kernel
theorem dX12_war_138 : decode cX12_war 138 = .ok (.ireturn, 1) := by decide +kernel
theorem mv_X12_war : MV yX12_war RX12 cX12_war 4 (some .int) 1 := ⟨tb_1506, tb_1504, tb_1505, tb_16, by decide +kernel, by decide +kernel, by decide +kernel⟩
def f_X12_war_b101 (fu : Nat) (m_names : Nat → Int64) (m_tape : Nat → Int32) (x1 : Int32) (k101 : (Nat → Int32) → Int32 → (Nat → Int32) → Int32 → Int32 → Int32 → Int32 → Int32 → Int32 → Int32 → Int32 → Int32 → Int32 → (Nat → Int32) → Int32 → Int32 → Int32 → (Option (Int32 × (Nat → Int32) × Int32 × (Nat → Int32) × Int32 × Int32 × Int32 × Int32 × Int32 × Int32 × Int32 × Int32 × Int32 × Int32 × (Nat → Int32) × Int32 × Int32))) (m_at : Nat → Int32) (m_status : Int32) (m_text : Nat → Int32) (m_taped : Int32) (m_size : Int32) (m_token : Int32) (m_from : Int32) (m_end : Int32) (m_value : Int32) (m_faultKind : Int32) (m_faultPlace : Int32) (m_faults : Int32) (m_seen : Int32) (m_opened : Nat → Int32) (m_depth : Int32) (m_counted : Int32) (x3 : Int32) : Option (Int32 × (Nat → Int32) × Int32 × (Nat → Int32) × Int32 × Int32 × Int32 × Int32 × Int32 × Int32 × Int32 × Int32 × Int32 × Int32 × (Nat → Int32) × Int32 × Int32) := (if 480 ≤ x3 then (f_X12_taken fu m_status m_faultKind m_faults m_counted).bind fun z_21 => some (z_21.1, m_at, z_21.2.1, m_text, m_taped, m_size, m_token, m_from, m_end, m_value, z_21.2.2, m_faultPlace, m_faults, m_seen, m_opened, m_depth, m_counted) else (rdI m_at 3648 (1952 + x3)).bind fun y_22 => (wrI m_at 3648 x3 y_22).bind fun m_at_23 => bnd (x3 + 1) fun x3_24 => k101 m_at_23 m_status m_text m_taped m_size m_token m_from m_end m_value m_faultKind m_faultPlace m_faults m_seen m_opened m_depth m_counted x3_24)
def f_X12_war_l101 (fu : Nat) (m_names : Nat → Int64) (m_tape : Nat → Int32) (x1 : Int32) : Nat → (Nat → Int32) → Int32 → (Nat → Int32) → Int32 → Int32 → Int32 → Int32 → Int32 → Int32 → Int32 → Int32 → Int32 → Int32 → (Nat → Int32) → Int32 → Int32 → Int32 → (Option (Int32 × (Nat → Int32) × Int32 × (Nat → Int32) × Int32 × Int32 × Int32 × Int32 × Int32 × Int32 × Int32 × Int32 × Int32 × Int32 × (Nat → Int32) × Int32 × Int32))
  | 0, _, _, _, _, _, _, _, _, _, _, _, _, _, _, _, _, _ => none
  | n + 1, m_at, m_status, m_text, m_taped, m_size, m_token, m_from, m_end, m_value, m_faultKind, m_faultPlace, m_faults, m_seen, m_opened, m_depth, m_counted, x3 => f_X12_war_b101 fu m_names m_tape x1 (f_X12_war_l101 fu m_names m_tape x1 n) m_at m_status m_text m_taped m_size m_token m_from m_end m_value m_faultKind m_faultPlace m_faults m_seen m_opened m_depth m_counted x3
def f_X12_war_j77 (fu : Nat) (m_names : Nat → Int64) (m_tape : Nat → Int32) (x1 : Int32) (m_at : Nat → Int32) (m_status : Int32) (m_text : Nat → Int32) (m_taped : Int32) (m_size : Int32) (m_token : Int32) (m_from : Int32) (m_end : Int32) (m_value : Int32) (m_faultKind : Int32) (m_faultPlace : Int32) (m_faults : Int32) (m_seen : Int32) (m_opened : Nat → Int32) (m_depth : Int32) (m_counted : Int32) : Option (Int32 × (Nat → Int32) × Int32 × (Nat → Int32) × Int32 × Int32 × Int32 × Int32 × Int32 × Int32 × Int32 × Int32 × Int32 × Int32 × (Nat → Int32) × Int32 × Int32) := (if m_faults = 0 then (rdI m_at 3648 1957).bind fun y_27 => (wrI m_at 3648 5 y_27).bind fun m_at_28 => f_X12_war_l101 fu m_names m_tape x1 fu m_at_28 m_status m_text m_taped m_size m_token m_from m_end m_value m_faultKind m_faultPlace m_faults m_seen m_opened m_depth m_counted 120 else (f_X12_taken fu m_status m_faultKind m_faults m_counted).bind fun z_26 => some (z_26.1, m_at, z_26.2.1, m_text, m_taped, m_size, m_token, m_from, m_end, m_value, z_26.2.2, m_faultPlace, m_faults, m_seen, m_opened, m_depth, m_counted))
def f_X12_war_j57 (fu : Nat) (m_names : Nat → Int64) (m_tape : Nat → Int32) (x1 : Int32) (m_at : Nat → Int32) (m_status : Int32) (m_text : Nat → Int32) (m_taped : Int32) (m_size : Int32) (m_token : Int32) (m_from : Int32) (m_end : Int32) (m_value : Int32) (m_faultKind : Int32) (m_faultPlace : Int32) (m_faults : Int32) (m_seen : Int32) (m_opened : Nat → Int32) (m_depth : Int32) (m_counted : Int32) : Option (Int32 × (Nat → Int32) × Int32 × (Nat → Int32) × Int32 × Int32 × Int32 × Int32 × Int32 × Int32 × Int32 × Int32 × Int32 × Int32 × (Nat → Int32) × Int32 × Int32) := (if m_faults = 0 then (if m_depth ≤ 0 then f_X12_war_j77 fu m_names m_tape x1 m_at m_status m_text m_taped m_size m_token m_from m_end m_value m_faultKind m_faultPlace m_faults m_seen m_opened m_depth m_counted else (f_X12_fails fu m_token m_from m_faultPlace m_faults 2).bind fun z_31 => f_X12_war_j77 fu m_names m_tape x1 m_at m_status m_text m_taped m_size m_token m_from m_end m_value m_faultKind z_31.2.1 z_31.2.2 m_seen m_opened m_depth m_counted) else f_X12_war_j77 fu m_names m_tape x1 m_at m_status m_text m_taped m_size m_token m_from m_end m_value m_faultKind m_faultPlace m_faults m_seen m_opened m_depth m_counted)
def f_X12_war_b38 (fu : Nat) (m_names : Nat → Int64) (m_tape : Nat → Int32) (x1 : Int32) (k38 : (Nat → Int32) → Int32 → (Nat → Int32) → Int32 → Int32 → Int32 → Int32 → Int32 → Int32 → Int32 → Int32 → Int32 → Int32 → (Nat → Int32) → Int32 → Int32 → Int32 → (Option (Int32 × (Nat → Int32) × Int32 × (Nat → Int32) × Int32 × Int32 × Int32 × Int32 × Int32 × Int32 × Int32 × Int32 × Int32 × Int32 × (Nat → Int32) × Int32 × Int32))) (m_at : Nat → Int32) (m_status : Int32) (m_text : Nat → Int32) (m_taped : Int32) (m_size : Int32) (m_token : Int32) (m_from : Int32) (m_end : Int32) (m_value : Int32) (m_faultKind : Int32) (m_faultPlace : Int32) (m_faults : Int32) (m_seen : Int32) (m_opened : Nat → Int32) (m_depth : Int32) (m_counted : Int32) (x2 : Int32) : Option (Int32 × (Nat → Int32) × Int32 × (Nat → Int32) × Int32 × Int32 × Int32 × Int32 × Int32 × Int32 × Int32 × Int32 × Int32 × Int32 × (Nat → Int32) × Int32 × Int32) := (if x2 = 0 then f_X12_war_j57 fu m_names m_tape x1 m_at m_status m_text m_taped m_size m_token m_from m_end m_value m_faultKind m_faultPlace m_faults m_seen m_opened m_depth m_counted else (if m_token = 0 then f_X12_war_j57 fu m_names m_tape x1 m_at m_status m_text m_taped m_size m_token m_from m_end m_value m_faultKind m_faultPlace m_faults m_seen m_opened m_depth m_counted else (f_X12_warStep fu m_at m_names m_text m_size m_token m_from m_end m_value m_faultPlace m_faults m_opened m_depth m_counted).bind fun z_34 => k38 z_34.2.1 m_status m_text m_taped m_size z_34.2.2.1 z_34.2.2.2.1 z_34.2.2.2.2.1 z_34.2.2.2.2.2.1 m_faultKind z_34.2.2.2.2.2.2.1 z_34.2.2.2.2.2.2.2.1 m_seen z_34.2.2.2.2.2.2.2.2.1 z_34.2.2.2.2.2.2.2.2.2.1 z_34.2.2.2.2.2.2.2.2.2.2 z_34.1))
def f_X12_war_l38 (fu : Nat) (m_names : Nat → Int64) (m_tape : Nat → Int32) (x1 : Int32) : Nat → (Nat → Int32) → Int32 → (Nat → Int32) → Int32 → Int32 → Int32 → Int32 → Int32 → Int32 → Int32 → Int32 → Int32 → Int32 → (Nat → Int32) → Int32 → Int32 → Int32 → (Option (Int32 × (Nat → Int32) × Int32 × (Nat → Int32) × Int32 × Int32 × Int32 × Int32 × Int32 × Int32 × Int32 × Int32 × Int32 × Int32 × (Nat → Int32) × Int32 × Int32))
  | 0, _, _, _, _, _, _, _, _, _, _, _, _, _, _, _, _, _ => none
  | n + 1, m_at, m_status, m_text, m_taped, m_size, m_token, m_from, m_end, m_value, m_faultKind, m_faultPlace, m_faults, m_seen, m_opened, m_depth, m_counted, x2 => f_X12_war_b38 fu m_names m_tape x1 (f_X12_war_l38 fu m_names m_tape x1 n) m_at m_status m_text m_taped m_size m_token m_from m_end m_value m_faultKind m_faultPlace m_faults m_seen m_opened m_depth m_counted x2
def f_X12_war (fu : Nat) (m_at : Nat → Int32) (m_names : Nat → Int64) (m_status : Int32) (m_tape : Nat → Int32) (m_text : Nat → Int32) (m_taped : Int32) (m_size : Int32) (m_token : Int32) (m_from : Int32) (m_end : Int32) (m_value : Int32) (m_faultKind : Int32) (m_faultPlace : Int32) (m_faults : Int32) (m_seen : Int32) (m_opened : Nat → Int32) (m_depth : Int32) (m_counted : Int32) (x1 : Int32) : Option (Int32 × (Nat → Int32) × Int32 × (Nat → Int32) × Int32 × Int32 × Int32 × Int32 × Int32 × Int32 × Int32 × Int32 × Int32 × Int32 × (Nat → Int32) × Int32 × Int32) := (f_X12_begins fu m_tape m_text m_taped m_size m_token m_from m_end m_value m_faultPlace m_faults m_seen x1 300).bind fun z_35 => (if z_35.1 = 0 then (f_X12_refuse fu m_status 1).bind fun z_38 => some (z_38.1, m_at, z_38.2, z_35.2.1, z_35.2.2.1, z_35.2.2.2.1, z_35.2.2.2.2.1, z_35.2.2.2.2.2.1, z_35.2.2.2.2.2.2.1, z_35.2.2.2.2.2.2.2.1, m_faultKind, z_35.2.2.2.2.2.2.2.2.1, z_35.2.2.2.2.2.2.2.2.2.1, z_35.2.2.2.2.2.2.2.2.2.2, m_opened, m_depth, m_counted) else (wrI m_at 3648 1957 0).bind fun m_at_37 => f_X12_war_l38 fu m_names m_tape x1 fu m_at_37 m_status z_35.2.1 z_35.2.2.1 z_35.2.2.2.1 z_35.2.2.2.2.1 z_35.2.2.2.2.2.1 z_35.2.2.2.2.2.2.1 z_35.2.2.2.2.2.2.2.1 m_faultKind z_35.2.2.2.2.2.2.2.2.1 z_35.2.2.2.2.2.2.2.2.2.1 z_35.2.2.2.2.2.2.2.2.2.2 m_opened 0 0 1)
abbrev rm_X12_war : Room := { frames := 11, cells := 0, slots := 0, locals := 245 }
set_option maxHeartbeats 4000000 in
set_option maxRecDepth 100000 in
theorem c_X12_war (l : Launch) (D : va_G) (cy : Nat → ClassId) (fu : Nat) (tO : Nat) (aK aV : Nat → Nat) (A_m : Nat → Nat) (m_at : Nat → Int32) (m_names : Nat → Int64) (m_status : Int32) (m_top : Int64) (m_bottom : Int64) (m_sort : Nat → Int32) (m_trayMany : Nat → Int32) (m_trays : Nat → Int64) (m_tape : Nat → Int32) (m_text : Nat → Int32) (m_taped : Int32) (m_size : Int32) (m_token : Int32) (m_from : Int32) (m_end : Int32) (m_value : Int32) (m_faultKind : Int32) (m_faultPlace : Int32) (m_faults : Int32) (m_seen : Int32) (m_toldParts : Int32) (m_opened : Nat → Int32) (m_depth : Int32) (m_counted : Int32) (m_bestOrder : Int32) (m_standers : Nat → Int32) (m_has : Nat → Int32) (m_bestHas : Nat → Int32) (m_standerMany : Int32) (m_bestCouples : Int32) (m_bestFondness : Int32) (m_cameTo : Nat → Int32) (m_doesStandFirst : Int32) (m_stoodBy : Nat → Int64) (m_drawn : Int32) (m_ranSteps : Int32) (m_loops : Nat → Int32) (m_ran : Nat → Int32) (m_told1 : Nat → Int32) (m_isTold : Int32) (m_marks : Int32) (x1 : Int32) (res : Int32 × (Nat → Int32) × Int32 × (Nat → Int32) × Int32 × Int32 × Int32 × Int32 × Int32 × Int32 × Int32 × Int32 × Int32 × Int32 × (Nat → Int32) × Int32 × Int32) (h : f_X12_war fu m_at m_names m_status m_tape m_text m_taped m_size m_token m_from m_end m_value m_faultKind m_faultPlace m_faults m_seen m_opened m_depth m_counted x1 = some res) (A : Nat → Prop) (hA : A = adr [bl_X12 cy A_m m_at m_names m_status m_top m_bottom m_sort m_trayMany m_trays m_tape m_text m_taped m_size m_token m_from m_end m_value m_faultKind m_faultPlace m_faults m_seen m_toldParts m_opened m_depth m_counted m_bestOrder m_standers m_has m_bestHas m_standerMany m_bestCouples m_bestFondness m_cameTo m_doesStandFirst m_stoodBy m_drawn m_ranSteps m_loops m_ran m_told1 m_isTold m_marks]) (W1 : List va_W) (hW1 : W1 = [bl_X12 cy A_m res.2.1 m_names res.2.2.1 m_top m_bottom m_sort m_trayMany m_trays m_tape res.2.2.2.1 res.2.2.2.2.1 res.2.2.2.2.2.1 res.2.2.2.2.2.2.1 res.2.2.2.2.2.2.2.1 res.2.2.2.2.2.2.2.2.1 res.2.2.2.2.2.2.2.2.2.1 res.2.2.2.2.2.2.2.2.2.2.1 res.2.2.2.2.2.2.2.2.2.2.2.1 res.2.2.2.2.2.2.2.2.2.2.2.2.1 res.2.2.2.2.2.2.2.2.2.2.2.2.2.1 m_toldParts res.2.2.2.2.2.2.2.2.2.2.2.2.2.2.1 res.2.2.2.2.2.2.2.2.2.2.2.2.2.2.2.1 res.2.2.2.2.2.2.2.2.2.2.2.2.2.2.2.2 m_bestOrder m_standers m_has m_bestHas m_standerMany m_bestCouples m_bestFondness m_cameTo m_doesStandFirst m_stoodBy m_drawn m_ranSteps m_loops m_ran m_told1 m_isTold m_marks]) : Met l yX12_war (WW yX12_war cX12_war 4 (some .int)) rm_X12_war (EdX D cy tO aK aV A [.ref (A_m 0), .int x1] [bl_X12 cy A_m m_at m_names m_status m_top m_bottom m_sort m_trayMany m_trays m_tape m_text m_taped m_size m_token m_from m_end m_value m_faultKind m_faultPlace m_faults m_seen m_toldParts m_opened m_depth m_counted m_bestOrder m_standers m_has m_bestHas m_standerMany m_bestCouples m_bestFondness m_cameTo m_doesStandFirst m_stoodBy m_drawn m_ranSteps m_loops m_ran m_told1 m_isTold m_marks]) (Qei D res.1 A W1) 0 0 A := by
  refine Met.ofW (cc := cX12_war) (maxL := 4) (ret := (some .int)) (by decide) rfl ?_
  intro p e s m args below meth c s₁ B hml hv
  obtain ⟨hargs, hP, hX, hD0, hE⟩ := hv
  have hx := B.exec
  have hb := B.bytes
  have hr := B.returns
  have ht : ∀ w ∈ lw_gd, w.before args s = true := fun w hw => atoms_spec (ws := WW yX12_war cX12_war 4 (some .int)) B.pre w (List.mem_cons_of_mem _ hw)
  have hown : s.vm.findClass RX12 = some m.cls := findClass_of_methodNamed B.named
  have hlocks := B.notSynchronized
  have hP : PD D A [bl_X12 cy A_m m_at m_names m_status m_top m_bottom m_sort m_trayMany m_trays m_tape m_text m_taped m_size m_token m_from m_end m_value m_faultKind m_faultPlace m_faults m_seen m_toldParts m_opened m_depth m_counted m_bestOrder m_standers m_has m_bestHas m_standerMany m_bestCouples m_bestFondness m_cameTo m_doesStandFirst m_stoodBy m_drawn m_ranSteps m_loops m_ran m_told1 m_isTold m_marks] s.heap := ⟨hP, by rw [hA]; exact hD0.own⟩
  have hS : va_S A s.heap s.heap [] := va_S.rf
  obtain ⟨ls, hl, hent⟩ := ent (m := m) (n := 4) hargs (Nat.le_of_ble_eq_true rfl) (lv := [(0, .ref (A_m 0)), (1, .int x1)]) rfl
  rw [hent]
  clear hent
  have l101 : ∀ (n101 : Nat) (m_at : Nat → Int32) (m_status : Int32) (m_text : Nat → Int32) (m_taped : Int32) (m_size : Int32) (m_token : Int32) (m_from : Int32) (m_end : Int32) (m_value : Int32) (m_faultKind : Int32) (m_faultPlace : Int32) (m_faults : Int32) (m_seen : Int32) (m_opened : Nat → Int32) (m_depth : Int32) (m_counted : Int32) (x3 : Int32) (H : Heap) (locs : List Loc) (_ : PD D A [bl_X12 cy A_m m_at m_names m_status m_top m_bottom m_sort m_trayMany m_trays m_tape m_text m_taped m_size m_token m_from m_end m_value m_faultKind m_faultPlace m_faults m_seen m_toldParts m_opened m_depth m_counted m_bestOrder m_standers m_has m_bestHas m_standerMany m_bestCouples m_bestFondness m_cameTo m_doesStandFirst m_stoodBy m_drawn m_ranSteps m_loops m_ran m_told1 m_isTold m_marks] H) (_ : va_S A s.heap H locs) (ls : Array Slot), lv_has ls 4 [(0, .ref (A_m 0)), (3, .int x3)] → f_X12_war_l101 fu m_names m_tape x1 n101 m_at m_status m_text m_taped m_size m_token m_from m_end m_value m_faultKind m_faultPlace m_faults m_seen m_opened m_depth m_counted x3 = some res → W p l e (headSpec (WW yX12_war cX12_war 4 (some .int)) rm_X12_war).room s m args below meth c H locs 0 0 (MQ below (Qei D res.1 A W1) args s 0 0 A) (F0 m 101 ls []) := by
    intro n101
    induction n101 with
    | zero => intro m_at m_status m_text m_taped m_size m_token m_from m_end m_value m_faultKind m_faultPlace m_faults m_seen m_opened m_depth m_counted x3 H locs hP hS ls hl h; cases h
    | succ n101 ih101 =>
      intro m_at m_status m_text m_taped m_size m_token m_from m_end m_value m_faultKind m_faultPlace m_faults m_seen m_opened m_depth m_counted x3 H locs hP hS ls hl h
      have h : f_X12_war_b101 fu m_names m_tape x1 (f_X12_war_l101 fu m_names m_tape x1 n101) m_at m_status m_text m_taped m_size m_token m_from m_end m_value m_faultKind m_faultPlace m_faults m_seen m_opened m_depth m_counted x3 = some res := h
      unfold f_X12_war_b101 at h
      refine lv_iload_n hx hb dX12_war_101 rfl (lv_at hl 1 rfl) ?_
      refine lv_sipush (v := 480) hx hb dX12_war_102 (by decide) ?_
      refine lv_icmp_ge (tgt := 130) hx hb dX12_war_105 (by decide) (fun c_20 => ?_) (fun c_20 => ?_)
      · have h := it c_20 h
        refine lv_aload_n hx hb dX12_war_130 rfl (lv_at hl 0 rfl) ?_
        refine lv_aload_n hx hb dX12_war_131 rfl (lv_at hl 0 rfl) ?_
        refine xget (i := 0) (j := 0) (k := 23) (T := TX12) hx hb ht tb_iX12 hown hX hP.1 rfl rfl rfl (by decide) tb_1252 rfl dX12_war_132 ?_
        obtain ⟨z_21, e_z_21, h⟩ := bi h
        refine efVi (rest := []) ⟨hx, hb, hml, hown, ht⟩ (c_X12_taken l D cy fu A_m m_at m_names m_status m_top m_bottom m_sort m_trayMany m_trays m_tape m_text m_taped m_size m_token m_from m_end m_value m_faultKind m_faultPlace m_faults m_seen m_toldParts m_opened m_depth m_counted m_bestOrder m_standers m_has m_bestHas m_standerMany m_bestCouples m_bestFondness m_cameTo m_doesStandFirst m_stoodBy m_drawn m_ranSteps m_loops m_ran m_told1 m_isTold m_marks m_counted z_21 e_z_21 _ rfl _ rfl) (cV ht mv_X12_taken tb_1495 rfl rfl ⟨Nat.le_of_ble_eq_true rfl, Nat.le_of_ble_eq_true rfl⟩) hP hS hX [0] rfl rfl rfl rfl rfl rfl hl.1 rfl (Nat.le_of_ble_eq_true rfl) dX12_war_135 ⟨Nat.le_of_ble_eq_true rfl, Nat.le_of_ble_eq_true rfl⟩ (fun H locs hP hS => ?_)
        have hP : PD D A [bl_X12 cy A_m m_at m_names z_21.2.1 m_top m_bottom m_sort m_trayMany m_trays m_tape m_text m_taped m_size m_token m_from m_end m_value z_21.2.2 m_faultPlace m_faults m_seen m_toldParts m_opened m_depth m_counted m_bestOrder m_standers m_has m_bestHas m_standerMany m_bestCouples m_bestFondness m_cameTo m_doesStandFirst m_stoodBy m_drawn m_ranSteps m_loops m_ran m_told1 m_isTold m_marks] H := hP
        cases h
        subst hW1
        exact W.iret hx hb hr (fun _ ht9 _ => ⟨⟨_, (), rfl, rfl, hPt ht9 hP.1⟩, hS.F ht9⟩) hS.2.2 dX12_war_138
      · have h := ie c_20 h
        refine lv_aload_n hx hb dX12_war_108 rfl (lv_at hl 0 rfl) ?_
        refine xget (i := 0) (j := 0) (k := 0) (T := TX12) hx hb ht tb_iX12 hown hX hP.1 rfl rfl rfl (by decide) tb_1229 rfl dX12_war_109 ?_
        refine lv_iload_n hx hb dX12_war_112 rfl (lv_at hl 1 rfl) ?_
        refine lv_aload_n hx hb dX12_war_113 rfl (lv_at hl 0 rfl) ?_
        refine xget (i := 0) (j := 0) (k := 0) (T := TX12) hx hb ht tb_iX12 hown hX hP.1 rfl rfl rfl (by decide) tb_1229 rfl dX12_war_114 ?_
        refine lv_sipush (v := 1952) hx hb dX12_war_117 (by decide) ?_
        refine lv_iload_n hx hb dX12_war_120 rfl (lv_at hl 1 rfl) ?_
        refine lv_iadd hx hb dX12_war_121 ?_
        obtain ⟨y_22, e_y_22, h⟩ := bi h
        refine xiald (i0 := 0) (j0 := 1) hx hb hX hP.1 rfl rfl e_y_22 dX12_war_122 ?_
        obtain ⟨m_at_23, e_m_at_23, h⟩ := bi h
        refine xiast (i0 := 0) (j0 := 1) hx hb hX hP hS rfl rfl e_m_at_23 dX12_war_123 (fun H locs hP hS => ?_)
        have hP : PD D A [bl_X12 cy A_m m_at_23 m_names m_status m_top m_bottom m_sort m_trayMany m_trays m_tape m_text m_taped m_size m_token m_from m_end m_value m_faultKind m_faultPlace m_faults m_seen m_toldParts m_opened m_depth m_counted m_bestOrder m_standers m_has m_bestHas m_standerMany m_bestCouples m_bestFondness m_cameTo m_doesStandFirst m_stoodBy m_drawn m_ranSteps m_loops m_ran m_told1 m_isTold m_marks] H := hP
        obtain ⟨x3_24, e_x3_24⟩ : ∃ y : Int32, y = x3 + 1 := ⟨_, rfl⟩
        have h := bn e_x3_24 h
        refine lv_iinc (v := x3_24) (lv' := [(3, .int x3_24), (0, .ref (A_m 0))]) hx hb dX12_war_124 hl (k := 1) rfl (by rw [e_x3_24]; rfl) (by decide) rfl (fun ls hl => ?_)
        refine lv_goto (tgt := 101) hx hb dX12_war_127 (by decide) ?_
        exact ih101 m_at_23 m_status m_text m_taped m_size m_token m_from m_end m_value m_faultKind m_faultPlace m_faults m_seen m_opened m_depth m_counted x3_24 _ _ hP hS ls (lv_sub hl [1, 0] rfl) h
  have j77 : ∀ (m_at : Nat → Int32) (m_status : Int32) (m_text : Nat → Int32) (m_taped : Int32) (m_size : Int32) (m_token : Int32) (m_from : Int32) (m_end : Int32) (m_value : Int32) (m_faultKind : Int32) (m_faultPlace : Int32) (m_faults : Int32) (m_seen : Int32) (m_opened : Nat → Int32) (m_depth : Int32) (m_counted : Int32) (H : Heap) (locs : List Loc) (_ : PD D A [bl_X12 cy A_m m_at m_names m_status m_top m_bottom m_sort m_trayMany m_trays m_tape m_text m_taped m_size m_token m_from m_end m_value m_faultKind m_faultPlace m_faults m_seen m_toldParts m_opened m_depth m_counted m_bestOrder m_standers m_has m_bestHas m_standerMany m_bestCouples m_bestFondness m_cameTo m_doesStandFirst m_stoodBy m_drawn m_ranSteps m_loops m_ran m_told1 m_isTold m_marks] H) (_ : va_S A s.heap H locs) (ls : Array Slot), lv_has ls 4 [(0, .ref (A_m 0))] → f_X12_war_j77 fu m_names m_tape x1 m_at m_status m_text m_taped m_size m_token m_from m_end m_value m_faultKind m_faultPlace m_faults m_seen m_opened m_depth m_counted = some res → W p l e (headSpec (WW yX12_war cX12_war 4 (some .int)) rm_X12_war).room s m args below meth c H locs 0 0 (MQ below (Qei D res.1 A W1) args s 0 0 A) (F0 m 77 ls []) := by
    intro m_at m_status m_text m_taped m_size m_token m_from m_end m_value m_faultKind m_faultPlace m_faults m_seen m_opened m_depth m_counted H locs hP hS ls hl h
    unfold f_X12_war_j77 at h
    refine lv_aload_n hx hb dX12_war_77 rfl (lv_at hl 0 rfl) ?_
    refine xget (i := 0) (j := 0) (k := 18) (T := TX12) hx hb ht tb_iX12 hown hX hP.1 rfl rfl rfl (by decide) tb_1247 rfl dX12_war_78 ?_
    refine lv_if_ne (tgt := 130) hx hb dX12_war_81 (by decide) (fun c_25 => ?_) (fun c_25 => ?_)
    · have h := ie c_25 h
      refine lv_aload_n hx hb dX12_war_130 rfl (lv_at hl 0 rfl) ?_
      refine lv_aload_n hx hb dX12_war_131 rfl (lv_at hl 0 rfl) ?_
      refine xget (i := 0) (j := 0) (k := 23) (T := TX12) hx hb ht tb_iX12 hown hX hP.1 rfl rfl rfl (by decide) tb_1252 rfl dX12_war_132 ?_
      obtain ⟨z_26, e_z_26, h⟩ := bi h
      refine efVi (rest := []) ⟨hx, hb, hml, hown, ht⟩ (c_X12_taken l D cy fu A_m m_at m_names m_status m_top m_bottom m_sort m_trayMany m_trays m_tape m_text m_taped m_size m_token m_from m_end m_value m_faultKind m_faultPlace m_faults m_seen m_toldParts m_opened m_depth m_counted m_bestOrder m_standers m_has m_bestHas m_standerMany m_bestCouples m_bestFondness m_cameTo m_doesStandFirst m_stoodBy m_drawn m_ranSteps m_loops m_ran m_told1 m_isTold m_marks m_counted z_26 e_z_26 _ rfl _ rfl) (cV ht mv_X12_taken tb_1495 rfl rfl ⟨Nat.le_of_ble_eq_true rfl, Nat.le_of_ble_eq_true rfl⟩) hP hS hX [0] rfl rfl rfl rfl rfl rfl hl.1 rfl (Nat.le_of_ble_eq_true rfl) dX12_war_135 ⟨Nat.le_of_ble_eq_true rfl, Nat.le_of_ble_eq_true rfl⟩ (fun H locs hP hS => ?_)
      have hP : PD D A [bl_X12 cy A_m m_at m_names z_26.2.1 m_top m_bottom m_sort m_trayMany m_trays m_tape m_text m_taped m_size m_token m_from m_end m_value z_26.2.2 m_faultPlace m_faults m_seen m_toldParts m_opened m_depth m_counted m_bestOrder m_standers m_has m_bestHas m_standerMany m_bestCouples m_bestFondness m_cameTo m_doesStandFirst m_stoodBy m_drawn m_ranSteps m_loops m_ran m_told1 m_isTold m_marks] H := hP
      cases h
      subst hW1
      exact W.iret hx hb hr (fun _ ht9 _ => ⟨⟨_, (), rfl, rfl, hPt ht9 hP.1⟩, hS.F ht9⟩) hS.2.2 dX12_war_138
    · have h := it c_25 h
      refine lv_aload_n hx hb dX12_war_84 rfl (lv_at hl 0 rfl) ?_
      refine xget (i := 0) (j := 0) (k := 0) (T := TX12) hx hb ht tb_iX12 hown hX hP.1 rfl rfl rfl (by decide) tb_1229 rfl dX12_war_85 ?_
      refine lv_iconst (v := 5) hx hb dX12_war_88 (by decide) ?_
      refine lv_aload_n hx hb dX12_war_89 rfl (lv_at hl 0 rfl) ?_
      refine xget (i := 0) (j := 0) (k := 0) (T := TX12) hx hb ht tb_iX12 hown hX hP.1 rfl rfl rfl (by decide) tb_1229 rfl dX12_war_90 ?_
      refine lv_sipush (v := 1957) hx hb dX12_war_93 (by decide) ?_
      obtain ⟨y_27, e_y_27, h⟩ := bi h
      refine xiald (i0 := 0) (j0 := 1) hx hb hX hP.1 rfl rfl e_y_27 dX12_war_96 ?_
      obtain ⟨m_at_28, e_m_at_28, h⟩ := bi h
      refine xiast (i0 := 0) (j0 := 1) hx hb hX hP hS rfl rfl e_m_at_28 dX12_war_97 (fun H locs hP hS => ?_)
      have hP : PD D A [bl_X12 cy A_m m_at_28 m_names m_status m_top m_bottom m_sort m_trayMany m_trays m_tape m_text m_taped m_size m_token m_from m_end m_value m_faultKind m_faultPlace m_faults m_seen m_toldParts m_opened m_depth m_counted m_bestOrder m_standers m_has m_bestHas m_standerMany m_bestCouples m_bestFondness m_cameTo m_doesStandFirst m_stoodBy m_drawn m_ranSteps m_loops m_ran m_told1 m_isTold m_marks] H := hP
      refine lv_bipush (v := 120) hx hb dX12_war_98 (by decide) ?_
      refine lv_istore_n (lv' := [(3, .int 120), (0, .ref (A_m 0))]) hx hb dX12_war_100 rfl hl (by decide) rfl (fun ls hl => ?_)
      exact l101 fu m_at_28 m_status m_text m_taped m_size m_token m_from m_end m_value m_faultKind m_faultPlace m_faults m_seen m_opened m_depth m_counted 120 _ _ hP hS ls (lv_sub hl [1, 0] rfl) h
  have j57 : ∀ (m_at : Nat → Int32) (m_status : Int32) (m_text : Nat → Int32) (m_taped : Int32) (m_size : Int32) (m_token : Int32) (m_from : Int32) (m_end : Int32) (m_value : Int32) (m_faultKind : Int32) (m_faultPlace : Int32) (m_faults : Int32) (m_seen : Int32) (m_opened : Nat → Int32) (m_depth : Int32) (m_counted : Int32) (H : Heap) (locs : List Loc) (_ : PD D A [bl_X12 cy A_m m_at m_names m_status m_top m_bottom m_sort m_trayMany m_trays m_tape m_text m_taped m_size m_token m_from m_end m_value m_faultKind m_faultPlace m_faults m_seen m_toldParts m_opened m_depth m_counted m_bestOrder m_standers m_has m_bestHas m_standerMany m_bestCouples m_bestFondness m_cameTo m_doesStandFirst m_stoodBy m_drawn m_ranSteps m_loops m_ran m_told1 m_isTold m_marks] H) (_ : va_S A s.heap H locs) (ls : Array Slot), lv_has ls 4 [(0, .ref (A_m 0))] → f_X12_war_j57 fu m_names m_tape x1 m_at m_status m_text m_taped m_size m_token m_from m_end m_value m_faultKind m_faultPlace m_faults m_seen m_opened m_depth m_counted = some res → W p l e (headSpec (WW yX12_war cX12_war 4 (some .int)) rm_X12_war).room s m args below meth c H locs 0 0 (MQ below (Qei D res.1 A W1) args s 0 0 A) (F0 m 57 ls []) := by
    intro m_at m_status m_text m_taped m_size m_token m_from m_end m_value m_faultKind m_faultPlace m_faults m_seen m_opened m_depth m_counted H locs hP hS ls hl h
    unfold f_X12_war_j57 at h
    refine lv_aload_n hx hb dX12_war_57 rfl (lv_at hl 0 rfl) ?_
    refine xget (i := 0) (j := 0) (k := 18) (T := TX12) hx hb ht tb_iX12 hown hX hP.1 rfl rfl rfl (by decide) tb_1247 rfl dX12_war_58 ?_
    refine lv_if_ne (tgt := 77) hx hb dX12_war_61 (by decide) (fun c_29 => ?_) (fun c_29 => ?_)
    · have h := ie c_29 h
      exact j77 m_at m_status m_text m_taped m_size m_token m_from m_end m_value m_faultKind m_faultPlace m_faults m_seen m_opened m_depth m_counted _ _ hP hS ls (lv_sub hl [0] rfl) h
    · have h := it c_29 h
      refine lv_aload_n hx hb dX12_war_64 rfl (lv_at hl 0 rfl) ?_
      refine xget (i := 0) (j := 0) (k := 22) (T := TX12) hx hb ht tb_iX12 hown hX hP.1 rfl rfl rfl (by decide) tb_1251 rfl dX12_war_65 ?_
      refine lv_if_le (tgt := 77) hx hb dX12_war_68 (by decide) (fun c_30 => ?_) (fun c_30 => ?_)
      · have h := it c_30 h
        exact j77 m_at m_status m_text m_taped m_size m_token m_from m_end m_value m_faultKind m_faultPlace m_faults m_seen m_opened m_depth m_counted _ _ hP hS ls (lv_sub hl [0] rfl) h
      · have h := ie c_30 h
        refine lv_aload_n hx hb dX12_war_71 rfl (lv_at hl 0 rfl) ?_
        refine lv_iconst (v := 2) hx hb dX12_war_72 (by decide) ?_
        obtain ⟨z_31, e_z_31, h⟩ := bi h
        refine efVi (rest := []) ⟨hx, hb, hml, hown, ht⟩ (c_X12_fails l D cy fu A_m m_at m_names m_status m_top m_bottom m_sort m_trayMany m_trays m_tape m_text m_taped m_size m_token m_from m_end m_value m_faultKind m_faultPlace m_faults m_seen m_toldParts m_opened m_depth m_counted m_bestOrder m_standers m_has m_bestHas m_standerMany m_bestCouples m_bestFondness m_cameTo m_doesStandFirst m_stoodBy m_drawn m_ranSteps m_loops m_ran m_told1 m_isTold m_marks 2 z_31 e_z_31 _ rfl _ rfl) (cV ht mv_X12_fails tb_1447 rfl rfl ⟨Nat.le_of_ble_eq_true rfl, Nat.le_of_ble_eq_true rfl⟩) hP hS hX [0] rfl rfl rfl rfl rfl rfl hl.1 rfl (Nat.le_of_ble_eq_true rfl) dX12_war_73 ⟨Nat.le_of_ble_eq_true rfl, Nat.le_of_ble_eq_true rfl⟩ (fun H locs hP hS => ?_)
        have hP : PD D A [bl_X12 cy A_m m_at m_names m_status m_top m_bottom m_sort m_trayMany m_trays m_tape m_text m_taped m_size m_token m_from m_end m_value m_faultKind z_31.2.1 z_31.2.2 m_seen m_toldParts m_opened m_depth m_counted m_bestOrder m_standers m_has m_bestHas m_standerMany m_bestCouples m_bestFondness m_cameTo m_doesStandFirst m_stoodBy m_drawn m_ranSteps m_loops m_ran m_told1 m_isTold m_marks] H := hP
        refine lv_pop hx hb dX12_war_76 rfl ?_
        exact j77 m_at m_status m_text m_taped m_size m_token m_from m_end m_value m_faultKind z_31.2.1 z_31.2.2 m_seen m_opened m_depth m_counted _ _ hP hS ls (lv_sub hl [0] rfl) h
  have l38 : ∀ (n38 : Nat) (m_at : Nat → Int32) (m_status : Int32) (m_text : Nat → Int32) (m_taped : Int32) (m_size : Int32) (m_token : Int32) (m_from : Int32) (m_end : Int32) (m_value : Int32) (m_faultKind : Int32) (m_faultPlace : Int32) (m_faults : Int32) (m_seen : Int32) (m_opened : Nat → Int32) (m_depth : Int32) (m_counted : Int32) (x2 : Int32) (H : Heap) (locs : List Loc) (_ : PD D A [bl_X12 cy A_m m_at m_names m_status m_top m_bottom m_sort m_trayMany m_trays m_tape m_text m_taped m_size m_token m_from m_end m_value m_faultKind m_faultPlace m_faults m_seen m_toldParts m_opened m_depth m_counted m_bestOrder m_standers m_has m_bestHas m_standerMany m_bestCouples m_bestFondness m_cameTo m_doesStandFirst m_stoodBy m_drawn m_ranSteps m_loops m_ran m_told1 m_isTold m_marks] H) (_ : va_S A s.heap H locs) (ls : Array Slot), lv_has ls 4 [(0, .ref (A_m 0)), (2, .int x2)] → f_X12_war_l38 fu m_names m_tape x1 n38 m_at m_status m_text m_taped m_size m_token m_from m_end m_value m_faultKind m_faultPlace m_faults m_seen m_opened m_depth m_counted x2 = some res → W p l e (headSpec (WW yX12_war cX12_war 4 (some .int)) rm_X12_war).room s m args below meth c H locs 0 0 (MQ below (Qei D res.1 A W1) args s 0 0 A) (F0 m 38 ls []) := by
    intro n38
    induction n38 with
    | zero => intro m_at m_status m_text m_taped m_size m_token m_from m_end m_value m_faultKind m_faultPlace m_faults m_seen m_opened m_depth m_counted x2 H locs hP hS ls hl h; cases h
    | succ n38 ih38 =>
      intro m_at m_status m_text m_taped m_size m_token m_from m_end m_value m_faultKind m_faultPlace m_faults m_seen m_opened m_depth m_counted x2 H locs hP hS ls hl h
      have h : f_X12_war_b38 fu m_names m_tape x1 (f_X12_war_l38 fu m_names m_tape x1 n38) m_at m_status m_text m_taped m_size m_token m_from m_end m_value m_faultKind m_faultPlace m_faults m_seen m_opened m_depth m_counted x2 = some res := h
      unfold f_X12_war_b38 at h
      refine lv_iload_n hx hb dX12_war_38 rfl (lv_at hl 1 rfl) ?_
      refine lv_if_eq (tgt := 57) hx hb dX12_war_39 (by decide) (fun c_32 => ?_) (fun c_32 => ?_)
      · have h := it c_32 h
        exact j57 m_at m_status m_text m_taped m_size m_token m_from m_end m_value m_faultKind m_faultPlace m_faults m_seen m_opened m_depth m_counted _ _ hP hS ls (lv_sub hl [0] rfl) h
      · have h := ie c_32 h
        refine lv_aload_n hx hb dX12_war_42 rfl (lv_at hl 0 rfl) ?_
        refine xget (i := 0) (j := 0) (k := 12) (T := TX12) hx hb ht tb_iX12 hown hX hP.1 rfl rfl rfl (by decide) tb_1241 rfl dX12_war_43 ?_
        refine lv_if_eq (tgt := 57) hx hb dX12_war_46 (by decide) (fun c_33 => ?_) (fun c_33 => ?_)
        · have h := it c_33 h
          exact j57 m_at m_status m_text m_taped m_size m_token m_from m_end m_value m_faultKind m_faultPlace m_faults m_seen m_opened m_depth m_counted _ _ hP hS ls (lv_sub hl [0] rfl) h
        · have h := ie c_33 h
          refine lv_aload_n hx hb dX12_war_49 rfl (lv_at hl 0 rfl) ?_
          obtain ⟨z_34, e_z_34, h⟩ := bi h
          refine efViX (rest := []) ⟨hx, hb, hml, hown, ht⟩ (c_X12_warStep l D cy fu tO aK aV A_m m_at m_names m_status m_top m_bottom m_sort m_trayMany m_trays m_tape m_text m_taped m_size m_token m_from m_end m_value m_faultKind m_faultPlace m_faults m_seen m_toldParts m_opened m_depth m_counted m_bestOrder m_standers m_has m_bestHas m_standerMany m_bestCouples m_bestFondness m_cameTo m_doesStandFirst m_stoodBy m_drawn m_ranSteps m_loops m_ran m_told1 m_isTold m_marks z_34 e_z_34 _ rfl _ rfl) (cV ht mv_X12_warStep tb_1507 rfl rfl ⟨Nat.le_of_ble_eq_true rfl, Nat.le_of_ble_eq_true rfl⟩) hP hS hX hE [0] rfl rfl rfl rfl rfl rfl hl.1 rfl (Nat.le_of_ble_eq_true rfl) dX12_war_50 ⟨Nat.le_of_ble_eq_true rfl, Nat.le_of_ble_eq_true rfl⟩ (fun H locs hP hS => ?_)
          have hP : PD D A [bl_X12 cy A_m z_34.2.1 m_names m_status m_top m_bottom m_sort m_trayMany m_trays m_tape m_text m_taped m_size z_34.2.2.1 z_34.2.2.2.1 z_34.2.2.2.2.1 z_34.2.2.2.2.2.1 m_faultKind z_34.2.2.2.2.2.2.1 z_34.2.2.2.2.2.2.2.1 m_seen m_toldParts z_34.2.2.2.2.2.2.2.2.1 z_34.2.2.2.2.2.2.2.2.2.1 z_34.2.2.2.2.2.2.2.2.2.2 m_bestOrder m_standers m_has m_bestHas m_standerMany m_bestCouples m_bestFondness m_cameTo m_doesStandFirst m_stoodBy m_drawn m_ranSteps m_loops m_ran m_told1 m_isTold m_marks] H := hP
          refine lv_istore_n (lv' := [(2, .int z_34.1), (0, .ref (A_m 0))]) hx hb dX12_war_53 rfl hl (by decide) rfl (fun ls hl => ?_)
          refine lv_goto (tgt := 38) hx hb dX12_war_54 (by decide) ?_
          exact ih38 z_34.2.1 m_status m_text m_taped m_size z_34.2.2.1 z_34.2.2.2.1 z_34.2.2.2.2.1 z_34.2.2.2.2.2.1 m_faultKind z_34.2.2.2.2.2.2.1 z_34.2.2.2.2.2.2.2.1 m_seen z_34.2.2.2.2.2.2.2.2.1 z_34.2.2.2.2.2.2.2.2.2.1 z_34.2.2.2.2.2.2.2.2.2.2 z_34.1 _ _ hP hS ls (lv_sub hl [1, 0] rfl) h
  unfold f_X12_war at h
  refine lv_aload_n hx hb dX12_war_0 rfl (lv_at hl 0 rfl) ?_
  refine lv_iload_n hx hb dX12_war_1 rfl (lv_at hl 1 rfl) ?_
  refine lv_sipush (v := 300) hx hb dX12_war_2 (by decide) ?_
  obtain ⟨z_35, e_z_35, h⟩ := bi h
  refine efVi (rest := []) ⟨hx, hb, hml, hown, ht⟩ (c_X12_begins l D cy fu A_m m_at m_names m_status m_top m_bottom m_sort m_trayMany m_trays m_tape m_text m_taped m_size m_token m_from m_end m_value m_faultKind m_faultPlace m_faults m_seen m_toldParts m_opened m_depth m_counted m_bestOrder m_standers m_has m_bestHas m_standerMany m_bestCouples m_bestFondness m_cameTo m_doesStandFirst m_stoodBy m_drawn m_ranSteps m_loops m_ran m_told1 m_isTold m_marks x1 300 z_35 e_z_35 _ rfl _ rfl) (cV ht mv_X12_begins tb_1412 rfl rfl ⟨Nat.le_of_ble_eq_true rfl, Nat.le_of_ble_eq_true rfl⟩) hP hS hX [0] rfl rfl rfl rfl rfl rfl hl.1 rfl (Nat.le_of_ble_eq_true rfl) dX12_war_5 ⟨Nat.le_of_ble_eq_true rfl, Nat.le_of_ble_eq_true rfl⟩ (fun H locs hP hS => ?_)
  have hP : PD D A [bl_X12 cy A_m m_at m_names m_status m_top m_bottom m_sort m_trayMany m_trays m_tape z_35.2.1 z_35.2.2.1 z_35.2.2.2.1 z_35.2.2.2.2.1 z_35.2.2.2.2.2.1 z_35.2.2.2.2.2.2.1 z_35.2.2.2.2.2.2.2.1 m_faultKind z_35.2.2.2.2.2.2.2.2.1 z_35.2.2.2.2.2.2.2.2.2.1 z_35.2.2.2.2.2.2.2.2.2.2 m_toldParts m_opened m_depth m_counted m_bestOrder m_standers m_has m_bestHas m_standerMany m_bestCouples m_bestFondness m_cameTo m_doesStandFirst m_stoodBy m_drawn m_ranSteps m_loops m_ran m_told1 m_isTold m_marks] H := hP
  refine lv_if_ne (tgt := 17) hx hb dX12_war_8 (by decide) (fun c_36 => ?_) (fun c_36 => ?_)
  · have h := ie c_36 h
    refine lv_aload_n hx hb dX12_war_17 rfl (lv_at hl 0 rfl) ?_
    refine xget (i := 0) (j := 0) (k := 0) (T := TX12) hx hb ht tb_iX12 hown hX hP.1 rfl rfl rfl (by decide) tb_1229 rfl dX12_war_18 ?_
    refine lv_sipush (v := 1957) hx hb dX12_war_21 (by decide) ?_
    refine lv_iconst (v := 0) hx hb dX12_war_24 (by decide) ?_
    obtain ⟨m_at_37, e_m_at_37, h⟩ := bi h
    refine xiast (i0 := 0) (j0 := 1) hx hb hX hP hS rfl rfl e_m_at_37 dX12_war_25 (fun H locs hP hS => ?_)
    have hP : PD D A [bl_X12 cy A_m m_at_37 m_names m_status m_top m_bottom m_sort m_trayMany m_trays m_tape z_35.2.1 z_35.2.2.1 z_35.2.2.2.1 z_35.2.2.2.2.1 z_35.2.2.2.2.2.1 z_35.2.2.2.2.2.2.1 z_35.2.2.2.2.2.2.2.1 m_faultKind z_35.2.2.2.2.2.2.2.2.1 z_35.2.2.2.2.2.2.2.2.2.1 z_35.2.2.2.2.2.2.2.2.2.2 m_toldParts m_opened m_depth m_counted m_bestOrder m_standers m_has m_bestHas m_standerMany m_bestCouples m_bestFondness m_cameTo m_doesStandFirst m_stoodBy m_drawn m_ranSteps m_loops m_ran m_told1 m_isTold m_marks] H := hP
    refine lv_aload_n hx hb dX12_war_26 rfl (lv_at hl 0 rfl) ?_
    refine lv_iconst (v := 0) hx hb dX12_war_27 (by decide) ?_
    refine xput (i := 0) (j := 0) (k := 22) (T := TX12) tyX12 tyX12_ok nmX12 hx hb ht tb_iX12 hown hX hP hS rfl rfl rfl (by decide) tb_1251 rfl rfl rfl (Nat.le_of_ble_eq_true rfl) dX12_war_28 (fun H locs hP hS => ?_)
    have hP : PD D A [bl_X12 cy A_m m_at_37 m_names m_status m_top m_bottom m_sort m_trayMany m_trays m_tape z_35.2.1 z_35.2.2.1 z_35.2.2.2.1 z_35.2.2.2.2.1 z_35.2.2.2.2.2.1 z_35.2.2.2.2.2.2.1 z_35.2.2.2.2.2.2.2.1 m_faultKind z_35.2.2.2.2.2.2.2.2.1 z_35.2.2.2.2.2.2.2.2.2.1 z_35.2.2.2.2.2.2.2.2.2.2 m_toldParts m_opened 0 m_counted m_bestOrder m_standers m_has m_bestHas m_standerMany m_bestCouples m_bestFondness m_cameTo m_doesStandFirst m_stoodBy m_drawn m_ranSteps m_loops m_ran m_told1 m_isTold m_marks] H := hP
    refine lv_aload_n hx hb dX12_war_31 rfl (lv_at hl 0 rfl) ?_
    refine lv_iconst (v := 0) hx hb dX12_war_32 (by decide) ?_
    refine xput (i := 0) (j := 0) (k := 23) (T := TX12) tyX12 tyX12_ok nmX12 hx hb ht tb_iX12 hown hX hP hS rfl rfl rfl (by decide) tb_1252 rfl rfl rfl (Nat.le_of_ble_eq_true rfl) dX12_war_33 (fun H locs hP hS => ?_)
    have hP : PD D A [bl_X12 cy A_m m_at_37 m_names m_status m_top m_bottom m_sort m_trayMany m_trays m_tape z_35.2.1 z_35.2.2.1 z_35.2.2.2.1 z_35.2.2.2.2.1 z_35.2.2.2.2.2.1 z_35.2.2.2.2.2.2.1 z_35.2.2.2.2.2.2.2.1 m_faultKind z_35.2.2.2.2.2.2.2.2.1 z_35.2.2.2.2.2.2.2.2.2.1 z_35.2.2.2.2.2.2.2.2.2.2 m_toldParts m_opened 0 0 m_bestOrder m_standers m_has m_bestHas m_standerMany m_bestCouples m_bestFondness m_cameTo m_doesStandFirst m_stoodBy m_drawn m_ranSteps m_loops m_ran m_told1 m_isTold m_marks] H := hP
    refine lv_iconst (v := 1) hx hb dX12_war_36 (by decide) ?_
    refine lv_istore_n (lv' := [(2, .int 1), (0, .ref (A_m 0)), (1, .int x1)]) hx hb dX12_war_37 rfl hl (by decide) rfl (fun ls hl => ?_)
    exact l38 fu m_at_37 m_status z_35.2.1 z_35.2.2.1 z_35.2.2.2.1 z_35.2.2.2.2.1 z_35.2.2.2.2.2.1 z_35.2.2.2.2.2.2.1 z_35.2.2.2.2.2.2.2.1 m_faultKind z_35.2.2.2.2.2.2.2.2.1 z_35.2.2.2.2.2.2.2.2.2.1 z_35.2.2.2.2.2.2.2.2.2.2 m_opened 0 0 1 _ _ hP hS ls (lv_sub hl [1, 0] rfl) h
  · have h := it c_36 h
    refine lv_aload_n hx hb dX12_war_11 rfl (lv_at hl 0 rfl) ?_
    refine lv_iconst (v := 1) hx hb dX12_war_12 (by decide) ?_
    obtain ⟨z_38, e_z_38, h⟩ := bi h
    refine efVi (rest := []) ⟨hx, hb, hml, hown, ht⟩ (c_X12_refuse l D cy fu A_m m_at m_names m_status m_top m_bottom m_sort m_trayMany m_trays m_tape z_35.2.1 z_35.2.2.1 z_35.2.2.2.1 z_35.2.2.2.2.1 z_35.2.2.2.2.2.1 z_35.2.2.2.2.2.2.1 z_35.2.2.2.2.2.2.2.1 m_faultKind z_35.2.2.2.2.2.2.2.2.1 z_35.2.2.2.2.2.2.2.2.2.1 z_35.2.2.2.2.2.2.2.2.2.2 m_toldParts m_opened m_depth m_counted m_bestOrder m_standers m_has m_bestHas m_standerMany m_bestCouples m_bestFondness m_cameTo m_doesStandFirst m_stoodBy m_drawn m_ranSteps m_loops m_ran m_told1 m_isTold m_marks 1 z_38 e_z_38 _ rfl _ rfl) (cV ht mv_X12_refuse tb_1432 rfl rfl ⟨Nat.le_of_ble_eq_true rfl, Nat.le_of_ble_eq_true rfl⟩) hP hS hX [0] rfl rfl rfl rfl rfl rfl hl.1 rfl (Nat.le_of_ble_eq_true rfl) dX12_war_13 ⟨Nat.le_of_ble_eq_true rfl, Nat.le_of_ble_eq_true rfl⟩ (fun H locs hP hS => ?_)
    have hP : PD D A [bl_X12 cy A_m m_at m_names z_38.2 m_top m_bottom m_sort m_trayMany m_trays m_tape z_35.2.1 z_35.2.2.1 z_35.2.2.2.1 z_35.2.2.2.2.1 z_35.2.2.2.2.2.1 z_35.2.2.2.2.2.2.1 z_35.2.2.2.2.2.2.2.1 m_faultKind z_35.2.2.2.2.2.2.2.2.1 z_35.2.2.2.2.2.2.2.2.2.1 z_35.2.2.2.2.2.2.2.2.2.2 m_toldParts m_opened m_depth m_counted m_bestOrder m_standers m_has m_bestHas m_standerMany m_bestCouples m_bestFondness m_cameTo m_doesStandFirst m_stoodBy m_drawn m_ranSteps m_loops m_ran m_told1 m_isTold m_marks] H := hP
    cases h
    subst hW1
    exact W.iret hx hb hr (fun _ ht9 _ => ⟨⟨_, (), rfl, rfl, hPt ht9 hP.1⟩, hS.F ht9⟩) hS.2.2 dX12_war_16
