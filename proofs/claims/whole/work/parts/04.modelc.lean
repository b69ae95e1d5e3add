theorem dX12_pins_0 : decode cX12_pins 0 = .ok (.aload_n 0, 1) := by decide +kernel
theorem dX12_pins_1 : decode cX12_pins 1 = .ok (.iload_n 1, 1) := by decide +kernel
theorem dX12_pins_2 : decode cX12_pins 2 = .ok (.iload_n 2, 1) := by decide +kernel
theorem dX12_pins_3 : decode cX12_pins 3 = .ok (.invokevirtual 286, 3) := by decide +kernel
theorem dX12_pins_6 : decode cX12_pins 6 = .ok (.istore_n 3, 1) := by decide +kernel
theorem dX12_pins_7 : decode cX12_pins 7 = .ok (.aload_n 0, 1) := by decide +kernel
theorem dX12_pins_8 : decode cX12_pins 8 = .ok (.getfield 7, 3) := by decide +kernel
theorem dX12_pins_11 : decode cX12_pins 11 = .ok (.iload_n 1, 1) := by decide +kernel
theorem dX12_pins_12 : decode cX12_pins 12 = .ok (.invokestatic 75, 3) := by decide +kernel
theorem dX12_pins_15 : decode cX12_pins 15 = .ok (.iconst 3, 1) := by decide +kernel
theorem dX12_pins_16 : decode cX12_pins 16 = .ok (.iadd, 1) := by decide +kernel
theorem dX12_pins_17 : decode cX12_pins 17 = .ok (.dup2, 1) := by decide +kernel
theorem dX12_pins_18 : decode cX12_pins 18 = .ok (.iaload, 1) := by decide +kernel
theorem dX12_pins_19 : decode cX12_pins 19 = .ok (.iconst 1, 1) := by decide +kernel
theorem dX12_pins_20 : decode cX12_pins 20 = .ok (.iadd, 1) := by decide +kernel
theorem dX12_pins_21 : decode cX12_pins 21 = .ok (.iastore, 1) := by decide +kernel
theorem dX12_pins_22 : decode cX12_pins 22 = .ok (.iload_n 3, 1) := by decide +kernel
theorem dX12_pins_23 : decode cX12_pins 23 = .ok (.iconst (-1), 1) := by decide +kernel
theorem dX12_pins_24 : decode cX12_pins 24 = .ok (.if_icmp .ne 16, 3) := by decide +kernel
theorem dX12_pins_27 : decode cX12_pins 27 = .ok (.aload_n 0, 1) := by decide +kernel
theorem dX12_pins_28 : decode cX12_pins 28 = .ok (.getfield 7, 3) := by decide +kernel
theorem dX12_pins_31 : decode cX12_pins 31 = .ok (.iconst 3, 1) := by decide +kernel
theorem dX12_pins_32 : decode cX12_pins 32 = .ok (.dup2, 1) := by decide +kernel
theorem dX12_pins_33 : decode cX12_pins 33 = .ok (.iaload, 1) := by decide +kernel
theorem dX12_pins_34 : decode cX12_pins 34 = .ok (.iconst 1, 1) := by decide +kernel
theorem dX12_pins_35 : decode cX12_pins 35 = .ok (.iadd, 1) := by decide +kernel
theorem dX12_pins_36 : decode cX12_pins 36 = .ok (.iastore, 1) := by decide +kernel
theorem dX12_pins_37 : decode cX12_pins 37 = .ok (.bipush 8, 2) := by decide +kernel
theorem dX12_pins_39 : decode cX12_pins 39 = .ok (.ireturn, 1) := by decide +kernel
theorem dX12_pins_40 : decode cX12_pins 40 = .ok (.iload_n 3, 1) := by decide +kernel
theorem dX12_pins_41 : decode cX12_pins 41 = .ok (.invokestatic 75, 3) := by decide +kernel
theorem dX12_pins_44 : decode cX12_pins 44 = .ok (.iconst 2, 1) := by decide +kernel
theorem dX12_pins_45 : decode cX12_pins 45 = .ok (.iadd, 1) := by decide +kernel
theorem dX12_pins_46 : decode cX12_pins 46 = .ok (.istore 4, 2) := by decide +kernel
theorem dX12_pins_48 : decode cX12_pins 48 = .ok (.aload_n 0, 1) := by decide +kernel
theorem dX12_pins_49 : decode cX12_pins 49 = .ok (.getfield 7, 3) := by decide +kernel
theorem dX12_pins_52 : decode cX12_pins 52 = .ok (.iconst 4, 1) := by decide +kernel
theorem dX12_pins_53 : decode cX12_pins 53 = .ok (.dup2, 1) := by decide +kernel
theorem dX12_pins_54 : decode cX12_pins 54 = .ok (.iaload, 1) := by decide +kernel
theorem dX12_pins_55 : decode cX12_pins 55 = .ok (.aload_n 0, 1) := by decide +kernel
theorem dX12_pins_56 : decode cX12_pins 56 = .ok (.getfield 7, 3) := by decide +kernel
theorem dX12_pins_59 : decode cX12_pins 59 = .ok (.iload 4, 2) := by decide +kernel
theorem dX12_pins_61 : decode cX12_pins 61 = .ok (.iaload, 1) := by decide +kernel
theorem dX12_pins_62 : decode cX12_pins 62 = .ok (.bipush 99, 2) := by decide +kernel
theorem dX12_pins_64 : decode cX12_pins 64 = .ok (.if_icmp .ne 7, 3) := by decide +kernel
theorem dX12_pins_67 : decode cX12_pins 67 = .ok (.iconst 1, 1) := by decide +kernel
theorem dX12_pins_68 : decode cX12_pins 68 = .ok (.goto 4, 3) := by decide +kernel
theorem dX12_pins_71 : decode cX12_pins 71 = .ok (.iconst 0, 1) := by decide +kernel
theorem dX12_pins_72 : decode cX12_pins 72 = .ok (.iadd, 1) := by decide +kernel
theorem dX12_pins_73 : decode cX12_pins 73 = .ok (.iastore, 1) := by decide +kernel
theorem dX12_pins_74 : decode cX12_pins 74 = .ok (.aload_n 0, 1) := by decide +kernel
theorem dX12_pins_75 : decode cX12_pins 75 = .ok (.getfield 7, 3) := by decide +kernel
theorem dX12_pins_78 : decode cX12_pins 78 = .ok (.iload 4, 2) := by decide +kernel
theorem dX12_pins_80 : decode cX12_pins 80 = .ok (.bipush 99, 2) := by decide +kernel
theorem dX12_pins_82 : decode cX12_pins 82 = .ok (.aload_n 0, 1) := by decide +kernel
theorem dX12_pins_83 : decode cX12_pins 83 = .ok (.getfield 7, 3) := by decide +kernel
theorem dX12_pins_86 : decode cX12_pins 86 = .ok (.iload 4, 2) := by decide +kernel
theorem dX12_pins_88 : decode cX12_pins 88 = .ok (.iaload, 1) := by decide +kernel
theorem dX12_pins_89 : decode cX12_pins 89 = .ok (.iconst 1, 1) := by decide +kernel
theorem dX12_pins_90 : decode cX12_pins 90 = .ok (.iadd, 1) := by decide +kernel
theorem dX12_pins_91 : decode cX12_pins 91 = .ok (.invokestatic 139, 3) := by decide +kernel
theorem dX12_pins_94 : decode cX12_pins 94 = .ok (.iastore, 1) := by decide +kernel
theorem dX12_pins_95 : decode cX12_pins 95 = .ok (.iload_n 3, 1) := by decide +kernel
theorem dX12_pins_96 : decode cX12_pins 96 = .ok (.ireturn, 1) := by decide +kernel
theorem mv_X12_pins : MV yX12_pins RX12 cX12_pins 5 (some .int) 2 := ⟨tb_1589, tb_1588, ts_77, tb_16, by decide +kernel, by decide +kernel, by decide +kernel⟩
def f_X12_pins_j72 (fu : Nat) (x1 : Int32) (x2 : Int32) (m_at : Nat → Int32) (x3 : Int32) (x4 : Int32) (s1 : Int32) (s2 : Int32) (s3 : Int32) : Option (Int32 × (Nat → Int32)) := (wrI m_at 3648 s1 (s2 + s3)).bind fun m_at_16 => (rdI m_at_16 3648 x4).bind fun y_17 => (wrI m_at_16 3648 x4 (if (y_17 + 1) < 99 then (y_17 + 1) else 99)).bind fun m_at_18 => some (x3, m_at_18)
def f_X12_pins (fu : Nat) (m_at : Nat → Int32) (x1 : Int32) (x2 : Int32) : Option (Int32 × (Nat → Int32)) := (f_X12_winner fu m_at x1 x2).bind fun z_19 => (f_X12_manRow fu x1).bind fun z_20 => (rdI m_at 3648 (z_20 + 3)).bind fun y_21 => (wrI m_at 3648 (z_20 + 3) (y_21 + 1)).bind fun m_at_22 => (if z_19 = (-1) then (rdI m_at_22 3648 3).bind fun y_29 => (wrI m_at_22 3648 3 (y_29 + 1)).bind fun m_at_30 => some (8, m_at_30) else (f_X12_manRow fu z_19).bind fun z_24 => bnd (z_24 + 2) fun x4_25 => (rdI m_at_22 3648 4).bind fun y_26 => (rdI m_at_22 3648 x4_25).bind fun y_27 => (if y_27 = 99 then f_X12_pins_j72 fu x1 x2 m_at_22 z_19 x4_25 4 y_26 1 else f_X12_pins_j72 fu x1 x2 m_at_22 z_19 x4_25 4 y_26 0))
abbrev rm_X12_pins : Room := { frames := 6, cells := 0, slots := 0, locals := 139 }
set_option maxHeartbeats 4000000 in
set_option maxRecDepth 100000 in
theorem c_X12_pins (l : Launch) (D : va_G) (cy : Nat → ClassId) (fu : Nat) (A_m : Nat → Nat) (m_at : Nat → Int32) (m_names : Nat → Int64) (m_status : Int32) (m_top : Int64) (m_bottom : Int64) (m_sort : Nat → Int32) (m_trayMany : Nat → Int32) (m_trays : Nat → Int64) (m_tape : Nat → Int32) (m_text : Nat → Int32) (m_taped : Int32) (m_size : Int32) (m_token : Int32) (m_from : Int32) (m_end : Int32) (m_value : Int32) (m_faultKind : Int32) (m_faultPlace : Int32) (m_faults : Int32) (m_seen : Int32) (m_toldParts : Int32) (m_opened : Nat → Int32) (m_depth : Int32) (m_counted : Int32) (m_bestOrder : Int32) (m_standers : Nat → Int32) (m_has : Nat → Int32) (m_bestHas : Nat → Int32) (m_standerMany : Int32) (m_bestCouples : Int32) (m_bestFondness : Int32) (m_cameTo : Nat → Int32) (m_doesStandFirst : Int32) (m_stoodBy : Nat → Int64) (m_drawn : Int32) (m_ranSteps : Int32) (m_loops : Nat → Int32) (m_ran : Nat → Int32) (m_told1 : Nat → Int32) (m_isTold : Int32) (m_marks : Int32) (x1 : Int32) (x2 : Int32) (res : Int32 × (Nat → Int32)) (h : f_X12_pins fu m_at x1 x2 = some res) (A : Nat → Prop) (hA : A = adr [bl_X12 cy A_m m_at m_names m_status m_top m_bottom m_sort m_trayMany m_trays m_tape m_text m_taped m_size m_token m_from m_end m_value m_faultKind m_faultPlace m_faults m_seen m_toldParts m_opened m_depth m_counted m_bestOrder m_standers m_has m_bestHas m_standerMany m_bestCouples m_bestFondness m_cameTo m_doesStandFirst m_stoodBy m_drawn m_ranSteps m_loops m_ran m_told1 m_isTold m_marks]) (W1 : List va_W) (hW1 : W1 = [bl_X12 cy A_m res.2 m_names m_status m_top m_bottom m_sort m_trayMany m_trays m_tape m_text m_taped m_size m_token m_from m_end m_value m_faultKind m_faultPlace m_faults m_seen m_toldParts m_opened m_depth m_counted m_bestOrder m_standers m_has m_bestHas m_standerMany m_bestCouples m_bestFondness m_cameTo m_doesStandFirst m_stoodBy m_drawn m_ranSteps m_loops m_ran m_told1 m_isTold m_marks]) : Met l yX12_pins (WW yX12_pins cX12_pins 5 (some .int)) rm_X12_pins (Ed D cy [.ref (A_m 0), .int x1, .int x2] [bl_X12 cy A_m m_at m_names m_status m_top m_bottom m_sort m_trayMany m_trays m_tape m_text m_taped m_size m_token m_from m_end m_value m_faultKind m_faultPlace m_faults m_seen m_toldParts m_opened m_depth m_counted m_bestOrder m_standers m_has m_bestHas m_standerMany m_bestCouples m_bestFondness m_cameTo m_doesStandFirst m_stoodBy m_drawn m_ranSteps m_loops m_ran m_told1 m_isTold m_marks]) (Qei D res.1 A W1) 0 0 A := by
  refine Met.ofW (cc := cX12_pins) (maxL := 5) (ret := (some .int)) (by decide) rfl ?_
  intro p e s m args below meth c s₁ B hml hv
  obtain ⟨hargs, hP, hX, hD0⟩ := hv
  have hx := B.exec
  have hb := B.bytes
  have hr := B.returns
  have ht : ∀ w ∈ lw_gd, w.before args s = true := fun w hw => atoms_spec (ws := WW yX12_pins cX12_pins 5 (some .int)) B.pre w (List.mem_cons_of_mem _ hw)
  have hown : s.vm.findClass RX12 = some m.cls := findClass_of_methodNamed B.named
  have hlocks := B.notSynchronized
  have hP : PD D A [bl_X12 cy A_m m_at m_names m_status m_top m_bottom m_sort m_trayMany m_trays m_tape m_text m_taped m_size m_token m_from m_end m_value m_faultKind m_faultPlace m_faults m_seen m_toldParts m_opened m_depth m_counted m_bestOrder m_standers m_has m_bestHas m_standerMany m_bestCouples m_bestFondness m_cameTo m_doesStandFirst m_stoodBy m_drawn m_ranSteps m_loops m_ran m_told1 m_isTold m_marks] s.heap := ⟨hP, by rw [hA]; exact hD0.own⟩
  have hS : va_S A s.heap s.heap [] := va_S.rf
  obtain ⟨ls, hl, hent⟩ := ent (m := m) (n := 5) hargs (Nat.le_of_ble_eq_true rfl) (lv := [(0, .ref (A_m 0)), (1, .int x1), (2, .int x2)]) rfl
  rw [hent]
  clear hent
  have j72 : ∀ (m_at : Nat → Int32) (x3 : Int32) (x4 : Int32) (s1 : Int32) (s2 : Int32) (s3 : Int32) (H : Heap) (locs : List Loc) (_ : PD D A [bl_X12 cy A_m m_at m_names m_status m_top m_bottom m_sort m_trayMany m_trays m_tape m_text m_taped m_size m_token m_from m_end m_value m_faultKind m_faultPlace m_faults m_seen m_toldParts m_opened m_depth m_counted m_bestOrder m_standers m_has m_bestHas m_standerMany m_bestCouples m_bestFondness m_cameTo m_doesStandFirst m_stoodBy m_drawn m_ranSteps m_loops m_ran m_told1 m_isTold m_marks] H) (_ : va_S A s.heap H locs) (ls : Array Slot), lv_has ls 5 [(0, .ref (A_m 0)), (3, .int x3), (4, .int x4)] → f_X12_pins_j72 fu x1 x2 m_at x3 x4 s1 s2 s3 = some res → W p l e (headSpec (WW yX12_pins cX12_pins 5 (some .int)) rm_X12_pins).room s m args below meth c H locs 0 0 (MQ below (Qei D res.1 A W1) args s 0 0 A) (F0 m 72 ls [.int s3, .int s2, .int s1, .ref (A_m 1)]) := by
    intro m_at x3 x4 s1 s2 s3 H locs hP hS ls hl h
    unfold f_X12_pins_j72 at h
    refine lv_iadd hx hb dX12_pins_72 ?_
    obtain ⟨m_at_16, e_m_at_16, h⟩ := bi h
    refine xiast (i0 := 0) (j0 := 1) hx hb hX hP hS rfl rfl e_m_at_16 dX12_pins_73 (fun H locs hP hS => ?_)
    have hP : PD D A [bl_X12 cy A_m m_at_16 m_names m_status m_top m_bottom m_sort m_trayMany m_trays m_tape m_text m_taped m_size m_token m_from m_end m_value m_faultKind m_faultPlace m_faults m_seen m_toldParts m_opened m_depth m_counted m_bestOrder m_standers m_has m_bestHas m_standerMany m_bestCouples m_bestFondness m_cameTo m_doesStandFirst m_stoodBy m_drawn m_ranSteps m_loops m_ran m_told1 m_isTold m_marks] H := hP
    refine lv_aload_n hx hb dX12_pins_74 rfl (lv_at hl 0 rfl) ?_
    refine xget (i := 0) (j := 0) (k := 0) (T := TX12) hx hb ht tb_iX12 hown hX hP.1 rfl rfl rfl (by decide) tb_1229 rfl dX12_pins_75 ?_
    refine lv_iload hx hb dX12_pins_78 (lv_at hl 2 rfl) ?_
    refine lv_bipush (v := 99) hx hb dX12_pins_80 (by decide) ?_
    refine lv_aload_n hx hb dX12_pins_82 rfl (lv_at hl 0 rfl) ?_
    refine xget (i := 0) (j := 0) (k := 0) (T := TX12) hx hb ht tb_iX12 hown hX hP.1 rfl rfl rfl (by decide) tb_1229 rfl dX12_pins_83 ?_
    refine lv_iload hx hb dX12_pins_86 (lv_at hl 2 rfl) ?_
    obtain ⟨y_17, e_y_17, h⟩ := bi h
    refine xiald (i0 := 0) (j0 := 1) hx hb hX hP.1 rfl rfl e_y_17 dX12_pins_88 ?_
    refine lv_iconst (v := 1) hx hb dX12_pins_89 (by decide) ?_
    refine lv_iadd hx hb dX12_pins_90 ?_
    refine va_mmin hx hb (hml.trans hl.1.symm) hown (ht _ tb_1431) (ht _ tb_583) (ht _ tb_19) (ht _ tb_584) (Nat.le_of_ble_eq_true rfl) (Nat.le_of_ble_eq_true rfl) (Nat.le_of_ble_eq_true rfl) (Nat.le_of_ble_eq_true rfl) dX12_pins_91 ?_
    obtain ⟨m_at_18, e_m_at_18, h⟩ := bi h
    refine xiast (i0 := 0) (j0 := 1) hx hb hX hP hS rfl rfl e_m_at_18 dX12_pins_94 (fun H locs hP hS => ?_)
    have hP : PD D A [bl_X12 cy A_m m_at_18 m_names m_status m_top m_bottom m_sort m_trayMany m_trays m_tape m_text m_taped m_size m_token m_from m_end m_value m_faultKind m_faultPlace m_faults m_seen m_toldParts m_opened m_depth m_counted m_bestOrder m_standers m_has m_bestHas m_standerMany m_bestCouples m_bestFondness m_cameTo m_doesStandFirst m_stoodBy m_drawn m_ranSteps m_loops m_ran m_told1 m_isTold m_marks] H := hP
    refine lv_iload_n hx hb dX12_pins_95 rfl (lv_at hl 1 rfl) ?_
    cases h
    subst hW1
    exact W.iret hx hb hr (fun _ ht9 _ => ⟨⟨_, (), rfl, rfl, hPt ht9 hP.1⟩, hS.F ht9⟩) hS.2.2 dX12_pins_96
  unfold f_X12_pins at h
  refine lv_aload_n hx hb dX12_pins_0 rfl (lv_at hl 0 rfl) ?_
  refine lv_iload_n hx hb dX12_pins_1 rfl (lv_at hl 1 rfl) ?_
  refine lv_iload_n hx hb dX12_pins_2 rfl (lv_at hl 2 rfl) ?_
  obtain ⟨z_19, e_z_19, h⟩ := bi h
  refine roVi (rest := []) ⟨hx, hb, hml, hown, ht⟩ (c_X12_winner l D cy fu A_m m_at m_names m_status m_top m_bottom m_sort m_trayMany m_trays m_tape m_text m_taped m_size m_token m_from m_end m_value m_faultKind m_faultPlace m_faults m_seen m_toldParts m_opened m_depth m_counted m_bestOrder m_standers m_has m_bestHas m_standerMany m_bestCouples m_bestFondness m_cameTo m_doesStandFirst m_stoodBy m_drawn m_ranSteps m_loops m_ran m_told1 m_isTold m_marks x1 x2 z_19 e_z_19) (cV ht mv_X12_winner tb_1590 rfl rfl ⟨Nat.le_of_ble_eq_true rfl, Nat.le_of_ble_eq_true rfl⟩) (P_sub hP.1 [0] rfl) hX rfl rfl rfl hl.1 rfl (Nat.le_of_ble_eq_true rfl) dX12_pins_3 ⟨Nat.le_of_ble_eq_true rfl, Nat.le_of_ble_eq_true rfl⟩ ?_
  refine lv_istore_n (lv' := [(3, .int z_19), (0, .ref (A_m 0)), (1, .int x1), (2, .int x2)]) hx hb dX12_pins_6 rfl hl (by decide) rfl (fun ls hl => ?_)
  refine lv_aload_n hx hb dX12_pins_7 rfl (lv_at hl 1 rfl) ?_
  refine xget (i := 0) (j := 0) (k := 0) (T := TX12) hx hb ht tb_iX12 hown hX hP.1 rfl rfl rfl (by decide) tb_1229 rfl dX12_pins_8 ?_
  refine lv_iload_n hx hb dX12_pins_11 rfl (lv_at hl 2 rfl) ?_
  obtain ⟨z_20, e_z_20, h⟩ := bi h
  refine roSi (rest := [.ref (A_m 1)]) ⟨hx, hb, hml, hown, ht⟩ (c_X12_manRow l D cy fu  x1 z_20 e_z_20) (cS ht ms_X12_manRow tb_1226 rfl rfl ⟨Nat.le_of_ble_eq_true rfl, Nat.le_of_ble_eq_true rfl⟩) (P_sub hP.1 [] rfl) hX rfl hl.1 rfl (Nat.le_of_ble_eq_true rfl) dX12_pins_12 ⟨Nat.le_of_ble_eq_true rfl, Nat.le_of_ble_eq_true rfl⟩ ?_
  refine lv_iconst (v := 3) hx hb dX12_pins_15 (by decide) ?_
  refine lv_iadd hx hb dX12_pins_16 ?_
  refine lv_dup2_11 hx hb dX12_pins_17 rfl rfl ?_
  obtain ⟨y_21, e_y_21, h⟩ := bi h
  refine xiald (i0 := 0) (j0 := 1) hx hb hX hP.1 rfl rfl e_y_21 dX12_pins_18 ?_
  refine lv_iconst (v := 1) hx hb dX12_pins_19 (by decide) ?_
  refine lv_iadd hx hb dX12_pins_20 ?_
  obtain ⟨m_at_22, e_m_at_22, h⟩ := bi h
  refine xiast (i0 := 0) (j0 := 1) hx hb hX hP hS rfl rfl e_m_at_22 dX12_pins_21 (fun H locs hP hS => ?_)
  have hP : PD D A [bl_X12 cy A_m m_at_22 m_names m_status m_top m_bottom m_sort m_trayMany m_trays m_tape m_text m_taped m_size m_token m_from m_end m_value m_faultKind m_faultPlace m_faults m_seen m_toldParts m_opened m_depth m_counted m_bestOrder m_standers m_has m_bestHas m_standerMany m_bestCouples m_bestFondness m_cameTo m_doesStandFirst m_stoodBy m_drawn m_ranSteps m_loops m_ran m_told1 m_isTold m_marks] H := hP
  refine lv_iload_n hx hb dX12_pins_22 rfl (lv_at hl 0 rfl) ?_
  refine lv_iconst (v := (-1)) hx hb dX12_pins_23 (by decide) ?_
  refine lv_icmp_ne (tgt := 40) hx hb dX12_pins_24 (by decide) (fun c_23 => ?_) (fun c_23 => ?_)
  · have h := ie c_23 h
    refine lv_iload_n hx hb dX12_pins_40 rfl (lv_at hl 0 rfl) ?_
    obtain ⟨z_24, e_z_24, h⟩ := bi h
    refine roSi (rest := []) ⟨hx, hb, hml, hown, ht⟩ (c_X12_manRow l D cy fu  z_19 z_24 e_z_24) (cS ht ms_X12_manRow tb_1226 rfl rfl ⟨Nat.le_of_ble_eq_true rfl, Nat.le_of_ble_eq_true rfl⟩) (P_sub hP.1 [] rfl) hX rfl hl.1 rfl (Nat.le_of_ble_eq_true rfl) dX12_pins_41 ⟨Nat.le_of_ble_eq_true rfl, Nat.le_of_ble_eq_true rfl⟩ ?_
    refine lv_iconst (v := 2) hx hb dX12_pins_44 (by decide) ?_
    refine lv_iadd hx hb dX12_pins_45 ?_
    refine lv_topi (fun x4_25 e_x4_25 => ?_)
    have h := bn e_x4_25 h
    refine lv_istore (lv' := [(4, .int x4_25), (3, .int z_19), (0, .ref (A_m 0)), (1, .int x1), (2, .int x2)]) hx hb dX12_pins_46 hl (by decide) rfl (fun ls hl => ?_)
    refine lv_aload_n hx hb dX12_pins_48 rfl (lv_at hl 2 rfl) ?_
    refine xget (i := 0) (j := 0) (k := 0) (T := TX12) hx hb ht tb_iX12 hown hX hP.1 rfl rfl rfl (by decide) tb_1229 rfl dX12_pins_49 ?_
    refine lv_iconst (v := 4) hx hb dX12_pins_52 (by decide) ?_
    refine lv_dup2_11 hx hb dX12_pins_53 rfl rfl ?_
    obtain ⟨y_26, e_y_26, h⟩ := bi h
    refine xiald (i0 := 0) (j0 := 1) hx hb hX hP.1 rfl rfl e_y_26 dX12_pins_54 ?_
    refine lv_aload_n hx hb dX12_pins_55 rfl (lv_at hl 2 rfl) ?_
    refine xget (i := 0) (j := 0) (k := 0) (T := TX12) hx hb ht tb_iX12 hown hX hP.1 rfl rfl rfl (by decide) tb_1229 rfl dX12_pins_56 ?_
    refine lv_iload hx hb dX12_pins_59 (lv_at hl 0 rfl) ?_
    obtain ⟨y_27, e_y_27, h⟩ := bi h
    refine xiald (i0 := 0) (j0 := 1) hx hb hX hP.1 rfl rfl e_y_27 dX12_pins_61 ?_
    refine lv_bipush (v := 99) hx hb dX12_pins_62 (by decide) ?_
    refine lv_icmp_ne (tgt := 71) hx hb dX12_pins_64 (by decide) (fun c_28 => ?_) (fun c_28 => ?_)
    · have h := ie c_28 h
      refine lv_iconst (v := 0) hx hb dX12_pins_71 (by decide) ?_
      exact j72 m_at_22 z_19 x4_25 4 y_26 0 _ _ hP hS ls (lv_sub hl [2, 1, 0] rfl) h
    · have h := it c_28 h
      refine lv_iconst (v := 1) hx hb dX12_pins_67 (by decide) ?_
      refine lv_goto (tgt := 72) hx hb dX12_pins_68 (by decide) ?_
      exact j72 m_at_22 z_19 x4_25 4 y_26 1 _ _ hP hS ls (lv_sub hl [2, 1, 0] rfl) h
  · have h := it c_23 h
    refine lv_aload_n hx hb dX12_pins_27 rfl (lv_at hl 1 rfl) ?_
    refine xget (i := 0) (j := 0) (k := 0) (T := TX12) hx hb ht tb_iX12 hown hX hP.1 rfl rfl rfl (by decide) tb_1229 rfl dX12_pins_28 ?_
    refine lv_iconst (v := 3) hx hb dX12_pins_31 (by decide) ?_
    refine lv_dup2_11 hx hb dX12_pins_32 rfl rfl ?_
    obtain ⟨y_29, e_y_29, h⟩ := bi h
    refine xiald (i0 := 0) (j0 := 1) hx hb hX hP.1 rfl rfl e_y_29 dX12_pins_33 ?_
    refine lv_iconst (v := 1) hx hb dX12_pins_34 (by decide) ?_
    refine lv_iadd hx hb dX12_pins_35 ?_
    obtain ⟨m_at_30, e_m_at_30, h⟩ := bi h
    refine xiast (i0 := 0) (j0 := 1) hx hb hX hP hS rfl rfl e_m_at_30 dX12_pins_36 (fun H locs hP hS => ?_)
    have hP : PD D A [bl_X12 cy A_m m_at_30 m_names m_status m_top m_bottom m_sort m_trayMany m_trays m_tape m_text m_taped m_size m_token m_from m_end m_value m_faultKind m_faultPlace m_faults m_seen m_toldParts m_opened m_depth m_counted m_bestOrder m_standers m_has m_bestHas m_standerMany m_bestCouples m_bestFondness m_cameTo m_doesStandFirst m_stoodBy m_drawn m_ranSteps m_loops m_ran m_told1 m_isTold m_marks] H := hP
    refine lv_bipush (v := 8) hx hb dX12_pins_37 (by decide) ?_
    cases h
    subst hW1
    exact W.iret hx hb hr (fun _ ht9 _ => ⟨⟨_, (), rfl, rfl, hPt ht9 hP.1⟩, hS.F ht9⟩) hS.2.2 dX12_pins_39
theorem dX12_faces_0 : decode cX12_faces 0 = .ok (.aload_n 0, 1) := by decide +kernel
theorem dX12_faces_1 : decode cX12_faces 1 = .ok (.iload_n 1, 1) := by decide +kernel
theorem dX12_faces_2 : decode cX12_faces 2 = .ok (.iload_n 2, 1) := by decide +kernel
theorem dX12_faces_3 : decode cX12_faces 3 = .ok (.invokevirtual 271, 3) := by decide +kernel
theorem dX12_faces_6 : decode cX12_faces 6 = .ok (.ifCond .eq 10, 3) := by decide +kernel
theorem dX12_faces_9 : decode cX12_faces 9 = .ok (.aload_n 0, 1) := by decide +kernel
theorem dX12_faces_10 : decode cX12_faces 10 = .ok (.iload_n 1, 1) := by decide +kernel
theorem dX12_faces_11 : decode cX12_faces 11 = .ok (.iload_n 2, 1) := by decide +kernel
theorem dX12_faces_12 : decode cX12_faces 12 = .ok (.invokevirtual 289, 3) := by decide +kernel
theorem dX12_faces_15 : decode cX12_faces 15 = .ok (.ireturn, 1) := by decide +kernel
theorem dX12_faces_16 : decode cX12_faces 16 = .ok (.aload_n 0, 1) := by decide +kernel
theorem dX12_faces_17 : decode cX12_faces 17 = .ok (.getfield 7, 3) := by decide +kernel
theorem dX12_faces_20 : decode cX12_faces 20 = .ok (.iload_n 1, 1) := by decide +kernel
theorem dX12_faces_21 : decode cX12_faces 21 = .ok (.invokestatic 75, 3) := by decide +kernel
theorem dX12_faces_24 : decode cX12_faces 24 = .ok (.iconst 4, 1) := by decide +kernel
theorem dX12_faces_25 : decode cX12_faces 25 = .ok (.iadd, 1) := by decide +kernel
theorem dX12_faces_26 : decode cX12_faces 26 = .ok (.dup2, 1) := by decide +kernel
theorem dX12_faces_27 : decode cX12_faces 27 = .ok (.iaload, 1) := by decide +kernel
theorem dX12_faces_28 : decode cX12_faces 28 = .ok (.iconst 1, 1) := by decide +kernel
theorem dX12_faces_29 : decode cX12_faces 29 = .ok (.iadd, 1) := by decide +kernel
theorem dX12_faces_30 : decode cX12_faces 30 = .ok (.iastore, 1) := by decide +kernel
theorem dX12_faces_31 : decode cX12_faces 31 = .ok (.bipush 9, 2) := by decide +kernel
theorem dX12_faces_33 : decode cX12_faces 33 = .ok (.ireturn, 1) := by decide +kernel
theorem mv_X12_faces : MV yX12_faces RX12 cX12_faces 3 (some .int) 2 := ⟨tb_1581, tb_1580, ts_75, tb_16, by decide +kernel, by decide +kernel, by decide +kernel⟩
def f_X12_faces (fu : Nat) (m_at : Nat → Int32) (x1 : Int32) (x2 : Int32) : Option (Int32 × (Nat → Int32)) := (f_X12_stands fu m_at x1 x2).bind fun z_7 => (if z_7 = 0 then (f_X12_manRow fu x1).bind fun z_9 => (rdI m_at 3648 (z_9 + 4)).bind fun y_10 => (wrI m_at 3648 (z_9 + 4) (y_10 + 1)).bind fun m_at_11 => some (9, m_at_11) else (f_X12_pins fu m_at x1 x2).bind fun z_12 => some (z_12.1, z_12.2))
abbrev rm_X12_faces : Room := { frames := 7, cells := 0, slots := 0, locals := 163 }
set_option maxHeartbeats 4000000 in
set_option maxRecDepth 100000 in
theorem c_X12_faces (l : Launch) (D : va_G) (cy : Nat → ClassId) (fu : Nat) (A_m : Nat → Nat) (m_at : Nat → Int32) (m_names : Nat → Int64) (m_status : Int32) (m_top : Int64) (m_bottom : Int64) (m_sort : Nat → Int32) (m_trayMany : Nat → Int32) (m_trays : Nat → Int64) (m_tape : Nat → Int32) (m_text : Nat → Int32) (m_taped : Int32) (m_size : Int32) (m_token : Int32) (m_from : Int32) (m_end : Int32) (m_value : Int32) (m_faultKind : Int32) (m_faultPlace : Int32) (m_faults : Int32) (m_seen : Int32) (m_toldParts : Int32) (m_opened : Nat → Int32) (m_depth : Int32) (m_counted : Int32) (m_bestOrder : Int32) (m_standers : Nat → Int32) (m_has : Nat → Int32) (m_bestHas : Nat → Int32) (m_standerMany : Int32) (m_bestCouples : Int32) (m_bestFondness : Int32) (m_cameTo : Nat → Int32) (m_doesStandFirst : Int32) (m_stoodBy : Nat → Int64) (m_drawn : Int32) (m_ranSteps : Int32) (m_loops : Nat → Int32) (m_ran : Nat → Int32) (m_told1 : Nat → Int32) (m_isTold : Int32) (m_marks : Int32) (x1 : Int32) (x2 : Int32) (res : Int32 × (Nat → Int32)) (h : f_X12_faces fu m_at x1 x2 = some res) (A : Nat → Prop) (hA : A = adr [bl_X12 cy A_m m_at m_names m_status m_top m_bottom m_sort m_trayMany m_trays m_tape m_text m_taped m_size m_token m_from m_end m_value m_faultKind m_faultPlace m_faults m_seen m_toldParts m_opened m_depth m_counted m_bestOrder m_standers m_has m_bestHas m_standerMany m_bestCouples m_bestFondness m_cameTo m_doesStandFirst m_stoodBy m_drawn m_ranSteps m_loops m_ran m_told1 m_isTold m_marks]) (W1 : List va_W) (hW1 : W1 = [bl_X12 cy A_m res.2 m_names m_status m_top m_bottom m_sort m_trayMany m_trays m_tape m_text m_taped m_size m_token m_from m_end m_value m_faultKind m_faultPlace m_faults m_seen m_toldParts m_opened m_depth m_counted m_bestOrder m_standers m_has m_bestHas m_standerMany m_bestCouples m_bestFondness m_cameTo m_doesStandFirst m_stoodBy m_drawn m_ranSteps m_loops m_ran m_told1 m_isTold m_marks]) : Met l yX12_faces (WW yX12_faces cX12_faces 3 (some .int)) rm_X12_faces (Ed D cy [.ref (A_m 0), .int x1, .int x2] [bl_X12 cy A_m m_at m_names m_status m_top m_bottom m_sort m_trayMany m_trays m_tape m_text m_taped m_size m_token m_from m_end m_value m_faultKind m_faultPlace m_faults m_seen m_toldParts m_opened m_depth m_counted m_bestOrder m_standers m_has m_bestHas m_standerMany m_bestCouples m_bestFondness m_cameTo m_doesStandFirst m_stoodBy m_drawn m_ranSteps m_loops m_ran m_told1 m_isTold m_marks]) (Qei D res.1 A W1) 0 0 A := by
  refine Met.ofW (cc := cX12_faces) (maxL := 3) (ret := (some .int)) (by decide) rfl ?_
  intro p e s m args below meth c s₁ B hml hv
  obtain ⟨hargs, hP, hX, hD0⟩ := hv
  have hx := B.exec
  have hb := B.bytes
  have hr := B.returns
  have ht : ∀ w ∈ lw_gd, w.before args s = true := fun w hw => atoms_spec (ws := WW yX12_faces cX12_faces 3 (some .int)) B.pre w (List.mem_cons_of_mem _ hw)
  have hown : s.vm.findClass RX12 = some m.cls := findClass_of_methodNamed B.named
  have hlocks := B.notSynchronized
  have hP : PD D A [bl_X12 cy A_m m_at m_names m_status m_top m_bottom m_sort m_trayMany m_trays m_tape m_text m_taped m_size m_token m_from m_end m_value m_faultKind m_faultPlace m_faults m_seen m_toldParts m_opened m_depth m_counted m_bestOrder m_standers m_has m_bestHas m_standerMany m_bestCouples m_bestFondness m_cameTo m_doesStandFirst m_stoodBy m_drawn m_ranSteps m_loops m_ran m_told1 m_isTold m_marks] s.heap := ⟨hP, by rw [hA]; exact hD0.own⟩
  have hS : va_S A s.heap s.heap [] := va_S.rf
  obtain ⟨ls, hl, hent⟩ := ent (m := m) (n := 3) hargs (Nat.le_of_ble_eq_true rfl) (lv := [(0, .ref (A_m 0)), (1, .int x1), (2, .int x2)]) rfl
  rw [hent]
  clear hent
  unfold f_X12_faces at h
  refine lv_aload_n hx hb dX12_faces_0 rfl (lv_at hl 0 rfl) ?_
  refine lv_iload_n hx hb dX12_faces_1 rfl (lv_at hl 1 rfl) ?_
  refine lv_iload_n hx hb dX12_faces_2 rfl (lv_at hl 2 rfl) ?_
  obtain ⟨z_7, e_z_7, h⟩ := bi h
  refine roVi (rest := []) ⟨hx, hb, hml, hown, ht⟩ (c_X12_stands l D cy fu A_m m_at m_names m_status m_top m_bottom m_sort m_trayMany m_trays m_tape m_text m_taped m_size m_token m_from m_end m_value m_faultKind m_faultPlace m_faults m_seen m_toldParts m_opened m_depth m_counted m_bestOrder m_standers m_has m_bestHas m_standerMany m_bestCouples m_bestFondness m_cameTo m_doesStandFirst m_stoodBy m_drawn m_ranSteps m_loops m_ran m_told1 m_isTold m_marks x1 x2 z_7 e_z_7) (cV ht mv_X12_stands tb_1582 rfl rfl ⟨Nat.le_of_ble_eq_true rfl, Nat.le_of_ble_eq_true rfl⟩) (P_sub hP.1 [0] rfl) hX rfl rfl rfl hl.1 rfl (Nat.le_of_ble_eq_true rfl) dX12_faces_3 ⟨Nat.le_of_ble_eq_true rfl, Nat.le_of_ble_eq_true rfl⟩ ?_
  refine lv_if_eq (tgt := 16) hx hb dX12_faces_6 (by decide) (fun c_8 => ?_) (fun c_8 => ?_)
  · have h := it c_8 h
    refine lv_aload_n hx hb dX12_faces_16 rfl (lv_at hl 0 rfl) ?_
    refine xget (i := 0) (j := 0) (k := 0) (T := TX12) hx hb ht tb_iX12 hown hX hP.1 rfl rfl rfl (by decide) tb_1229 rfl dX12_faces_17 ?_
    refine lv_iload_n hx hb dX12_faces_20 rfl (lv_at hl 1 rfl) ?_
    obtain ⟨z_9, e_z_9, h⟩ := bi h
    refine roSi (rest := [.ref (A_m 1)]) ⟨hx, hb, hml, hown, ht⟩ (c_X12_manRow l D cy fu  x1 z_9 e_z_9) (cS ht ms_X12_manRow tb_1226 rfl rfl ⟨Nat.le_of_ble_eq_true rfl, Nat.le_of_ble_eq_true rfl⟩) (P_sub hP.1 [] rfl) hX rfl hl.1 rfl (Nat.le_of_ble_eq_true rfl) dX12_faces_21 ⟨Nat.le_of_ble_eq_true rfl, Nat.le_of_ble_eq_true rfl⟩ ?_
    refine lv_iconst (v := 4) hx hb dX12_faces_24 (by decide) ?_
    refine lv_iadd hx hb dX12_faces_25 ?_
    refine lv_dup2_11 hx hb dX12_faces_26 rfl rfl ?_
    obtain ⟨y_10, e_y_10, h⟩ := bi h
    refine xiald (i0 := 0) (j0 := 1) hx hb hX hP.1 rfl rfl e_y_10 dX12_faces_27 ?_
    refine lv_iconst (v := 1) hx hb dX12_faces_28 (by decide) ?_
    refine lv_iadd hx hb dX12_faces_29 ?_
    obtain ⟨m_at_11, e_m_at_11, h⟩ := bi h
    refine xiast (i0 := 0) (j0 := 1) hx hb hX hP hS rfl rfl e_m_at_11 dX12_faces_30 (fun H locs hP hS => ?_)
    have hP : PD D A [bl_X12 cy A_m m_at_11 m_names m_status m_top m_bottom m_sort m_trayMany m_trays m_tape m_text m_taped m_size m_token m_from m_end m_value m_faultKind m_faultPlace m_faults m_seen m_toldParts m_opened m_depth m_counted m_bestOrder m_standers m_has m_bestHas m_standerMany m_bestCouples m_bestFondness m_cameTo m_doesStandFirst m_stoodBy m_drawn m_ranSteps m_loops m_ran m_told1 m_isTold m_marks] H := hP
    refine lv_bipush (v := 9) hx hb dX12_faces_31 (by decide) ?_
    cases h
    subst hW1
    exact W.iret hx hb hr (fun _ ht9 _ => ⟨⟨_, (), rfl, rfl, hPt ht9 hP.1⟩, hS.F ht9⟩) hS.2.2 dX12_faces_33
  · have h := ie c_8 h
    refine lv_aload_n hx hb dX12_faces_9 rfl (lv_at hl 0 rfl) ?_
    refine lv_iload_n hx hb dX12_faces_10 rfl (lv_at hl 1 rfl) ?_
    refine lv_iload_n hx hb dX12_faces_11 rfl (lv_at hl 2 rfl) ?_
    obtain ⟨z_12, e_z_12, h⟩ := bi h
    refine efVi (rest := []) ⟨hx, hb, hml, hown, ht⟩ (c_X12_pins l D cy fu A_m m_at m_names m_status m_top m_bottom m_sort m_trayMany m_trays m_tape m_text m_taped m_size m_token m_from m_end m_value m_faultKind m_faultPlace m_faults m_seen m_toldParts m_opened m_depth m_counted m_bestOrder m_standers m_has m_bestHas m_standerMany m_bestCouples m_bestFondness m_cameTo m_doesStandFirst m_stoodBy m_drawn m_ranSteps m_loops m_ran m_told1 m_isTold m_marks x1 x2 z_12 e_z_12 _ rfl _ rfl) (cV ht mv_X12_pins tb_1586 rfl rfl ⟨Nat.le_of_ble_eq_true rfl, Nat.le_of_ble_eq_true rfl⟩) hP hS hX [0] rfl rfl rfl rfl rfl rfl hl.1 rfl (Nat.le_of_ble_eq_true rfl) dX12_faces_12 ⟨Nat.le_of_ble_eq_true rfl, Nat.le_of_ble_eq_true rfl⟩ (fun H locs hP hS => ?_)
    have hP : PD D A [bl_X12 cy A_m z_12.2 m_names m_status m_top m_bottom m_sort m_trayMany m_trays m_tape m_text m_taped m_size m_token m_from m_end m_value m_faultKind m_faultPlace m_faults m_seen m_toldParts m_opened m_depth m_counted m_bestOrder m_standers m_has m_bestHas m_standerMany m_bestCouples m_bestFondness m_cameTo m_doesStandFirst m_stoodBy m_drawn m_ranSteps m_loops m_ran m_told1 m_isTold m_marks] H := hP
    cases h
    subst hW1
    exact W.iret hx hb hr (fun _ ht9 _ => ⟨⟨_, (), rfl, rfl, hPt ht9 hP.1⟩, hS.F ht9⟩) hS.2.2 dX12_faces_15
theorem dX12_face_0 : decode cX12_face 0 = .ok (.aload_n 0, 1) := by decide +kernel
theorem dX12_face_1 : decode cX12_face 1 = .ok (.iload_n 1, 1) := by decide +kernel
theorem dX12_face_2 : decode cX12_face 2 = .ok (.invokevirtual 241, 3) := by decide +kernel
theorem dX12_face_5 : decode cX12_face 5 = .ok (.ifCond .eq 11, 3) := by decide +kernel
theorem dX12_face_8 : decode cX12_face 8 = .ok (.iload_n 2, 1) := by decide +kernel
theorem dX12_face_9 : decode cX12_face 9 = .ok (.i2l, 1) := by decide +kernel
theorem dX12_face_10 : decode cX12_face 10 = .ok (.invokestatic 292, 3) := by decide +kernel
theorem dX12_face_13 : decode cX12_face 13 = .ok (.ifCond .ne 9, 3) := by decide +kernel
theorem dX12_face_16 : decode cX12_face 16 = .ok (.aload_n 0, 1) := by decide +kernel
theorem dX12_face_17 : decode cX12_face 17 = .ok (.iconst 1, 1) := by decide +kernel
theorem dX12_face_18 : decode cX12_face 18 = .ok (.invokevirtual 85, 3) := by decide +kernel
theorem dX12_face_21 : decode cX12_face 21 = .ok (.ireturn, 1) := by decide +kernel
theorem dX12_face_22 : decode cX12_face 22 = .ok (.aload_n 0, 1) := by decide +kernel
theorem dX12_face_23 : decode cX12_face 23 = .ok (.iload_n 1, 1) := by decide +kernel
theorem dX12_face_24 : decode cX12_face 24 = .ok (.invokevirtual 253, 3) := by decide +kernel
theorem dX12_face_27 : decode cX12_face 27 = .ok (.ifCond .eq 16, 3) := by decide +kernel
theorem dX12_face_30 : decode cX12_face 30 = .ok (.aload_n 0, 1) := by decide +kernel
theorem dX12_face_31 : decode cX12_face 31 = .ok (.aload_n 0, 1) := by decide +kernel
theorem dX12_face_32 : decode cX12_face 32 = .ok (.iload_n 1, 1) := by decide +kernel
theorem dX12_face_33 : decode cX12_face 33 = .ok (.iload_n 2, 1) := by decide +kernel
theorem dX12_face_34 : decode cX12_face 34 = .ok (.invokevirtual 296, 3) := by decide +kernel
theorem dX12_face_37 : decode cX12_face 37 = .ok (.invokevirtual 88, 3) := by decide +kernel
theorem dX12_face_40 : decode cX12_face 40 = .ok (.goto 9, 3) := by decide +kernel
theorem dX12_face_43 : decode cX12_face 43 = .ok (.aload_n 0, 1) := by decide +kernel
theorem dX12_face_44 : decode cX12_face 44 = .ok (.bipush 7, 2) := by decide +kernel
theorem dX12_face_46 : decode cX12_face 46 = .ok (.invokevirtual 85, 3) := by decide +kernel
theorem dX12_face_49 : decode cX12_face 49 = .ok (.ireturn, 1) := by decide +kernel
theorem mv_X12_face : MV yX12_face RX12 cX12_face 3 (some .int) 2 := ⟨tb_1570, tb_1568, tb_1569, tb_16, by decide +kernel, by decide +kernel, by decide +kernel⟩
def f_X12_face (fu : Nat) (m_at : Nat → Int32) (m_status : Int32) (x1 : Int32) (x2 : Int32) : Option (Int32 × (Nat → Int32) × Int32) := (f_X12_isMan fu m_at x1).bind fun z_12 => (if z_12 = 0 then (f_X12_refuse fu m_status 1).bind fun z_14 => some (z_14.1, m_at, z_14.2) else (f_X12_isSize fu (Int32.toInt64 x2)).bind fun z_15 => (if z_15 = 0 then (f_X12_refuse fu m_status 1).bind fun z_22 => some (z_22.1, m_at, z_22.2) else (f_X12_isAlive fu m_at x1).bind fun z_17 => (if z_17 = 0 then (f_X12_refuse fu m_status 7).bind fun z_19 => some (z_19.1, m_at, z_19.2) else (f_X12_faces fu m_at x1 x2).bind fun z_20 => (f_X12_gives fu m_status z_20.1).bind fun z_21 => some (z_21.1, z_20.2, z_21.2))))
abbrev rm_X12_face : Room := { frames := 8, cells := 0, slots := 0, locals := 185 }
set_option maxHeartbeats 4000000 in
set_option maxRecDepth 100000 in
theorem c_X12_face (l : Launch) (D : va_G) (cy : Nat → ClassId) (fu : Nat) (A_m : Nat → Nat) (m_at : Nat → Int32) (m_names : Nat → Int64) (m_status : Int32) (m_top : Int64) (m_bottom : Int64) (m_sort : Nat → Int32) (m_trayMany : Nat → Int32) (m_trays : Nat → Int64) (m_tape : Nat → Int32) (m_text : Nat → Int32) (m_taped : Int32) (m_size : Int32) (m_token : Int32) (m_from : Int32) (m_end : Int32) (m_value : Int32) (m_faultKind : Int32) (m_faultPlace : Int32) (m_faults : Int32) (m_seen : Int32) (m_toldParts : Int32) (m_opened : Nat → Int32) (m_depth : Int32) (m_counted : Int32) (m_bestOrder : Int32) (m_standers : Nat → Int32) (m_has : Nat → Int32) (m_bestHas : Nat → Int32) (m_standerMany : Int32) (m_bestCouples : Int32) (m_bestFondness : Int32) (m_cameTo : Nat → Int32) (m_doesStandFirst : Int32) (m_stoodBy : Nat → Int64) (m_drawn : Int32) (m_ranSteps : Int32) (m_loops : Nat → Int32) (m_ran : Nat → Int32) (m_told1 : Nat → Int32) (m_isTold : Int32) (m_marks : Int32) (x1 : Int32) (x2 : Int32) (res : Int32 × (Nat → Int32) × Int32) (h : f_X12_face fu m_at m_status x1 x2 = some res) (A : Nat → Prop) (hA : A = adr [bl_X12 cy A_m m_at m_names m_status m_top m_bottom m_sort m_trayMany m_trays m_tape m_text m_taped m_size m_token m_from m_end m_value m_faultKind m_faultPlace m_faults m_seen m_toldParts m_opened m_depth m_counted m_bestOrder m_standers m_has m_bestHas m_standerMany m_bestCouples m_bestFondness m_cameTo m_doesStandFirst m_stoodBy m_drawn m_ranSteps m_loops m_ran m_told1 m_isTold m_marks]) (W1 : List va_W) (hW1 : W1 = [bl_X12 cy A_m res.2.1 m_names res.2.2 m_top m_bottom m_sort m_trayMany m_trays m_tape m_text m_taped m_size m_token m_from m_end m_value m_faultKind m_faultPlace m_faults m_seen m_toldParts m_opened m_depth m_counted m_bestOrder m_standers m_has m_bestHas m_standerMany m_bestCouples m_bestFondness m_cameTo m_doesStandFirst m_stoodBy m_drawn m_ranSteps m_loops m_ran m_told1 m_isTold m_marks]) : Met l yX12_face (WW yX12_face cX12_face 3 (some .int)) rm_X12_face (Ed D cy [.ref (A_m 0), .int x1, .int x2] [bl_X12 cy A_m m_at m_names m_status m_top m_bottom m_sort m_trayMany m_trays m_tape m_text m_taped m_size m_token m_from m_end m_value m_faultKind m_faultPlace m_faults m_seen m_toldParts m_opened m_depth m_counted m_bestOrder m_standers m_has m_bestHas m_standerMany m_bestCouples m_bestFondness m_cameTo m_doesStandFirst m_stoodBy m_drawn m_ranSteps m_loops m_ran m_told1 m_isTold m_marks]) (Qei D res.1 A W1) 0 0 A := by
  refine Met.ofW (cc := cX12_face) (maxL := 3) (ret := (some .int)) (by decide) rfl ?_
  intro p e s m args below meth c s₁ B hml hv
  obtain ⟨hargs, hP, hX, hD0⟩ := hv
  have hx := B.exec
  have hb := B.bytes
  have hr := B.returns
  have ht : ∀ w ∈ lw_gd, w.before args s = true := fun w hw => atoms_spec (ws := WW yX12_face cX12_face 3 (some .int)) B.pre w (List.mem_cons_of_mem _ hw)
  have hown : s.vm.findClass RX12 = some m.cls := findClass_of_methodNamed B.named
  have hlocks := B.notSynchronized
  have hP : PD D A [bl_X12 cy A_m m_at m_names m_status m_top m_bottom m_sort m_trayMany m_trays m_tape m_text m_taped m_size m_token m_from m_end m_value m_faultKind m_faultPlace m_faults m_seen m_toldParts m_opened m_depth m_counted m_bestOrder m_standers m_has m_bestHas m_standerMany m_bestCouples m_bestFondness m_cameTo m_doesStandFirst m_stoodBy m_drawn m_ranSteps m_loops m_ran m_told1 m_isTold m_marks] s.heap := ⟨hP, by rw [hA]; exact hD0.own⟩
  have hS : va_S A s.heap s.heap [] := va_S.rf
  obtain ⟨ls, hl, hent⟩ := ent (m := m) (n := 3) hargs (Nat.le_of_ble_eq_true rfl) (lv := [(0, .ref (A_m 0)), (1, .int x1), (2, .int x2)]) rfl
  rw [hent]
  clear hent
  unfold f_X12_face at h
  refine lv_aload_n hx hb dX12_face_0 rfl (lv_at hl 0 rfl) ?_
  refine lv_iload_n hx hb dX12_face_1 rfl (lv_at hl 1 rfl) ?_
  obtain ⟨z_12, e_z_12, h⟩ := bi h
  refine roVi (rest := []) ⟨hx, hb, hml, hown, ht⟩ (c_X12_isMan l D cy fu A_m m_at m_names m_status m_top m_bottom m_sort m_trayMany m_trays m_tape m_text m_taped m_size m_token m_from m_end m_value m_faultKind m_faultPlace m_faults m_seen m_toldParts m_opened m_depth m_counted m_bestOrder m_standers m_has m_bestHas m_standerMany m_bestCouples m_bestFondness m_cameTo m_doesStandFirst m_stoodBy m_drawn m_ranSteps m_loops m_ran m_told1 m_isTold m_marks x1 z_12 e_z_12) (cV ht mv_X12_isMan tb_1551 rfl rfl ⟨Nat.le_of_ble_eq_true rfl, Nat.le_of_ble_eq_true rfl⟩) (P_sub hP.1 [0] rfl) hX rfl rfl rfl hl.1 rfl (Nat.le_of_ble_eq_true rfl) dX12_face_2 ⟨Nat.le_of_ble_eq_true rfl, Nat.le_of_ble_eq_true rfl⟩ ?_
  refine lv_if_eq (tgt := 16) hx hb dX12_face_5 (by decide) (fun c_13 => ?_) (fun c_13 => ?_)
  · have h := it c_13 h
    refine lv_aload_n hx hb dX12_face_16 rfl (lv_at hl 0 rfl) ?_
    refine lv_iconst (v := 1) hx hb dX12_face_17 (by decide) ?_
    obtain ⟨z_14, e_z_14, h⟩ := bi h
    refine efVi (rest := []) ⟨hx, hb, hml, hown, ht⟩ (c_X12_refuse l D cy fu A_m m_at m_names m_status m_top m_bottom m_sort m_trayMany m_trays m_tape m_text m_taped m_size m_token m_from m_end m_value m_faultKind m_faultPlace m_faults m_seen m_toldParts m_opened m_depth m_counted m_bestOrder m_standers m_has m_bestHas m_standerMany m_bestCouples m_bestFondness m_cameTo m_doesStandFirst m_stoodBy m_drawn m_ranSteps m_loops m_ran m_told1 m_isTold m_marks 1 z_14 e_z_14 _ rfl _ rfl) (cV ht mv_X12_refuse tb_1432 rfl rfl ⟨Nat.le_of_ble_eq_true rfl, Nat.le_of_ble_eq_true rfl⟩) hP hS hX [0] rfl rfl rfl rfl rfl rfl hl.1 rfl (Nat.le_of_ble_eq_true rfl) dX12_face_18 ⟨Nat.le_of_ble_eq_true rfl, Nat.le_of_ble_eq_true rfl⟩ (fun H locs hP hS => ?_)
    have hP : PD D A [bl_X12 cy A_m m_at m_names z_14.2 m_top m_bottom m_sort m_trayMany m_trays m_tape m_text m_taped m_size m_token m_from m_end m_value m_faultKind m_faultPlace m_faults m_seen m_toldParts m_opened m_depth m_counted m_bestOrder m_standers m_has m_bestHas m_standerMany m_bestCouples m_bestFondness m_cameTo m_doesStandFirst m_stoodBy m_drawn m_ranSteps m_loops m_ran m_told1 m_isTold m_marks] H := hP
    cases h
    subst hW1
    exact W.iret hx hb hr (fun _ ht9 _ => ⟨⟨_, (), rfl, rfl, hPt ht9 hP.1⟩, hS.F ht9⟩) hS.2.2 dX12_face_21
  · have h := ie c_13 h
    refine lv_iload_n hx hb dX12_face_8 rfl (lv_at hl 2 rfl) ?_
    refine lv_i2l (v := Int32.toInt64 x2) hx hb dX12_face_9 rfl ?_
    obtain ⟨z_15, e_z_15, h⟩ := bi h
    refine roSi (rest := []) ⟨hx, hb, hml, hown, ht⟩ (c_X12_isSize l D cy fu  (Int32.toInt64 x2) z_15 e_z_15) (cS ht ms_X12_isSize tb_1571 rfl rfl ⟨Nat.le_of_ble_eq_true rfl, Nat.le_of_ble_eq_true rfl⟩) (P_sub hP.1 [] rfl) hX rfl hl.1 rfl (Nat.le_of_ble_eq_true rfl) dX12_face_10 ⟨Nat.le_of_ble_eq_true rfl, Nat.le_of_ble_eq_true rfl⟩ ?_
    refine lv_if_ne (tgt := 22) hx hb dX12_face_13 (by decide) (fun c_16 => ?_) (fun c_16 => ?_)
    · have h := ie c_16 h
      refine lv_aload_n hx hb dX12_face_22 rfl (lv_at hl 0 rfl) ?_
      refine lv_iload_n hx hb dX12_face_23 rfl (lv_at hl 1 rfl) ?_
      obtain ⟨z_17, e_z_17, h⟩ := bi h
      refine roVi (rest := []) ⟨hx, hb, hml, hown, ht⟩ (c_X12_isAlive l D cy fu A_m m_at m_names m_status m_top m_bottom m_sort m_trayMany m_trays m_tape m_text m_taped m_size m_token m_from m_end m_value m_faultKind m_faultPlace m_faults m_seen m_toldParts m_opened m_depth m_counted m_bestOrder m_standers m_has m_bestHas m_standerMany m_bestCouples m_bestFondness m_cameTo m_doesStandFirst m_stoodBy m_drawn m_ranSteps m_loops m_ran m_told1 m_isTold m_marks x1 z_17 e_z_17) (cV ht mv_X12_isAlive tb_1531 rfl rfl ⟨Nat.le_of_ble_eq_true rfl, Nat.le_of_ble_eq_true rfl⟩) (P_sub hP.1 [0] rfl) hX rfl rfl rfl hl.1 rfl (Nat.le_of_ble_eq_true rfl) dX12_face_24 ⟨Nat.le_of_ble_eq_true rfl, Nat.le_of_ble_eq_true rfl⟩ ?_
      refine lv_if_eq (tgt := 43) hx hb dX12_face_27 (by decide) (fun c_18 => ?_) (fun c_18 => ?_)
      · have h := it c_18 h
        refine lv_aload_n hx hb dX12_face_43 rfl (lv_at hl 0 rfl) ?_
        refine lv_bipush (v := 7) hx hb dX12_face_44 (by decide) ?_
        obtain ⟨z_19, e_z_19, h⟩ := bi h
        refine efVi (rest := []) ⟨hx, hb, hml, hown, ht⟩ (c_X12_refuse l D cy fu A_m m_at m_names m_status m_top m_bottom m_sort m_trayMany m_trays m_tape m_text m_taped m_size m_token m_from m_end m_value m_faultKind m_faultPlace m_faults m_seen m_toldParts m_opened m_depth m_counted m_bestOrder m_standers m_has m_bestHas m_standerMany m_bestCouples m_bestFondness m_cameTo m_doesStandFirst m_stoodBy m_drawn m_ranSteps m_loops m_ran m_told1 m_isTold m_marks 7 z_19 e_z_19 _ rfl _ rfl) (cV ht mv_X12_refuse tb_1432 rfl rfl ⟨Nat.le_of_ble_eq_true rfl, Nat.le_of_ble_eq_true rfl⟩) hP hS hX [0] rfl rfl rfl rfl rfl rfl hl.1 rfl (Nat.le_of_ble_eq_true rfl) dX12_face_46 ⟨Nat.le_of_ble_eq_true rfl, Nat.le_of_ble_eq_true rfl⟩ (fun H locs hP hS => ?_)
        have hP : PD D A [bl_X12 cy A_m m_at m_names z_19.2 m_top m_bottom m_sort m_trayMany m_trays m_tape m_text m_taped m_size m_token m_from m_end m_value m_faultKind m_faultPlace m_faults m_seen m_toldParts m_opened m_depth m_counted m_bestOrder m_standers m_has m_bestHas m_standerMany m_bestCouples m_bestFondness m_cameTo m_doesStandFirst m_stoodBy m_drawn m_ranSteps m_loops m_ran m_told1 m_isTold m_marks] H := hP
        cases h
        subst hW1
        exact W.iret hx hb hr (fun _ ht9 _ => ⟨⟨_, (), rfl, rfl, hPt ht9 hP.1⟩, hS.F ht9⟩) hS.2.2 dX12_face_49
      · have h := ie c_18 h
        refine lv_aload_n hx hb dX12_face_30 rfl (lv_at hl 0 rfl) ?_
        refine lv_aload_n hx hb dX12_face_31 rfl (lv_at hl 0 rfl) ?_
        refine lv_iload_n hx hb dX12_face_32 rfl (lv_at hl 1 rfl) ?_
        refine lv_iload_n hx hb dX12_face_33 rfl (lv_at hl 2 rfl) ?_
        obtain ⟨z_20, e_z_20, h⟩ := bi h
        refine efVi (rest := [.ref (A_m 0)]) ⟨hx, hb, hml, hown, ht⟩ (c_X12_faces l D cy fu A_m m_at m_names m_status m_top m_bottom m_sort m_trayMany m_trays m_tape m_text m_taped m_size m_token m_from m_end m_value m_faultKind m_faultPlace m_faults m_seen m_toldParts m_opened m_depth m_counted m_bestOrder m_standers m_has m_bestHas m_standerMany m_bestCouples m_bestFondness m_cameTo m_doesStandFirst m_stoodBy m_drawn m_ranSteps m_loops m_ran m_told1 m_isTold m_marks x1 x2 z_20 e_z_20 _ rfl _ rfl) (cV ht mv_X12_faces tb_1578 rfl rfl ⟨Nat.le_of_ble_eq_true rfl, Nat.le_of_ble_eq_true rfl⟩) hP hS hX [0] rfl rfl rfl rfl rfl rfl hl.1 rfl (Nat.le_of_ble_eq_true rfl) dX12_face_34 ⟨Nat.le_of_ble_eq_true rfl, Nat.le_of_ble_eq_true rfl⟩ (fun H locs hP hS => ?_)
        have hP : PD D A [bl_X12 cy A_m z_20.2 m_names m_status m_top m_bottom m_sort m_trayMany m_trays m_tape m_text m_taped m_size m_token m_from m_end m_value m_faultKind m_faultPlace m_faults m_seen m_toldParts m_opened m_depth m_counted m_bestOrder m_standers m_has m_bestHas m_standerMany m_bestCouples m_bestFondness m_cameTo m_doesStandFirst m_stoodBy m_drawn m_ranSteps m_loops m_ran m_told1 m_isTold m_marks] H := hP
        obtain ⟨z_21, e_z_21, h⟩ := bi h
        refine efVi (rest := []) ⟨hx, hb, hml, hown, ht⟩ (c_X12_gives l D cy fu A_m z_20.2 m_names m_status m_top m_bottom m_sort m_trayMany m_trays m_tape m_text m_taped m_size m_token m_from m_end m_value m_faultKind m_faultPlace m_faults m_seen m_toldParts m_opened m_depth m_counted m_bestOrder m_standers m_has m_bestHas m_standerMany m_bestCouples m_bestFondness m_cameTo m_doesStandFirst m_stoodBy m_drawn m_ranSteps m_loops m_ran m_told1 m_isTold m_marks z_20.1 z_21 e_z_21 _ rfl _ rfl) (cV ht mv_X12_gives tb_1499 rfl rfl ⟨Nat.le_of_ble_eq_true rfl, Nat.le_of_ble_eq_true rfl⟩) hP hS hX [0] rfl rfl rfl rfl rfl rfl hl.1 rfl (Nat.le_of_ble_eq_true rfl) dX12_face_37 ⟨Nat.le_of_ble_eq_true rfl, Nat.le_of_ble_eq_true rfl⟩ (fun H locs hP hS => ?_)
        have hP : PD D A [bl_X12 cy A_m z_20.2 m_names z_21.2 m_top m_bottom m_sort m_trayMany m_trays m_tape m_text m_taped m_size m_token m_from m_end m_value m_faultKind m_faultPlace m_faults m_seen m_toldParts m_opened m_depth m_counted m_bestOrder m_standers m_has m_bestHas m_standerMany m_bestCouples m_bestFondness m_cameTo m_doesStandFirst m_stoodBy m_drawn m_ranSteps m_loops m_ran m_told1 m_isTold m_marks] H := hP
        refine lv_goto (tgt := 49) hx hb dX12_face_40 (by decide) ?_
        cases h
        subst hW1
        exact W.iret hx hb hr (fun _ ht9 _ => ⟨⟨_, (), rfl, rfl, hPt ht9 hP.1⟩, hS.F ht9⟩) hS.2.2 dX12_face_49
    · have h := it c_16 h
      refine lv_aload_n hx hb dX12_face_16 rfl (lv_at hl 0 rfl) ?_
      refine lv_iconst (v := 1) hx hb dX12_face_17 (by decide) ?_
      obtain ⟨z_22, e_z_22, h⟩ := bi h
      refine efVi (rest := []) ⟨hx, hb, hml, hown, ht⟩ (c_X12_refuse l D cy fu A_m m_at m_names m_status m_top m_bottom m_sort m_trayMany m_trays m_tape m_text m_taped m_size m_token m_from m_end m_value m_faultKind m_faultPlace m_faults m_seen m_toldParts m_opened m_depth m_counted m_bestOrder m_standers m_has m_bestHas m_standerMany m_bestCouples m_bestFondness m_cameTo m_doesStandFirst m_stoodBy m_drawn m_ranSteps m_loops m_ran m_told1 m_isTold m_marks 1 z_22 e_z_22 _ rfl _ rfl) (cV ht mv_X12_refuse tb_1432 rfl rfl ⟨Nat.le_of_ble_eq_true rfl, Nat.le_of_ble_eq_true rfl⟩) hP hS hX [0] rfl rfl rfl rfl rfl rfl hl.1 rfl (Nat.le_of_ble_eq_true rfl) dX12_face_18 ⟨Nat.le_of_ble_eq_true rfl, Nat.le_of_ble_eq_true rfl⟩ (fun H locs hP hS => ?_)
      have hP : PD D A [bl_X12 cy A_m m_at m_names z_22.2 m_top m_bottom m_sort m_trayMany m_trays m_tape m_text m_taped m_size m_token m_from m_end m_value m_faultKind m_faultPlace m_faults m_seen m_toldParts m_opened m_depth m_counted m_bestOrder m_standers m_has m_bestHas m_standerMany m_bestCouples m_bestFondness m_cameTo m_doesStandFirst m_stoodBy m_drawn m_ranSteps m_loops m_ran m_told1 m_isTold m_marks] H := hP
      cases h
      subst hW1
      exact W.iret hx hb hr (fun _ ht9 _ => ⟨⟨_, (), rfl, rfl, hPt ht9 hP.1⟩, hS.F ht9⟩) hS.2.2 dX12_face_21
theorem dX12_hands_0 : decode cX12_hands 0 = .ok (.iload_n 1, 1) := by decide +kernel
theorem dX12_hands_1 : decode cX12_hands 1 = .ok (.iload_n 2, 1) := by decide +kernel
theorem dX12_hands_2 : decode cX12_hands 2 = .ok (.if_icmp .eq 39, 3) := by decide +kernel
theorem dX12_hands_5 : decode cX12_hands 5 = .ok (.aload_n 0, 1) := by decide +kernel
theorem dX12_hands_6 : decode cX12_hands 6 = .ok (.iload_n 1, 1) := by decide +kernel
theorem dX12_hands_7 : decode cX12_hands 7 = .ok (.invokevirtual 253, 3) := by decide +kernel
theorem dX12_hands_10 : decode cX12_hands 10 = .ok (.ifCond .eq 31, 3) := by decide +kernel
theorem dX12_hands_13 : decode cX12_hands 13 = .ok (.aload_n 0, 1) := by decide +kernel
theorem dX12_hands_14 : decode cX12_hands 14 = .ok (.iload_n 2, 1) := by decide +kernel
theorem dX12_hands_15 : decode cX12_hands 15 = .ok (.invokevirtual 253, 3) := by decide +kernel
theorem dX12_hands_18 : decode cX12_hands 18 = .ok (.ifCond .eq 23, 3) := by decide +kernel
theorem dX12_hands_21 : decode cX12_hands 21 = .ok (.aload_n 0, 1) := by decide +kernel
theorem dX12_hands_22 : decode cX12_hands 22 = .ok (.iload_n 1, 1) := by decide +kernel
theorem dX12_hands_23 : decode cX12_hands 23 = .ok (.iconst 2, 1) := by decide +kernel
theorem dX12_hands_24 : decode cX12_hands 24 = .ok (.invokevirtual 250, 3) := by decide +kernel
theorem dX12_hands_27 : decode cX12_hands 27 = .ok (.ifCond .eq 14, 3) := by decide +kernel
theorem dX12_hands_30 : decode cX12_hands 30 = .ok (.aload_n 0, 1) := by decide +kernel
theorem dX12_hands_31 : decode cX12_hands 31 = .ok (.iload_n 2, 1) := by decide +kernel
theorem dX12_hands_32 : decode cX12_hands 32 = .ok (.iconst 2, 1) := by decide +kernel
theorem dX12_hands_33 : decode cX12_hands 33 = .ok (.invokevirtual 250, 3) := by decide +kernel
theorem dX12_hands_36 : decode cX12_hands 36 = .ok (.bipush 99, 2) := by decide +kernel
theorem dX12_hands_38 : decode cX12_hands 38 = .ok (.if_icmp .ne 5, 3) := by decide +kernel
theorem dX12_hands_41 : decode cX12_hands 41 = .ok (.iconst 0, 1) := by decide +kernel
theorem dX12_hands_42 : decode cX12_hands 42 = .ok (.ireturn, 1) := by decide +kernel
theorem dX12_hands_43 : decode cX12_hands 43 = .ok (.aload_n 0, 1) := by decide +kernel
theorem dX12_hands_44 : decode cX12_hands 44 = .ok (.getfield 7, 3) := by decide +kernel
theorem dX12_hands_47 : decode cX12_hands 47 = .ok (.iload_n 1, 1) := by decide +kernel
theorem dX12_hands_48 : decode cX12_hands 48 = .ok (.invokestatic 75, 3) := by decide +kernel
theorem dX12_hands_51 : decode cX12_hands 51 = .ok (.iconst 2, 1) := by decide +kernel
theorem dX12_hands_52 : decode cX12_hands 52 = .ok (.iadd, 1) := by decide +kernel
theorem dX12_hands_53 : decode cX12_hands 53 = .ok (.dup2, 1) := by decide +kernel
theorem dX12_hands_54 : decode cX12_hands 54 = .ok (.iaload, 1) := by decide +kernel
theorem dX12_hands_55 : decode cX12_hands 55 = .ok (.iconst 1, 1) := by decide +kernel
theorem dX12_hands_56 : decode cX12_hands 56 = .ok (.isub, 1) := by decide +kernel
theorem dX12_hands_57 : decode cX12_hands 57 = .ok (.iastore, 1) := by decide +kernel
theorem dX12_hands_58 : decode cX12_hands 58 = .ok (.aload_n 0, 1) := by decide +kernel
theorem dX12_hands_59 : decode cX12_hands 59 = .ok (.getfield 7, 3) := by decide +kernel
theorem dX12_hands_62 : decode cX12_hands 62 = .ok (.iload_n 2, 1) := by decide +kernel
theorem dX12_hands_63 : decode cX12_hands 63 = .ok (.invokestatic 75, 3) := by decide +kernel
theorem dX12_hands_66 : decode cX12_hands 66 = .ok (.iconst 2, 1) := by decide +kernel
theorem dX12_hands_67 : decode cX12_hands 67 = .ok (.iadd, 1) := by decide +kernel
theorem dX12_hands_68 : decode cX12_hands 68 = .ok (.dup2, 1) := by decide +kernel
theorem dX12_hands_69 : decode cX12_hands 69 = .ok (.iaload, 1) := by decide +kernel
theorem dX12_hands_70 : decode cX12_hands 70 = .ok (.iconst 1, 1) := by decide +kernel
theorem dX12_hands_71 : decode cX12_hands 71 = .ok (.iadd, 1) := by decide +kernel
theorem dX12_hands_72 : decode cX12_hands 72 = .ok (.iastore, 1) := by decide +kernel
theorem dX12_hands_73 : decode cX12_hands 73 = .ok (.iconst 1, 1) := by decide +kernel
theorem dX12_hands_74 : decode cX12_hands 74 = .ok (.ireturn, 1) := by decide +kernel
theorem mv_X12_hands : MV yX12_hands RX12 cX12_hands 3 (some .boolean) 2 := ⟨tb_1617, tb_1616, ts_83, tb_16, by decide +kernel, by decide +kernel, by decide +kernel⟩
def f_X12_hands (fu : Nat) (m_at : Nat → Int32) (x1 : Int32) (x2 : Int32) : Option (Int32 × (Nat → Int32)) := (if x1 = x2 then some (0, m_at) else (f_X12_isAlive fu m_at x1).bind fun z_17 => (if z_17 = 0 then some (0, m_at) else (f_X12_isAlive fu m_at x2).bind fun z_19 => (if z_19 = 0 then some (0, m_at) else (f_X12_manOf fu m_at x1 2).bind fun z_21 => (if z_21 = 0 then some (0, m_at) else (f_X12_manOf fu m_at x2 2).bind fun z_23 => (if z_23 = 99 then some (0, m_at) else (f_X12_manRow fu x1).bind fun z_25 => (rdI m_at 3648 (z_25 + 2)).bind fun y_26 => (wrI m_at 3648 (z_25 + 2) (y_26 - 1)).bind fun m_at_27 => (f_X12_manRow fu x2).bind fun z_28 => (rdI m_at_27 3648 (z_28 + 2)).bind fun y_29 => (wrI m_at_27 3648 (z_28 + 2) (y_29 + 1)).bind fun m_at_30 => some (1, m_at_30))))))
abbrev rm_X12_hands : Room := { frames := 3, cells := 0, slots := 0, locals := 63 }
set_option maxHeartbeats 4000000 in
set_option maxRecDepth 100000 in
theorem c_X12_hands (l : Launch) (D : va_G) (cy : Nat → ClassId) (fu : Nat) (A_m : Nat → Nat) (m_at : Nat → Int32) (m_names : Nat → Int64) (m_status : Int32) (m_top : Int64) (m_bottom : Int64) (m_sort : Nat → Int32) (m_trayMany : Nat → Int32) (m_trays : Nat → Int64) (m_tape : Nat → Int32) (m_text : Nat → Int32) (m_taped : Int32) (m_size : Int32) (m_token : Int32) (m_from : Int32) (m_end : Int32) (m_value : Int32) (m_faultKind : Int32) (m_faultPlace : Int32) (m_faults : Int32) (m_seen : Int32) (m_toldParts : Int32) (m_opened : Nat → Int32) (m_depth : Int32) (m_counted : Int32) (m_bestOrder : Int32) (m_standers : Nat → Int32) (m_has : Nat → Int32) (m_bestHas : Nat → Int32) (m_standerMany : Int32) (m_bestCouples : Int32) (m_bestFondness : Int32) (m_cameTo : Nat → Int32) (m_doesStandFirst : Int32) (m_stoodBy : Nat → Int64) (m_drawn : Int32) (m_ranSteps : Int32) (m_loops : Nat → Int32) (m_ran : Nat → Int32) (m_told1 : Nat → Int32) (m_isTold : Int32) (m_marks : Int32) (x1 : Int32) (x2 : Int32) (res : Int32 × (Nat → Int32)) (h : f_X12_hands fu m_at x1 x2 = some res) (A : Nat → Prop) (hA : A = adr [bl_X12 cy A_m m_at m_names m_status m_top m_bottom m_sort m_trayMany m_trays m_tape m_text m_taped m_size m_token m_from m_end m_value m_faultKind m_faultPlace m_faults m_seen m_toldParts m_opened m_depth m_counted m_bestOrder m_standers m_has m_bestHas m_standerMany m_bestCouples m_bestFondness m_cameTo m_doesStandFirst m_stoodBy m_drawn m_ranSteps m_loops m_ran m_told1 m_isTold m_marks]) (W1 : List va_W) (hW1 : W1 = [bl_X12 cy A_m res.2 m_names m_status m_top m_bottom m_sort m_trayMany m_trays m_tape m_text m_taped m_size m_token m_from m_end m_value m_faultKind m_faultPlace m_faults m_seen m_toldParts m_opened m_depth m_counted m_bestOrder m_standers m_has m_bestHas m_standerMany m_bestCouples m_bestFondness m_cameTo m_doesStandFirst m_stoodBy m_drawn m_ranSteps m_loops m_ran m_told1 m_isTold m_marks]) : Met l yX12_hands (WW yX12_hands cX12_hands 3 (some .boolean)) rm_X12_hands (Ed D cy [.ref (A_m 0), .int x1, .int x2] [bl_X12 cy A_m m_at m_names m_status m_top m_bottom m_sort m_trayMany m_trays m_tape m_text m_taped m_size m_token m_from m_end m_value m_faultKind m_faultPlace m_faults m_seen m_toldParts m_opened m_depth m_counted m_bestOrder m_standers m_has m_bestHas m_standerMany m_bestCouples m_bestFondness m_cameTo m_doesStandFirst m_stoodBy m_drawn m_ranSteps m_loops m_ran m_told1 m_isTold m_marks]) (Qei D res.1 A W1) 0 0 A := by
  refine Met.ofW (cc := cX12_hands) (maxL := 3) (ret := (some .boolean)) (by decide) rfl ?_
  intro p e s m args below meth c s₁ B hml hv
  obtain ⟨hargs, hP, hX, hD0⟩ := hv
  have hx := B.exec
  have hb := B.bytes
  have hr := B.returns
  have ht : ∀ w ∈ lw_gd, w.before args s = true := fun w hw => atoms_spec (ws := WW yX12_hands cX12_hands 3 (some .boolean)) B.pre w (List.mem_cons_of_mem _ hw)
  have hown : s.vm.findClass RX12 = some m.cls := findClass_of_methodNamed B.named
  have hlocks := B.notSynchronized
  have hP : PD D A [bl_X12 cy A_m m_at m_names m_status m_top m_bottom m_sort m_trayMany m_trays m_tape m_text m_taped m_size m_token m_from m_end m_value m_faultKind m_faultPlace m_faults m_seen m_toldParts m_opened m_depth m_counted m_bestOrder m_standers m_has m_bestHas m_standerMany m_bestCouples m_bestFondness m_cameTo m_doesStandFirst m_stoodBy m_drawn m_ranSteps m_loops m_ran m_told1 m_isTold m_marks] s.heap := ⟨hP, by rw [hA]; exact hD0.own⟩
  have hS : va_S A s.heap s.heap [] := va_S.rf
  obtain ⟨ls, hl, hent⟩ := ent (m := m) (n := 3) hargs (Nat.le_of_ble_eq_true rfl) (lv := [(0, .ref (A_m 0)), (1, .int x1), (2, .int x2)]) rfl
  rw [hent]
  clear hent
  unfold f_X12_hands at h
  refine lv_iload_n hx hb dX12_hands_0 rfl (lv_at hl 1 rfl) ?_
  refine lv_iload_n hx hb dX12_hands_1 rfl (lv_at hl 2 rfl) ?_
  refine lv_icmp_eq (tgt := 41) hx hb dX12_hands_2 (by decide) (fun c_16 => ?_) (fun c_16 => ?_)
  · have h := it c_16 h
    refine lv_iconst (v := 0) hx hb dX12_hands_41 (by decide) ?_
    cases h
    subst hW1
    exact W.zret hx hb hr rfl (fun _ ht9 _ => ⟨⟨_, (), rfl, rfl, hPt ht9 hP.1⟩, hS.F ht9⟩) hS.2.2 dX12_hands_42
  · have h := ie c_16 h
    refine lv_aload_n hx hb dX12_hands_5 rfl (lv_at hl 0 rfl) ?_
    refine lv_iload_n hx hb dX12_hands_6 rfl (lv_at hl 1 rfl) ?_
    obtain ⟨z_17, e_z_17, h⟩ := bi h
    refine roVi (rest := []) ⟨hx, hb, hml, hown, ht⟩ (c_X12_isAlive l D cy fu A_m m_at m_names m_status m_top m_bottom m_sort m_trayMany m_trays m_tape m_text m_taped m_size m_token m_from m_end m_value m_faultKind m_faultPlace m_faults m_seen m_toldParts m_opened m_depth m_counted m_bestOrder m_standers m_has m_bestHas m_standerMany m_bestCouples m_bestFondness m_cameTo m_doesStandFirst m_stoodBy m_drawn m_ranSteps m_loops m_ran m_told1 m_isTold m_marks x1 z_17 e_z_17) (cV ht mv_X12_isAlive tb_1531 rfl rfl ⟨Nat.le_of_ble_eq_true rfl, Nat.le_of_ble_eq_true rfl⟩) (P_sub hP.1 [0] rfl) hX rfl rfl rfl hl.1 rfl (Nat.le_of_ble_eq_true rfl) dX12_hands_7 ⟨Nat.le_of_ble_eq_true rfl, Nat.le_of_ble_eq_true rfl⟩ ?_
    refine lv_if_eq (tgt := 41) hx hb dX12_hands_10 (by decide) (fun c_18 => ?_) (fun c_18 => ?_)
    · have h := it c_18 h
      refine lv_iconst (v := 0) hx hb dX12_hands_41 (by decide) ?_
      cases h
      subst hW1
      exact W.zret hx hb hr rfl (fun _ ht9 _ => ⟨⟨_, (), rfl, rfl, hPt ht9 hP.1⟩, hS.F ht9⟩) hS.2.2 dX12_hands_42
    · have h := ie c_18 h
      refine lv_aload_n hx hb dX12_hands_13 rfl (lv_at hl 0 rfl) ?_
      refine lv_iload_n hx hb dX12_hands_14 rfl (lv_at hl 2 rfl) ?_
      obtain ⟨z_19, e_z_19, h⟩ := bi h
      refine roVi (rest := []) ⟨hx, hb, hml, hown, ht⟩ (c_X12_isAlive l D cy fu A_m m_at m_names m_status m_top m_bottom m_sort m_trayMany m_trays m_tape m_text m_taped m_size m_token m_from m_end m_value m_faultKind m_faultPlace m_faults m_seen m_toldParts m_opened m_depth m_counted m_bestOrder m_standers m_has m_bestHas m_standerMany m_bestCouples m_bestFondness m_cameTo m_doesStandFirst m_stoodBy m_drawn m_ranSteps m_loops m_ran m_told1 m_isTold m_marks x2 z_19 e_z_19) (cV ht mv_X12_isAlive tb_1531 rfl rfl ⟨Nat.le_of_ble_eq_true rfl, Nat.le_of_ble_eq_true rfl⟩) (P_sub hP.1 [0] rfl) hX rfl rfl rfl hl.1 rfl (Nat.le_of_ble_eq_true rfl) dX12_hands_15 ⟨Nat.le_of_ble_eq_true rfl, Nat.le_of_ble_eq_true rfl⟩ ?_
      refine lv_if_eq (tgt := 41) hx hb dX12_hands_18 (by decide) (fun c_20 => ?_) (fun c_20 => ?_)
      · have h := it c_20 h
        refine lv_iconst (v := 0) hx hb dX12_hands_41 (by decide) ?_
        cases h
        subst hW1
        exact W.zret hx hb hr rfl (fun _ ht9 _ => ⟨⟨_, (), rfl, rfl, hPt ht9 hP.1⟩, hS.F ht9⟩) hS.2.2 dX12_hands_42
      · have h := ie c_20 h
        refine lv_aload_n hx hb dX12_hands_21 rfl (lv_at hl 0 rfl) ?_
        refine lv_iload_n hx hb dX12_hands_22 rfl (lv_at hl 1 rfl) ?_
        refine lv_iconst (v := 2) hx hb dX12_hands_23 (by decide) ?_
        obtain ⟨z_21, e_z_21, h⟩ := bi h
        refine roVi (rest := []) ⟨hx, hb, hml, hown, ht⟩ (c_X12_manOf l D cy fu A_m m_at m_names m_status m_top m_bottom m_sort m_trayMany m_trays m_tape m_text m_taped m_size m_token m_from m_end m_value m_faultKind m_faultPlace m_faults m_seen m_toldParts m_opened m_depth m_counted m_bestOrder m_standers m_has m_bestHas m_standerMany m_bestCouples m_bestFondness m_cameTo m_doesStandFirst m_stoodBy m_drawn m_ranSteps m_loops m_ran m_told1 m_isTold m_marks x1 2 z_21 e_z_21) (cV ht mv_X12_manOf tb_1535 rfl rfl ⟨Nat.le_of_ble_eq_true rfl, Nat.le_of_ble_eq_true rfl⟩) (P_sub hP.1 [0] rfl) hX rfl rfl rfl hl.1 rfl (Nat.le_of_ble_eq_true rfl) dX12_hands_24 ⟨Nat.le_of_ble_eq_true rfl, Nat.le_of_ble_eq_true rfl⟩ ?_
        refine lv_if_eq (tgt := 41) hx hb dX12_hands_27 (by decide) (fun c_22 => ?_) (fun c_22 => ?_)
        · have h := it c_22 h
          refine lv_iconst (v := 0) hx hb dX12_hands_41 (by decide) ?_
          cases h
          subst hW1
          exact W.zret hx hb hr rfl (fun _ ht9 _ => ⟨⟨_, (), rfl, rfl, hPt ht9 hP.1⟩, hS.F ht9⟩) hS.2.2 dX12_hands_42
        · have h := ie c_22 h
          refine lv_aload_n hx hb dX12_hands_30 rfl (lv_at hl 0 rfl) ?_
          refine lv_iload_n hx hb dX12_hands_31 rfl (lv_at hl 2 rfl) ?_
          refine lv_iconst (v := 2) hx hb dX12_hands_32 (by decide) ?_
          obtain ⟨z_23, e_z_23, h⟩ := bi h
          refine roVi (rest := []) ⟨hx, hb, hml, hown, ht⟩ (c_X12_manOf l D cy fu A_m m_at m_names m_status m_top m_bottom m_sort m_trayMany m_trays m_tape m_text m_taped m_size m_token m_from m_end m_value m_faultKind m_faultPlace m_faults m_seen m_toldParts m_opened m_depth m_counted m_bestOrder m_standers m_has m_bestHas m_standerMany m_bestCouples m_bestFondness m_cameTo m_doesStandFirst m_stoodBy m_drawn m_ranSteps m_loops m_ran m_told1 m_isTold m_marks x2 2 z_23 e_z_23) (cV ht mv_X12_manOf tb_1535 rfl rfl ⟨Nat.le_of_ble_eq_true rfl, Nat.le_of_ble_eq_true rfl⟩) (P_sub hP.1 [0] rfl) hX rfl rfl rfl hl.1 rfl (Nat.le_of_ble_eq_true rfl) dX12_hands_33 ⟨Nat.le_of_ble_eq_true rfl, Nat.le_of_ble_eq_true rfl⟩ ?_
          refine lv_bipush (v := 99) hx hb dX12_hands_36 (by decide) ?_
          refine lv_icmp_ne (tgt := 43) hx hb dX12_hands_38 (by decide) (fun c_24 => ?_) (fun c_24 => ?_)
          · have h := ie c_24 h
            refine lv_aload_n hx hb dX12_hands_43 rfl (lv_at hl 0 rfl) ?_
            refine xget (i := 0) (j := 0) (k := 0) (T := TX12) hx hb ht tb_iX12 hown hX hP.1 rfl rfl rfl (by decide) tb_1229 rfl dX12_hands_44 ?_
            refine lv_iload_n hx hb dX12_hands_47 rfl (lv_at hl 1 rfl) ?_
            obtain ⟨z_25, e_z_25, h⟩ := bi h
            refine roSi (rest := [.ref (A_m 1)]) ⟨hx, hb, hml, hown, ht⟩ (c_X12_manRow l D cy fu  x1 z_25 e_z_25) (cS ht ms_X12_manRow tb_1226 rfl rfl ⟨Nat.le_of_ble_eq_true rfl, Nat.le_of_ble_eq_true rfl⟩) (P_sub hP.1 [] rfl) hX rfl hl.1 rfl (Nat.le_of_ble_eq_true rfl) dX12_hands_48 ⟨Nat.le_of_ble_eq_true rfl, Nat.le_of_ble_eq_true rfl⟩ ?_
            refine lv_iconst (v := 2) hx hb dX12_hands_51 (by decide) ?_
            refine lv_iadd hx hb dX12_hands_52 ?_
            refine lv_dup2_11 hx hb dX12_hands_53 rfl rfl ?_
            obtain ⟨y_26, e_y_26, h⟩ := bi h
            refine xiald (i0 := 0) (j0 := 1) hx hb hX hP.1 rfl rfl e_y_26 dX12_hands_54 ?_
            refine lv_iconst (v := 1) hx hb dX12_hands_55 (by decide) ?_
            refine lv_isub hx hb dX12_hands_56 ?_
            obtain ⟨m_at_27, e_m_at_27, h⟩ := bi h
            refine xiast (i0 := 0) (j0 := 1) hx hb hX hP hS rfl rfl e_m_at_27 dX12_hands_57 (fun H locs hP hS => ?_)
            have hP : PD D A [bl_X12 cy A_m m_at_27 m_names m_status m_top m_bottom m_sort m_trayMany m_trays m_tape m_text m_taped m_size m_token m_from m_end m_value m_faultKind m_faultPlace m_faults m_seen m_toldParts m_opened m_depth m_counted m_bestOrder m_standers m_has m_bestHas m_standerMany m_bestCouples m_bestFondness m_cameTo m_doesStandFirst m_stoodBy m_drawn m_ranSteps m_loops m_ran m_told1 m_isTold m_marks] H := hP
            refine lv_aload_n hx hb dX12_hands_58 rfl (lv_at hl 0 rfl) ?_
            refine xget (i := 0) (j := 0) (k := 0) (T := TX12) hx hb ht tb_iX12 hown hX hP.1 rfl rfl rfl (by decide) tb_1229 rfl dX12_hands_59 ?_
            refine lv_iload_n hx hb dX12_hands_62 rfl (lv_at hl 2 rfl) ?_
            obtain ⟨z_28, e_z_28, h⟩ := bi h
            refine roSi (rest := [.ref (A_m 1)]) ⟨hx, hb, hml, hown, ht⟩ (c_X12_manRow l D cy fu  x2 z_28 e_z_28) (cS ht ms_X12_manRow tb_1226 rfl rfl ⟨Nat.le_of_ble_eq_true rfl, Nat.le_of_ble_eq_true rfl⟩) (P_sub hP.1 [] rfl) hX rfl hl.1 rfl (Nat.le_of_ble_eq_true rfl) dX12_hands_63 ⟨Nat.le_of_ble_eq_true rfl, Nat.le_of_ble_eq_true rfl⟩ ?_
            refine lv_iconst (v := 2) hx hb dX12_hands_66 (by decide) ?_
            refine lv_iadd hx hb dX12_hands_67 ?_
            refine lv_dup2_11 hx hb dX12_hands_68 rfl rfl ?_
            obtain ⟨y_29, e_y_29, h⟩ := bi h
            refine xiald (i0 := 0) (j0 := 1) hx hb hX hP.1 rfl rfl e_y_29 dX12_hands_69 ?_
            refine lv_iconst (v := 1) hx hb dX12_hands_70 (by decide) ?_
            refine lv_iadd hx hb dX12_hands_71 ?_
            obtain ⟨m_at_30, e_m_at_30, h⟩ := bi h
            refine xiast (i0 := 0) (j0 := 1) hx hb hX hP hS rfl rfl e_m_at_30 dX12_hands_72 (fun H locs hP hS => ?_)
            have hP : PD D A [bl_X12 cy A_m m_at_30 m_names m_status m_top m_bottom m_sort m_trayMany m_trays m_tape m_text m_taped m_size m_token m_from m_end m_value m_faultKind m_faultPlace m_faults m_seen m_toldParts m_opened m_depth m_counted m_bestOrder m_standers m_has m_bestHas m_standerMany m_bestCouples m_bestFondness m_cameTo m_doesStandFirst m_stoodBy m_drawn m_ranSteps m_loops m_ran m_told1 m_isTold m_marks] H := hP
            refine lv_iconst (v := 1) hx hb dX12_hands_73 (by decide) ?_
            cases h
            subst hW1
            exact W.zret hx hb hr rfl (fun _ ht9 _ => ⟨⟨_, (), rfl, rfl, hPt ht9 hP.1⟩, hS.F ht9⟩) hS.2.2 dX12_hands_74
          · have h := it c_24 h
            refine lv_iconst (v := 0) hx hb dX12_hands_41 (by decide) ?_
            cases h
            subst hW1
            exact W.zret hx hb hr rfl (fun _ ht9 _ => ⟨⟨_, (), rfl, rfl, hPt ht9 hP.1⟩, hS.F ht9⟩) hS.2.2 dX12_hands_42
theorem dX12_give_0 : decode cX12_give 0 = .ok (.aload_n 0, 1) := by decide +kernel
theorem dX12_give_1 : decode cX12_give 1 = .ok (.iload_n 1, 1) := by decide +kernel
theorem dX12_give_2 : decode cX12_give 2 = .ok (.invokevirtual 241, 3) := by decide +kernel
theorem dX12_give_5 : decode cX12_give 5 = .ok (.ifCond .eq 11, 3) := by decide +kernel
theorem dX12_give_8 : decode cX12_give 8 = .ok (.aload_n 0, 1) := by decide +kernel
theorem dX12_give_9 : decode cX12_give 9 = .ok (.iload_n 2, 1) := by decide +kernel
theorem dX12_give_10 : decode cX12_give 10 = .ok (.invokevirtual 241, 3) := by decide +kernel
theorem dX12_give_13 : decode cX12_give 13 = .ok (.ifCond .ne 9, 3) := by decide +kernel
theorem dX12_give_16 : decode cX12_give 16 = .ok (.aload_n 0, 1) := by decide +kernel
theorem dX12_give_17 : decode cX12_give 17 = .ok (.iconst 1, 1) := by decide +kernel
theorem dX12_give_18 : decode cX12_give 18 = .ok (.invokevirtual 85, 3) := by decide +kernel
theorem dX12_give_21 : decode cX12_give 21 = .ok (.ireturn, 1) := by decide +kernel
theorem dX12_give_22 : decode cX12_give 22 = .ok (.aload_n 0, 1) := by decide +kernel
theorem dX12_give_23 : decode cX12_give 23 = .ok (.iload_n 1, 1) := by decide +kernel
theorem dX12_give_24 : decode cX12_give 24 = .ok (.iload_n 2, 1) := by decide +kernel
theorem dX12_give_25 : decode cX12_give 25 = .ok (.invokevirtual 299, 3) := by decide +kernel
theorem dX12_give_28 : decode cX12_give 28 = .ok (.ifCond .eq 16, 3) := by decide +kernel
theorem dX12_give_31 : decode cX12_give 31 = .ok (.aload_n 0, 1) := by decide +kernel
theorem dX12_give_32 : decode cX12_give 32 = .ok (.aload_n 0, 1) := by decide +kernel
theorem dX12_give_33 : decode cX12_give 33 = .ok (.iload_n 2, 1) := by decide +kernel
theorem dX12_give_34 : decode cX12_give 34 = .ok (.iconst 2, 1) := by decide +kernel
theorem dX12_give_35 : decode cX12_give 35 = .ok (.invokevirtual 250, 3) := by decide +kernel
theorem dX12_give_38 : decode cX12_give 38 = .ok (.invokevirtual 88, 3) := by decide +kernel
theorem dX12_give_41 : decode cX12_give 41 = .ok (.goto 9, 3) := by decide +kernel
theorem dX12_give_44 : decode cX12_give 44 = .ok (.aload_n 0, 1) := by decide +kernel
theorem dX12_give_45 : decode cX12_give 45 = .ok (.bipush 7, 2) := by decide +kernel
theorem dX12_give_47 : decode cX12_give 47 = .ok (.invokevirtual 85, 3) := by decide +kernel
theorem dX12_give_50 : decode cX12_give 50 = .ok (.ireturn, 1) := by decide +kernel
theorem mv_X12_give : MV yX12_give RX12 cX12_give 3 (some .int) 2 := ⟨tb_1613, tb_1611, tb_1612, tb_16, by decide +kernel, by decide +kernel, by decide +kernel⟩
def f_X12_give (fu : Nat) (m_at : Nat → Int32) (m_status : Int32) (x1 : Int32) (x2 : Int32) : Option (Int32 × (Nat → Int32) × Int32) := (f_X12_isMan fu m_at x1).bind fun z_12 => (if z_12 = 0 then (f_X12_refuse fu m_status 1).bind fun z_14 => some (z_14.1, m_at, z_14.2) else (f_X12_isMan fu m_at x2).bind fun z_15 => (if z_15 = 0 then (f_X12_refuse fu m_status 1).bind fun z_22 => some (z_22.1, m_at, z_22.2) else (f_X12_hands fu m_at x1 x2).bind fun z_17 => (if z_17.1 = 0 then (f_X12_refuse fu m_status 7).bind fun z_19 => some (z_19.1, z_17.2, z_19.2) else (f_X12_manOf fu z_17.2 x2 2).bind fun z_20 => (f_X12_gives fu m_status z_20).bind fun z_21 => some (z_21.1, z_17.2, z_21.2))))
abbrev rm_X12_give : Room := { frames := 4, cells := 0, slots := 0, locals := 85 }
set_option maxHeartbeats 4000000 in
set_option maxRecDepth 100000 in
theorem c_X12_give (l : Launch) (D : va_G) (cy : Nat → ClassId) (fu : Nat) (A_m : Nat → Nat) (m_at : Nat → Int32) (m_names : Nat → Int64) (m_status : Int32) (m_top : Int64) (m_bottom : Int64) (m_sort : Nat → Int32) (m_trayMany : Nat → Int32) (m_trays : Nat → Int64) (m_tape : Nat → Int32) (m_text : Nat → Int32) (m_taped : Int32) (m_size : Int32) (m_token : Int32) (m_from : Int32) (m_end : Int32) (m_value : Int32) (m_faultKind : Int32) (m_faultPlace : Int32) (m_faults : Int32) (m_seen : Int32) (m_toldParts : Int32) (m_opened : Nat → Int32) (m_depth : Int32) (m_counted : Int32) (m_bestOrder : Int32) (m_standers : Nat → Int32) (m_has : Nat → Int32) (m_bestHas : Nat → Int32) (m_standerMany : Int32) (m_bestCouples : Int32) (m_bestFondness : Int32) (m_cameTo : Nat → Int32) (m_doesStandFirst : Int32) (m_stoodBy : Nat → Int64) (m_drawn : Int32) (m_ranSteps : Int32) (m_loops : Nat → Int32) (m_ran : Nat → Int32) (m_told1 : Nat → Int32) (m_isTold : Int32) (m_marks : Int32) (x1 : Int32) (x2 : Int32) (res : Int32 × (Nat → Int32) × Int32) (h : f_X12_give fu m_at m_status x1 x2 = some res) (A : Nat → Prop) (hA : A = adr [bl_X12 cy A_m m_at m_names m_status m_top m_bottom m_sort m_trayMany m_trays m_tape m_text m_taped m_size m_token m_from m_end m_value m_faultKind m_faultPlace m_faults m_seen m_toldParts m_opened m_depth m_counted m_bestOrder m_standers m_has m_bestHas m_standerMany m_bestCouples m_bestFondness m_cameTo m_doesStandFirst m_stoodBy m_drawn m_ranSteps m_loops m_ran m_told1 m_isTold m_marks]) (W1 : List va_W) (hW1 : W1 = [bl_X12 cy A_m res.2.1 m_names res.2.2 m_top m_bottom m_sort m_trayMany m_trays m_tape m_text m_taped m_size m_token m_from m_end m_value m_faultKind m_faultPlace m_faults m_seen m_toldParts m_opened m_depth m_counted m_bestOrder m_standers m_has m_bestHas m_standerMany m_bestCouples m_bestFondness m_cameTo m_doesStandFirst m_stoodBy m_drawn m_ranSteps m_loops m_ran m_told1 m_isTold m_marks]) : Met l yX12_give (WW yX12_give cX12_give 3 (some .int)) rm_X12_give (Ed D cy [.ref (A_m 0), .int x1, .int x2] [bl_X12 cy A_m m_at m_names m_status m_top m_bottom m_sort m_trayMany m_trays m_tape m_text m_taped m_size m_token m_from m_end m_value m_faultKind m_faultPlace m_faults m_seen m_toldParts m_opened m_depth m_counted m_bestOrder m_standers m_has m_bestHas m_standerMany m_bestCouples m_bestFondness m_cameTo m_doesStandFirst m_stoodBy m_drawn m_ranSteps m_loops m_ran m_told1 m_isTold m_marks]) (Qei D res.1 A W1) 0 0 A := by
  refine Met.ofW (cc := cX12_give) (maxL := 3) (ret := (some .int)) (by decide) rfl ?_
  intro p e s m args below meth c s₁ B hml hv
  obtain ⟨hargs, hP, hX, hD0⟩ := hv
  have hx := B.exec
  have hb := B.bytes
  have hr := B.returns
  have ht : ∀ w ∈ lw_gd, w.before args s = true := fun w hw => atoms_spec (ws := WW yX12_give cX12_give 3 (some .int)) B.pre w (List.mem_cons_of_mem _ hw)
  have hown : s.vm.findClass RX12 = some m.cls := findClass_of_methodNamed B.named
  have hlocks := B.notSynchronized
  have hP : PD D A [bl_X12 cy A_m m_at m_names m_status m_top m_bottom m_sort m_trayMany m_trays m_tape m_text m_taped m_size m_token m_from m_end m_value m_faultKind m_faultPlace m_faults m_seen m_toldParts m_opened m_depth m_counted m_bestOrder m_standers m_has m_bestHas m_standerMany m_bestCouples m_bestFondness m_cameTo m_doesStandFirst m_stoodBy m_drawn m_ranSteps m_loops m_ran m_told1 m_isTold m_marks] s.heap := ⟨hP, by rw [hA]; exact hD0.own⟩
  have hS : va_S A s.heap s.heap [] := va_S.rf
  obtain ⟨ls, hl, hent⟩ := ent (m := m) (n := 3) hargs (Nat.le_of_ble_eq_true rfl) (lv := [(0, .ref (A_m 0)), (1, .int x1), (2, .int x2)]) rfl
  rw [hent]
  clear hent
  unfold f_X12_give at h
  refine lv_aload_n hx hb dX12_give_0 rfl (lv_at hl 0 rfl) ?_
  refine lv_iload_n hx hb dX12_give_1 rfl (lv_at hl 1 rfl) ?_
  obtain ⟨z_12, e_z_12, h⟩ := bi h
  refine roVi (rest := []) ⟨hx, hb, hml, hown, ht⟩ (c_X12_isMan l D cy fu A_m m_at m_names m_status m_top m_bottom m_sort m_trayMany m_trays m_tape m_text m_taped m_size m_token m_from m_end m_value m_faultKind m_faultPlace m_faults m_seen m_toldParts m_opened m_depth m_counted m_bestOrder m_standers m_has m_bestHas m_standerMany m_bestCouples m_bestFondness m_cameTo m_doesStandFirst m_stoodBy m_drawn m_ranSteps m_loops m_ran m_told1 m_isTold m_marks x1 z_12 e_z_12) (cV ht mv_X12_isMan tb_1551 rfl rfl ⟨Nat.le_of_ble_eq_true rfl, Nat.le_of_ble_eq_true rfl⟩) (P_sub hP.1 [0] rfl) hX rfl rfl rfl hl.1 rfl (Nat.le_of_ble_eq_true rfl) dX12_give_2 ⟨Nat.le_of_ble_eq_true rfl, Nat.le_of_ble_eq_true rfl⟩ ?_
  refine lv_if_eq (tgt := 16) hx hb dX12_give_5 (by decide) (fun c_13 => ?_) (fun c_13 => ?_)
  · have h := it c_13 h
    refine lv_aload_n hx hb dX12_give_16 rfl (lv_at hl 0 rfl) ?_
    refine lv_iconst (v := 1) hx hb dX12_give_17 (by decide) ?_
    obtain ⟨z_14, e_z_14, h⟩ := bi h
    refine efVi (rest := []) ⟨hx, hb, hml, hown, ht⟩ (c_X12_refuse l D cy fu A_m m_at m_names m_status m_top m_bottom m_sort m_trayMany m_trays m_tape m_text m_taped m_size m_token m_from m_end m_value m_faultKind m_faultPlace m_faults m_seen m_toldParts m_opened m_depth m_counted m_bestOrder m_standers m_has m_bestHas m_standerMany m_bestCouples m_bestFondness m_cameTo m_doesStandFirst m_stoodBy m_drawn m_ranSteps m_loops m_ran m_told1 m_isTold m_marks 1 z_14 e_z_14 _ rfl _ rfl) (cV ht mv_X12_refuse tb_1432 rfl rfl ⟨Nat.le_of_ble_eq_true rfl, Nat.le_of_ble_eq_true rfl⟩) hP hS hX [0] rfl rfl rfl rfl rfl rfl hl.1 rfl (Nat.le_of_ble_eq_true rfl) dX12_give_18 ⟨Nat.le_of_ble_eq_true rfl, Nat.le_of_ble_eq_true rfl⟩ (fun H locs hP hS => ?_)
    have hP : PD D A [bl_X12 cy A_m m_at m_names z_14.2 m_top m_bottom m_sort m_trayMany m_trays m_tape m_text m_taped m_size m_token m_from m_end m_value m_faultKind m_faultPlace m_faults m_seen m_toldParts m_opened m_depth m_counted m_bestOrder m_standers m_has m_bestHas m_standerMany m_bestCouples m_bestFondness m_cameTo m_doesStandFirst m_stoodBy m_drawn m_ranSteps m_loops m_ran m_told1 m_isTold m_marks] H := hP
    cases h
    subst hW1
    exact W.iret hx hb hr (fun _ ht9 _ => ⟨⟨_, (), rfl, rfl, hPt ht9 hP.1⟩, hS.F ht9⟩) hS.2.2 dX12_give_21
  · have h := ie c_13 h
    refine lv_aload_n hx hb dX12_give_8 rfl (lv_at hl 0 rfl) ?_
    refine lv_iload_n hx hb dX12_give_9 rfl (lv_at hl 2 rfl) ?_
    obtain ⟨z_15, e_z_15, h⟩ := bi h
    refine roVi (rest := []) ⟨hx, hb, hml, hown, ht⟩ (c_X12_isMan l D cy fu A_m m_at m_names m_status m_top m_bottom m_sort m_trayMany m_trays m_tape m_text m_taped m_size m_token m_from m_end m_value m_faultKind m_faultPlace m_faults m_seen m_toldParts m_opened m_depth m_counted m_bestOrder m_standers m_has m_bestHas m_standerMany m_bestCouples m_bestFondness m_cameTo m_doesStandFirst m_stoodBy m_drawn m_ranSteps m_loops m_ran m_told1 m_isTold m_marks x2 z_15 e_z_15) (cV ht mv_X12_isMan tb_1551 rfl rfl ⟨Nat.le_of_ble_eq_true rfl, Nat.le_of_ble_eq_true rfl⟩) (P_sub hP.1 [0] rfl) hX rfl rfl rfl hl.1 rfl (Nat.le_of_ble_eq_true rfl) dX12_give_10 ⟨Nat.le_of_ble_eq_true rfl, Nat.le_of_ble_eq_true rfl⟩ ?_
    refine lv_if_ne (tgt := 22) hx hb dX12_give_13 (by decide) (fun c_16 => ?_) (fun c_16 => ?_)
    · have h := ie c_16 h
      refine lv_aload_n hx hb dX12_give_22 rfl (lv_at hl 0 rfl) ?_
      refine lv_iload_n hx hb dX12_give_23 rfl (lv_at hl 1 rfl) ?_
      refine lv_iload_n hx hb dX12_give_24 rfl (lv_at hl 2 rfl) ?_
      obtain ⟨z_17, e_z_17, h⟩ := bi h
      refine efVi (rest := []) ⟨hx, hb, hml, hown, ht⟩ (c_X12_hands l D cy fu A_m m_at m_names m_status m_top m_bottom m_sort m_trayMany m_trays m_tape m_text m_taped m_size m_token m_from m_end m_value m_faultKind m_faultPlace m_faults m_seen m_toldParts m_opened m_depth m_counted m_bestOrder m_standers m_has m_bestHas m_standerMany m_bestCouples m_bestFondness m_cameTo m_doesStandFirst m_stoodBy m_drawn m_ranSteps m_loops m_ran m_told1 m_isTold m_marks x1 x2 z_17 e_z_17 _ rfl _ rfl) (cV ht mv_X12_hands tb_1614 rfl rfl ⟨Nat.le_of_ble_eq_true rfl, Nat.le_of_ble_eq_true rfl⟩) hP hS hX [0] rfl rfl rfl rfl rfl rfl hl.1 rfl (Nat.le_of_ble_eq_true rfl) dX12_give_25 ⟨Nat.le_of_ble_eq_true rfl, Nat.le_of_ble_eq_true rfl⟩ (fun H locs hP hS => ?_)
      have hP : PD D A [bl_X12 cy A_m z_17.2 m_names m_status m_top m_bottom m_sort m_trayMany m_trays m_tape m_text m_taped m_size m_token m_from m_end m_value m_faultKind m_faultPlace m_faults m_seen m_toldParts m_opened m_depth m_counted m_bestOrder m_standers m_has m_bestHas m_standerMany m_bestCouples m_bestFondness m_cameTo m_doesStandFirst m_stoodBy m_drawn m_ranSteps m_loops m_ran m_told1 m_isTold m_marks] H := hP
      refine lv_if_eq (tgt := 44) hx hb dX12_give_28 (by decide) (fun c_18 => ?_) (fun c_18 => ?_)
      · have h := it c_18 h
        refine lv_aload_n hx hb dX12_give_44 rfl (lv_at hl 0 rfl) ?_
        refine lv_bipush (v := 7) hx hb dX12_give_45 (by decide) ?_
        obtain ⟨z_19, e_z_19, h⟩ := bi h
        refine efVi (rest := []) ⟨hx, hb, hml, hown, ht⟩ (c_X12_refuse l D cy fu A_m z_17.2 m_names m_status m_top m_bottom m_sort m_trayMany m_trays m_tape m_text m_taped m_size m_token m_from m_end m_value m_faultKind m_faultPlace m_faults m_seen m_toldParts m_opened m_depth m_counted m_bestOrder m_standers m_has m_bestHas m_standerMany m_bestCouples m_bestFondness m_cameTo m_doesStandFirst m_stoodBy m_drawn m_ranSteps m_loops m_ran m_told1 m_isTold m_marks 7 z_19 e_z_19 _ rfl _ rfl) (cV ht mv_X12_refuse tb_1432 rfl rfl ⟨Nat.le_of_ble_eq_true rfl, Nat.le_of_ble_eq_true rfl⟩) hP hS hX [0] rfl rfl rfl rfl rfl rfl hl.1 rfl (Nat.le_of_ble_eq_true rfl) dX12_give_47 ⟨Nat.le_of_ble_eq_true rfl, Nat.le_of_ble_eq_true rfl⟩ (fun H locs hP hS => ?_)
        have hP : PD D A [bl_X12 cy A_m z_17.2 m_names z_19.2 m_top m_bottom m_sort m_trayMany m_trays m_tape m_text m_taped m_size m_token m_from m_end m_value m_faultKind m_faultPlace m_faults m_seen m_toldParts m_opened m_depth m_counted m_bestOrder m_standers m_has m_bestHas m_standerMany m_bestCouples m_bestFondness m_cameTo m_doesStandFirst m_stoodBy m_drawn m_ranSteps m_loops m_ran m_told1 m_isTold m_marks] H := hP
        cases h
        subst hW1
        exact W.iret hx hb hr (fun _ ht9 _ => ⟨⟨_, (), rfl, rfl, hPt ht9 hP.1⟩, hS.F ht9⟩) hS.2.2 dX12_give_50
      · have h := ie c_18 h
        refine lv_aload_n hx hb dX12_give_31 rfl (lv_at hl 0 rfl) ?_
        refine lv_aload_n hx hb dX12_give_32 rfl (lv_at hl 0 rfl) ?_
        refine lv_iload_n hx hb dX12_give_33 rfl (lv_at hl 2 rfl) ?_
        refine lv_iconst (v := 2) hx hb dX12_give_34 (by decide) ?_
        obtain ⟨z_20, e_z_20, h⟩ := bi h
        refine roVi (rest := [.ref (A_m 0)]) ⟨hx, hb, hml, hown, ht⟩ (c_X12_manOf l D cy fu A_m z_17.2 m_names m_status m_top m_bottom m_sort m_trayMany m_trays m_tape m_text m_taped m_size m_token m_from m_end m_value m_faultKind m_faultPlace m_faults m_seen m_toldParts m_opened m_depth m_counted m_bestOrder m_standers m_has m_bestHas m_standerMany m_bestCouples m_bestFondness m_cameTo m_doesStandFirst m_stoodBy m_drawn m_ranSteps m_loops m_ran m_told1 m_isTold m_marks x2 2 z_20 e_z_20) (cV ht mv_X12_manOf tb_1535 rfl rfl ⟨Nat.le_of_ble_eq_true rfl, Nat.le_of_ble_eq_true rfl⟩) (P_sub hP.1 [0] rfl) hX rfl rfl rfl hl.1 rfl (Nat.le_of_ble_eq_true rfl) dX12_give_35 ⟨Nat.le_of_ble_eq_true rfl, Nat.le_of_ble_eq_true rfl⟩ ?_
        obtain ⟨z_21, e_z_21, h⟩ := bi h
        refine efVi (rest := []) ⟨hx, hb, hml, hown, ht⟩ (c_X12_gives l D cy fu A_m z_17.2 m_names m_status m_top m_bottom m_sort m_trayMany m_trays m_tape m_text m_taped m_size m_token m_from m_end m_value m_faultKind m_faultPlace m_faults m_seen m_toldParts m_opened m_depth m_counted m_bestOrder m_standers m_has m_bestHas m_standerMany m_bestCouples m_bestFondness m_cameTo m_doesStandFirst m_stoodBy m_drawn m_ranSteps m_loops m_ran m_told1 m_isTold m_marks z_20 z_21 e_z_21 _ rfl _ rfl) (cV ht mv_X12_gives tb_1499 rfl rfl ⟨Nat.le_of_ble_eq_true rfl, Nat.le_of_ble_eq_true rfl⟩) hP hS hX [0] rfl rfl rfl rfl rfl rfl hl.1 rfl (Nat.le_of_ble_eq_true rfl) dX12_give_38 ⟨Nat.le_of_ble_eq_true rfl, Nat.le_of_ble_eq_true rfl⟩ (fun H locs hP hS => ?_)
        have hP : PD D A [bl_X12 cy A_m z_17.2 m_names z_21.2 m_top m_bottom m_sort m_trayMany m_trays m_tape m_text m_taped m_size m_token m_from m_end m_value m_faultKind m_faultPlace m_faults m_seen m_toldParts m_opened m_depth m_counted m_bestOrder m_standers m_has m_bestHas m_standerMany m_bestCouples m_bestFondness m_cameTo m_doesStandFirst m_stoodBy m_drawn m_ranSteps m_loops m_ran m_told1 m_isTold m_marks] H := hP
        refine lv_goto (tgt := 50) hx hb dX12_give_41 (by decide) ?_
        cases h
        subst hW1
        exact W.iret hx hb hr (fun _ ht9 _ => ⟨⟨_, (), rfl, rfl, hPt ht9 hP.1⟩, hS.F ht9⟩) hS.2.2 dX12_give_50
    · have h := it c_16 h
      refine lv_aload_n hx hb dX12_give_16 rfl (lv_at hl 0 rfl) ?_
      refine lv_iconst (v := 1) hx hb dX12_give_17 (by decide) ?_
      obtain ⟨z_22, e_z_22, h⟩ := bi h
      refine efVi (rest := []) ⟨hx, hb, hml, hown, ht⟩ (c_X12_refuse l D cy fu A_m m_at m_names m_status m_top m_bottom m_sort m_trayMany m_trays m_tape m_text m_taped m_size m_token m_from m_end m_value m_faultKind m_faultPlace m_faults m_seen m_toldParts m_opened m_depth m_counted m_bestOrder m_standers m_has m_bestHas m_standerMany m_bestCouples m_bestFondness m_cameTo m_doesStandFirst m_stoodBy m_drawn m_ranSteps m_loops m_ran m_told1 m_isTold m_marks 1 z_22 e_z_22 _ rfl _ rfl) (cV ht mv_X12_refuse tb_1432 rfl rfl ⟨Nat.le_of_ble_eq_true rfl, Nat.le_of_ble_eq_true rfl⟩) hP hS hX [0] rfl rfl rfl rfl rfl rfl hl.1 rfl (Nat.le_of_ble_eq_true rfl) dX12_give_18 ⟨Nat.le_of_ble_eq_true rfl, Nat.le_of_ble_eq_true rfl⟩ (fun H locs hP hS => ?_)
      have hP : PD D A [bl_X12 cy A_m m_at m_names z_22.2 m_top m_bottom m_sort m_trayMany m_trays m_tape m_text m_taped m_size m_token m_from m_end m_value m_faultKind m_faultPlace m_faults m_seen m_toldParts m_opened m_depth m_counted m_bestOrder m_standers m_has m_bestHas m_standerMany m_bestCouples m_bestFondness m_cameTo m_doesStandFirst m_stoodBy m_drawn m_ranSteps m_loops m_ran m_told1 m_isTold m_marks] H := hP
      cases h
      subst hW1
      exact W.iret hx hb hr (fun _ ht9 _ => ⟨⟨_, (), rfl, rfl, hPt ht9 hP.1⟩, hS.F ht9⟩) hS.2.2 dX12_give_21
theorem dX12_loses_0 : decode cX12_loses 0 = .ok (.aload_n 0, 1) := by decide +kernel
theorem dX12_loses_1 : decode cX12_loses 1 = .ok (.iload_n 1, 1) := by decide +kernel
theorem dX12_loses_2 : decode cX12_loses 2 = .ok (.iconst 2, 1) := by decide +kernel
theorem dX12_loses_3 : decode cX12_loses 3 = .ok (.invokevirtual 250, 3) := by decide +kernel
theorem dX12_loses_6 : decode cX12_loses 6 = .ok (.ifCond .ne 5, 3) := by decide +kernel
theorem dX12_loses_9 : decode cX12_loses 9 = .ok (.iconst 0, 1) := by decide +kernel
theorem dX12_loses_10 : decode cX12_loses 10 = .ok (.ireturn, 1) := by decide +kernel
theorem dX12_loses_11 : decode cX12_loses 11 = .ok (.aload_n 0, 1) := by decide +kernel
theorem dX12_loses_12 : decode cX12_loses 12 = .ok (.getfield 7, 3) := by decide +kernel
theorem dX12_loses_15 : decode cX12_loses 15 = .ok (.iload_n 1, 1) := by decide +kernel
theorem dX12_loses_16 : decode cX12_loses 16 = .ok (.invokestatic 75, 3) := by decide +kernel
theorem dX12_loses_19 : decode cX12_loses 19 = .ok (.iconst 2, 1) := by decide +kernel
theorem dX12_loses_20 : decode cX12_loses 20 = .ok (.iadd, 1) := by decide +kernel
theorem dX12_loses_21 : decode cX12_loses 21 = .ok (.dup2, 1) := by decide +kernel
theorem dX12_loses_22 : decode cX12_loses 22 = .ok (.iaload, 1) := by decide +kernel
theorem dX12_loses_23 : decode cX12_loses 23 = .ok (.iconst 1, 1) := by decide +kernel
theorem dX12_loses_24 : decode cX12_loses 24 = .ok (.isub, 1) := by decide +kernel
theorem dX12_loses_25 : decode cX12_loses 25 = .ok (.iastore, 1) := by decide +kernel
theorem dX12_loses_26 : decode cX12_loses 26 = .ok (.aload_n 0, 1) := by decide +kernel
theorem dX12_loses_27 : decode cX12_loses 27 = .ok (.getfield 7, 3) := by decide +kernel
theorem dX12_loses_30 : decode cX12_loses 30 = .ok (.iconst 4, 1) := by decide +kernel
theorem dX12_loses_31 : decode cX12_loses 31 = .ok (.dup2, 1) := by decide +kernel
theorem dX12_loses_32 : decode cX12_loses 32 = .ok (.iaload, 1) := by decide +kernel
theorem dX12_loses_33 : decode cX12_loses 33 = .ok (.iconst 1, 1) := by decide +kernel
theorem dX12_loses_34 : decode cX12_loses 34 = .ok (.iadd, 1) := by decide +kernel
theorem dX12_loses_35 : decode cX12_loses 35 = .ok (.iastore, 1) := by decide +kernel
theorem dX12_loses_36 : decode cX12_loses 36 = .ok (.iconst 1, 1) := by decide +kernel
theorem dX12_loses_37 : decode cX12_loses 37 = .ok (.ireturn, 1) := by decide +kernel
theorem mv_X12_loses : MV yX12_loses RX12 cX12_loses 2 (some .boolean) 1 := ⟨tb_1625, tb_1624, ts_84, tb_16, by decide +kernel, by decide +kernel, by decide +kernel⟩
def f_X12_loses (fu : Nat) (m_at : Nat → Int32) (x1 : Int32) : Option (Int32 × (Nat → Int32)) := (f_X12_manOf fu m_at x1 2).bind fun z_8 => (if z_8 = 0 then some (0, m_at) else (f_X12_manRow fu x1).bind fun z_10 => (rdI m_at 3648 (z_10 + 2)).bind fun y_11 => (wrI m_at 3648 (z_10 + 2) (y_11 - 1)).bind fun m_at_12 => (rdI m_at_12 3648 4).bind fun y_13 => (wrI m_at_12 3648 4 (y_13 + 1)).bind fun m_at_14 => some (1, m_at_14))
abbrev rm_X12_loses : Room := { frames := 2, cells := 0, slots := 0, locals := 42 }
set_option maxHeartbeats 4000000 in
set_option maxRecDepth 100000 in
theorem c_X12_loses (l : Launch) (D : va_G) (cy : Nat → ClassId) (fu : Nat) (A_m : Nat → Nat) (m_at : Nat → Int32) (m_names : Nat → Int64) (m_status : Int32) (m_top : Int64) (m_bottom : Int64) (m_sort : Nat → Int32) (m_trayMany : Nat → Int32) (m_trays : Nat → Int64) (m_tape : Nat → Int32) (m_text : Nat → Int32) (m_taped : Int32) (m_size : Int32) (m_token : Int32) (m_from : Int32) (m_end : Int32) (m_value : Int32) (m_faultKind : Int32) (m_faultPlace : Int32) (m_faults : Int32) (m_seen : Int32) (m_toldParts : Int32) (m_opened : Nat → Int32) (m_depth : Int32) (m_counted : Int32) (m_bestOrder : Int32) (m_standers : Nat → Int32) (m_has : Nat → Int32) (m_bestHas : Nat → Int32) (m_standerMany : Int32) (m_bestCouples : Int32) (m_bestFondness : Int32) (m_cameTo : Nat → Int32) (m_doesStandFirst : Int32) (m_stoodBy : Nat → Int64) (m_drawn : Int32) (m_ranSteps : Int32) (m_loops : Nat → Int32) (m_ran : Nat → Int32) (m_told1 : Nat → Int32) (m_isTold : Int32) (m_marks : Int32) (x1 : Int32) (res : Int32 × (Nat → Int32)) (h : f_X12_loses fu m_at x1 = some res) (A : Nat → Prop) (hA : A = adr [bl_X12 cy A_m m_at m_names m_status m_top m_bottom m_sort m_trayMany m_trays m_tape m_text m_taped m_size m_token m_from m_end m_value m_faultKind m_faultPlace m_faults m_seen m_toldParts m_opened m_depth m_counted m_bestOrder m_standers m_has m_bestHas m_standerMany m_bestCouples m_bestFondness m_cameTo m_doesStandFirst m_stoodBy m_drawn m_ranSteps m_loops m_ran m_told1 m_isTold m_marks]) (W1 : List va_W) (hW1 : W1 = [bl_X12 cy A_m res.2 m_names m_status m_top m_bottom m_sort m_trayMany m_trays m_tape m_text m_taped m_size m_token m_from m_end m_value m_faultKind m_faultPlace m_faults m_seen m_toldParts m_opened m_depth m_counted m_bestOrder m_standers m_has m_bestHas m_standerMany m_bestCouples m_bestFondness m_cameTo m_doesStandFirst m_stoodBy m_drawn m_ranSteps m_loops m_ran m_told1 m_isTold m_marks]) : Met l yX12_loses (WW yX12_loses cX12_loses 2 (some .boolean)) rm_X12_loses (Ed D cy [.ref (A_m 0), .int x1] [bl_X12 cy A_m m_at m_names m_status m_top m_bottom m_sort m_trayMany m_trays m_tape m_text m_taped m_size m_token m_from m_end m_value m_faultKind m_faultPlace m_faults m_seen m_toldParts m_opened m_depth m_counted m_bestOrder m_standers m_has m_bestHas m_standerMany m_bestCouples m_bestFondness m_cameTo m_doesStandFirst m_stoodBy m_drawn m_ranSteps m_loops m_ran m_told1 m_isTold m_marks]) (Qei D res.1 A W1) 0 0 A := by
  refine Met.ofW (cc := cX12_loses) (maxL := 2) (ret := (some .boolean)) (by decide) rfl ?_
  intro p e s m args below meth c s₁ B hml hv
  obtain ⟨hargs, hP, hX, hD0⟩ := hv
  have hx := B.exec
  have hb := B.bytes
  have hr := B.returns
  have ht : ∀ w ∈ lw_gd, w.before args s = true := fun w hw => atoms_spec (ws := WW yX12_loses cX12_loses 2 (some .boolean)) B.pre w (List.mem_cons_of_mem _ hw)
  have hown : s.vm.findClass RX12 = some m.cls := findClass_of_methodNamed B.named
  have hlocks := B.notSynchronized
  have hP : PD D A [bl_X12 cy A_m m_at m_names m_status m_top m_bottom m_sort m_trayMany m_trays m_tape m_text m_taped m_size m_token m_from m_end m_value m_faultKind m_faultPlace m_faults m_seen m_toldParts m_opened m_depth m_counted m_bestOrder m_standers m_has m_bestHas m_standerMany m_bestCouples m_bestFondness m_cameTo m_doesStandFirst m_stoodBy m_drawn m_ranSteps m_loops m_ran m_told1 m_isTold m_marks] s.heap := ⟨hP, by rw [hA]; exact hD0.own⟩
  have hS : va_S A s.heap s.heap [] := va_S.rf
  obtain ⟨ls, hl, hent⟩ := ent (m := m) (n := 2) hargs (Nat.le_of_ble_eq_true rfl) (lv := [(0, .ref (A_m 0)), (1, .int x1)]) rfl
  rw [hent]
  clear hent
  unfold f_X12_loses at h
  refine lv_aload_n hx hb dX12_loses_0 rfl (lv_at hl 0 rfl) ?_
  refine lv_iload_n hx hb dX12_loses_1 rfl (lv_at hl 1 rfl) ?_
  refine lv_iconst (v := 2) hx hb dX12_loses_2 (by decide) ?_
  obtain ⟨z_8, e_z_8, h⟩ := bi h
  refine roVi (rest := []) ⟨hx, hb, hml, hown, ht⟩ (c_X12_manOf l D cy fu A_m m_at m_names m_status m_top m_bottom m_sort m_trayMany m_trays m_tape m_text m_taped m_size m_token m_from m_end m_value m_faultKind m_faultPlace m_faults m_seen m_toldParts m_opened m_depth m_counted m_bestOrder m_standers m_has m_bestHas m_standerMany m_bestCouples m_bestFondness m_cameTo m_doesStandFirst m_stoodBy m_drawn m_ranSteps m_loops m_ran m_told1 m_isTold m_marks x1 2 z_8 e_z_8) (cV ht mv_X12_manOf tb_1535 rfl rfl ⟨Nat.le_of_ble_eq_true rfl, Nat.le_of_ble_eq_true rfl⟩) (P_sub hP.1 [0] rfl) hX rfl rfl rfl hl.1 rfl (Nat.le_of_ble_eq_true rfl) dX12_loses_3 ⟨Nat.le_of_ble_eq_true rfl, Nat.le_of_ble_eq_true rfl⟩ ?_
  refine lv_if_ne (tgt := 11) hx hb dX12_loses_6 (by decide) (fun c_9 => ?_) (fun c_9 => ?_)
  · have h := ie c_9 h
    refine lv_aload_n hx hb dX12_loses_11 rfl (lv_at hl 0 rfl) ?_
    refine xget (i := 0) (j := 0) (k := 0) (T := TX12) hx hb ht tb_iX12 hown hX hP.1 rfl rfl rfl (by decide) tb_1229 rfl dX12_loses_12 ?_
    refine lv_iload_n hx hb dX12_loses_15 rfl (lv_at hl 1 rfl) ?_
    obtain ⟨z_10, e_z_10, h⟩ := bi h
    refine roSi (rest := [.ref (A_m 1)]) ⟨hx, hb, hml, hown, ht⟩ (c_X12_manRow l D cy fu  x1 z_10 e_z_10) (cS ht ms_X12_manRow tb_1226 rfl rfl ⟨Nat.le_of_ble_eq_true rfl, Nat.le_of_ble_eq_true rfl⟩) (P_sub hP.1 [] rfl) hX rfl hl.1 rfl (Nat.le_of_ble_eq_true rfl) dX12_loses_16 ⟨Nat.le_of_ble_eq_true rfl, Nat.le_of_ble_eq_true rfl⟩ ?_
    refine lv_iconst (v := 2) hx hb dX12_loses_19 (by decide) ?_
    refine lv_iadd hx hb dX12_loses_20 ?_
    refine lv_dup2_11 hx hb dX12_loses_21 rfl rfl ?_
    obtain ⟨y_11, e_y_11, h⟩ := bi h
    refine xiald (i0 := 0) (j0 := 1) hx hb hX hP.1 rfl rfl e_y_11 dX12_loses_22 ?_
    refine lv_iconst (v := 1) hx hb dX12_loses_23 (by decide) ?_
    refine lv_isub hx hb dX12_loses_24 ?_
    obtain ⟨m_at_12, e_m_at_12, h⟩ := bi h
    refine xiast (i0 := 0) (j0 := 1) hx hb hX hP hS rfl rfl e_m_at_12 dX12_loses_25 (fun H locs hP hS => ?_)
    have hP : PD D A [bl_X12 cy A_m m_at_12 m_names m_status m_top m_bottom m_sort m_trayMany m_trays m_tape m_text m_taped m_size m_token m_from m_end m_value m_faultKind m_faultPlace m_faults m_seen m_toldParts m_opened m_depth m_counted m_bestOrder m_standers m_has m_bestHas m_standerMany m_bestCouples m_bestFondness m_cameTo m_doesStandFirst m_stoodBy m_drawn m_ranSteps m_loops m_ran m_told1 m_isTold m_marks] H := hP
    refine lv_aload_n hx hb dX12_loses_26 rfl (lv_at hl 0 rfl) ?_
    refine xget (i := 0) (j := 0) (k := 0) (T := TX12) hx hb ht tb_iX12 hown hX hP.1 rfl rfl rfl (by decide) tb_1229 rfl dX12_loses_27 ?_
    refine lv_iconst (v := 4) hx hb dX12_loses_30 (by decide) ?_
    refine lv_dup2_11 hx hb dX12_loses_31 rfl rfl ?_
    obtain ⟨y_13, e_y_13, h⟩ := bi h
    refine xiald (i0 := 0) (j0 := 1) hx hb hX hP.1 rfl rfl e_y_13 dX12_loses_32 ?_
    refine lv_iconst (v := 1) hx hb dX12_loses_33 (by decide) ?_
    refine lv_iadd hx hb dX12_loses_34 ?_
    obtain ⟨m_at_14, e_m_at_14, h⟩ := bi h
    refine xiast (i0 := 0) (j0 := 1) hx hb hX hP hS rfl rfl e_m_at_14 dX12_loses_35 (fun H locs hP hS => ?_)
    have hP : PD D A [bl_X12 cy A_m m_at_14 m_names m_status m_top m_bottom m_sort m_trayMany m_trays m_tape m_text m_taped m_size m_token m_from m_end m_value m_faultKind m_faultPlace m_faults m_seen m_toldParts m_opened m_depth m_counted m_bestOrder m_standers m_has m_bestHas m_standerMany m_bestCouples m_bestFondness m_cameTo m_doesStandFirst m_stoodBy m_drawn m_ranSteps m_loops m_ran m_told1 m_isTold m_marks] H := hP
    refine lv_iconst (v := 1) hx hb dX12_loses_36 (by decide) ?_
    cases h
    subst hW1
    exact W.zret hx hb hr rfl (fun _ ht9 _ => ⟨⟨_, (), rfl, rfl, hPt ht9 hP.1⟩, hS.F ht9⟩) hS.2.2 dX12_loses_37
  · have h := it c_9 h
    refine lv_iconst (v := 0) hx hb dX12_loses_9 (by decide) ?_
    cases h
    subst hW1
    exact W.zret hx hb hr rfl (fun _ ht9 _ => ⟨⟨_, (), rfl, rfl, hPt ht9 hP.1⟩, hS.F ht9⟩) hS.2.2 dX12_loses_10
theorem dX12_lose_0 : decode cX12_lose 0 = .ok (.aload_n 0, 1) := by decide +kernel
theorem dX12_lose_1 : decode cX12_lose 1 = .ok (.iload_n 1, 1) := by decide +kernel
theorem dX12_lose_2 : decode cX12_lose 2 = .ok (.invokevirtual 241, 3) := by decide +kernel
theorem dX12_lose_5 : decode cX12_lose 5 = .ok (.ifCond .ne 9, 3) := by decide +kernel
theorem dX12_lose_8 : decode cX12_lose 8 = .ok (.aload_n 0, 1) := by decide +kernel
theorem dX12_lose_9 : decode cX12_lose 9 = .ok (.iconst 1, 1) := by decide +kernel
theorem dX12_lose_10 : decode cX12_lose 10 = .ok (.invokevirtual 85, 3) := by decide +kernel
theorem dX12_lose_13 : decode cX12_lose 13 = .ok (.ireturn, 1) := by decide +kernel
theorem dX12_lose_14 : decode cX12_lose 14 = .ok (.aload_n 0, 1) := by decide +kernel
theorem dX12_lose_15 : decode cX12_lose 15 = .ok (.iload_n 1, 1) := by decide +kernel
theorem dX12_lose_16 : decode cX12_lose 16 = .ok (.invokevirtual 302, 3) := by decide +kernel
theorem dX12_lose_19 : decode cX12_lose 19 = .ok (.ifCond .eq 16, 3) := by decide +kernel
theorem dX12_lose_22 : decode cX12_lose 22 = .ok (.aload_n 0, 1) := by decide +kernel
theorem dX12_lose_23 : decode cX12_lose 23 = .ok (.aload_n 0, 1) := by decide +kernel
theorem dX12_lose_24 : decode cX12_lose 24 = .ok (.iload_n 1, 1) := by decide +kernel
theorem dX12_lose_25 : decode cX12_lose 25 = .ok (.iconst 2, 1) := by decide +kernel
theorem dX12_lose_26 : decode cX12_lose 26 = .ok (.invokevirtual 250, 3) := by decide +kernel
theorem dX12_lose_29 : decode cX12_lose 29 = .ok (.invokevirtual 88, 3) := by decide +kernel
theorem dX12_lose_32 : decode cX12_lose 32 = .ok (.goto 9, 3) := by decide +kernel
theorem dX12_lose_35 : decode cX12_lose 35 = .ok (.aload_n 0, 1) := by decide +kernel
theorem dX12_lose_36 : decode cX12_lose 36 = .ok (.bipush 7, 2) := by decide +kernel
theorem dX12_lose_38 : decode cX12_lose 38 = .ok (.invokevirtual 85, 3) := by decide +kernel
theorem dX12_lose_41 : decode cX12_lose 41 = .ok (.ireturn, 1) := by decide +kernel
theorem mv_X12_lose : MV yX12_lose RX12 cX12_lose 2 (some .int) 1 := ⟨tb_1621, tb_1619, tb_1620, tb_16, by decide +kernel, by decide +kernel, by decide +kernel⟩
def f_X12_lose (fu : Nat) (m_at : Nat → Int32) (m_status : Int32) (x1 : Int32) : Option (Int32 × (Nat → Int32) × Int32) := (f_X12_isMan fu m_at x1).bind fun z_9 => (if z_9 = 0 then (f_X12_refuse fu m_status 1).bind fun z_16 => some (z_16.1, m_at, z_16.2) else (f_X12_loses fu m_at x1).bind fun z_11 => (if z_11.1 = 0 then (f_X12_refuse fu m_status 7).bind fun z_13 => some (z_13.1, z_11.2, z_13.2) else (f_X12_manOf fu z_11.2 x1 2).bind fun z_14 => (f_X12_gives fu m_status z_14).bind fun z_15 => some (z_15.1, z_11.2, z_15.2)))
abbrev rm_X12_lose : Room := { frames := 3, cells := 0, slots := 0, locals := 63 }
set_option maxHeartbeats 4000000 in
set_option maxRecDepth 100000 in
theorem c_X12_lose (l : Launch) (D : va_G) (cy : Nat → ClassId) (fu : Nat) (A_m : Nat → Nat) (m_at : Nat → Int32) (m_names : Nat → Int64) (m_status : Int32) (m_top : Int64) (m_bottom : Int64) (m_sort : Nat → Int32) (m_trayMany : Nat → Int32) (m_trays : Nat → Int64) (m_tape : Nat → Int32) (m_text : Nat → Int32) (m_taped : Int32) (m_size : Int32) (m_token : Int32) (m_from : Int32) (m_end : Int32) (m_value : Int32) (m_faultKind : Int32) (m_faultPlace : Int32) (m_faults : Int32) (m_seen : Int32) (m_toldParts : Int32) (m_opened : Nat → Int32) (m_depth : Int32) (m_counted : Int32) (m_bestOrder : Int32) (m_standers : Nat → Int32) (m_has : Nat → Int32) (m_bestHas : Nat → Int32) (m_standerMany : Int32) (m_bestCouples : Int32) (m_bestFondness : Int32) (m_cameTo : Nat → Int32) (m_doesStandFirst : Int32) (m_stoodBy : Nat → Int64) (m_drawn : Int32) (m_ranSteps : Int32) (m_loops : Nat → Int32) (m_ran : Nat → Int32) (m_told1 : Nat → Int32) (m_isTold : Int32) (m_marks : Int32) (x1 : Int32) (res : Int32 × (Nat → Int32) × Int32) (h : f_X12_lose fu m_at m_status x1 = some res) (A : Nat → Prop) (hA : A = adr [bl_X12 cy A_m m_at m_names m_status m_top m_bottom m_sort m_trayMany m_trays m_tape m_text m_taped m_size m_token m_from m_end m_value m_faultKind m_faultPlace m_faults m_seen m_toldParts m_opened m_depth m_counted m_bestOrder m_standers m_has m_bestHas m_standerMany m_bestCouples m_bestFondness m_cameTo m_doesStandFirst m_stoodBy m_drawn m_ranSteps m_loops m_ran m_told1 m_isTold m_marks]) (W1 : List va_W) (hW1 : W1 = [bl_X12 cy A_m res.2.1 m_names res.2.2 m_top m_bottom m_sort m_trayMany m_trays m_tape m_text m_taped m_size m_token m_from m_end m_value m_faultKind m_faultPlace m_faults m_seen m_toldParts m_opened m_depth m_counted m_bestOrder m_standers m_has m_bestHas m_standerMany m_bestCouples m_bestFondness m_cameTo m_doesStandFirst m_stoodBy m_drawn m_ranSteps m_loops m_ran m_told1 m_isTold m_marks]) : Met l yX12_lose (WW yX12_lose cX12_lose 2 (some .int)) rm_X12_lose (Ed D cy [.ref (A_m 0), .int x1] [bl_X12 cy A_m m_at m_names m_status m_top m_bottom m_sort m_trayMany m_trays m_tape m_text m_taped m_size m_token m_from m_end m_value m_faultKind m_faultPlace m_faults m_seen m_toldParts m_opened m_depth m_counted m_bestOrder m_standers m_has m_bestHas m_standerMany m_bestCouples m_bestFondness m_cameTo m_doesStandFirst m_stoodBy m_drawn m_ranSteps m_loops m_ran m_told1 m_isTold m_marks]) (Qei D res.1 A W1) 0 0 A := by
  refine Met.ofW (cc := cX12_lose) (maxL := 2) (ret := (some .int)) (by decide) rfl ?_
  intro p e s m args below meth c s₁ B hml hv
  obtain ⟨hargs, hP, hX, hD0⟩ := hv
  have hx := B.exec
  have hb := B.bytes
  have hr := B.returns
  have ht : ∀ w ∈ lw_gd, w.before args s = true := fun w hw => atoms_spec (ws := WW yX12_lose cX12_lose 2 (some .int)) B.pre w (List.mem_cons_of_mem _ hw)
  have hown : s.vm.findClass RX12 = some m.cls := findClass_of_methodNamed B.named
  have hlocks := B.notSynchronized
  have hP : PD D A [bl_X12 cy A_m m_at m_names m_status m_top m_bottom m_sort m_trayMany m_trays m_tape m_text m_taped m_size m_token m_from m_end m_value m_faultKind m_faultPlace m_faults m_seen m_toldParts m_opened m_depth m_counted m_bestOrder m_standers m_has m_bestHas m_standerMany m_bestCouples m_bestFondness m_cameTo m_doesStandFirst m_stoodBy m_drawn m_ranSteps m_loops m_ran m_told1 m_isTold m_marks] s.heap := ⟨hP, by rw [hA]; exact hD0.own⟩
  have hS : va_S A s.heap s.heap [] := va_S.rf
  obtain ⟨ls, hl, hent⟩ := ent (m := m) (n := 2) hargs (Nat.le_of_ble_eq_true rfl) (lv := [(0, .ref (A_m 0)), (1, .int x1)]) rfl
  rw [hent]
  clear hent
  unfold f_X12_lose at h
  refine lv_aload_n hx hb dX12_lose_0 rfl (lv_at hl 0 rfl) ?_
  refine lv_iload_n hx hb dX12_lose_1 rfl (lv_at hl 1 rfl) ?_
  obtain ⟨z_9, e_z_9, h⟩ := bi h
  refine roVi (rest := []) ⟨hx, hb, hml, hown, ht⟩ (c_X12_isMan l D cy fu A_m m_at m_names m_status m_top m_bottom m_sort m_trayMany m_trays m_tape m_text m_taped m_size m_token m_from m_end m_value m_faultKind m_faultPlace m_faults m_seen m_toldParts m_opened m_depth m_counted m_bestOrder m_standers m_has m_bestHas m_standerMany m_bestCouples m_bestFondness m_cameTo m_doesStandFirst m_stoodBy m_drawn m_ranSteps m_loops m_ran m_told1 m_isTold m_marks x1 z_9 e_z_9) (cV ht mv_X12_isMan tb_1551 rfl rfl ⟨Nat.le_of_ble_eq_true rfl, Nat.le_of_ble_eq_true rfl⟩) (P_sub hP.1 [0] rfl) hX rfl rfl rfl hl.1 rfl (Nat.le_of_ble_eq_true rfl) dX12_lose_2 ⟨Nat.le_of_ble_eq_true rfl, Nat.le_of_ble_eq_true rfl⟩ ?_
  refine lv_if_ne (tgt := 14) hx hb dX12_lose_5 (by decide) (fun c_10 => ?_) (fun c_10 => ?_)
  · have h := ie c_10 h
    refine lv_aload_n hx hb dX12_lose_14 rfl (lv_at hl 0 rfl) ?_
    refine lv_iload_n hx hb dX12_lose_15 rfl (lv_at hl 1 rfl) ?_
    obtain ⟨z_11, e_z_11, h⟩ := bi h
    refine efVi (rest := []) ⟨hx, hb, hml, hown, ht⟩ (c_X12_loses l D cy fu A_m m_at m_names m_status m_top m_bottom m_sort m_trayMany m_trays m_tape m_text m_taped m_size m_token m_from m_end m_value m_faultKind m_faultPlace m_faults m_seen m_toldParts m_opened m_depth m_counted m_bestOrder m_standers m_has m_bestHas m_standerMany m_bestCouples m_bestFondness m_cameTo m_doesStandFirst m_stoodBy m_drawn m_ranSteps m_loops m_ran m_told1 m_isTold m_marks x1 z_11 e_z_11 _ rfl _ rfl) (cV ht mv_X12_loses tb_1622 rfl rfl ⟨Nat.le_of_ble_eq_true rfl, Nat.le_of_ble_eq_true rfl⟩) hP hS hX [0] rfl rfl rfl rfl rfl rfl hl.1 rfl (Nat.le_of_ble_eq_true rfl) dX12_lose_16 ⟨Nat.le_of_ble_eq_true rfl, Nat.le_of_ble_eq_true rfl⟩ (fun H locs hP hS => ?_)
    have hP : PD D A [bl_X12 cy A_m z_11.2 m_names m_status m_top m_bottom m_sort m_trayMany m_trays m_tape m_text m_taped m_size m_token m_from m_end m_value m_faultKind m_faultPlace m_faults m_seen m_toldParts m_opened m_depth m_counted m_bestOrder m_standers m_has m_bestHas m_standerMany m_bestCouples m_bestFondness m_cameTo m_doesStandFirst m_stoodBy m_drawn m_ranSteps m_loops m_ran m_told1 m_isTold m_marks] H := hP
    refine lv_if_eq (tgt := 35) hx hb dX12_lose_19 (by decide) (fun c_12 => ?_) (fun c_12 => ?_)
    · have h := it c_12 h
      refine lv_aload_n hx hb dX12_lose_35 rfl (lv_at hl 0 rfl) ?_
      refine lv_bipush (v := 7) hx hb dX12_lose_36 (by decide) ?_
      obtain ⟨z_13, e_z_13, h⟩ := bi h
      refine efVi (rest := []) ⟨hx, hb, hml, hown, ht⟩ (c_X12_refuse l D cy fu A_m z_11.2 m_names m_status m_top m_bottom m_sort m_trayMany m_trays m_tape m_text m_taped m_size m_token m_from m_end m_value m_faultKind m_faultPlace m_faults m_seen m_toldParts m_opened m_depth m_counted m_bestOrder m_standers m_has m_bestHas m_standerMany m_bestCouples m_bestFondness m_cameTo m_doesStandFirst m_stoodBy m_drawn m_ranSteps m_loops m_ran m_told1 m_isTold m_marks 7 z_13 e_z_13 _ rfl _ rfl) (cV ht mv_X12_refuse tb_1432 rfl rfl ⟨Nat.le_of_ble_eq_true rfl, Nat.le_of_ble_eq_true rfl⟩) hP hS hX [0] rfl rfl rfl rfl rfl rfl hl.1 rfl (Nat.le_of_ble_eq_true rfl) dX12_lose_38 ⟨Nat.le_of_ble_eq_true rfl, Nat.le_of_ble_eq_true rfl⟩ (fun H locs hP hS => ?_)
      have hP : PD D A [bl_X12 cy A_m z_11.2 m_names z_13.2 m_top m_bottom m_sort m_trayMany m_trays m_tape m_text m_taped m_size m_token m_from m_end m_value m_faultKind m_faultPlace m_faults m_seen m_toldParts m_opened m_depth m_counted m_bestOrder m_standers m_has m_bestHas m_standerMany m_bestCouples m_bestFondness m_cameTo m_doesStandFirst m_stoodBy m_drawn m_ranSteps m_loops m_ran m_told1 m_isTold m_marks] H := hP
      cases h
      subst hW1
      exact W.iret hx hb hr (fun _ ht9 _ => ⟨⟨_, (), rfl, rfl, hPt ht9 hP.1⟩, hS.F ht9⟩) hS.2.2 dX12_lose_41
    · have h := ie c_12 h
      refine lv_aload_n hx hb dX12_lose_22 rfl (lv_at hl 0 rfl) ?_
      refine lv_aload_n hx hb dX12_lose_23 rfl (lv_at hl 0 rfl) ?_
      refine lv_iload_n hx hb dX12_lose_24 rfl (lv_at hl 1 rfl) ?_
      refine lv_iconst (v := 2) hx hb dX12_lose_25 (by decide) ?_
      obtain ⟨z_14, e_z_14, h⟩ := bi h
      refine roVi (rest := [.ref (A_m 0)]) ⟨hx, hb, hml, hown, ht⟩ (c_X12_manOf l D cy fu A_m z_11.2 m_names m_status m_top m_bottom m_sort m_trayMany m_trays m_tape m_text m_taped m_size m_token m_from m_end m_value m_faultKind m_faultPlace m_faults m_seen m_toldParts m_opened m_depth m_counted m_bestOrder m_standers m_has m_bestHas m_standerMany m_bestCouples m_bestFondness m_cameTo m_doesStandFirst m_stoodBy m_drawn m_ranSteps m_loops m_ran m_told1 m_isTold m_marks x1 2 z_14 e_z_14) (cV ht mv_X12_manOf tb_1535 rfl rfl ⟨Nat.le_of_ble_eq_true rfl, Nat.le_of_ble_eq_true rfl⟩) (P_sub hP.1 [0] rfl) hX rfl rfl rfl hl.1 rfl (Nat.le_of_ble_eq_true rfl) dX12_lose_26 ⟨Nat.le_of_ble_eq_true rfl, Nat.le_of_ble_eq_true rfl⟩ ?_
      obtain ⟨z_15, e_z_15, h⟩ := bi h
      refine efVi (rest := []) ⟨hx, hb, hml, hown, ht⟩ (c_X12_gives l D cy fu A_m z_11.2 m_names m_status m_top m_bottom m_sort m_trayMany m_trays m_tape m_text m_taped m_size m_token m_from m_end m_value m_faultKind m_faultPlace m_faults m_seen m_toldParts m_opened m_depth m_counted m_bestOrder m_standers m_has m_bestHas m_standerMany m_bestCouples m_bestFondness m_cameTo m_doesStandFirst m_stoodBy m_drawn m_ranSteps m_loops m_ran m_told1 m_isTold m_marks z_14 z_15 e_z_15 _ rfl _ rfl) (cV ht mv_X12_gives tb_1499 rfl rfl ⟨Nat.le_of_ble_eq_true rfl, Nat.le_of_ble_eq_true rfl⟩) hP hS hX [0] rfl rfl rfl rfl rfl rfl hl.1 rfl (Nat.le_of_ble_eq_true rfl) dX12_lose_29 ⟨Nat.le_of_ble_eq_true rfl, Nat.le_of_ble_eq_true rfl⟩ (fun H locs hP hS => ?_)
      have hP : PD D A [bl_X12 cy A_m z_11.2 m_names z_15.2 m_top m_bottom m_sort m_trayMany m_trays m_tape m_text m_taped m_size m_token m_from m_end m_value m_faultKind m_faultPlace m_faults m_seen m_toldParts m_opened m_depth m_counted m_bestOrder m_standers m_has m_bestHas m_standerMany m_bestCouples m_bestFondness m_cameTo m_doesStandFirst m_stoodBy m_drawn m_ranSteps m_loops m_ran m_told1 m_isTold m_marks] H := hP
      refine lv_goto (tgt := 41) hx hb dX12_lose_32 (by decide) ?_
      cases h
      subst hW1
      exact W.iret hx hb hr (fun _ ht9 _ => ⟨⟨_, (), rfl, rfl, hPt ht9 hP.1⟩, hS.F ht9⟩) hS.2.2 dX12_lose_41
  · have h := it c_10 h
    refine lv_aload_n hx hb dX12_lose_8 rfl (lv_at hl 0 rfl) ?_
    refine lv_iconst (v := 1) hx hb dX12_lose_9 (by decide) ?_
    obtain ⟨z_16, e_z_16, h⟩ := bi h
    refine efVi (rest := []) ⟨hx, hb, hml, hown, ht⟩ (c_X12_refuse l D cy fu A_m m_at m_names m_status m_top m_bottom m_sort m_trayMany m_trays m_tape m_text m_taped m_size m_token m_from m_end m_value m_faultKind m_faultPlace m_faults m_seen m_toldParts m_opened m_depth m_counted m_bestOrder m_standers m_has m_bestHas m_standerMany m_bestCouples m_bestFondness m_cameTo m_doesStandFirst m_stoodBy m_drawn m_ranSteps m_loops m_ran m_told1 m_isTold m_marks 1 z_16 e_z_16 _ rfl _ rfl) (cV ht mv_X12_refuse tb_1432 rfl rfl ⟨Nat.le_of_ble_eq_true rfl, Nat.le_of_ble_eq_true rfl⟩) hP hS hX [0] rfl rfl rfl rfl rfl rfl hl.1 rfl (Nat.le_of_ble_eq_true rfl) dX12_lose_10 ⟨Nat.le_of_ble_eq_true rfl, Nat.le_of_ble_eq_true rfl⟩ (fun H locs hP hS => ?_)
    have hP : PD D A [bl_X12 cy A_m m_at m_names z_16.2 m_top m_bottom m_sort m_trayMany m_trays m_tape m_text m_taped m_size m_token m_from m_end m_value m_faultKind m_faultPlace m_faults m_seen m_toldParts m_opened m_depth m_counted m_bestOrder m_standers m_has m_bestHas m_standerMany m_bestCouples m_bestFondness m_cameTo m_doesStandFirst m_stoodBy m_drawn m_ranSteps m_loops m_ran m_told1 m_isTold m_marks] H := hP
    cases h
    subst hW1
    exact W.iret hx hb hr (fun _ ht9 _ => ⟨⟨_, (), rfl, rfl, hPt ht9 hP.1⟩, hS.F ht9⟩) hS.2.2 dX12_lose_13
theorem dX12_falls_0 : decode cX12_falls 0 = .ok (.aload_n 0, 1) := by decide +kernel
theorem dX12_falls_1 : decode cX12_falls 1 = .ok (.iload_n 1, 1) := by decide +kernel
theorem dX12_falls_2 : decode cX12_falls 2 = .ok (.invokevirtual 253, 3) := by decide +kernel
theorem dX12_falls_5 : decode cX12_falls 5 = .ok (.istore_n 2, 1) := by decide +kernel
theorem dX12_falls_6 : decode cX12_falls 6 = .ok (.aload_n 0, 1) := by decide +kernel
theorem dX12_falls_7 : decode cX12_falls 7 = .ok (.getfield 7, 3) := by decide +kernel
theorem dX12_falls_10 : decode cX12_falls 10 = .ok (.iload_n 1, 1) := by decide +kernel
theorem dX12_falls_11 : decode cX12_falls 11 = .ok (.invokestatic 75, 3) := by decide +kernel
theorem dX12_falls_14 : decode cX12_falls 14 = .ok (.iconst 5, 1) := by decide +kernel
theorem dX12_falls_15 : decode cX12_falls 15 = .ok (.iadd, 1) := by decide +kernel
theorem dX12_falls_16 : decode cX12_falls 16 = .ok (.iconst 1, 1) := by decide +kernel
theorem dX12_falls_17 : decode cX12_falls 17 = .ok (.iastore, 1) := by decide +kernel
theorem dX12_falls_18 : decode cX12_falls 18 = .ok (.iload_n 2, 1) := by decide +kernel
theorem dX12_falls_19 : decode cX12_falls 19 = .ok (.ireturn, 1) := by decide +kernel
theorem mv_X12_falls : MV yX12_falls RX12 cX12_falls 3 (some .boolean) 1 := ⟨tb_1633, tb_1632, ts_85, tb_16, by decide +kernel, by decide +kernel, by decide +kernel⟩
def f_X12_falls (fu : Nat) (m_at : Nat → Int32) (x1 : Int32) : Option (Int32 × (Nat → Int32)) := (f_X12_isAlive fu m_at x1).bind fun z_5 => (f_X12_manRow fu x1).bind fun z_6 => (wrI m_at 3648 (z_6 + 5) 1).bind fun m_at_7 => (bz z_5).bind fun _ => some (z_5, m_at_7)
abbrev rm_X12_falls : Room := { frames := 3, cells := 0, slots := 0, locals := 63 }
set_option maxHeartbeats 4000000 in
set_option maxRecDepth 100000 in
theorem c_X12_falls (l : Launch) (D : va_G) (cy : Nat → ClassId) (fu : Nat) (A_m : Nat → Nat) (m_at : Nat → Int32) (m_names : Nat → Int64) (m_status : Int32) (m_top : Int64) (m_bottom : Int64) (m_sort : Nat → Int32) (m_trayMany : Nat → Int32) (m_trays : Nat → Int64) (m_tape : Nat → Int32) (m_text : Nat → Int32) (m_taped : Int32) (m_size : Int32) (m_token : Int32) (m_from : Int32) (m_end : Int32) (m_value : Int32) (m_faultKind : Int32) (m_faultPlace : Int32) (m_faults : Int32) (m_seen : Int32) (m_toldParts : Int32) (m_opened : Nat → Int32) (m_depth : Int32) (m_counted : Int32) (m_bestOrder : Int32) (m_standers : Nat → Int32) (m_has : Nat → Int32) (m_bestHas : Nat → Int32) (m_standerMany : Int32) (m_bestCouples : Int32) (m_bestFondness : Int32) (m_cameTo : Nat → Int32) (m_doesStandFirst : Int32) (m_stoodBy : Nat → Int64) (m_drawn : Int32) (m_ranSteps : Int32) (m_loops : Nat → Int32) (m_ran : Nat → Int32) (m_told1 : Nat → Int32) (m_isTold : Int32) (m_marks : Int32) (x1 : Int32) (res : Int32 × (Nat → Int32)) (h : f_X12_falls fu m_at x1 = some res) (A : Nat → Prop) (hA : A = adr [bl_X12 cy A_m m_at m_names m_status m_top m_bottom m_sort m_trayMany m_trays m_tape m_text m_taped m_size m_token m_from m_end m_value m_faultKind m_faultPlace m_faults m_seen m_toldParts m_opened m_depth m_counted m_bestOrder m_standers m_has m_bestHas m_standerMany m_bestCouples m_bestFondness m_cameTo m_doesStandFirst m_stoodBy m_drawn m_ranSteps m_loops m_ran m_told1 m_isTold m_marks]) (W1 : List va_W) (hW1 : W1 = [bl_X12 cy A_m res.2 m_names m_status m_top m_bottom m_sort m_trayMany m_trays m_tape m_text m_taped m_size m_token m_from m_end m_value m_faultKind m_faultPlace m_faults m_seen m_toldParts m_opened m_depth m_counted m_bestOrder m_standers m_has m_bestHas m_standerMany m_bestCouples m_bestFondness m_cameTo m_doesStandFirst m_stoodBy m_drawn m_ranSteps m_loops m_ran m_told1 m_isTold m_marks]) : Met l yX12_falls (WW yX12_falls cX12_falls 3 (some .boolean)) rm_X12_falls (Ed D cy [.ref (A_m 0), .int x1] [bl_X12 cy A_m m_at m_names m_status m_top m_bottom m_sort m_trayMany m_trays m_tape m_text m_taped m_size m_token m_from m_end m_value m_faultKind m_faultPlace m_faults m_seen m_toldParts m_opened m_depth m_counted m_bestOrder m_standers m_has m_bestHas m_standerMany m_bestCouples m_bestFondness m_cameTo m_doesStandFirst m_stoodBy m_drawn m_ranSteps m_loops m_ran m_told1 m_isTold m_marks]) (Qei D res.1 A W1) 0 0 A := by
  refine Met.ofW (cc := cX12_falls) (maxL := 3) (ret := (some .boolean)) (by decide) rfl ?_
  intro p e s m args below meth c s₁ B hml hv
  obtain ⟨hargs, hP, hX, hD0⟩ := hv
  have hx := B.exec
  have hb := B.bytes
  have hr := B.returns
  have ht : ∀ w ∈ lw_gd, w.before args s = true := fun w hw => atoms_spec (ws := WW yX12_falls cX12_falls 3 (some .boolean)) B.pre w (List.mem_cons_of_mem _ hw)
  have hown : s.vm.findClass RX12 = some m.cls := findClass_of_methodNamed B.named
  have hlocks := B.notSynchronized
  have hP : PD D A [bl_X12 cy A_m m_at m_names m_status m_top m_bottom m_sort m_trayMany m_trays m_tape m_text m_taped m_size m_token m_from m_end m_value m_faultKind m_faultPlace m_faults m_seen m_toldParts m_opened m_depth m_counted m_bestOrder m_standers m_has m_bestHas m_standerMany m_bestCouples m_bestFondness m_cameTo m_doesStandFirst m_stoodBy m_drawn m_ranSteps m_loops m_ran m_told1 m_isTold m_marks] s.heap := ⟨hP, by rw [hA]; exact hD0.own⟩
  have hS : va_S A s.heap s.heap [] := va_S.rf
  obtain ⟨ls, hl, hent⟩ := ent (m := m) (n := 3) hargs (Nat.le_of_ble_eq_true rfl) (lv := [(0, .ref (A_m 0)), (1, .int x1)]) rfl
  rw [hent]
  clear hent
  unfold f_X12_falls at h
  refine lv_aload_n hx hb dX12_falls_0 rfl (lv_at hl 0 rfl) ?_
  refine lv_iload_n hx hb dX12_falls_1 rfl (lv_at hl 1 rfl) ?_
  obtain ⟨z_5, e_z_5, h⟩ := bi h
  refine roVi (rest := []) ⟨hx, hb, hml, hown, ht⟩ (c_X12_isAlive l D cy fu A_m m_at m_names m_status m_top m_bottom m_sort m_trayMany m_trays m_tape m_text m_taped m_size m_token m_from m_end m_value m_faultKind m_faultPlace m_faults m_seen m_toldParts m_opened m_depth m_counted m_bestOrder m_standers m_has m_bestHas m_standerMany m_bestCouples m_bestFondness m_cameTo m_doesStandFirst m_stoodBy m_drawn m_ranSteps m_loops m_ran m_told1 m_isTold m_marks x1 z_5 e_z_5) (cV ht mv_X12_isAlive tb_1531 rfl rfl ⟨Nat.le_of_ble_eq_true rfl, Nat.le_of_ble_eq_true rfl⟩) (P_sub hP.1 [0] rfl) hX rfl rfl rfl hl.1 rfl (Nat.le_of_ble_eq_true rfl) dX12_falls_2 ⟨Nat.le_of_ble_eq_true rfl, Nat.le_of_ble_eq_true rfl⟩ ?_
  refine lv_istore_n (lv' := [(2, .int z_5), (0, .ref (A_m 0)), (1, .int x1)]) hx hb dX12_falls_5 rfl hl (by decide) rfl (fun ls hl => ?_)
  refine lv_aload_n hx hb dX12_falls_6 rfl (lv_at hl 1 rfl) ?_
  refine xget (i := 0) (j := 0) (k := 0) (T := TX12) hx hb ht tb_iX12 hown hX hP.1 rfl rfl rfl (by decide) tb_1229 rfl dX12_falls_7 ?_
  refine lv_iload_n hx hb dX12_falls_10 rfl (lv_at hl 2 rfl) ?_
  obtain ⟨z_6, e_z_6, h⟩ := bi h
  refine roSi (rest := [.ref (A_m 1)]) ⟨hx, hb, hml, hown, ht⟩ (c_X12_manRow l D cy fu  x1 z_6 e_z_6) (cS ht ms_X12_manRow tb_1226 rfl rfl ⟨Nat.le_of_ble_eq_true rfl, Nat.le_of_ble_eq_true rfl⟩) (P_sub hP.1 [] rfl) hX rfl hl.1 rfl (Nat.le_of_ble_eq_true rfl) dX12_falls_11 ⟨Nat.le_of_ble_eq_true rfl, Nat.le_of_ble_eq_true rfl⟩ ?_
  refine lv_iconst (v := 5) hx hb dX12_falls_14 (by decide) ?_
  refine lv_iadd hx hb dX12_falls_15 ?_
  refine lv_iconst (v := 1) hx hb dX12_falls_16 (by decide) ?_
  obtain ⟨m_at_7, e_m_at_7, h⟩ := bi h
  refine xiast (i0 := 0) (j0 := 1) hx hb hX hP hS rfl rfl e_m_at_7 dX12_falls_17 (fun H locs hP hS => ?_)
  have hP : PD D A [bl_X12 cy A_m m_at_7 m_names m_status m_top m_bottom m_sort m_trayMany m_trays m_tape m_text m_taped m_size m_token m_from m_end m_value m_faultKind m_faultPlace m_faults m_seen m_toldParts m_opened m_depth m_counted m_bestOrder m_standers m_has m_bestHas m_standerMany m_bestCouples m_bestFondness m_cameTo m_doesStandFirst m_stoodBy m_drawn m_ranSteps m_loops m_ran m_told1 m_isTold m_marks] H := hP
  refine lv_iload_n hx hb dX12_falls_18 rfl (lv_at hl 0 rfl) ?_
  obtain ⟨b_8, e_b_8, h⟩ := bi h
  obtain ⟨-, n_b_8, -⟩ := bz_ok e_b_8
  cases h
  subst hW1
  exact W.zret hx hb hr n_b_8 (fun _ ht9 _ => ⟨⟨_, (), rfl, rfl, hPt ht9 hP.1⟩, hS.F ht9⟩) hS.2.2 dX12_falls_19
theorem dX12_fall_0 : decode cX12_fall 0 = .ok (.aload_n 0, 1) := by decide +kernel
theorem dX12_fall_1 : decode cX12_fall 1 = .ok (.iload_n 1, 1) := by decide +kernel
theorem dX12_fall_2 : decode cX12_fall 2 = .ok (.invokevirtual 241, 3) := by decide +kernel
theorem dX12_fall_5 : decode cX12_fall 5 = .ok (.ifCond .ne 9, 3) := by decide +kernel
theorem dX12_fall_8 : decode cX12_fall 8 = .ok (.aload_n 0, 1) := by decide +kernel
theorem dX12_fall_9 : decode cX12_fall 9 = .ok (.iconst 1, 1) := by decide +kernel
theorem dX12_fall_10 : decode cX12_fall 10 = .ok (.invokevirtual 85, 3) := by decide +kernel
theorem dX12_fall_13 : decode cX12_fall 13 = .ok (.ireturn, 1) := by decide +kernel
theorem dX12_fall_14 : decode cX12_fall 14 = .ok (.aload_n 0, 1) := by decide +kernel
theorem dX12_fall_15 : decode cX12_fall 15 = .ok (.iload_n 1, 1) := by decide +kernel
theorem dX12_fall_16 : decode cX12_fall 16 = .ok (.invokevirtual 305, 3) := by decide +kernel
theorem dX12_fall_19 : decode cX12_fall 19 = .ok (.ifCond .eq 17, 3) := by decide +kernel
theorem dX12_fall_22 : decode cX12_fall 22 = .ok (.aload_n 0, 1) := by decide +kernel
theorem dX12_fall_23 : decode cX12_fall 23 = .ok (.aload_n 0, 1) := by decide +kernel
theorem dX12_fall_24 : decode cX12_fall 24 = .ok (.invokevirtual 259, 3) := by decide +kernel
theorem dX12_fall_27 : decode cX12_fall 27 = .ok (.invokestatic 308, 3) := by decide +kernel
theorem dX12_fall_30 : decode cX12_fall 30 = .ok (.invokevirtual 88, 3) := by decide +kernel
theorem dX12_fall_33 : decode cX12_fall 33 = .ok (.goto 9, 3) := by decide +kernel
theorem dX12_fall_36 : decode cX12_fall 36 = .ok (.aload_n 0, 1) := by decide +kernel
theorem dX12_fall_37 : decode cX12_fall 37 = .ok (.bipush 7, 2) := by decide +kernel
theorem dX12_fall_39 : decode cX12_fall 39 = .ok (.invokevirtual 85, 3) := by decide +kernel
theorem dX12_fall_42 : decode cX12_fall 42 = .ok (.ireturn, 1) := by decide +kernel
theorem mv_X12_fall : MV yX12_fall RX12 cX12_fall 2 (some .int) 1 := ⟨tb_1629, tb_1627, tb_1628, tb_16, by decide +kernel, by decide +kernel, by decide +kernel⟩
def f_X12_fall (fu : Nat) (m_at : Nat → Int32) (m_status : Int32) (x1 : Int32) : Option (Int32 × (Nat → Int32) × Int32) := (f_X12_isMan fu m_at x1).bind fun z_10 => (if z_10 = 0 then (f_X12_refuse fu m_status 1).bind fun z_18 => some (z_18.1, m_at, z_18.2) else (f_X12_falls fu m_at x1).bind fun z_12 => (if z_12.1 = 0 then (f_X12_refuse fu m_status 7).bind fun z_14 => some (z_14.1, z_12.2, z_14.2) else (f_X12_living fu z_12.2).bind fun z_15 => (f_X12_bits fu z_15).bind fun z_16 => (f_X12_gives fu m_status z_16).bind fun z_17 => some (z_17.1, z_12.2, z_17.2)))
abbrev rm_X12_fall : Room := { frames := 4, cells := 0, slots := 0, locals := 85 }
set_option maxHeartbeats 4000000 in
set_option maxRecDepth 100000 in
theorem c_X12_fall (l : Launch) (D : va_G) (cy : Nat → ClassId) (fu : Nat) (A_m : Nat → Nat) (m_at : Nat → Int32) (m_names : Nat → Int64) (m_status : Int32) (m_top : Int64) (m_bottom : Int64) (m_sort : Nat → Int32) (m_trayMany : Nat → Int32) (m_trays : Nat → Int64) (m_tape : Nat → Int32) (m_text : Nat → Int32) (m_taped : Int32) (m_size : Int32) (m_token : Int32) (m_from : Int32) (m_end : Int32) (m_value : Int32) (m_faultKind : Int32) (m_faultPlace : Int32) (m_faults : Int32) (m_seen : Int32) (m_toldParts : Int32) (m_opened : Nat → Int32) (m_depth : Int32) (m_counted : Int32) (m_bestOrder : Int32) (m_standers : Nat → Int32) (m_has : Nat → Int32) (m_bestHas : Nat → Int32) (m_standerMany : Int32) (m_bestCouples : Int32) (m_bestFondness : Int32) (m_cameTo : Nat → Int32) (m_doesStandFirst : Int32) (m_stoodBy : Nat → Int64) (m_drawn : Int32) (m_ranSteps : Int32) (m_loops : Nat → Int32) (m_ran : Nat → Int32) (m_told1 : Nat → Int32) (m_isTold : Int32) (m_marks : Int32) (x1 : Int32) (res : Int32 × (Nat → Int32) × Int32) (h : f_X12_fall fu m_at m_status x1 = some res) (A : Nat → Prop) (hA : A = adr [bl_X12 cy A_m m_at m_names m_status m_top m_bottom m_sort m_trayMany m_trays m_tape m_text m_taped m_size m_token m_from m_end m_value m_faultKind m_faultPlace m_faults m_seen m_toldParts m_opened m_depth m_counted m_bestOrder m_standers m_has m_bestHas m_standerMany m_bestCouples m_bestFondness m_cameTo m_doesStandFirst m_stoodBy m_drawn m_ranSteps m_loops m_ran m_told1 m_isTold m_marks]) (W1 : List va_W) (hW1 : W1 = [bl_X12 cy A_m res.2.1 m_names res.2.2 m_top m_bottom m_sort m_trayMany m_trays m_tape m_text m_taped m_size m_token m_from m_end m_value m_faultKind m_faultPlace m_faults m_seen m_toldParts m_opened m_depth m_counted m_bestOrder m_standers m_has m_bestHas m_standerMany m_bestCouples m_bestFondness m_cameTo m_doesStandFirst m_stoodBy m_drawn m_ranSteps m_loops m_ran m_told1 m_isTold m_marks]) : Met l yX12_fall (WW yX12_fall cX12_fall 2 (some .int)) rm_X12_fall (Ed D cy [.ref (A_m 0), .int x1] [bl_X12 cy A_m m_at m_names m_status m_top m_bottom m_sort m_trayMany m_trays m_tape m_text m_taped m_size m_token m_from m_end m_value m_faultKind m_faultPlace m_faults m_seen m_toldParts m_opened m_depth m_counted m_bestOrder m_standers m_has m_bestHas m_standerMany m_bestCouples m_bestFondness m_cameTo m_doesStandFirst m_stoodBy m_drawn m_ranSteps m_loops m_ran m_told1 m_isTold m_marks]) (Qei D res.1 A W1) 0 0 A := by
  refine Met.ofW (cc := cX12_fall) (maxL := 2) (ret := (some .int)) (by decide) rfl ?_
  intro p e s m args below meth c s₁ B hml hv
  obtain ⟨hargs, hP, hX, hD0⟩ := hv
  have hx := B.exec
  have hb := B.bytes
  have hr := B.returns
  have ht : ∀ w ∈ lw_gd, w.before args s = true := fun w hw => atoms_spec (ws := WW yX12_fall cX12_fall 2 (some .int)) B.pre w (List.mem_cons_of_mem _ hw)
  have hown : s.vm.findClass RX12 = some m.cls := findClass_of_methodNamed B.named
  have hlocks := B.notSynchronized
  have hP : PD D A [bl_X12 cy A_m m_at m_names m_status m_top m_bottom m_sort m_trayMany m_trays m_tape m_text m_taped m_size m_token m_from m_end m_value m_faultKind m_faultPlace m_faults m_seen m_toldParts m_opened m_depth m_counted m_bestOrder m_standers m_has m_bestHas m_standerMany m_bestCouples m_bestFondness m_cameTo m_doesStandFirst m_stoodBy m_drawn m_ranSteps m_loops m_ran m_told1 m_isTold m_marks] s.heap := ⟨hP, by rw [hA]; exact hD0.own⟩
  have hS : va_S A s.heap s.heap [] := va_S.rf
  obtain ⟨ls, hl, hent⟩ := ent (m := m) (n := 2) hargs (Nat.le_of_ble_eq_true rfl) (lv := [(0, .ref (A_m 0)), (1, .int x1)]) rfl
  rw [hent]
  clear hent
  unfold f_X12_fall at h
  refine lv_aload_n hx hb dX12_fall_0 rfl (lv_at hl 0 rfl) ?_
  refine lv_iload_n hx hb dX12_fall_1 rfl (lv_at hl 1 rfl) ?_
  obtain ⟨z_10, e_z_10, h⟩ := bi h
  refine roVi (rest := []) ⟨hx, hb, hml, hown, ht⟩ (c_X12_isMan l D cy fu A_m m_at m_names m_status m_top m_bottom m_sort m_trayMany m_trays m_tape m_text m_taped m_size m_token m_from m_end m_value m_faultKind m_faultPlace m_faults m_seen m_toldParts m_opened m_depth m_counted m_bestOrder m_standers m_has m_bestHas m_standerMany m_bestCouples m_bestFondness m_cameTo m_doesStandFirst m_stoodBy m_drawn m_ranSteps m_loops m_ran m_told1 m_isTold m_marks x1 z_10 e_z_10) (cV ht mv_X12_isMan tb_1551 rfl rfl ⟨Nat.le_of_ble_eq_true rfl, Nat.le_of_ble_eq_true rfl⟩) (P_sub hP.1 [0] rfl) hX rfl rfl rfl hl.1 rfl (Nat.le_of_ble_eq_true rfl) dX12_fall_2 ⟨Nat.le_of_ble_eq_true rfl, Nat.le_of_ble_eq_true rfl⟩ ?_
  refine lv_if_ne (tgt := 14) hx hb dX12_fall_5 (by decide) (fun c_11 => ?_) (fun c_11 => ?_)
  · have h := ie c_11 h
    refine lv_aload_n hx hb dX12_fall_14 rfl (lv_at hl 0 rfl) ?_
    refine lv_iload_n hx hb dX12_fall_15 rfl (lv_at hl 1 rfl) ?_
    obtain ⟨z_12, e_z_12, h⟩ := bi h
    refine efVi (rest := []) ⟨hx, hb, hml, hown, ht⟩ (c_X12_falls l D cy fu A_m m_at m_names m_status m_top m_bottom m_sort m_trayMany m_trays m_tape m_text m_taped m_size m_token m_from m_end m_value m_faultKind m_faultPlace m_faults m_seen m_toldParts m_opened m_depth m_counted m_bestOrder m_standers m_has m_bestHas m_standerMany m_bestCouples m_bestFondness m_cameTo m_doesStandFirst m_stoodBy m_drawn m_ranSteps m_loops m_ran m_told1 m_isTold m_marks x1 z_12 e_z_12 _ rfl _ rfl) (cV ht mv_X12_falls tb_1630 rfl rfl ⟨Nat.le_of_ble_eq_true rfl, Nat.le_of_ble_eq_true rfl⟩) hP hS hX [0] rfl rfl rfl rfl rfl rfl hl.1 rfl (Nat.le_of_ble_eq_true rfl) dX12_fall_16 ⟨Nat.le_of_ble_eq_true rfl, Nat.le_of_ble_eq_true rfl⟩ (fun H locs hP hS => ?_)
    have hP : PD D A [bl_X12 cy A_m z_12.2 m_names m_status m_top m_bottom m_sort m_trayMany m_trays m_tape m_text m_taped m_size m_token m_from m_end m_value m_faultKind m_faultPlace m_faults m_seen m_toldParts m_opened m_depth m_counted m_bestOrder m_standers m_has m_bestHas m_standerMany m_bestCouples m_bestFondness m_cameTo m_doesStandFirst m_stoodBy m_drawn m_ranSteps m_loops m_ran m_told1 m_isTold m_marks] H := hP
    refine lv_if_eq (tgt := 36) hx hb dX12_fall_19 (by decide) (fun c_13 => ?_) (fun c_13 => ?_)
    · have h := it c_13 h
      refine lv_aload_n hx hb dX12_fall_36 rfl (lv_at hl 0 rfl) ?_
      refine lv_bipush (v := 7) hx hb dX12_fall_37 (by decide) ?_
      obtain ⟨z_14, e_z_14, h⟩ := bi h
      refine efVi (rest := []) ⟨hx, hb, hml, hown, ht⟩ (c_X12_refuse l D cy fu A_m z_12.2 m_names m_status m_top m_bottom m_sort m_trayMany m_trays m_tape m_text m_taped m_size m_token m_from m_end m_value m_faultKind m_faultPlace m_faults m_seen m_toldParts m_opened m_depth m_counted m_bestOrder m_standers m_has m_bestHas m_standerMany m_bestCouples m_bestFondness m_cameTo m_doesStandFirst m_stoodBy m_drawn m_ranSteps m_loops m_ran m_told1 m_isTold m_marks 7 z_14 e_z_14 _ rfl _ rfl) (cV ht mv_X12_refuse tb_1432 rfl rfl ⟨Nat.le_of_ble_eq_true rfl, Nat.le_of_ble_eq_true rfl⟩) hP hS hX [0] rfl rfl rfl rfl rfl rfl hl.1 rfl (Nat.le_of_ble_eq_true rfl) dX12_fall_39 ⟨Nat.le_of_ble_eq_true rfl, Nat.le_of_ble_eq_true rfl⟩ (fun H locs hP hS => ?_)
      have hP : PD D A [bl_X12 cy A_m z_12.2 m_names z_14.2 m_top m_bottom m_sort m_trayMany m_trays m_tape m_text m_taped m_size m_token m_from m_end m_value m_faultKind m_faultPlace m_faults m_seen m_toldParts m_opened m_depth m_counted m_bestOrder m_standers m_has m_bestHas m_standerMany m_bestCouples m_bestFondness m_cameTo m_doesStandFirst m_stoodBy m_drawn m_ranSteps m_loops m_ran m_told1 m_isTold m_marks] H := hP
      cases h
      subst hW1
      exact W.iret hx hb hr (fun _ ht9 _ => ⟨⟨_, (), rfl, rfl, hPt ht9 hP.1⟩, hS.F ht9⟩) hS.2.2 dX12_fall_42
    · have h := ie c_13 h
      refine lv_aload_n hx hb dX12_fall_22 rfl (lv_at hl 0 rfl) ?_
      refine lv_aload_n hx hb dX12_fall_23 rfl (lv_at hl 0 rfl) ?_
      obtain ⟨z_15, e_z_15, h⟩ := bi h
      refine roVi (rest := [.ref (A_m 0)]) ⟨hx, hb, hml, hown, ht⟩ (c_X12_living l D cy fu A_m z_12.2 m_names m_status m_top m_bottom m_sort m_trayMany m_trays m_tape m_text m_taped m_size m_token m_from m_end m_value m_faultKind m_faultPlace m_faults m_seen m_toldParts m_opened m_depth m_counted m_bestOrder m_standers m_has m_bestHas m_standerMany m_bestCouples m_bestFondness m_cameTo m_doesStandFirst m_stoodBy m_drawn m_ranSteps m_loops m_ran m_told1 m_isTold m_marks z_15 e_z_15) (cV ht mv_X12_living tb_1527 rfl rfl ⟨Nat.le_of_ble_eq_true rfl, Nat.le_of_ble_eq_true rfl⟩) (P_sub hP.1 [0] rfl) hX rfl rfl rfl hl.1 rfl (Nat.le_of_ble_eq_true rfl) dX12_fall_24 ⟨Nat.le_of_ble_eq_true rfl, Nat.le_of_ble_eq_true rfl⟩ ?_
      obtain ⟨z_16, e_z_16, h⟩ := bi h
      refine roSi (rest := [.ref (A_m 0)]) ⟨hx, hb, hml, hown, ht⟩ (c_X12_bits l D cy fu  z_15 z_16 e_z_16) (cS ht ms_X12_bits tb_1634 rfl rfl ⟨Nat.le_of_ble_eq_true rfl, Nat.le_of_ble_eq_true rfl⟩) (P_sub hP.1 [] rfl) hX rfl hl.1 rfl (Nat.le_of_ble_eq_true rfl) dX12_fall_27 ⟨Nat.le_of_ble_eq_true rfl, Nat.le_of_ble_eq_true rfl⟩ ?_
      obtain ⟨z_17, e_z_17, h⟩ := bi h
      refine efVi (rest := []) ⟨hx, hb, hml, hown, ht⟩ (c_X12_gives l D cy fu A_m z_12.2 m_names m_status m_top m_bottom m_sort m_trayMany m_trays m_tape m_text m_taped m_size m_token m_from m_end m_value m_faultKind m_faultPlace m_faults m_seen m_toldParts m_opened m_depth m_counted m_bestOrder m_standers m_has m_bestHas m_standerMany m_bestCouples m_bestFondness m_cameTo m_doesStandFirst m_stoodBy m_drawn m_ranSteps m_loops m_ran m_told1 m_isTold m_marks z_16 z_17 e_z_17 _ rfl _ rfl) (cV ht mv_X12_gives tb_1499 rfl rfl ⟨Nat.le_of_ble_eq_true rfl, Nat.le_of_ble_eq_true rfl⟩) hP hS hX [0] rfl rfl rfl rfl rfl rfl hl.1 rfl (Nat.le_of_ble_eq_true rfl) dX12_fall_30 ⟨Nat.le_of_ble_eq_true rfl, Nat.le_of_ble_eq_true rfl⟩ (fun H locs hP hS => ?_)
      have hP : PD D A [bl_X12 cy A_m z_12.2 m_names z_17.2 m_top m_bottom m_sort m_trayMany m_trays m_tape m_text m_taped m_size m_token m_from m_end m_value m_faultKind m_faultPlace m_faults m_seen m_toldParts m_opened m_depth m_counted m_bestOrder m_standers m_has m_bestHas m_standerMany m_bestCouples m_bestFondness m_cameTo m_doesStandFirst m_stoodBy m_drawn m_ranSteps m_loops m_ran m_told1 m_isTold m_marks] H := hP
      refine lv_goto (tgt := 42) hx hb dX12_fall_33 (by decide) ?_
      cases h
      subst hW1
      exact W.iret hx hb hr (fun _ ht9 _ => ⟨⟨_, (), rfl, rfl, hPt ht9 hP.1⟩, hS.F ht9⟩) hS.2.2 dX12_fall_42
  · have h := it c_11 h
    refine lv_aload_n hx hb dX12_fall_8 rfl (lv_at hl 0 rfl) ?_
    refine lv_iconst (v := 1) hx hb dX12_fall_9 (by decide) ?_
    obtain ⟨z_18, e_z_18, h⟩ := bi h
    refine efVi (rest := []) ⟨hx, hb, hml, hown, ht⟩ (c_X12_refuse l D cy fu A_m m_at m_names m_status m_top m_bottom m_sort m_trayMany m_trays m_tape m_text m_taped m_size m_token m_from m_end m_value m_faultKind m_faultPlace m_faults m_seen m_toldParts m_opened m_depth m_counted m_bestOrder m_standers m_has m_bestHas m_standerMany m_bestCouples m_bestFondness m_cameTo m_doesStandFirst m_stoodBy m_drawn m_ranSteps m_loops m_ran m_told1 m_isTold m_marks 1 z_18 e_z_18 _ rfl _ rfl) (cV ht mv_X12_refuse tb_1432 rfl rfl ⟨Nat.le_of_ble_eq_true rfl, Nat.le_of_ble_eq_true rfl⟩) hP hS hX [0] rfl rfl rfl rfl rfl rfl hl.1 rfl (Nat.le_of_ble_eq_true rfl) dX12_fall_10 ⟨Nat.le_of_ble_eq_true rfl, Nat.le_of_ble_eq_true rfl⟩ (fun H locs hP hS => ?_)
    have hP : PD D A [bl_X12 cy A_m m_at m_names z_18.2 m_top m_bottom m_sort m_trayMany m_trays m_tape m_text m_taped m_size m_token m_from m_end m_value m_faultKind m_faultPlace m_faults m_seen m_toldParts m_opened m_depth m_counted m_bestOrder m_standers m_has m_bestHas m_standerMany m_bestCouples m_bestFondness m_cameTo m_doesStandFirst m_stoodBy m_drawn m_ranSteps m_loops m_ran m_told1 m_isTold m_marks] H := hP
    cases h
    subst hW1
    exact W.iret hx hb hr (fun _ ht9 _ => ⟨⟨_, (), rfl, rfl, hPt ht9 hP.1⟩, hS.F ht9⟩) hS.2.2 dX12_fall_13
theorem dX12_enlist_0 : decode cX12_enlist 0 = .ok (.iload_n 1, 1) := by decide +kernel
theorem dX12_enlist_1 : decode cX12_enlist 1 = .ok (.i2l, 1) := by decide +kernel
theorem dX12_enlist_2 : decode cX12_enlist 2 = .ok (.lconst 0, 1) := by decide +kernel
theorem dX12_enlist_3 : decode cX12_enlist 3 = .ok (.ldc2_w 311, 3) := by decide +kernel
theorem dX12_enlist_6 : decode cX12_enlist 6 = .ok (.invokestatic 246, 3) := by decide +kernel
theorem dX12_enlist_9 : decode cX12_enlist 9 = .ok (.ifCond .eq 15, 3) := by decide +kernel
theorem dX12_enlist_12 : decode cX12_enlist 12 = .ok (.iload_n 2, 1) := by decide +kernel
theorem dX12_enlist_13 : decode cX12_enlist 13 = .ok (.i2l, 1) := by decide +kernel
theorem dX12_enlist_14 : decode cX12_enlist 14 = .ok (.lconst 0, 1) := by decide +kernel
theorem dX12_enlist_15 : decode cX12_enlist 15 = .ok (.ldc2_w 313, 3) := by decide +kernel
theorem dX12_enlist_18 : decode cX12_enlist 18 = .ok (.invokestatic 246, 3) := by decide +kernel
theorem dX12_enlist_21 : decode cX12_enlist 21 = .ok (.ifCond .ne 9, 3) := by decide +kernel
theorem dX12_enlist_24 : decode cX12_enlist 24 = .ok (.aload_n 0, 1) := by decide +kernel
theorem dX12_enlist_25 : decode cX12_enlist 25 = .ok (.iconst 1, 1) := by decide +kernel
theorem dX12_enlist_26 : decode cX12_enlist 26 = .ok (.invokevirtual 85, 3) := by decide +kernel
theorem dX12_enlist_29 : decode cX12_enlist 29 = .ok (.ireturn, 1) := by decide +kernel
theorem dX12_enlist_30 : decode cX12_enlist 30 = .ok (.aload_n 0, 1) := by decide +kernel
theorem dX12_enlist_31 : decode cX12_enlist 31 = .ok (.getfield 7, 3) := by decide +kernel
theorem dX12_enlist_34 : decode cX12_enlist 34 = .ok (.iconst 0, 1) := by decide +kernel
theorem dX12_enlist_35 : decode cX12_enlist 35 = .ok (.iaload, 1) := by decide +kernel
theorem dX12_enlist_36 : decode cX12_enlist 36 = .ok (.istore_n 3, 1) := by decide +kernel
theorem dX12_enlist_37 : decode cX12_enlist 37 = .ok (.iload_n 3, 1) := by decide +kernel
theorem dX12_enlist_38 : decode cX12_enlist 38 = .ok (.bipush 8, 2) := by decide +kernel
theorem dX12_enlist_40 : decode cX12_enlist 40 = .ok (.if_icmp .ne 9, 3) := by decide +kernel
theorem dX12_enlist_43 : decode cX12_enlist 43 = .ok (.aload_n 0, 1) := by decide +kernel
theorem dX12_enlist_44 : decode cX12_enlist 44 = .ok (.iconst 4, 1) := by decide +kernel
theorem dX12_enlist_45 : decode cX12_enlist 45 = .ok (.invokevirtual 85, 3) := by decide +kernel
theorem dX12_enlist_48 : decode cX12_enlist 48 = .ok (.ireturn, 1) := by decide +kernel
theorem dX12_enlist_49 : decode cX12_enlist 49 = .ok (.aload_n 0, 1) := by decide +kernel
theorem dX12_enlist_50 : decode cX12_enlist 50 = .ok (.getfield 7, 3) := by decide +kernel
theorem dX12_enlist_53 : decode cX12_enlist 53 = .ok (.iconst 0, 1) := by decide +kernel
theorem dX12_enlist_54 : decode cX12_enlist 54 = .ok (.dup2, 1) := by decide +kernel
theorem dX12_enlist_55 : decode cX12_enlist 55 = .ok (.iaload, 1) := by decide +kernel
theorem dX12_enlist_56 : decode cX12_enlist 56 = .ok (.iconst 1, 1) := by decide +kernel
theorem dX12_enlist_57 : decode cX12_enlist 57 = .ok (.iadd, 1) := by decide +kernel
theorem dX12_enlist_58 : decode cX12_enlist 58 = .ok (.iastore, 1) := by decide +kernel
theorem dX12_enlist_59 : decode cX12_enlist 59 = .ok (.iconst 0, 1) := by decide +kernel
theorem dX12_enlist_60 : decode cX12_enlist 60 = .ok (.istore 4, 2) := by decide +kernel
theorem dX12_enlist_62 : decode cX12_enlist 62 = .ok (.iload 4, 2) := by decide +kernel
theorem dX12_enlist_64 : decode cX12_enlist 64 = .ok (.bipush 14, 2) := by decide +kernel
theorem dX12_enlist_66 : decode cX12_enlist 66 = .ok (.if_icmp .ge 22, 3) := by decide +kernel
theorem dX12_enlist_69 : decode cX12_enlist 69 = .ok (.aload_n 0, 1) := by decide +kernel
theorem dX12_enlist_70 : decode cX12_enlist 70 = .ok (.getfield 7, 3) := by decide +kernel
theorem dX12_enlist_73 : decode cX12_enlist 73 = .ok (.iload_n 3, 1) := by decide +kernel
theorem dX12_enlist_74 : decode cX12_enlist 74 = .ok (.invokestatic 75, 3) := by decide +kernel
theorem dX12_enlist_77 : decode cX12_enlist 77 = .ok (.iload 4, 2) := by decide +kernel
theorem dX12_enlist_79 : decode cX12_enlist 79 = .ok (.iadd, 1) := by decide +kernel
theorem dX12_enlist_80 : decode cX12_enlist 80 = .ok (.iconst 0, 1) := by decide +kernel
theorem dX12_enlist_81 : decode cX12_enlist 81 = .ok (.iastore, 1) := by decide +kernel
theorem dX12_enlist_82 : decode cX12_enlist 82 = .ok (.iinc 4 1, 3) := by decide +kernel
theorem dX12_enlist_85 : decode cX12_enlist 85 = .ok (.goto (-23), 3) := by decide +kernel
theorem dX12_enlist_88 : decode cX12_enlist 88 = .ok (.aload_n 0, 1) := by decide +kernel
theorem dX12_enlist_89 : decode cX12_enlist 89 = .ok (.getfield 7, 3) := by decide +kernel
theorem dX12_enlist_92 : decode cX12_enlist 92 = .ok (.iload_n 3, 1) := by decide +kernel
theorem dX12_enlist_93 : decode cX12_enlist 93 = .ok (.invokestatic 75, 3) := by decide +kernel
theorem dX12_enlist_96 : decode cX12_enlist 96 = .ok (.iload_n 1, 1) := by decide +kernel
theorem dX12_enlist_97 : decode cX12_enlist 97 = .ok (.iastore, 1) := by decide +kernel
theorem dX12_enlist_98 : decode cX12_enlist 98 = .ok (.aload_n 0, 1) := by decide +kernel
theorem dX12_enlist_99 : decode cX12_enlist 99 = .ok (.getfield 7, 3) := by decide +kernel
theorem dX12_enlist_102 : decode cX12_enlist 102 = .ok (.iload_n 3, 1) := by decide +kernel
theorem dX12_enlist_103 : decode cX12_enlist 103 = .ok (.invokestatic 75, 3) := by decide +kernel
theorem dX12_enlist_106 : decode cX12_enlist 106 = .ok (.iconst 1, 1) := by decide +kernel
theorem dX12_enlist_107 : decode cX12_enlist 107 = .ok (.iadd, 1) := by decide +kernel
theorem dX12_enlist_108 : decode cX12_enlist 108 = .ok (.iload_n 2, 1) := by decide +kernel
theorem dX12_enlist_109 : decode cX12_enlist 109 = .ok (.iastore, 1) := by decide +kernel
theorem dX12_enlist_110 : decode cX12_enlist 110 = .ok (.iconst 0, 1) := by decide +kernel
theorem dX12_enlist_111 : decode cX12_enlist 111 = .ok (.istore 4, 2) := by decide +kernel
theorem dX12_enlist_113 : decode cX12_enlist 113 = .ok (.iload 4, 2) := by decide +kernel
theorem dX12_enlist_115 : decode cX12_enlist 115 = .ok (.bipush 8, 2) := by decide +kernel
theorem dX12_enlist_117 : decode cX12_enlist 117 = .ok (.if_icmp .ge 57, 3) := by decide +kernel
theorem dX12_enlist_120 : decode cX12_enlist 120 = .ok (.aload_n 0, 1) := by decide +kernel
theorem dX12_enlist_121 : decode cX12_enlist 121 = .ok (.getfield 7, 3) := by decide +kernel
theorem dX12_enlist_124 : decode cX12_enlist 124 = .ok (.iload_n 3, 1) := by decide +kernel
theorem dX12_enlist_125 : decode cX12_enlist 125 = .ok (.invokestatic 75, 3) := by decide +kernel
theorem dX12_enlist_128 : decode cX12_enlist 128 = .ok (.bipush 6, 2) := by decide +kernel
theorem dX12_enlist_130 : decode cX12_enlist 130 = .ok (.iadd, 1) := by decide +kernel
theorem dX12_enlist_131 : decode cX12_enlist 131 = .ok (.iload 4, 2) := by decide +kernel
theorem dX12_enlist_133 : decode cX12_enlist 133 = .ok (.iadd, 1) := by decide +kernel
theorem dX12_enlist_134 : decode cX12_enlist 134 = .ok (.iload 4, 2) := by decide +kernel
theorem dX12_enlist_136 : decode cX12_enlist 136 = .ok (.iload_n 3, 1) := by decide +kernel
theorem dX12_enlist_137 : decode cX12_enlist 137 = .ok (.if_icmp .ne 7, 3) := by decide +kernel
theorem dX12_enlist_140 : decode cX12_enlist 140 = .ok (.iconst 0, 1) := by decide +kernel
theorem dX12_enlist_141 : decode cX12_enlist 141 = .ok (.goto 4, 3) := by decide +kernel
theorem dX12_enlist_144 : decode cX12_enlist 144 = .ok (.iconst 5, 1) := by decide +kernel
theorem dX12_enlist_145 : decode cX12_enlist 145 = .ok (.iastore, 1) := by decide +kernel
theorem dX12_enlist_146 : decode cX12_enlist 146 = .ok (.iload 4, 2) := by decide +kernel
theorem dX12_enlist_148 : decode cX12_enlist 148 = .ok (.iload_n 3, 1) := by decide +kernel
theorem dX12_enlist_149 : decode cX12_enlist 149 = .ok (.if_icmp .eq 19, 3) := by decide +kernel
theorem dX12_enlist_152 : decode cX12_enlist 152 = .ok (.aload_n 0, 1) := by decide +kernel
theorem dX12_enlist_153 : decode cX12_enlist 153 = .ok (.getfield 7, 3) := by decide +kernel
theorem dX12_enlist_156 : decode cX12_enlist 156 = .ok (.iload 4, 2) := by decide +kernel
theorem dX12_enlist_158 : decode cX12_enlist 158 = .ok (.invokestatic 75, 3) := by decide +kernel
theorem dX12_enlist_161 : decode cX12_enlist 161 = .ok (.bipush 6, 2) := by decide +kernel
theorem dX12_enlist_163 : decode cX12_enlist 163 = .ok (.iadd, 1) := by decide +kernel
theorem dX12_enlist_164 : decode cX12_enlist 164 = .ok (.iload_n 3, 1) := by decide +kernel
theorem dX12_enlist_165 : decode cX12_enlist 165 = .ok (.iadd, 1) := by decide +kernel
theorem dX12_enlist_166 : decode cX12_enlist 166 = .ok (.iconst 5, 1) := by decide +kernel
theorem dX12_enlist_167 : decode cX12_enlist 167 = .ok (.iastore, 1) := by decide +kernel
theorem dX12_enlist_168 : decode cX12_enlist 168 = .ok (.iinc 4 1, 3) := by decide +kernel
theorem dX12_enlist_171 : decode cX12_enlist 171 = .ok (.goto (-58), 3) := by decide +kernel
theorem dX12_enlist_174 : decode cX12_enlist 174 = .ok (.aload_n 0, 1) := by decide +kernel
theorem dX12_enlist_175 : decode cX12_enlist 175 = .ok (.getfield 13, 3) := by decide +kernel
theorem dX12_enlist_178 : decode cX12_enlist 178 = .ok (.iload_n 3, 1) := by decide +kernel
theorem dX12_enlist_179 : decode cX12_enlist 179 = .ok (.lconst 0, 1) := by decide +kernel
theorem dX12_enlist_180 : decode cX12_enlist 180 = .ok (.lastore, 1) := by decide +kernel
theorem dX12_enlist_181 : decode cX12_enlist 181 = .ok (.aload_n 0, 1) := by decide +kernel
theorem dX12_enlist_182 : decode cX12_enlist 182 = .ok (.iload_n 3, 1) := by decide +kernel
theorem dX12_enlist_183 : decode cX12_enlist 183 = .ok (.invokevirtual 88, 3) := by decide +kernel
theorem dX12_enlist_186 : decode cX12_enlist 186 = .ok (.ireturn, 1) := by decide +kernel
theorem mv_X12_enlist : MV yX12_enlist RX12 cX12_enlist 5 (some .int) 2 := ⟨tb_1640, tb_1638, tb_1639, tb_16, by decide +kernel, by decide +kernel, by decide +kernel⟩
def f_X12_enlist_j145 (fu : Nat) (x1 : Int32) (x2 : Int32) (k113 : (Nat → Int32) → (Nat → Int64) → Int32 → Int32 → Int32 → (Option (Int32 × (Nat → Int32) × (Nat → Int64) × Int32))) (m_at : Nat → Int32) (m_names : Nat → Int64) (m_status : Int32) (x3 : Int32) (x4 : Int32) (s1 : Int32) (s2 : Int32) : Option (Int32 × (Nat → Int32) × (Nat → Int64) × Int32) := (wrI m_at 3648 s1 s2).bind fun m_at_31 => (if x4 = x3 then bnd (x4 + 1) fun x4_33 => k113 m_at_31 m_names m_status x3 x4_33 else (f_X12_manRow fu x4).bind fun z_34 => (wrI m_at_31 3648 ((z_34 + 6) + x3) 5).bind fun m_at_35 => bnd (x4 + 1) fun x4_36 => k113 m_at_35 m_names m_status x3 x4_36)
def f_X12_enlist_b113 (fu : Nat) (x1 : Int32) (x2 : Int32) (k113 : (Nat → Int32) → (Nat → Int64) → Int32 → Int32 → Int32 → (Option (Int32 × (Nat → Int32) × (Nat → Int64) × Int32))) (m_at : Nat → Int32) (m_names : Nat → Int64) (m_status : Int32) (x3 : Int32) (x4 : Int32) : Option (Int32 × (Nat → Int32) × (Nat → Int64) × Int32) := (if 8 ≤ x4 then (wrJ m_names 48 x3 0).bind fun m_names_38 => (f_X12_gives fu m_status x3).bind fun z_39 => some (z_39.1, m_at, m_names_38, z_39.2) else (f_X12_manRow fu x3).bind fun z_40 => (if x4 = x3 then f_X12_enlist_j145 fu x1 x2 k113 m_at m_names m_status x3 x4 ((z_40 + 6) + x4) 0 else f_X12_enlist_j145 fu x1 x2 k113 m_at m_names m_status x3 x4 ((z_40 + 6) + x4) 5))
def f_X12_enlist_l113 (fu : Nat) (x1 : Int32) (x2 : Int32) : Nat → (Nat → Int32) → (Nat → Int64) → Int32 → Int32 → Int32 → (Option (Int32 × (Nat → Int32) × (Nat → Int64) × Int32))
  | 0, _, _, _, _, _ => none
  | n + 1, m_at, m_names, m_status, x3, x4 => f_X12_enlist_b113 fu x1 x2 (f_X12_enlist_l113 fu x1 x2 n) m_at m_names m_status x3 x4
def f_X12_enlist_b62 (fu : Nat) (x1 : Int32) (x2 : Int32) (k62 : (Nat → Int32) → (Nat → Int64) → Int32 → Int32 → Int32 → (Option (Int32 × (Nat → Int32) × (Nat → Int64) × Int32))) (m_at : Nat → Int32) (m_names : Nat → Int64) (m_status : Int32) (x3 : Int32) (x4 : Int32) : Option (Int32 × (Nat → Int32) × (Nat → Int64) × Int32) := (if 14 ≤ x4 then (f_X12_manRow fu x3).bind fun z_43 => (wrI m_at 3648 z_43 x1).bind fun m_at_44 => (f_X12_manRow fu x3).bind fun z_45 => (wrI m_at_44 3648 (z_45 + 1) x2).bind fun m_at_46 => f_X12_enlist_l113 fu x1 x2 fu m_at_46 m_names m_status x3 0 else (f_X12_manRow fu x3).bind fun z_47 => (wrI m_at 3648 (z_47 + x4) 0).bind fun m_at_48 => bnd (x4 + 1) fun x4_49 => k62 m_at_48 m_names m_status x3 x4_49)
def f_X12_enlist_l62 (fu : Nat) (x1 : Int32) (x2 : Int32) : Nat → (Nat → Int32) → (Nat → Int64) → Int32 → Int32 → Int32 → (Option (Int32 × (Nat → Int32) × (Nat → Int64) × Int32))
  | 0, _, _, _, _, _ => none
  | n + 1, m_at, m_names, m_status, x3, x4 => f_X12_enlist_b62 fu x1 x2 (f_X12_enlist_l62 fu x1 x2 n) m_at m_names m_status x3 x4
def f_X12_enlist (fu : Nat) (m_at : Nat → Int32) (m_names : Nat → Int64) (m_status : Int32) (x1 : Int32) (x2 : Int32) : Option (Int32 × (Nat → Int32) × (Nat → Int64) × Int32) := (f_X12_isFrom fu (Int32.toInt64 x1) 0 20).bind fun z_50 => (if z_50 = 0 then (f_X12_refuse fu m_status 1).bind fun z_52 => some (z_52.1, m_at, m_names, z_52.2) else (f_X12_isFrom fu (Int32.toInt64 x2) 0 9).bind fun z_53 => (if z_53 = 0 then (f_X12_refuse fu m_status 1).bind fun z_60 => some (z_60.1, m_at, m_names, z_60.2) else (rdI m_at 3648 0).bind fun y_55 => (if y_55 = 8 then (f_X12_refuse fu m_status 4).bind fun z_59 => some (z_59.1, m_at, m_names, z_59.2) else (rdI m_at 3648 0).bind fun y_57 => (wrI m_at 3648 0 (y_57 + 1)).bind fun m_at_58 => f_X12_enlist_l62 fu x1 x2 fu m_at_58 m_names m_status y_55 0)))
abbrev rm_X12_enlist : Room := { frames := 1, cells := 0, slots := 0, locals := 25 }
set_option maxHeartbeats 4000000 in
set_option maxRecDepth 100000 in
theorem c_X12_enlist (l : Launch) (D : va_G) (cy : Nat → ClassId) (fu : Nat) (A_m : Nat → Nat) (m_at : Nat → Int32) (m_names : Nat → Int64) (m_status : Int32) (m_top : Int64) (m_bottom : Int64) (m_sort : Nat → Int32) (m_trayMany : Nat → Int32) (m_trays : Nat → Int64) (m_tape : Nat → Int32) (m_text : Nat → Int32) (m_taped : Int32) (m_size : Int32) (m_token : Int32) (m_from : Int32) (m_end : Int32) (m_value : Int32) (m_faultKind : Int32) (m_faultPlace : Int32) (m_faults : Int32) (m_seen : Int32) (m_toldParts : Int32) (m_opened : Nat → Int32) (m_depth : Int32) (m_counted : Int32) (m_bestOrder : Int32) (m_standers : Nat → Int32) (m_has : Nat → Int32) (m_bestHas : Nat → Int32) (m_standerMany : Int32) (m_bestCouples : Int32) (m_bestFondness : Int32) (m_cameTo : Nat → Int32) (m_doesStandFirst : Int32) (m_stoodBy : Nat → Int64) (m_drawn : Int32) (m_ranSteps : Int32) (m_loops : Nat → Int32) (m_ran : Nat → Int32) (m_told1 : Nat → Int32) (m_isTold : Int32) (m_marks : Int32) (x1 : Int32) (x2 : Int32) (res : Int32 × (Nat → Int32) × (Nat → Int64) × Int32) (h : f_X12_enlist fu m_at m_names m_status x1 x2 = some res) (A : Nat → Prop) (hA : A = adr [bl_X12 cy A_m m_at m_names m_status m_top m_bottom m_sort m_trayMany m_trays m_tape m_text m_taped m_size m_token m_from m_end m_value m_faultKind m_faultPlace m_faults m_seen m_toldParts m_opened m_depth m_counted m_bestOrder m_standers m_has m_bestHas m_standerMany m_bestCouples m_bestFondness m_cameTo m_doesStandFirst m_stoodBy m_drawn m_ranSteps m_loops m_ran m_told1 m_isTold m_marks]) (W1 : List va_W) (hW1 : W1 = [bl_X12 cy A_m res.2.1 res.2.2.1 res.2.2.2 m_top m_bottom m_sort m_trayMany m_trays m_tape m_text m_taped m_size m_token m_from m_end m_value m_faultKind m_faultPlace m_faults m_seen m_toldParts m_opened m_depth m_counted m_bestOrder m_standers m_has m_bestHas m_standerMany m_bestCouples m_bestFondness m_cameTo m_doesStandFirst m_stoodBy m_drawn m_ranSteps m_loops m_ran m_told1 m_isTold m_marks]) : Met l yX12_enlist (WW yX12_enlist cX12_enlist 5 (some .int)) rm_X12_enlist (Ed D cy [.ref (A_m 0), .int x1, .int x2] [bl_X12 cy A_m m_at m_names m_status m_top m_bottom m_sort m_trayMany m_trays m_tape m_text m_taped m_size m_token m_from m_end m_value m_faultKind m_faultPlace m_faults m_seen m_toldParts m_opened m_depth m_counted m_bestOrder m_standers m_has m_bestHas m_standerMany m_bestCouples m_bestFondness m_cameTo m_doesStandFirst m_stoodBy m_drawn m_ranSteps m_loops m_ran m_told1 m_isTold m_marks]) (Qei D res.1 A W1) 0 0 A := by
  refine Met.ofW (cc := cX12_enlist) (maxL := 5) (ret := (some .int)) (by decide) rfl ?_
  intro p e s m args below meth c s₁ B hml hv
  obtain ⟨hargs, hP, hX, hD0⟩ := hv
  have hx := B.exec
  have hb := B.bytes
  have hr := B.returns
  have ht : ∀ w ∈ lw_gd, w.before args s = true := fun w hw => atoms_spec (ws := WW yX12_enlist cX12_enlist 5 (some .int)) B.pre w (List.mem_cons_of_mem _ hw)
  have hown : s.vm.findClass RX12 = some m.cls := findClass_of_methodNamed B.named
  have hlocks := B.notSynchronized
  have hP : PD D A [bl_X12 cy A_m m_at m_names m_status m_top m_bottom m_sort m_trayMany m_trays m_tape m_text m_taped m_size m_token m_from m_end m_value m_faultKind m_faultPlace m_faults m_seen m_toldParts m_opened m_depth m_counted m_bestOrder m_standers m_has m_bestHas m_standerMany m_bestCouples m_bestFondness m_cameTo m_doesStandFirst m_stoodBy m_drawn m_ranSteps m_loops m_ran m_told1 m_isTold m_marks] s.heap := ⟨hP, by rw [hA]; exact hD0.own⟩
  have hS : va_S A s.heap s.heap [] := va_S.rf
  obtain ⟨ls, hl, hent⟩ := ent (m := m) (n := 5) hargs (Nat.le_of_ble_eq_true rfl) (lv := [(0, .ref (A_m 0)), (1, .int x1), (2, .int x2)]) rfl
  rw [hent]
  clear hent
  have l113 : ∀ (n113 : Nat) (m_at : Nat → Int32) (m_names : Nat → Int64) (m_status : Int32) (x3 : Int32) (x4 : Int32) (H : Heap) (locs : List Loc) (_ : PD D A [bl_X12 cy A_m m_at m_names m_status m_top m_bottom m_sort m_trayMany m_trays m_tape m_text m_taped m_size m_token m_from m_end m_value m_faultKind m_faultPlace m_faults m_seen m_toldParts m_opened m_depth m_counted m_bestOrder m_standers m_has m_bestHas m_standerMany m_bestCouples m_bestFondness m_cameTo m_doesStandFirst m_stoodBy m_drawn m_ranSteps m_loops m_ran m_told1 m_isTold m_marks] H) (_ : va_S A s.heap H locs) (ls : Array Slot), lv_has ls 5 [(0, .ref (A_m 0)), (3, .int x3), (4, .int x4)] → f_X12_enlist_l113 fu x1 x2 n113 m_at m_names m_status x3 x4 = some res → W p l e (headSpec (WW yX12_enlist cX12_enlist 5 (some .int)) rm_X12_enlist).room s m args below meth c H locs 0 0 (MQ below (Qei D res.1 A W1) args s 0 0 A) (F0 m 113 ls []) := by
    intro n113
    induction n113 with
    | zero => intro m_at m_names m_status x3 x4 H locs hP hS ls hl h; cases h
    | succ n113 ih113 =>
      have j145 : ∀ (m_at : Nat → Int32) (m_names : Nat → Int64) (m_status : Int32) (x3 : Int32) (x4 : Int32) (s1 : Int32) (s2 : Int32) (H : Heap) (locs : List Loc) (_ : PD D A [bl_X12 cy A_m m_at m_names m_status m_top m_bottom m_sort m_trayMany m_trays m_tape m_text m_taped m_size m_token m_from m_end m_value m_faultKind m_faultPlace m_faults m_seen m_toldParts m_opened m_depth m_counted m_bestOrder m_standers m_has m_bestHas m_standerMany m_bestCouples m_bestFondness m_cameTo m_doesStandFirst m_stoodBy m_drawn m_ranSteps m_loops m_ran m_told1 m_isTold m_marks] H) (_ : va_S A s.heap H locs) (ls : Array Slot), lv_has ls 5 [(0, .ref (A_m 0)), (3, .int x3), (4, .int x4)] → f_X12_enlist_j145 fu x1 x2 (f_X12_enlist_l113 fu x1 x2 n113) m_at m_names m_status x3 x4 s1 s2 = some res → W p l e (headSpec (WW yX12_enlist cX12_enlist 5 (some .int)) rm_X12_enlist).room s m args below meth c H locs 0 0 (MQ below (Qei D res.1 A W1) args s 0 0 A) (F0 m 145 ls [.int s2, .int s1, .ref (A_m 1)]) := by
        intro m_at m_names m_status x3 x4 s1 s2 H locs hP hS ls hl h
        unfold f_X12_enlist_j145 at h
        obtain ⟨m_at_31, e_m_at_31, h⟩ := bi h
        refine xiast (i0 := 0) (j0 := 1) hx hb hX hP hS rfl rfl e_m_at_31 dX12_enlist_145 (fun H locs hP hS => ?_)
        have hP : PD D A [bl_X12 cy A_m m_at_31 m_names m_status m_top m_bottom m_sort m_trayMany m_trays m_tape m_text m_taped m_size m_token m_from m_end m_value m_faultKind m_faultPlace m_faults m_seen m_toldParts m_opened m_depth m_counted m_bestOrder m_standers m_has m_bestHas m_standerMany m_bestCouples m_bestFondness m_cameTo m_doesStandFirst m_stoodBy m_drawn m_ranSteps m_loops m_ran m_told1 m_isTold m_marks] H := hP
        refine lv_iload hx hb dX12_enlist_146 (lv_at hl 2 rfl) ?_
        refine lv_iload_n hx hb dX12_enlist_148 rfl (lv_at hl 1 rfl) ?_
        refine lv_icmp_eq (tgt := 168) hx hb dX12_enlist_149 (by decide) (fun c_32 => ?_) (fun c_32 => ?_)
        · have h := it c_32 h
          obtain ⟨x4_33, e_x4_33⟩ : ∃ y : Int32, y = x4 + 1 := ⟨_, rfl⟩
          have h := bn e_x4_33 h
          refine lv_iinc (v := x4_33) (lv' := [(4, .int x4_33), (0, .ref (A_m 0)), (3, .int x3)]) hx hb dX12_enlist_168 hl (k := 2) rfl (by rw [e_x4_33]; rfl) (by decide) rfl (fun ls hl => ?_)
          refine lv_goto (tgt := 113) hx hb dX12_enlist_171 (by decide) ?_
          exact ih113 m_at_31 m_names m_status x3 x4_33 _ _ hP hS ls (lv_sub hl [1, 2, 0] rfl) h
        · have h := ie c_32 h
          refine lv_aload_n hx hb dX12_enlist_152 rfl (lv_at hl 0 rfl) ?_
          refine xget (i := 0) (j := 0) (k := 0) (T := TX12) hx hb ht tb_iX12 hown hX hP.1 rfl rfl rfl (by decide) tb_1229 rfl dX12_enlist_153 ?_
          refine lv_iload hx hb dX12_enlist_156 (lv_at hl 2 rfl) ?_
          obtain ⟨z_34, e_z_34, h⟩ := bi h
          refine roSi (rest := [.ref (A_m 1)]) ⟨hx, hb, hml, hown, ht⟩ (c_X12_manRow l D cy fu  x4 z_34 e_z_34) (cS ht ms_X12_manRow tb_1226 rfl rfl ⟨Nat.le_of_ble_eq_true rfl, Nat.le_of_ble_eq_true rfl⟩) (P_sub hP.1 [] rfl) hX rfl hl.1 rfl (Nat.le_of_ble_eq_true rfl) dX12_enlist_158 ⟨Nat.le_of_ble_eq_true rfl, Nat.le_of_ble_eq_true rfl⟩ ?_
          refine lv_bipush (v := 6) hx hb dX12_enlist_161 (by decide) ?_
          refine lv_iadd hx hb dX12_enlist_163 ?_
          refine lv_iload_n hx hb dX12_enlist_164 rfl (lv_at hl 1 rfl) ?_
          refine lv_iadd hx hb dX12_enlist_165 ?_
          refine lv_iconst (v := 5) hx hb dX12_enlist_166 (by decide) ?_
          obtain ⟨m_at_35, e_m_at_35, h⟩ := bi h
          refine xiast (i0 := 0) (j0 := 1) hx hb hX hP hS rfl rfl e_m_at_35 dX12_enlist_167 (fun H locs hP hS => ?_)
          have hP : PD D A [bl_X12 cy A_m m_at_35 m_names m_status m_top m_bottom m_sort m_trayMany m_trays m_tape m_text m_taped m_size m_token m_from m_end m_value m_faultKind m_faultPlace m_faults m_seen m_toldParts m_opened m_depth m_counted m_bestOrder m_standers m_has m_bestHas m_standerMany m_bestCouples m_bestFondness m_cameTo m_doesStandFirst m_stoodBy m_drawn m_ranSteps m_loops m_ran m_told1 m_isTold m_marks] H := hP
          obtain ⟨x4_36, e_x4_36⟩ : ∃ y : Int32, y = x4 + 1 := ⟨_, rfl⟩
          have h := bn e_x4_36 h
          refine lv_iinc (v := x4_36) (lv' := [(4, .int x4_36), (0, .ref (A_m 0)), (3, .int x3)]) hx hb dX12_enlist_168 hl (k := 2) rfl (by rw [e_x4_36]; rfl) (by decide) rfl (fun ls hl => ?_)
          refine lv_goto (tgt := 113) hx hb dX12_enlist_171 (by decide) ?_
          exact ih113 m_at_35 m_names m_status x3 x4_36 _ _ hP hS ls (lv_sub hl [1, 2, 0] rfl) h
      intro m_at m_names m_status x3 x4 H locs hP hS ls hl h
      have h : f_X12_enlist_b113 fu x1 x2 (f_X12_enlist_l113 fu x1 x2 n113) m_at m_names m_status x3 x4 = some res := h
      unfold f_X12_enlist_b113 at h
      refine lv_iload hx hb dX12_enlist_113 (lv_at hl 2 rfl) ?_
      refine lv_bipush (v := 8) hx hb dX12_enlist_115 (by decide) ?_
      refine lv_icmp_ge (tgt := 174) hx hb dX12_enlist_117 (by decide) (fun c_37 => ?_) (fun c_37 => ?_)
      · have h := it c_37 h
        refine lv_aload_n hx hb dX12_enlist_174 rfl (lv_at hl 0 rfl) ?_
        refine xget (i := 0) (j := 0) (k := 1) (T := TX12) hx hb ht tb_iX12 hown hX hP.1 rfl rfl rfl (by decide) tb_1230 rfl dX12_enlist_175 ?_
        refine lv_iload_n hx hb dX12_enlist_178 rfl (lv_at hl 1 rfl) ?_
        refine lv_lconst (v := 0) hx hb dX12_enlist_179 (by decide) ?_
        obtain ⟨m_names_38, e_m_names_38, h⟩ := bi h
        refine xlast (i0 := 0) (j0 := 2) hx hb hX hP hS rfl rfl e_m_names_38 dX12_enlist_180 (fun H locs hP hS => ?_)
        have hP : PD D A [bl_X12 cy A_m m_at m_names_38 m_status m_top m_bottom m_sort m_trayMany m_trays m_tape m_text m_taped m_size m_token m_from m_end m_value m_faultKind m_faultPlace m_faults m_seen m_toldParts m_opened m_depth m_counted m_bestOrder m_standers m_has m_bestHas m_standerMany m_bestCouples m_bestFondness m_cameTo m_doesStandFirst m_stoodBy m_drawn m_ranSteps m_loops m_ran m_told1 m_isTold m_marks] H := hP
        refine lv_aload_n hx hb dX12_enlist_181 rfl (lv_at hl 0 rfl) ?_
        refine lv_iload_n hx hb dX12_enlist_182 rfl (lv_at hl 1 rfl) ?_
        obtain ⟨z_39, e_z_39, h⟩ := bi h
        refine efVi (rest := []) ⟨hx, hb, hml, hown, ht⟩ (c_X12_gives l D cy fu A_m m_at m_names_38 m_status m_top m_bottom m_sort m_trayMany m_trays m_tape m_text m_taped m_size m_token m_from m_end m_value m_faultKind m_faultPlace m_faults m_seen m_toldParts m_opened m_depth m_counted m_bestOrder m_standers m_has m_bestHas m_standerMany m_bestCouples m_bestFondness m_cameTo m_doesStandFirst m_stoodBy m_drawn m_ranSteps m_loops m_ran m_told1 m_isTold m_marks x3 z_39 e_z_39 _ rfl _ rfl) (cV ht mv_X12_gives tb_1499 rfl rfl ⟨Nat.le_of_ble_eq_true rfl, Nat.le_of_ble_eq_true rfl⟩) hP hS hX [0] rfl rfl rfl rfl rfl rfl hl.1 rfl (Nat.le_of_ble_eq_true rfl) dX12_enlist_183 ⟨Nat.le_of_ble_eq_true rfl, Nat.le_of_ble_eq_true rfl⟩ (fun H locs hP hS => ?_)
        have hP : PD D A [bl_X12 cy A_m m_at m_names_38 z_39.2 m_top m_bottom m_sort m_trayMany m_trays m_tape m_text m_taped m_size m_token m_from m_end m_value m_faultKind m_faultPlace m_faults m_seen m_toldParts m_opened m_depth m_counted m_bestOrder m_standers m_has m_bestHas m_standerMany m_bestCouples m_bestFondness m_cameTo m_doesStandFirst m_stoodBy m_drawn m_ranSteps m_loops m_ran m_told1 m_isTold m_marks] H := hP
        cases h
        subst hW1
        exact W.iret hx hb hr (fun _ ht9 _ => ⟨⟨_, (), rfl, rfl, hPt ht9 hP.1⟩, hS.F ht9⟩) hS.2.2 dX12_enlist_186
      · have h := ie c_37 h
        refine lv_aload_n hx hb dX12_enlist_120 rfl (lv_at hl 0 rfl) ?_
        refine xget (i := 0) (j := 0) (k := 0) (T := TX12) hx hb ht tb_iX12 hown hX hP.1 rfl rfl rfl (by decide) tb_1229 rfl dX12_enlist_121 ?_
        refine lv_iload_n hx hb dX12_enlist_124 rfl (lv_at hl 1 rfl) ?_
        obtain ⟨z_40, e_z_40, h⟩ := bi h
        refine roSi (rest := [.ref (A_m 1)]) ⟨hx, hb, hml, hown, ht⟩ (c_X12_manRow l D cy fu  x3 z_40 e_z_40) (cS ht ms_X12_manRow tb_1226 rfl rfl ⟨Nat.le_of_ble_eq_true rfl, Nat.le_of_ble_eq_true rfl⟩) (P_sub hP.1 [] rfl) hX rfl hl.1 rfl (Nat.le_of_ble_eq_true rfl) dX12_enlist_125 ⟨Nat.le_of_ble_eq_true rfl, Nat.le_of_ble_eq_true rfl⟩ ?_
        refine lv_bipush (v := 6) hx hb dX12_enlist_128 (by decide) ?_
        refine lv_iadd hx hb dX12_enlist_130 ?_
        refine lv_iload hx hb dX12_enlist_131 (lv_at hl 2 rfl) ?_
        refine lv_iadd hx hb dX12_enlist_133 ?_
        refine lv_iload hx hb dX12_enlist_134 (lv_at hl 2 rfl) ?_
        refine lv_iload_n hx hb dX12_enlist_136 rfl (lv_at hl 1 rfl) ?_
        refine lv_icmp_ne (tgt := 144) hx hb dX12_enlist_137 (by decide) (fun c_41 => ?_) (fun c_41 => ?_)
        · have h := ie c_41 h
          refine lv_iconst (v := 5) hx hb dX12_enlist_144 (by decide) ?_
          exact j145 m_at m_names m_status x3 x4 ((z_40 + 6) + x4) 5 _ _ hP hS ls (lv_sub hl [0, 1, 2] rfl) h
        · have h := it c_41 h
          refine lv_iconst (v := 0) hx hb dX12_enlist_140 (by decide) ?_
          refine lv_goto (tgt := 145) hx hb dX12_enlist_141 (by decide) ?_
          exact j145 m_at m_names m_status x3 x4 ((z_40 + 6) + x4) 0 _ _ hP hS ls (lv_sub hl [0, 1, 2] rfl) h
  have l62 : ∀ (n62 : Nat) (m_at : Nat → Int32) (m_names : Nat → Int64) (m_status : Int32) (x3 : Int32) (x4 : Int32) (H : Heap) (locs : List Loc) (_ : PD D A [bl_X12 cy A_m m_at m_names m_status m_top m_bottom m_sort m_trayMany m_trays m_tape m_text m_taped m_size m_token m_from m_end m_value m_faultKind m_faultPlace m_faults m_seen m_toldParts m_opened m_depth m_counted m_bestOrder m_standers m_has m_bestHas m_standerMany m_bestCouples m_bestFondness m_cameTo m_doesStandFirst m_stoodBy m_drawn m_ranSteps m_loops m_ran m_told1 m_isTold m_marks] H) (_ : va_S A s.heap H locs) (ls : Array Slot), lv_has ls 5 [(0, .ref (A_m 0)), (1, .int x1), (2, .int x2), (3, .int x3), (4, .int x4)] → f_X12_enlist_l62 fu x1 x2 n62 m_at m_names m_status x3 x4 = some res → W p l e (headSpec (WW yX12_enlist cX12_enlist 5 (some .int)) rm_X12_enlist).room s m args below meth c H locs 0 0 (MQ below (Qei D res.1 A W1) args s 0 0 A) (F0 m 62 ls []) := by
    intro n62
    induction n62 with
    | zero => intro m_at m_names m_status x3 x4 H locs hP hS ls hl h; cases h
    | succ n62 ih62 =>
      intro m_at m_names m_status x3 x4 H locs hP hS ls hl h
      have h : f_X12_enlist_b62 fu x1 x2 (f_X12_enlist_l62 fu x1 x2 n62) m_at m_names m_status x3 x4 = some res := h
      unfold f_X12_enlist_b62 at h
      refine lv_iload hx hb dX12_enlist_62 (lv_at hl 4 rfl) ?_
      refine lv_bipush (v := 14) hx hb dX12_enlist_64 (by decide) ?_
      refine lv_icmp_ge (tgt := 88) hx hb dX12_enlist_66 (by decide) (fun c_42 => ?_) (fun c_42 => ?_)
      · have h := it c_42 h
        refine lv_aload_n hx hb dX12_enlist_88 rfl (lv_at hl 0 rfl) ?_
        refine xget (i := 0) (j := 0) (k := 0) (T := TX12) hx hb ht tb_iX12 hown hX hP.1 rfl rfl rfl (by decide) tb_1229 rfl dX12_enlist_89 ?_
        refine lv_iload_n hx hb dX12_enlist_92 rfl (lv_at hl 3 rfl) ?_
        obtain ⟨z_43, e_z_43, h⟩ := bi h
        refine roSi (rest := [.ref (A_m 1)]) ⟨hx, hb, hml, hown, ht⟩ (c_X12_manRow l D cy fu  x3 z_43 e_z_43) (cS ht ms_X12_manRow tb_1226 rfl rfl ⟨Nat.le_of_ble_eq_true rfl, Nat.le_of_ble_eq_true rfl⟩) (P_sub hP.1 [] rfl) hX rfl hl.1 rfl (Nat.le_of_ble_eq_true rfl) dX12_enlist_93 ⟨Nat.le_of_ble_eq_true rfl, Nat.le_of_ble_eq_true rfl⟩ ?_
        refine lv_iload_n hx hb dX12_enlist_96 rfl (lv_at hl 1 rfl) ?_
        obtain ⟨m_at_44, e_m_at_44, h⟩ := bi h
        refine xiast (i0 := 0) (j0 := 1) hx hb hX hP hS rfl rfl e_m_at_44 dX12_enlist_97 (fun H locs hP hS => ?_)
        have hP : PD D A [bl_X12 cy A_m m_at_44 m_names m_status m_top m_bottom m_sort m_trayMany m_trays m_tape m_text m_taped m_size m_token m_from m_end m_value m_faultKind m_faultPlace m_faults m_seen m_toldParts m_opened m_depth m_counted m_bestOrder m_standers m_has m_bestHas m_standerMany m_bestCouples m_bestFondness m_cameTo m_doesStandFirst m_stoodBy m_drawn m_ranSteps m_loops m_ran m_told1 m_isTold m_marks] H := hP
        refine lv_aload_n hx hb dX12_enlist_98 rfl (lv_at hl 0 rfl) ?_
        refine xget (i := 0) (j := 0) (k := 0) (T := TX12) hx hb ht tb_iX12 hown hX hP.1 rfl rfl rfl (by decide) tb_1229 rfl dX12_enlist_99 ?_
        refine lv_iload_n hx hb dX12_enlist_102 rfl (lv_at hl 3 rfl) ?_
        obtain ⟨z_45, e_z_45, h⟩ := bi h
        refine roSi (rest := [.ref (A_m 1)]) ⟨hx, hb, hml, hown, ht⟩ (c_X12_manRow l D cy fu  x3 z_45 e_z_45) (cS ht ms_X12_manRow tb_1226 rfl rfl ⟨Nat.le_of_ble_eq_true rfl, Nat.le_of_ble_eq_true rfl⟩) (P_sub hP.1 [] rfl) hX rfl hl.1 rfl (Nat.le_of_ble_eq_true rfl) dX12_enlist_103 ⟨Nat.le_of_ble_eq_true rfl, Nat.le_of_ble_eq_true rfl⟩ ?_
        refine lv_iconst (v := 1) hx hb dX12_enlist_106 (by decide) ?_
        refine lv_iadd hx hb dX12_enlist_107 ?_
        refine lv_iload_n hx hb dX12_enlist_108 rfl (lv_at hl 2 rfl) ?_
        obtain ⟨m_at_46, e_m_at_46, h⟩ := bi h
        refine xiast (i0 := 0) (j0 := 1) hx hb hX hP hS rfl rfl e_m_at_46 dX12_enlist_109 (fun H locs hP hS => ?_)
        have hP : PD D A [bl_X12 cy A_m m_at_46 m_names m_status m_top m_bottom m_sort m_trayMany m_trays m_tape m_text m_taped m_size m_token m_from m_end m_value m_faultKind m_faultPlace m_faults m_seen m_toldParts m_opened m_depth m_counted m_bestOrder m_standers m_has m_bestHas m_standerMany m_bestCouples m_bestFondness m_cameTo m_doesStandFirst m_stoodBy m_drawn m_ranSteps m_loops m_ran m_told1 m_isTold m_marks] H := hP
        refine lv_iconst (v := 0) hx hb dX12_enlist_110 (by decide) ?_
        refine lv_istore (lv' := [(4, .int 0), (0, .ref (A_m 0)), (1, .int x1), (2, .int x2), (3, .int x3)]) hx hb dX12_enlist_111 hl (by decide) rfl (fun ls hl => ?_)
        exact l113 fu m_at_46 m_names m_status x3 0 _ _ hP hS ls (lv_sub hl [1, 4, 0] rfl) h
      · have h := ie c_42 h
        refine lv_aload_n hx hb dX12_enlist_69 rfl (lv_at hl 0 rfl) ?_
        refine xget (i := 0) (j := 0) (k := 0) (T := TX12) hx hb ht tb_iX12 hown hX hP.1 rfl rfl rfl (by decide) tb_1229 rfl dX12_enlist_70 ?_
        refine lv_iload_n hx hb dX12_enlist_73 rfl (lv_at hl 3 rfl) ?_
        obtain ⟨z_47, e_z_47, h⟩ := bi h
        refine roSi (rest := [.ref (A_m 1)]) ⟨hx, hb, hml, hown, ht⟩ (c_X12_manRow l D cy fu  x3 z_47 e_z_47) (cS ht ms_X12_manRow tb_1226 rfl rfl ⟨Nat.le_of_ble_eq_true rfl, Nat.le_of_ble_eq_true rfl⟩) (P_sub hP.1 [] rfl) hX rfl hl.1 rfl (Nat.le_of_ble_eq_true rfl) dX12_enlist_74 ⟨Nat.le_of_ble_eq_true rfl, Nat.le_of_ble_eq_true rfl⟩ ?_
        refine lv_iload hx hb dX12_enlist_77 (lv_at hl 4 rfl) ?_
        refine lv_iadd hx hb dX12_enlist_79 ?_
        refine lv_iconst (v := 0) hx hb dX12_enlist_80 (by decide) ?_
        obtain ⟨m_at_48, e_m_at_48, h⟩ := bi h
        refine xiast (i0 := 0) (j0 := 1) hx hb hX hP hS rfl rfl e_m_at_48 dX12_enlist_81 (fun H locs hP hS => ?_)
        have hP : PD D A [bl_X12 cy A_m m_at_48 m_names m_status m_top m_bottom m_sort m_trayMany m_trays m_tape m_text m_taped m_size m_token m_from m_end m_value m_faultKind m_faultPlace m_faults m_seen m_toldParts m_opened m_depth m_counted m_bestOrder m_standers m_has m_bestHas m_standerMany m_bestCouples m_bestFondness m_cameTo m_doesStandFirst m_stoodBy m_drawn m_ranSteps m_loops m_ran m_told1 m_isTold m_marks] H := hP
        obtain ⟨x4_49, e_x4_49⟩ : ∃ y : Int32, y = x4 + 1 := ⟨_, rfl⟩
        have h := bn e_x4_49 h
        refine lv_iinc (v := x4_49) (lv' := [(4, .int x4_49), (0, .ref (A_m 0)), (1, .int x1), (2, .int x2), (3, .int x3)]) hx hb dX12_enlist_82 hl (k := 4) rfl (by rw [e_x4_49]; rfl) (by decide) rfl (fun ls hl => ?_)
        refine lv_goto (tgt := 62) hx hb dX12_enlist_85 (by decide) ?_
        exact ih62 m_at_48 m_names m_status x3 x4_49 _ _ hP hS ls (lv_sub hl [1, 2, 3, 4, 0] rfl) h
  unfold f_X12_enlist at h
  refine lv_iload_n hx hb dX12_enlist_0 rfl (lv_at hl 1 rfl) ?_
  refine lv_i2l (v := Int32.toInt64 x1) hx hb dX12_enlist_1 rfl ?_
  refine lv_lconst (v := 0) hx hb dX12_enlist_2 (by decide) ?_
  refine lv_ldc2 (v := 20) hx hb hown (ht _ tb_1641) dX12_enlist_3 ?_
  obtain ⟨z_50, e_z_50, h⟩ := bi h
  refine roSi (rest := []) ⟨hx, hb, hml, hown, ht⟩ (c_X12_isFrom l D cy fu  (Int32.toInt64 x1) 0 20 z_50 e_z_50) (cS ht ms_X12_isFrom tb_1575 rfl rfl ⟨Nat.le_of_ble_eq_true rfl, Nat.le_of_ble_eq_true rfl⟩) (P_sub hP.1 [] rfl) hX rfl hl.1 rfl (Nat.le_of_ble_eq_true rfl) dX12_enlist_6 ⟨Nat.le_of_ble_eq_true rfl, Nat.le_of_ble_eq_true rfl⟩ ?_
  refine lv_if_eq (tgt := 24) hx hb dX12_enlist_9 (by decide) (fun c_51 => ?_) (fun c_51 => ?_)
  · have h := it c_51 h
    refine lv_aload_n hx hb dX12_enlist_24 rfl (lv_at hl 0 rfl) ?_
    refine lv_iconst (v := 1) hx hb dX12_enlist_25 (by decide) ?_
    obtain ⟨z_52, e_z_52, h⟩ := bi h
    refine efVi (rest := []) ⟨hx, hb, hml, hown, ht⟩ (c_X12_refuse l D cy fu A_m m_at m_names m_status m_top m_bottom m_sort m_trayMany m_trays m_tape m_text m_taped m_size m_token m_from m_end m_value m_faultKind m_faultPlace m_faults m_seen m_toldParts m_opened m_depth m_counted m_bestOrder m_standers m_has m_bestHas m_standerMany m_bestCouples m_bestFondness m_cameTo m_doesStandFirst m_stoodBy m_drawn m_ranSteps m_loops m_ran m_told1 m_isTold m_marks 1 z_52 e_z_52 _ rfl _ rfl) (cV ht mv_X12_refuse tb_1432 rfl rfl ⟨Nat.le_of_ble_eq_true rfl, Nat.le_of_ble_eq_true rfl⟩) hP hS hX [0] rfl rfl rfl rfl rfl rfl hl.1 rfl (Nat.le_of_ble_eq_true rfl) dX12_enlist_26 ⟨Nat.le_of_ble_eq_true rfl, Nat.le_of_ble_eq_true rfl⟩ (fun H locs hP hS => ?_)
    have hP : PD D A [bl_X12 cy A_m m_at m_names z_52.2 m_top m_bottom m_sort m_trayMany m_trays m_tape m_text m_taped m_size m_token m_from m_end m_value m_faultKind m_faultPlace m_faults m_seen m_toldParts m_opened m_depth m_counted m_bestOrder m_standers m_has m_bestHas m_standerMany m_bestCouples m_bestFondness m_cameTo m_doesStandFirst m_stoodBy m_drawn m_ranSteps m_loops m_ran m_told1 m_isTold m_marks] H := hP
    cases h
    subst hW1
    exact W.iret hx hb hr (fun _ ht9 _ => ⟨⟨_, (), rfl, rfl, hPt ht9 hP.1⟩, hS.F ht9⟩) hS.2.2 dX12_enlist_29
  · have h := ie c_51 h
    refine lv_iload_n hx hb dX12_enlist_12 rfl (lv_at hl 2 rfl) ?_
    refine lv_i2l (v := Int32.toInt64 x2) hx hb dX12_enlist_13 rfl ?_
    refine lv_lconst (v := 0) hx hb dX12_enlist_14 (by decide) ?_
    refine lv_ldc2 (v := 9) hx hb hown (ht _ tb_1642) dX12_enlist_15 ?_
    obtain ⟨z_53, e_z_53, h⟩ := bi h
    refine roSi (rest := []) ⟨hx, hb, hml, hown, ht⟩ (c_X12_isFrom l D cy fu  (Int32.toInt64 x2) 0 9 z_53 e_z_53) (cS ht ms_X12_isFrom tb_1575 rfl rfl ⟨Nat.le_of_ble_eq_true rfl, Nat.le_of_ble_eq_true rfl⟩) (P_sub hP.1 [] rfl) hX rfl hl.1 rfl (Nat.le_of_ble_eq_true rfl) dX12_enlist_18 ⟨Nat.le_of_ble_eq_true rfl, Nat.le_of_ble_eq_true rfl⟩ ?_
    refine lv_if_ne (tgt := 30) hx hb dX12_enlist_21 (by decide) (fun c_54 => ?_) (fun c_54 => ?_)
    · have h := ie c_54 h
      refine lv_aload_n hx hb dX12_enlist_30 rfl (lv_at hl 0 rfl) ?_
      refine xget (i := 0) (j := 0) (k := 0) (T := TX12) hx hb ht tb_iX12 hown hX hP.1 rfl rfl rfl (by decide) tb_1229 rfl dX12_enlist_31 ?_
      refine lv_iconst (v := 0) hx hb dX12_enlist_34 (by decide) ?_
      obtain ⟨y_55, e_y_55, h⟩ := bi h
      refine xiald (i0 := 0) (j0 := 1) hx hb hX hP.1 rfl rfl e_y_55 dX12_enlist_35 ?_
      refine lv_istore_n (lv' := [(3, .int y_55), (0, .ref (A_m 0)), (1, .int x1), (2, .int x2)]) hx hb dX12_enlist_36 rfl hl (by decide) rfl (fun ls hl => ?_)
      refine lv_iload_n hx hb dX12_enlist_37 rfl (lv_at hl 0 rfl) ?_
      refine lv_bipush (v := 8) hx hb dX12_enlist_38 (by decide) ?_
      refine lv_icmp_ne (tgt := 49) hx hb dX12_enlist_40 (by decide) (fun c_56 => ?_) (fun c_56 => ?_)
      · have h := ie c_56 h
        refine lv_aload_n hx hb dX12_enlist_49 rfl (lv_at hl 1 rfl) ?_
        refine xget (i := 0) (j := 0) (k := 0) (T := TX12) hx hb ht tb_iX12 hown hX hP.1 rfl rfl rfl (by decide) tb_1229 rfl dX12_enlist_50 ?_
        refine lv_iconst (v := 0) hx hb dX12_enlist_53 (by decide) ?_
        refine lv_dup2_11 hx hb dX12_enlist_54 rfl rfl ?_
        obtain ⟨y_57, e_y_57, h⟩ := bi h
        refine xiald (i0 := 0) (j0 := 1) hx hb hX hP.1 rfl rfl e_y_57 dX12_enlist_55 ?_
        refine lv_iconst (v := 1) hx hb dX12_enlist_56 (by decide) ?_
        refine lv_iadd hx hb dX12_enlist_57 ?_
        obtain ⟨m_at_58, e_m_at_58, h⟩ := bi h
        refine xiast (i0 := 0) (j0 := 1) hx hb hX hP hS rfl rfl e_m_at_58 dX12_enlist_58 (fun H locs hP hS => ?_)
        have hP : PD D A [bl_X12 cy A_m m_at_58 m_names m_status m_top m_bottom m_sort m_trayMany m_trays m_tape m_text m_taped m_size m_token m_from m_end m_value m_faultKind m_faultPlace m_faults m_seen m_toldParts m_opened m_depth m_counted m_bestOrder m_standers m_has m_bestHas m_standerMany m_bestCouples m_bestFondness m_cameTo m_doesStandFirst m_stoodBy m_drawn m_ranSteps m_loops m_ran m_told1 m_isTold m_marks] H := hP
        refine lv_iconst (v := 0) hx hb dX12_enlist_59 (by decide) ?_
        refine lv_istore (lv' := [(4, .int 0), (3, .int y_55), (0, .ref (A_m 0)), (1, .int x1), (2, .int x2)]) hx hb dX12_enlist_60 hl (by decide) rfl (fun ls hl => ?_)
        exact l62 fu m_at_58 m_names m_status y_55 0 _ _ hP hS ls (lv_sub hl [2, 3, 4, 1, 0] rfl) h
      · have h := it c_56 h
        refine lv_aload_n hx hb dX12_enlist_43 rfl (lv_at hl 1 rfl) ?_
        refine lv_iconst (v := 4) hx hb dX12_enlist_44 (by decide) ?_
        obtain ⟨z_59, e_z_59, h⟩ := bi h
        refine efVi (rest := []) ⟨hx, hb, hml, hown, ht⟩ (c_X12_refuse l D cy fu A_m m_at m_names m_status m_top m_bottom m_sort m_trayMany m_trays m_tape m_text m_taped m_size m_token m_from m_end m_value m_faultKind m_faultPlace m_faults m_seen m_toldParts m_opened m_depth m_counted m_bestOrder m_standers m_has m_bestHas m_standerMany m_bestCouples m_bestFondness m_cameTo m_doesStandFirst m_stoodBy m_drawn m_ranSteps m_loops m_ran m_told1 m_isTold m_marks 4 z_59 e_z_59 _ rfl _ rfl) (cV ht mv_X12_refuse tb_1432 rfl rfl ⟨Nat.le_of_ble_eq_true rfl, Nat.le_of_ble_eq_true rfl⟩) hP hS hX [0] rfl rfl rfl rfl rfl rfl hl.1 rfl (Nat.le_of_ble_eq_true rfl) dX12_enlist_45 ⟨Nat.le_of_ble_eq_true rfl, Nat.le_of_ble_eq_true rfl⟩ (fun H locs hP hS => ?_)
        have hP : PD D A [bl_X12 cy A_m m_at m_names z_59.2 m_top m_bottom m_sort m_trayMany m_trays m_tape m_text m_taped m_size m_token m_from m_end m_value m_faultKind m_faultPlace m_faults m_seen m_toldParts m_opened m_depth m_counted m_bestOrder m_standers m_has m_bestHas m_standerMany m_bestCouples m_bestFondness m_cameTo m_doesStandFirst m_stoodBy m_drawn m_ranSteps m_loops m_ran m_told1 m_isTold m_marks] H := hP
        cases h
        subst hW1
        exact W.iret hx hb hr (fun _ ht9 _ => ⟨⟨_, (), rfl, rfl, hPt ht9 hP.1⟩, hS.F ht9⟩) hS.2.2 dX12_enlist_48
    · have h := it c_54 h
      refine lv_aload_n hx hb dX12_enlist_24 rfl (lv_at hl 0 rfl) ?_
      refine lv_iconst (v := 1) hx hb dX12_enlist_25 (by decide) ?_
      obtain ⟨z_60, e_z_60, h⟩ := bi h
      refine efVi (rest := []) ⟨hx, hb, hml, hown, ht⟩ (c_X12_refuse l D cy fu A_m m_at m_names m_status m_top m_bottom m_sort m_trayMany m_trays m_tape m_text m_taped m_size m_token m_from m_end m_value m_faultKind m_faultPlace m_faults m_seen m_toldParts m_opened m_depth m_counted m_bestOrder m_standers m_has m_bestHas m_standerMany m_bestCouples m_bestFondness m_cameTo m_doesStandFirst m_stoodBy m_drawn m_ranSteps m_loops m_ran m_told1 m_isTold m_marks 1 z_60 e_z_60 _ rfl _ rfl) (cV ht mv_X12_refuse tb_1432 rfl rfl ⟨Nat.le_of_ble_eq_true rfl, Nat.le_of_ble_eq_true rfl⟩) hP hS hX [0] rfl rfl rfl rfl rfl rfl hl.1 rfl (Nat.le_of_ble_eq_true rfl) dX12_enlist_26 ⟨Nat.le_of_ble_eq_true rfl, Nat.le_of_ble_eq_true rfl⟩ (fun H locs hP hS => ?_)
      have hP : PD D A [bl_X12 cy A_m m_at m_names z_60.2 m_top m_bottom m_sort m_trayMany m_trays m_tape m_text m_taped m_size m_token m_from m_end m_value m_faultKind m_faultPlace m_faults m_seen m_toldParts m_opened m_depth m_counted m_bestOrder m_standers m_has m_bestHas m_standerMany m_bestCouples m_bestFondness m_cameTo m_doesStandFirst m_stoodBy m_drawn m_ranSteps m_loops m_ran m_told1 m_isTold m_marks] H := hP
      cases h
      subst hW1
      exact W.iret hx hb hr (fun _ ht9 _ => ⟨⟨_, (), rfl, rfl, hPt ht9 hP.1⟩, hS.F ht9⟩) hS.2.2 dX12_enlist_29
theorem dX12_train_0 : decode cX12_train 0 = .ok (.aload_n 0, 1) := by decide +kernel
theorem dX12_train_1 : decode cX12_train 1 = .ok (.iload_n 1, 1) := by decide +kernel
theorem dX12_train_2 : decode cX12_train 2 = .ok (.invokevirtual 241, 3) := by decide +kernel
theorem dX12_train_5 : decode cX12_train 5 = .ok (.ifCond .eq 15, 3) := by decide +kernel
theorem dX12_train_8 : decode cX12_train 8 = .ok (.iload_n 2, 1) := by decide +kernel
theorem dX12_train_9 : decode cX12_train 9 = .ok (.i2l, 1) := by decide +kernel
theorem dX12_train_10 : decode cX12_train 10 = .ok (.lconst 0, 1) := by decide +kernel
theorem dX12_train_11 : decode cX12_train 11 = .ok (.ldc2_w 311, 3) := by decide +kernel
theorem dX12_train_14 : decode cX12_train 14 = .ok (.invokestatic 246, 3) := by decide +kernel
theorem dX12_train_17 : decode cX12_train 17 = .ok (.ifCond .ne 9, 3) := by decide +kernel
theorem dX12_train_20 : decode cX12_train 20 = .ok (.aload_n 0, 1) := by decide +kernel
theorem dX12_train_21 : decode cX12_train 21 = .ok (.iconst 1, 1) := by decide +kernel
theorem dX12_train_22 : decode cX12_train 22 = .ok (.invokevirtual 91, 3) := by decide +kernel
theorem dX12_train_25 : decode cX12_train 25 = .ok (.ireturn, 1) := by decide +kernel
theorem dX12_train_26 : decode cX12_train 26 = .ok (.aload_n 0, 1) := by decide +kernel
theorem dX12_train_27 : decode cX12_train 27 = .ok (.getfield 7, 3) := by decide +kernel
theorem dX12_train_30 : decode cX12_train 30 = .ok (.iload_n 1, 1) := by decide +kernel
theorem dX12_train_31 : decode cX12_train 31 = .ok (.invokestatic 75, 3) := by decide +kernel
theorem dX12_train_34 : decode cX12_train 34 = .ok (.iload_n 2, 1) := by decide +kernel
theorem dX12_train_35 : decode cX12_train 35 = .ok (.iastore, 1) := by decide +kernel
theorem dX12_train_36 : decode cX12_train 36 = .ok (.aload_n 0, 1) := by decide +kernel
theorem dX12_train_37 : decode cX12_train 37 = .ok (.iconst 0, 1) := by decide +kernel
theorem dX12_train_38 : decode cX12_train 38 = .ok (.invokevirtual 91, 3) := by decide +kernel
theorem dX12_train_41 : decode cX12_train 41 = .ok (.ireturn, 1) := by decide +kernel
theorem mv_X12_train : MV yX12_train RX12 cX12_train 3 (some .boolean) 2 := ⟨tb_1646, tb_1644, tb_1645, tb_16, by decide +kernel, by decide +kernel, by decide +kernel⟩
def f_X12_train (fu : Nat) (m_at : Nat → Int32) (m_status : Int32) (x1 : Int32) (x2 : Int32) : Option (Int32 × (Nat → Int32) × Int32) := (f_X12_isMan fu m_at x1).bind fun z_13 => (if z_13 = 0 then (f_X12_is fu m_status 1).bind fun z_15 => (bz z_15.1).bind fun _ => some (z_15.1, m_at, z_15.2) else (f_X12_isFrom fu (Int32.toInt64 x2) 0 20).bind fun z_17 => (if z_17 = 0 then (f_X12_is fu m_status 1).bind fun z_23 => (bz z_23.1).bind fun _ => some (z_23.1, m_at, z_23.2) else (f_X12_manRow fu x1).bind fun z_19 => (wrI m_at 3648 z_19 x2).bind fun m_at_20 => (f_X12_is fu m_status 0).bind fun z_21 => (bz z_21.1).bind fun _ => some (z_21.1, m_at_20, z_21.2)))
abbrev rm_X12_train : Room := { frames := 1, cells := 0, slots := 0, locals := 25 }
set_option maxHeartbeats 4000000 in
set_option maxRecDepth 100000 in
theorem c_X12_train (l : Launch) (D : va_G) (cy : Nat → ClassId) (fu : Nat) (A_m : Nat → Nat) (m_at : Nat → Int32) (m_names : Nat → Int64) (m_status : Int32) (m_top : Int64) (m_bottom : Int64) (m_sort : Nat → Int32) (m_trayMany : Nat → Int32) (m_trays : Nat → Int64) (m_tape : Nat → Int32) (m_text : Nat → Int32) (m_taped : Int32) (m_size : Int32) (m_token : Int32) (m_from : Int32) (m_end : Int32) (m_value : Int32) (m_faultKind : Int32) (m_faultPlace : Int32) (m_faults : Int32) (m_seen : Int32) (m_toldParts : Int32) (m_opened : Nat → Int32) (m_depth : Int32) (m_counted : Int32) (m_bestOrder : Int32) (m_standers : Nat → Int32) (m_has : Nat → Int32) (m_bestHas : Nat → Int32) (m_standerMany : Int32) (m_bestCouples : Int32) (m_bestFondness : Int32) (m_cameTo : Nat → Int32) (m_doesStandFirst : Int32) (m_stoodBy : Nat → Int64) (m_drawn : Int32) (m_ranSteps : Int32) (m_loops : Nat → Int32) (m_ran : Nat → Int32) (m_told1 : Nat → Int32) (m_isTold : Int32) (m_marks : Int32) (x1 : Int32) (x2 : Int32) (res : Int32 × (Nat → Int32) × Int32) (h : f_X12_train fu m_at m_status x1 x2 = some res) (A : Nat → Prop) (hA : A = adr [bl_X12 cy A_m m_at m_names m_status m_top m_bottom m_sort m_trayMany m_trays m_tape m_text m_taped m_size m_token m_from m_end m_value m_faultKind m_faultPlace m_faults m_seen m_toldParts m_opened m_depth m_counted m_bestOrder m_standers m_has m_bestHas m_standerMany m_bestCouples m_bestFondness m_cameTo m_doesStandFirst m_stoodBy m_drawn m_ranSteps m_loops m_ran m_told1 m_isTold m_marks]) (W1 : List va_W) (hW1 : W1 = [bl_X12 cy A_m res.2.1 m_names res.2.2 m_top m_bottom m_sort m_trayMany m_trays m_tape m_text m_taped m_size m_token m_from m_end m_value m_faultKind m_faultPlace m_faults m_seen m_toldParts m_opened m_depth m_counted m_bestOrder m_standers m_has m_bestHas m_standerMany m_bestCouples m_bestFondness m_cameTo m_doesStandFirst m_stoodBy m_drawn m_ranSteps m_loops m_ran m_told1 m_isTold m_marks]) : Met l yX12_train (WW yX12_train cX12_train 3 (some .boolean)) rm_X12_train (Ed D cy [.ref (A_m 0), .int x1, .int x2] [bl_X12 cy A_m m_at m_names m_status m_top m_bottom m_sort m_trayMany m_trays m_tape m_text m_taped m_size m_token m_from m_end m_value m_faultKind m_faultPlace m_faults m_seen m_toldParts m_opened m_depth m_counted m_bestOrder m_standers m_has m_bestHas m_standerMany m_bestCouples m_bestFondness m_cameTo m_doesStandFirst m_stoodBy m_drawn m_ranSteps m_loops m_ran m_told1 m_isTold m_marks]) (Qei D res.1 A W1) 0 0 A := by
  refine Met.ofW (cc := cX12_train) (maxL := 3) (ret := (some .boolean)) (by decide) rfl ?_
  intro p e s m args below meth c s₁ B hml hv
  obtain ⟨hargs, hP, hX, hD0⟩ := hv
  have hx := B.exec
  have hb := B.bytes
  have hr := B.returns
  have ht : ∀ w ∈ lw_gd, w.before args s = true := fun w hw => atoms_spec (ws := WW yX12_train cX12_train 3 (some .boolean)) B.pre w (List.mem_cons_of_mem _ hw)
  have hown : s.vm.findClass RX12 = some m.cls := findClass_of_methodNamed B.named
  have hlocks := B.notSynchronized
  have hP : PD D A [bl_X12 cy A_m m_at m_names m_status m_top m_bottom m_sort m_trayMany m_trays m_tape m_text m_taped m_size m_token m_from m_end m_value m_faultKind m_faultPlace m_faults m_seen m_toldParts m_opened m_depth m_counted m_bestOrder m_standers m_has m_bestHas m_standerMany m_bestCouples m_bestFondness m_cameTo m_doesStandFirst m_stoodBy m_drawn m_ranSteps m_loops m_ran m_told1 m_isTold m_marks] s.heap := ⟨hP, by rw [hA]; exact hD0.own⟩
  have hS : va_S A s.heap s.heap [] := va_S.rf
  obtain ⟨ls, hl, hent⟩ := ent (m := m) (n := 3) hargs (Nat.le_of_ble_eq_true rfl) (lv := [(0, .ref (A_m 0)), (1, .int x1), (2, .int x2)]) rfl
  rw [hent]
  clear hent
  unfold f_X12_train at h
  refine lv_aload_n hx hb dX12_train_0 rfl (lv_at hl 0 rfl) ?_
  refine lv_iload_n hx hb dX12_train_1 rfl (lv_at hl 1 rfl) ?_
  obtain ⟨z_13, e_z_13, h⟩ := bi h
  refine roVi (rest := []) ⟨hx, hb, hml, hown, ht⟩ (c_X12_isMan l D cy fu A_m m_at m_names m_status m_top m_bottom m_sort m_trayMany m_trays m_tape m_text m_taped m_size m_token m_from m_end m_value m_faultKind m_faultPlace m_faults m_seen m_toldParts m_opened m_depth m_counted m_bestOrder m_standers m_has m_bestHas m_standerMany m_bestCouples m_bestFondness m_cameTo m_doesStandFirst m_stoodBy m_drawn m_ranSteps m_loops m_ran m_told1 m_isTold m_marks x1 z_13 e_z_13) (cV ht mv_X12_isMan tb_1551 rfl rfl ⟨Nat.le_of_ble_eq_true rfl, Nat.le_of_ble_eq_true rfl⟩) (P_sub hP.1 [0] rfl) hX rfl rfl rfl hl.1 rfl (Nat.le_of_ble_eq_true rfl) dX12_train_2 ⟨Nat.le_of_ble_eq_true rfl, Nat.le_of_ble_eq_true rfl⟩ ?_
  refine lv_if_eq (tgt := 20) hx hb dX12_train_5 (by decide) (fun c_14 => ?_) (fun c_14 => ?_)
  · have h := it c_14 h
    refine lv_aload_n hx hb dX12_train_20 rfl (lv_at hl 0 rfl) ?_
    refine lv_iconst (v := 1) hx hb dX12_train_21 (by decide) ?_
    obtain ⟨z_15, e_z_15, h⟩ := bi h
    refine efVi (rest := []) ⟨hx, hb, hml, hown, ht⟩ (c_X12_is l D cy fu A_m m_at m_names m_status m_top m_bottom m_sort m_trayMany m_trays m_tape m_text m_taped m_size m_token m_from m_end m_value m_faultKind m_faultPlace m_faults m_seen m_toldParts m_opened m_depth m_counted m_bestOrder m_standers m_has m_bestHas m_standerMany m_bestCouples m_bestFondness m_cameTo m_doesStandFirst m_stoodBy m_drawn m_ranSteps m_loops m_ran m_told1 m_isTold m_marks 1 z_15 e_z_15 _ rfl _ rfl) (cV ht mv_X12_is tb_1372 rfl rfl ⟨Nat.le_of_ble_eq_true rfl, Nat.le_of_ble_eq_true rfl⟩) hP hS hX [0] rfl rfl rfl rfl rfl rfl hl.1 rfl (Nat.le_of_ble_eq_true rfl) dX12_train_22 ⟨Nat.le_of_ble_eq_true rfl, Nat.le_of_ble_eq_true rfl⟩ (fun H locs hP hS => ?_)
    have hP : PD D A [bl_X12 cy A_m m_at m_names z_15.2 m_top m_bottom m_sort m_trayMany m_trays m_tape m_text m_taped m_size m_token m_from m_end m_value m_faultKind m_faultPlace m_faults m_seen m_toldParts m_opened m_depth m_counted m_bestOrder m_standers m_has m_bestHas m_standerMany m_bestCouples m_bestFondness m_cameTo m_doesStandFirst m_stoodBy m_drawn m_ranSteps m_loops m_ran m_told1 m_isTold m_marks] H := hP
    obtain ⟨b_16, e_b_16, h⟩ := bi h
    obtain ⟨-, n_b_16, -⟩ := bz_ok e_b_16
    cases h
    subst hW1
    exact W.zret hx hb hr n_b_16 (fun _ ht9 _ => ⟨⟨_, (), rfl, rfl, hPt ht9 hP.1⟩, hS.F ht9⟩) hS.2.2 dX12_train_25
  · have h := ie c_14 h
    refine lv_iload_n hx hb dX12_train_8 rfl (lv_at hl 2 rfl) ?_
    refine lv_i2l (v := Int32.toInt64 x2) hx hb dX12_train_9 rfl ?_
    refine lv_lconst (v := 0) hx hb dX12_train_10 (by decide) ?_
    refine lv_ldc2 (v := 20) hx hb hown (ht _ tb_1641) dX12_train_11 ?_
    obtain ⟨z_17, e_z_17, h⟩ := bi h
    refine roSi (rest := []) ⟨hx, hb, hml, hown, ht⟩ (c_X12_isFrom l D cy fu  (Int32.toInt64 x2) 0 20 z_17 e_z_17) (cS ht ms_X12_isFrom tb_1575 rfl rfl ⟨Nat.le_of_ble_eq_true rfl, Nat.le_of_ble_eq_true rfl⟩) (P_sub hP.1 [] rfl) hX rfl hl.1 rfl (Nat.le_of_ble_eq_true rfl) dX12_train_14 ⟨Nat.le_of_ble_eq_true rfl, Nat.le_of_ble_eq_true rfl⟩ ?_
    refine lv_if_ne (tgt := 26) hx hb dX12_train_17 (by decide) (fun c_18 => ?_) (fun c_18 => ?_)
    · have h := ie c_18 h
      refine lv_aload_n hx hb dX12_train_26 rfl (lv_at hl 0 rfl) ?_
      refine xget (i := 0) (j := 0) (k := 0) (T := TX12) hx hb ht tb_iX12 hown hX hP.1 rfl rfl rfl (by decide) tb_1229 rfl dX12_train_27 ?_
      refine lv_iload_n hx hb dX12_train_30 rfl (lv_at hl 1 rfl) ?_
      obtain ⟨z_19, e_z_19, h⟩ := bi h
      refine roSi (rest := [.ref (A_m 1)]) ⟨hx, hb, hml, hown, ht⟩ (c_X12_manRow l D cy fu  x1 z_19 e_z_19) (cS ht ms_X12_manRow tb_1226 rfl rfl ⟨Nat.le_of_ble_eq_true rfl, Nat.le_of_ble_eq_true rfl⟩) (P_sub hP.1 [] rfl) hX rfl hl.1 rfl (Nat.le_of_ble_eq_true rfl) dX12_train_31 ⟨Nat.le_of_ble_eq_true rfl, Nat.le_of_ble_eq_true rfl⟩ ?_
      refine lv_iload_n hx hb dX12_train_34 rfl (lv_at hl 2 rfl) ?_
      obtain ⟨m_at_20, e_m_at_20, h⟩ := bi h
      refine xiast (i0 := 0) (j0 := 1) hx hb hX hP hS rfl rfl e_m_at_20 dX12_train_35 (fun H locs hP hS => ?_)
      have hP : PD D A [bl_X12 cy A_m m_at_20 m_names m_status m_top m_bottom m_sort m_trayMany m_trays m_tape m_text m_taped m_size m_token m_from m_end m_value m_faultKind m_faultPlace m_faults m_seen m_toldParts m_opened m_depth m_counted m_bestOrder m_standers m_has m_bestHas m_standerMany m_bestCouples m_bestFondness m_cameTo m_doesStandFirst m_stoodBy m_drawn m_ranSteps m_loops m_ran m_told1 m_isTold m_marks] H := hP
      refine lv_aload_n hx hb dX12_train_36 rfl (lv_at hl 0 rfl) ?_
      refine lv_iconst (v := 0) hx hb dX12_train_37 (by decide) ?_
      obtain ⟨z_21, e_z_21, h⟩ := bi h
      refine efVi (rest := []) ⟨hx, hb, hml, hown, ht⟩ (c_X12_is l D cy fu A_m m_at_20 m_names m_status m_top m_bottom m_sort m_trayMany m_trays m_tape m_text m_taped m_size m_token m_from m_end m_value m_faultKind m_faultPlace m_faults m_seen m_toldParts m_opened m_depth m_counted m_bestOrder m_standers m_has m_bestHas m_standerMany m_bestCouples m_bestFondness m_cameTo m_doesStandFirst m_stoodBy m_drawn m_ranSteps m_loops m_ran m_told1 m_isTold m_marks 0 z_21 e_z_21 _ rfl _ rfl) (cV ht mv_X12_is tb_1372 rfl rfl ⟨Nat.le_of_ble_eq_true rfl, Nat.le_of_ble_eq_true rfl⟩) hP hS hX [0] rfl rfl rfl rfl rfl rfl hl.1 rfl (Nat.le_of_ble_eq_true rfl) dX12_train_38 ⟨Nat.le_of_ble_eq_true rfl, Nat.le_of_ble_eq_true rfl⟩ (fun H locs hP hS => ?_)
      have hP : PD D A [bl_X12 cy A_m m_at_20 m_names z_21.2 m_top m_bottom m_sort m_trayMany m_trays m_tape m_text m_taped m_size m_token m_from m_end m_value m_faultKind m_faultPlace m_faults m_seen m_toldParts m_opened m_depth m_counted m_bestOrder m_standers m_has m_bestHas m_standerMany m_bestCouples m_bestFondness m_cameTo m_doesStandFirst m_stoodBy m_drawn m_ranSteps m_loops m_ran m_told1 m_isTold m_marks] H := hP
      obtain ⟨b_22, e_b_22, h⟩ := bi h
      obtain ⟨-, n_b_22, -⟩ := bz_ok e_b_22
      cases h
      subst hW1
      exact W.zret hx hb hr n_b_22 (fun _ ht9 _ => ⟨⟨_, (), rfl, rfl, hPt ht9 hP.1⟩, hS.F ht9⟩) hS.2.2 dX12_train_41
    · have h := it c_18 h
      refine lv_aload_n hx hb dX12_train_20 rfl (lv_at hl 0 rfl) ?_
      refine lv_iconst (v := 1) hx hb dX12_train_21 (by decide) ?_
      obtain ⟨z_23, e_z_23, h⟩ := bi h
      refine efVi (rest := []) ⟨hx, hb, hml, hown, ht⟩ (c_X12_is l D cy fu A_m m_at m_names m_status m_top m_bottom m_sort m_trayMany m_trays m_tape m_text m_taped m_size m_token m_from m_end m_value m_faultKind m_faultPlace m_faults m_seen m_toldParts m_opened m_depth m_counted m_bestOrder m_standers m_has m_bestHas m_standerMany m_bestCouples m_bestFondness m_cameTo m_doesStandFirst m_stoodBy m_drawn m_ranSteps m_loops m_ran m_told1 m_isTold m_marks 1 z_23 e_z_23 _ rfl _ rfl) (cV ht mv_X12_is tb_1372 rfl rfl ⟨Nat.le_of_ble_eq_true rfl, Nat.le_of_ble_eq_true rfl⟩) hP hS hX [0] rfl rfl rfl rfl rfl rfl hl.1 rfl (Nat.le_of_ble_eq_true rfl) dX12_train_22 ⟨Nat.le_of_ble_eq_true rfl, Nat.le_of_ble_eq_true rfl⟩ (fun H locs hP hS => ?_)
      have hP : PD D A [bl_X12 cy A_m m_at m_names z_23.2 m_top m_bottom m_sort m_trayMany m_trays m_tape m_text m_taped m_size m_token m_from m_end m_value m_faultKind m_faultPlace m_faults m_seen m_toldParts m_opened m_depth m_counted m_bestOrder m_standers m_has m_bestHas m_standerMany m_bestCouples m_bestFondness m_cameTo m_doesStandFirst m_stoodBy m_drawn m_ranSteps m_loops m_ran m_told1 m_isTold m_marks] H := hP
      obtain ⟨b_24, e_b_24, h⟩ := bi h
      obtain ⟨-, n_b_24, -⟩ := bz_ok e_b_24
      cases h
      subst hW1
      exact W.zret hx hb hr n_b_24 (fun _ ht9 _ => ⟨⟨_, (), rfl, rfl, hPt ht9 hP.1⟩, hS.F ht9⟩) hS.2.2 dX12_train_25
theorem dX12_weigh_0 : decode cX12_weigh 0 = .ok (.aload_n 0, 1) := by decide +kernel
theorem dX12_weigh_1 : decode cX12_weigh 1 = .ok (.iload_n 1, 1) := by decide +kernel
theorem dX12_weigh_2 : decode cX12_weigh 2 = .ok (.invokevirtual 241, 3) := by decide +kernel
theorem dX12_weigh_5 : decode cX12_weigh 5 = .ok (.ifCond .eq 15, 3) := by decide +kernel
theorem dX12_weigh_8 : decode cX12_weigh 8 = .ok (.iload_n 2, 1) := by decide +kernel
theorem dX12_weigh_9 : decode cX12_weigh 9 = .ok (.i2l, 1) := by decide +kernel
theorem dX12_weigh_10 : decode cX12_weigh 10 = .ok (.lconst 0, 1) := by decide +kernel
theorem dX12_weigh_11 : decode cX12_weigh 11 = .ok (.ldc2_w 313, 3) := by decide +kernel
theorem dX12_weigh_14 : decode cX12_weigh 14 = .ok (.invokestatic 246, 3) := by decide +kernel
theorem dX12_weigh_17 : decode cX12_weigh 17 = .ok (.ifCond .ne 9, 3) := by decide +kernel
theorem dX12_weigh_20 : decode cX12_weigh 20 = .ok (.aload_n 0, 1) := by decide +kernel
theorem dX12_weigh_21 : decode cX12_weigh 21 = .ok (.iconst 1, 1) := by decide +kernel
theorem dX12_weigh_22 : decode cX12_weigh 22 = .ok (.invokevirtual 91, 3) := by decide +kernel
theorem dX12_weigh_25 : decode cX12_weigh 25 = .ok (.ireturn, 1) := by decide +kernel
theorem dX12_weigh_26 : decode cX12_weigh 26 = .ok (.aload_n 0, 1) := by decide +kernel
theorem dX12_weigh_27 : decode cX12_weigh 27 = .ok (.getfield 7, 3) := by decide +kernel
theorem dX12_weigh_30 : decode cX12_weigh 30 = .ok (.iload_n 1, 1) := by decide +kernel
theorem dX12_weigh_31 : decode cX12_weigh 31 = .ok (.invokestatic 75, 3) := by decide +kernel
theorem dX12_weigh_34 : decode cX12_weigh 34 = .ok (.iconst 1, 1) := by decide +kernel
theorem dX12_weigh_35 : decode cX12_weigh 35 = .ok (.iadd, 1) := by decide +kernel
theorem dX12_weigh_36 : decode cX12_weigh 36 = .ok (.iload_n 2, 1) := by decide +kernel
theorem dX12_weigh_37 : decode cX12_weigh 37 = .ok (.iastore, 1) := by decide +kernel
theorem dX12_weigh_38 : decode cX12_weigh 38 = .ok (.aload_n 0, 1) := by decide +kernel
theorem dX12_weigh_39 : decode cX12_weigh 39 = .ok (.iconst 0, 1) := by decide +kernel
theorem dX12_weigh_40 : decode cX12_weigh 40 = .ok (.invokevirtual 91, 3) := by decide +kernel
theorem dX12_weigh_43 : decode cX12_weigh 43 = .ok (.ireturn, 1) := by decide +kernel
theorem mv_X12_weigh : MV yX12_weigh RX12 cX12_weigh 3 (some .boolean) 2 := ⟨tb_1650, tb_1648, tb_1649, tb_16, by decide +kernel, by decide +kernel, by decide +kernel⟩
def f_X12_weigh (fu : Nat) (m_at : Nat → Int32) (m_status : Int32) (x1 : Int32) (x2 : Int32) : Option (Int32 × (Nat → Int32) × Int32) := (f_X12_isMan fu m_at x1).bind fun z_13 => (if z_13 = 0 then (f_X12_is fu m_status 1).bind fun z_15 => (bz z_15.1).bind fun _ => some (z_15.1, m_at, z_15.2) else (f_X12_isFrom fu (Int32.toInt64 x2) 0 9).bind fun z_17 => (if z_17 = 0 then (f_X12_is fu m_status 1).bind fun z_23 => (bz z_23.1).bind fun _ => some (z_23.1, m_at, z_23.2) else (f_X12_manRow fu x1).bind fun z_19 => (wrI m_at 3648 (z_19 + 1) x2).bind fun m_at_20 => (f_X12_is fu m_status 0).bind fun z_21 => (bz z_21.1).bind fun _ => some (z_21.1, m_at_20, z_21.2)))
abbrev rm_X12_weigh : Room := { frames := 1, cells := 0, slots := 0, locals := 25 }
set_option maxHeartbeats 4000000 in
set_option maxRecDepth 100000 in
theorem c_X12_weigh (l : Launch) (D : va_G) (cy : Nat → ClassId) (fu : Nat) (A_m : Nat → Nat) (m_at : Nat → Int32) (m_names : Nat → Int64) (m_status : Int32) (m_top : Int64) (m_bottom : Int64) (m_sort : Nat → Int32) (m_trayMany : Nat → Int32) (m_trays : Nat → Int64) (m_tape : Nat → Int32) (m_text : Nat → Int32) (m_taped : Int32) (m_size : Int32) (m_token : Int32) (m_from : Int32) (m_end : Int32) (m_value : Int32) (m_faultKind : Int32) (m_faultPlace : Int32) (m_faults : Int32) (m_seen : Int32) (m_toldParts : Int32) (m_opened : Nat → Int32) (m_depth : Int32) (m_counted : Int32) (m_bestOrder : Int32) (m_standers : Nat → Int32) (m_has : Nat → Int32) (m_bestHas : Nat → Int32) (m_standerMany : Int32) (m_bestCouples : Int32) (m_bestFondness : Int32) (m_cameTo : Nat → Int32) (m_doesStandFirst : Int32) (m_stoodBy : Nat → Int64) (m_drawn : Int32) (m_ranSteps : Int32) (m_loops : Nat → Int32) (m_ran : Nat → Int32) (m_told1 : Nat → Int32) (m_isTold : Int32) (m_marks : Int32) (x1 : Int32) (x2 : Int32) (res : Int32 × (Nat → Int32) × Int32) (h : f_X12_weigh fu m_at m_status x1 x2 = some res) (A : Nat → Prop) (hA : A = adr [bl_X12 cy A_m m_at m_names m_status m_top m_bottom m_sort m_trayMany m_trays m_tape m_text m_taped m_size m_token m_from m_end m_value m_faultKind m_faultPlace m_faults m_seen m_toldParts m_opened m_depth m_counted m_bestOrder m_standers m_has m_bestHas m_standerMany m_bestCouples m_bestFondness m_cameTo m_doesStandFirst m_stoodBy m_drawn m_ranSteps m_loops m_ran m_told1 m_isTold m_marks]) (W1 : List va_W) (hW1 : W1 = [bl_X12 cy A_m res.2.1 m_names res.2.2 m_top m_bottom m_sort m_trayMany m_trays m_tape m_text m_taped m_size m_token m_from m_end m_value m_faultKind m_faultPlace m_faults m_seen m_toldParts m_opened m_depth m_counted m_bestOrder m_standers m_has m_bestHas m_standerMany m_bestCouples m_bestFondness m_cameTo m_doesStandFirst m_stoodBy m_drawn m_ranSteps m_loops m_ran m_told1 m_isTold m_marks]) : Met l yX12_weigh (WW yX12_weigh cX12_weigh 3 (some .boolean)) rm_X12_weigh (Ed D cy [.ref (A_m 0), .int x1, .int x2] [bl_X12 cy A_m m_at m_names m_status m_top m_bottom m_sort m_trayMany m_trays m_tape m_text m_taped m_size m_token m_from m_end m_value m_faultKind m_faultPlace m_faults m_seen m_toldParts m_opened m_depth m_counted m_bestOrder m_standers m_has m_bestHas m_standerMany m_bestCouples m_bestFondness m_cameTo m_doesStandFirst m_stoodBy m_drawn m_ranSteps m_loops m_ran m_told1 m_isTold m_marks]) (Qei D res.1 A W1) 0 0 A := by
  refine Met.ofW (cc := cX12_weigh) (maxL := 3) (ret := (some .boolean)) (by decide) rfl ?_
  intro p e s m args below meth c s₁ B hml hv
  obtain ⟨hargs, hP, hX, hD0⟩ := hv
  have hx := B.exec
  have hb := B.bytes
  have hr := B.returns
  have ht : ∀ w ∈ lw_gd, w.before args s = true := fun w hw => atoms_spec (ws := WW yX12_weigh cX12_weigh 3 (some .boolean)) B.pre w (List.mem_cons_of_mem _ hw)
  have hown : s.vm.findClass RX12 = some m.cls := findClass_of_methodNamed B.named
  have hlocks := B.notSynchronized
  have hP : PD D A [bl_X12 cy A_m m_at m_names m_status m_top m_bottom m_sort m_trayMany m_trays m_tape m_text m_taped m_size m_token m_from m_end m_value m_faultKind m_faultPlace m_faults m_seen m_toldParts m_opened m_depth m_counted m_bestOrder m_standers m_has m_bestHas m_standerMany m_bestCouples m_bestFondness m_cameTo m_doesStandFirst m_stoodBy m_drawn m_ranSteps m_loops m_ran m_told1 m_isTold m_marks] s.heap := ⟨hP, by rw [hA]; exact hD0.own⟩
  have hS : va_S A s.heap s.heap [] := va_S.rf
  obtain ⟨ls, hl, hent⟩ := ent (m := m) (n := 3) hargs (Nat.le_of_ble_eq_true rfl) (lv := [(0, .ref (A_m 0)), (1, .int x1), (2, .int x2)]) rfl
  rw [hent]
  clear hent
  unfold f_X12_weigh at h
  refine lv_aload_n hx hb dX12_weigh_0 rfl (lv_at hl 0 rfl) ?_
  refine lv_iload_n hx hb dX12_weigh_1 rfl (lv_at hl 1 rfl) ?_
  obtain ⟨z_13, e_z_13, h⟩ := bi h
  refine roVi (rest := []) ⟨hx, hb, hml, hown, ht⟩ (c_X12_isMan l D cy fu A_m m_at m_names m_status m_top m_bottom m_sort m_trayMany m_trays m_tape m_text m_taped m_size m_token m_from m_end m_value m_faultKind m_faultPlace m_faults m_seen m_toldParts m_opened m_depth m_counted m_bestOrder m_standers m_has m_bestHas m_standerMany m_bestCouples m_bestFondness m_cameTo m_doesStandFirst m_stoodBy m_drawn m_ranSteps m_loops m_ran m_told1 m_isTold m_marks x1 z_13 e_z_13) (cV ht mv_X12_isMan tb_1551 rfl rfl ⟨Nat.le_of_ble_eq_true rfl, Nat.le_of_ble_eq_true rfl⟩) (P_sub hP.1 [0] rfl) hX rfl rfl rfl hl.1 rfl (Nat.le_of_ble_eq_true rfl) dX12_weigh_2 ⟨Nat.le_of_ble_eq_true rfl, Nat.le_of_ble_eq_true rfl⟩ ?_
  refine lv_if_eq (tgt := 20) hx hb dX12_weigh_5 (by decide) (fun c_14 => ?_) (fun c_14 => ?_)
  · have h := it c_14 h
    refine lv_aload_n hx hb dX12_weigh_20 rfl (lv_at hl 0 rfl) ?_
    refine lv_iconst (v := 1) hx hb dX12_weigh_21 (by decide) ?_
    obtain ⟨z_15, e_z_15, h⟩ := bi h
    refine efVi (rest := []) ⟨hx, hb, hml, hown, ht⟩ (c_X12_is l D cy fu A_m m_at m_names m_status m_top m_bottom m_sort m_trayMany m_trays m_tape m_text m_taped m_size m_token m_from m_end m_value m_faultKind m_faultPlace m_faults m_seen m_toldParts m_opened m_depth m_counted m_bestOrder m_standers m_has m_bestHas m_standerMany m_bestCouples m_bestFondness m_cameTo m_doesStandFirst m_stoodBy m_drawn m_ranSteps m_loops m_ran m_told1 m_isTold m_marks 1 z_15 e_z_15 _ rfl _ rfl) (cV ht mv_X12_is tb_1372 rfl rfl ⟨Nat.le_of_ble_eq_true rfl, Nat.le_of_ble_eq_true rfl⟩) hP hS hX [0] rfl rfl rfl rfl rfl rfl hl.1 rfl (Nat.le_of_ble_eq_true rfl) dX12_weigh_22 ⟨Nat.le_of_ble_eq_true rfl, Nat.le_of_ble_eq_true rfl⟩ (fun H locs hP hS => ?_)
    have hP : PD D A [bl_X12 cy A_m m_at m_names z_15.2 m_top m_bottom m_sort m_trayMany m_trays m_tape m_text m_taped m_size m_token m_from m_end m_value m_faultKind m_faultPlace m_faults m_seen m_toldParts m_opened m_depth m_counted m_bestOrder m_standers m_has m_bestHas m_standerMany m_bestCouples m_bestFondness m_cameTo m_doesStandFirst m_stoodBy m_drawn m_ranSteps m_loops m_ran m_told1 m_isTold m_marks] H := hP
    obtain ⟨b_16, e_b_16, h⟩ := bi h
    obtain ⟨-, n_b_16, -⟩ := bz_ok e_b_16
    cases h
    subst hW1
    exact W.zret hx hb hr n_b_16 (fun _ ht9 _ => ⟨⟨_, (), rfl, rfl, hPt ht9 hP.1⟩, hS.F ht9⟩) hS.2.2 dX12_weigh_25
  · have h := ie c_14 h
    refine lv_iload_n hx hb dX12_weigh_8 rfl (lv_at hl 2 rfl) ?_
    refine lv_i2l (v := Int32.toInt64 x2) hx hb dX12_weigh_9 rfl ?_
    refine lv_lconst (v := 0) hx hb dX12_weigh_10 (by decide) ?_
    refine lv_ldc2 (v := 9) hx hb hown (ht _ tb_1642) dX12_weigh_11 ?_
    obtain ⟨z_17, e_z_17, h⟩ := bi h
    refine roSi (rest := []) ⟨hx, hb, hml, hown, ht⟩ (c_X12_isFrom l D cy fu  (Int32.toInt64 x2) 0 9 z_17 e_z_17) (cS ht ms_X12_isFrom tb_1575 rfl rfl ⟨Nat.le_of_ble_eq_true rfl, Nat.le_of_ble_eq_true rfl⟩) (P_sub hP.1 [] rfl) hX rfl hl.1 rfl (Nat.le_of_ble_eq_true rfl) dX12_weigh_14 ⟨Nat.le_of_ble_eq_true rfl, Nat.le_of_ble_eq_true rfl⟩ ?_
    refine lv_if_ne (tgt := 26) hx hb dX12_weigh_17 (by decide) (fun c_18 => ?_) (fun c_18 => ?_)
    · have h := ie c_18 h
      refine lv_aload_n hx hb dX12_weigh_26 rfl (lv_at hl 0 rfl) ?_
      refine xget (i := 0) (j := 0) (k := 0) (T := TX12) hx hb ht tb_iX12 hown hX hP.1 rfl rfl rfl (by decide) tb_1229 rfl dX12_weigh_27 ?_
      refine lv_iload_n hx hb dX12_weigh_30 rfl (lv_at hl 1 rfl) ?_
      obtain ⟨z_19, e_z_19, h⟩ := bi h
      refine roSi (rest := [.ref (A_m 1)]) ⟨hx, hb, hml, hown, ht⟩ (c_X12_manRow l D cy fu  x1 z_19 e_z_19) (cS ht ms_X12_manRow tb_1226 rfl rfl ⟨Nat.le_of_ble_eq_true rfl, Nat.le_of_ble_eq_true rfl⟩) (P_sub hP.1 [] rfl) hX rfl hl.1 rfl (Nat.le_of_ble_eq_true rfl) dX12_weigh_31 ⟨Nat.le_of_ble_eq_true rfl, Nat.le_of_ble_eq_true rfl⟩ ?_
      refine lv_iconst (v := 1) hx hb dX12_weigh_34 (by decide) ?_
      refine lv_iadd hx hb dX12_weigh_35 ?_
      refine lv_iload_n hx hb dX12_weigh_36 rfl (lv_at hl 2 rfl) ?_
      obtain ⟨m_at_20, e_m_at_20, h⟩ := bi h
      refine xiast (i0 := 0) (j0 := 1) hx hb hX hP hS rfl rfl e_m_at_20 dX12_weigh_37 (fun H locs hP hS => ?_)
      have hP : PD D A [bl_X12 cy A_m m_at_20 m_names m_status m_top m_bottom m_sort m_trayMany m_trays m_tape m_text m_taped m_size m_token m_from m_end m_value m_faultKind m_faultPlace m_faults m_seen m_toldParts m_opened m_depth m_counted m_bestOrder m_standers m_has m_bestHas m_standerMany m_bestCouples m_bestFondness m_cameTo m_doesStandFirst m_stoodBy m_drawn m_ranSteps m_loops m_ran m_told1 m_isTold m_marks] H := hP
      refine lv_aload_n hx hb dX12_weigh_38 rfl (lv_at hl 0 rfl) ?_
      refine lv_iconst (v := 0) hx hb dX12_weigh_39 (by decide) ?_
      obtain ⟨z_21, e_z_21, h⟩ := bi h
      refine efVi (rest := []) ⟨hx, hb, hml, hown, ht⟩ (c_X12_is l D cy fu A_m m_at_20 m_names m_status m_top m_bottom m_sort m_trayMany m_trays m_tape m_text m_taped m_size m_token m_from m_end m_value m_faultKind m_faultPlace m_faults m_seen m_toldParts m_opened m_depth m_counted m_bestOrder m_standers m_has m_bestHas m_standerMany m_bestCouples m_bestFondness m_cameTo m_doesStandFirst m_stoodBy m_drawn m_ranSteps m_loops m_ran m_told1 m_isTold m_marks 0 z_21 e_z_21 _ rfl _ rfl) (cV ht mv_X12_is tb_1372 rfl rfl ⟨Nat.le_of_ble_eq_true rfl, Nat.le_of_ble_eq_true rfl⟩) hP hS hX [0] rfl rfl rfl rfl rfl rfl hl.1 rfl (Nat.le_of_ble_eq_true rfl) dX12_weigh_40 ⟨Nat.le_of_ble_eq_true rfl, Nat.le_of_ble_eq_true rfl⟩ (fun H locs hP hS => ?_)
      have hP : PD D A [bl_X12 cy A_m m_at_20 m_names z_21.2 m_top m_bottom m_sort m_trayMany m_trays m_tape m_text m_taped m_size m_token m_from m_end m_value m_faultKind m_faultPlace m_faults m_seen m_toldParts m_opened m_depth m_counted m_bestOrder m_standers m_has m_bestHas m_standerMany m_bestCouples m_bestFondness m_cameTo m_doesStandFirst m_stoodBy m_drawn m_ranSteps m_loops m_ran m_told1 m_isTold m_marks] H := hP
      obtain ⟨b_22, e_b_22, h⟩ := bi h
      obtain ⟨-, n_b_22, -⟩ := bz_ok e_b_22
      cases h
      subst hW1
      exact W.zret hx hb hr n_b_22 (fun _ ht9 _ => ⟨⟨_, (), rfl, rfl, hPt ht9 hP.1⟩, hS.F ht9⟩) hS.2.2 dX12_weigh_43
    · have h := it c_18 h
      refine lv_aload_n hx hb dX12_weigh_20 rfl (lv_at hl 0 rfl) ?_
      refine lv_iconst (v := 1) hx hb dX12_weigh_21 (by decide) ?_
      obtain ⟨z_23, e_z_23, h⟩ := bi h
      refine efVi (rest := []) ⟨hx, hb, hml, hown, ht⟩ (c_X12_is l D cy fu A_m m_at m_names m_status m_top m_bottom m_sort m_trayMany m_trays m_tape m_text m_taped m_size m_token m_from m_end m_value m_faultKind m_faultPlace m_faults m_seen m_toldParts m_opened m_depth m_counted m_bestOrder m_standers m_has m_bestHas m_standerMany m_bestCouples m_bestFondness m_cameTo m_doesStandFirst m_stoodBy m_drawn m_ranSteps m_loops m_ran m_told1 m_isTold m_marks 1 z_23 e_z_23 _ rfl _ rfl) (cV ht mv_X12_is tb_1372 rfl rfl ⟨Nat.le_of_ble_eq_true rfl, Nat.le_of_ble_eq_true rfl⟩) hP hS hX [0] rfl rfl rfl rfl rfl rfl hl.1 rfl (Nat.le_of_ble_eq_true rfl) dX12_weigh_22 ⟨Nat.le_of_ble_eq_true rfl, Nat.le_of_ble_eq_true rfl⟩ (fun H locs hP hS => ?_)
      have hP : PD D A [bl_X12 cy A_m m_at m_names z_23.2 m_top m_bottom m_sort m_trayMany m_trays m_tape m_text m_taped m_size m_token m_from m_end m_value m_faultKind m_faultPlace m_faults m_seen m_toldParts m_opened m_depth m_counted m_bestOrder m_standers m_has m_bestHas m_standerMany m_bestCouples m_bestFondness m_cameTo m_doesStandFirst m_stoodBy m_drawn m_ranSteps m_loops m_ran m_told1 m_isTold m_marks] H := hP
      obtain ⟨b_24, e_b_24, h⟩ := bi h
      obtain ⟨-, n_b_24, -⟩ := bz_ok e_b_24
      cases h
      subst hW1
      exact W.zret hx hb hr n_b_24 (fun _ ht9 _ => ⟨⟨_, (), rfl, rfl, hPt ht9 hP.1⟩, hS.F ht9⟩) hS.2.2 dX12_weigh_25
theorem dX12_charm_0 : decode cX12_charm 0 = .ok (.aload_n 0, 1) := by decide +kernel
theorem dX12_charm_1 : decode cX12_charm 1 = .ok (.iload_n 1, 1) := by decide +kernel
theorem dX12_charm_2 : decode cX12_charm 2 = .ok (.invokevirtual 241, 3) := by decide +kernel
theorem dX12_charm_5 : decode cX12_charm 5 = .ok (.ifCond .eq 23, 3) := by decide +kernel
theorem dX12_charm_8 : decode cX12_charm 8 = .ok (.aload_n 0, 1) := by decide +kernel
theorem dX12_charm_9 : decode cX12_charm 9 = .ok (.iload_n 2, 1) := by decide +kernel
theorem dX12_charm_10 : decode cX12_charm 10 = .ok (.invokevirtual 241, 3) := by decide +kernel
theorem dX12_charm_13 : decode cX12_charm 13 = .ok (.ifCond .eq 15, 3) := by decide +kernel
theorem dX12_charm_16 : decode cX12_charm 16 = .ok (.iload_n 3, 1) := by decide +kernel
theorem dX12_charm_17 : decode cX12_charm 17 = .ok (.i2l, 1) := by decide +kernel
theorem dX12_charm_18 : decode cX12_charm 18 = .ok (.lconst 0, 1) := by decide +kernel
theorem dX12_charm_19 : decode cX12_charm 19 = .ok (.ldc2_w 313, 3) := by decide +kernel
theorem dX12_charm_22 : decode cX12_charm 22 = .ok (.invokestatic 246, 3) := by decide +kernel
theorem dX12_charm_25 : decode cX12_charm 25 = .ok (.ifCond .ne 9, 3) := by decide +kernel
theorem dX12_charm_28 : decode cX12_charm 28 = .ok (.aload_n 0, 1) := by decide +kernel
theorem dX12_charm_29 : decode cX12_charm 29 = .ok (.iconst 1, 1) := by decide +kernel
theorem dX12_charm_30 : decode cX12_charm 30 = .ok (.invokevirtual 91, 3) := by decide +kernel
theorem dX12_charm_33 : decode cX12_charm 33 = .ok (.ireturn, 1) := by decide +kernel
theorem dX12_charm_34 : decode cX12_charm 34 = .ok (.iload_n 1, 1) := by decide +kernel
theorem dX12_charm_35 : decode cX12_charm 35 = .ok (.iload_n 2, 1) := by decide +kernel
theorem dX12_charm_36 : decode cX12_charm 36 = .ok (.if_icmp .ne 10, 3) := by decide +kernel
theorem dX12_charm_39 : decode cX12_charm 39 = .ok (.aload_n 0, 1) := by decide +kernel
theorem dX12_charm_40 : decode cX12_charm 40 = .ok (.bipush 7, 2) := by decide +kernel
theorem dX12_charm_42 : decode cX12_charm 42 = .ok (.invokevirtual 91, 3) := by decide +kernel
theorem dX12_charm_45 : decode cX12_charm 45 = .ok (.ireturn, 1) := by decide +kernel
theorem dX12_charm_46 : decode cX12_charm 46 = .ok (.aload_n 0, 1) := by decide +kernel
theorem dX12_charm_47 : decode cX12_charm 47 = .ok (.getfield 7, 3) := by decide +kernel
theorem dX12_charm_50 : decode cX12_charm 50 = .ok (.iload_n 1, 1) := by decide +kernel
theorem dX12_charm_51 : decode cX12_charm 51 = .ok (.invokestatic 75, 3) := by decide +kernel
theorem dX12_charm_54 : decode cX12_charm 54 = .ok (.bipush 6, 2) := by decide +kernel
theorem dX12_charm_56 : decode cX12_charm 56 = .ok (.iadd, 1) := by decide +kernel
theorem dX12_charm_57 : decode cX12_charm 57 = .ok (.iload_n 2, 1) := by decide +kernel
theorem dX12_charm_58 : decode cX12_charm 58 = .ok (.iadd, 1) := by decide +kernel
theorem dX12_charm_59 : decode cX12_charm 59 = .ok (.iload_n 3, 1) := by decide +kernel
theorem dX12_charm_60 : decode cX12_charm 60 = .ok (.iastore, 1) := by decide +kernel
theorem dX12_charm_61 : decode cX12_charm 61 = .ok (.aload_n 0, 1) := by decide +kernel
theorem dX12_charm_62 : decode cX12_charm 62 = .ok (.iconst 0, 1) := by decide +kernel
theorem dX12_charm_63 : decode cX12_charm 63 = .ok (.invokevirtual 91, 3) := by decide +kernel
theorem dX12_charm_66 : decode cX12_charm 66 = .ok (.ireturn, 1) := by decide +kernel
theorem mv_X12_charm : MV yX12_charm RX12 cX12_charm 4 (some .boolean) 3 := ⟨tb_1654, tb_1652, tb_1653, tb_16, by decide +kernel, by decide +kernel, by decide +kernel⟩
def f_X12_charm (fu : Nat) (m_at : Nat → Int32) (m_status : Int32) (x1 : Int32) (x2 : Int32) (x3 : Int32) : Option (Int32 × (Nat → Int32) × Int32) := (f_X12_isMan fu m_at x1).bind fun z_20 => (if z_20 = 0 then (f_X12_is fu m_status 1).bind fun z_22 => (bz z_22.1).bind fun _ => some (z_22.1, m_at, z_22.2) else (f_X12_isMan fu m_at x2).bind fun z_24 => (if z_24 = 0 then (f_X12_is fu m_status 1).bind fun z_26 => (bz z_26.1).bind fun _ => some (z_26.1, m_at, z_26.2) else (f_X12_isFrom fu (Int32.toInt64 x3) 0 9).bind fun z_28 => (if z_28 = 0 then (f_X12_is fu m_status 1).bind fun z_37 => (bz z_37.1).bind fun _ => some (z_37.1, m_at, z_37.2) else (if x1 = x2 then (f_X12_is fu m_status 7).bind fun z_35 => (bz z_35.1).bind fun _ => some (z_35.1, m_at, z_35.2) else (f_X12_manRow fu x1).bind fun z_31 => (wrI m_at 3648 ((z_31 + 6) + x2) x3).bind fun m_at_32 => (f_X12_is fu m_status 0).bind fun z_33 => (bz z_33.1).bind fun _ => some (z_33.1, m_at_32, z_33.2)))))
abbrev rm_X12_charm : Room := { frames := 1, cells := 0, slots := 0, locals := 25 }
set_option maxHeartbeats 4000000 in
set_option maxRecDepth 100000 in
theorem c_X12_charm (l : Launch) (D : va_G) (cy : Nat → ClassId) (fu : Nat) (A_m : Nat → Nat) (m_at : Nat → Int32) (m_names : Nat → Int64) (m_status : Int32) (m_top : Int64) (m_bottom : Int64) (m_sort : Nat → Int32) (m_trayMany : Nat → Int32) (m_trays : Nat → Int64) (m_tape : Nat → Int32) (m_text : Nat → Int32) (m_taped : Int32) (m_size : Int32) (m_token : Int32) (m_from : Int32) (m_end : Int32) (m_value : Int32) (m_faultKind : Int32) (m_faultPlace : Int32) (m_faults : Int32) (m_seen : Int32) (m_toldParts : Int32) (m_opened : Nat → Int32) (m_depth : Int32) (m_counted : Int32) (m_bestOrder : Int32) (m_standers : Nat → Int32) (m_has : Nat → Int32) (m_bestHas : Nat → Int32) (m_standerMany : Int32) (m_bestCouples : Int32) (m_bestFondness : Int32) (m_cameTo : Nat → Int32) (m_doesStandFirst : Int32) (m_stoodBy : Nat → Int64) (m_drawn : Int32) (m_ranSteps : Int32) (m_loops : Nat → Int32) (m_ran : Nat → Int32) (m_told1 : Nat → Int32) (m_isTold : Int32) (m_marks : Int32) (x1 : Int32) (x2 : Int32) (x3 : Int32) (res : Int32 × (Nat → Int32) × Int32) (h : f_X12_charm fu m_at m_status x1 x2 x3 = some res) (A : Nat → Prop) (hA : A = adr [bl_X12 cy A_m m_at m_names m_status m_top m_bottom m_sort m_trayMany m_trays m_tape m_text m_taped m_size m_token m_from m_end m_value m_faultKind m_faultPlace m_faults m_seen m_toldParts m_opened m_depth m_counted m_bestOrder m_standers m_has m_bestHas m_standerMany m_bestCouples m_bestFondness m_cameTo m_doesStandFirst m_stoodBy m_drawn m_ranSteps m_loops m_ran m_told1 m_isTold m_marks]) (W1 : List va_W) (hW1 : W1 = [bl_X12 cy A_m res.2.1 m_names res.2.2 m_top m_bottom m_sort m_trayMany m_trays m_tape m_text m_taped m_size m_token m_from m_end m_value m_faultKind m_faultPlace m_faults m_seen m_toldParts m_opened m_depth m_counted m_bestOrder m_standers m_has m_bestHas m_standerMany m_bestCouples m_bestFondness m_cameTo m_doesStandFirst m_stoodBy m_drawn m_ranSteps m_loops m_ran m_told1 m_isTold m_marks]) : Met l yX12_charm (WW yX12_charm cX12_charm 4 (some .boolean)) rm_X12_charm (Ed D cy [.ref (A_m 0), .int x1, .int x2, .int x3] [bl_X12 cy A_m m_at m_names m_status m_top m_bottom m_sort m_trayMany m_trays m_tape m_text m_taped m_size m_token m_from m_end m_value m_faultKind m_faultPlace m_faults m_seen m_toldParts m_opened m_depth m_counted m_bestOrder m_standers m_has m_bestHas m_standerMany m_bestCouples m_bestFondness m_cameTo m_doesStandFirst m_stoodBy m_drawn m_ranSteps m_loops m_ran m_told1 m_isTold m_marks]) (Qei D res.1 A W1) 0 0 A := by
  refine Met.ofW (cc := cX12_charm) (maxL := 4) (ret := (some .boolean)) (by decide) rfl ?_
  intro p e s m args below meth c s₁ B hml hv
  obtain ⟨hargs, hP, hX, hD0⟩ := hv
  have hx := B.exec
  have hb := B.bytes
  have hr := B.returns
  have ht : ∀ w ∈ lw_gd, w.before args s = true := fun w hw => atoms_spec (ws := WW yX12_charm cX12_charm 4 (some .boolean)) B.pre w (List.mem_cons_of_mem _ hw)
  have hown : s.vm.findClass RX12 = some m.cls := findClass_of_methodNamed B.named
  have hlocks := B.notSynchronized
  have hP : PD D A [bl_X12 cy A_m m_at m_names m_status m_top m_bottom m_sort m_trayMany m_trays m_tape m_text m_taped m_size m_token m_from m_end m_value m_faultKind m_faultPlace m_faults m_seen m_toldParts m_opened m_depth m_counted m_bestOrder m_standers m_has m_bestHas m_standerMany m_bestCouples m_bestFondness m_cameTo m_doesStandFirst m_stoodBy m_drawn m_ranSteps m_loops m_ran m_told1 m_isTold m_marks] s.heap := ⟨hP, by rw [hA]; exact hD0.own⟩
  have hS : va_S A s.heap s.heap [] := va_S.rf
  obtain ⟨ls, hl, hent⟩ := ent (m := m) (n := 4) hargs (Nat.le_of_ble_eq_true rfl) (lv := [(0, .ref (A_m 0)), (1, .int x1), (2, .int x2), (3, .int x3)]) rfl
  rw [hent]
  clear hent
  unfold f_X12_charm at h
  refine lv_aload_n hx hb dX12_charm_0 rfl (lv_at hl 0 rfl) ?_
  refine lv_iload_n hx hb dX12_charm_1 rfl (lv_at hl 1 rfl) ?_
  obtain ⟨z_20, e_z_20, h⟩ := bi h
  refine roVi (rest := []) ⟨hx, hb, hml, hown, ht⟩ (c_X12_isMan l D cy fu A_m m_at m_names m_status m_top m_bottom m_sort m_trayMany m_trays m_tape m_text m_taped m_size m_token m_from m_end m_value m_faultKind m_faultPlace m_faults m_seen m_toldParts m_opened m_depth m_counted m_bestOrder m_standers m_has m_bestHas m_standerMany m_bestCouples m_bestFondness m_cameTo m_doesStandFirst m_stoodBy m_drawn m_ranSteps m_loops m_ran m_told1 m_isTold m_marks x1 z_20 e_z_20) (cV ht mv_X12_isMan tb_1551 rfl rfl ⟨Nat.le_of_ble_eq_true rfl, Nat.le_of_ble_eq_true rfl⟩) (P_sub hP.1 [0] rfl) hX rfl rfl rfl hl.1 rfl (Nat.le_of_ble_eq_true rfl) dX12_charm_2 ⟨Nat.le_of_ble_eq_true rfl, Nat.le_of_ble_eq_true rfl⟩ ?_
  refine lv_if_eq (tgt := 28) hx hb dX12_charm_5 (by decide) (fun c_21 => ?_) (fun c_21 => ?_)
  · have h := it c_21 h
    refine lv_aload_n hx hb dX12_charm_28 rfl (lv_at hl 0 rfl) ?_
    refine lv_iconst (v := 1) hx hb dX12_charm_29 (by decide) ?_
    obtain ⟨z_22, e_z_22, h⟩ := bi h
    refine efVi (rest := []) ⟨hx, hb, hml, hown, ht⟩ (c_X12_is l D cy fu A_m m_at m_names m_status m_top m_bottom m_sort m_trayMany m_trays m_tape m_text m_taped m_size m_token m_from m_end m_value m_faultKind m_faultPlace m_faults m_seen m_toldParts m_opened m_depth m_counted m_bestOrder m_standers m_has m_bestHas m_standerMany m_bestCouples m_bestFondness m_cameTo m_doesStandFirst m_stoodBy m_drawn m_ranSteps m_loops m_ran m_told1 m_isTold m_marks 1 z_22 e_z_22 _ rfl _ rfl) (cV ht mv_X12_is tb_1372 rfl rfl ⟨Nat.le_of_ble_eq_true rfl, Nat.le_of_ble_eq_true rfl⟩) hP hS hX [0] rfl rfl rfl rfl rfl rfl hl.1 rfl (Nat.le_of_ble_eq_true rfl) dX12_charm_30 ⟨Nat.le_of_ble_eq_true rfl, Nat.le_of_ble_eq_true rfl⟩ (fun H locs hP hS => ?_)
    have hP : PD D A [bl_X12 cy A_m m_at m_names z_22.2 m_top m_bottom m_sort m_trayMany m_trays m_tape m_text m_taped m_size m_token m_from m_end m_value m_faultKind m_faultPlace m_faults m_seen m_toldParts m_opened m_depth m_counted m_bestOrder m_standers m_has m_bestHas m_standerMany m_bestCouples m_bestFondness m_cameTo m_doesStandFirst m_stoodBy m_drawn m_ranSteps m_loops m_ran m_told1 m_isTold m_marks] H := hP
    obtain ⟨b_23, e_b_23, h⟩ := bi h
    obtain ⟨-, n_b_23, -⟩ := bz_ok e_b_23
    cases h
    subst hW1
    exact W.zret hx hb hr n_b_23 (fun _ ht9 _ => ⟨⟨_, (), rfl, rfl, hPt ht9 hP.1⟩, hS.F ht9⟩) hS.2.2 dX12_charm_33
  · have h := ie c_21 h
    refine lv_aload_n hx hb dX12_charm_8 rfl (lv_at hl 0 rfl) ?_
    refine lv_iload_n hx hb dX12_charm_9 rfl (lv_at hl 2 rfl) ?_
    obtain ⟨z_24, e_z_24, h⟩ := bi h
    refine roVi (rest := []) ⟨hx, hb, hml, hown, ht⟩ (c_X12_isMan l D cy fu A_m m_at m_names m_status m_top m_bottom m_sort m_trayMany m_trays m_tape m_text m_taped m_size m_token m_from m_end m_value m_faultKind m_faultPlace m_faults m_seen m_toldParts m_opened m_depth m_counted m_bestOrder m_standers m_has m_bestHas m_standerMany m_bestCouples m_bestFondness m_cameTo m_doesStandFirst m_stoodBy m_drawn m_ranSteps m_loops m_ran m_told1 m_isTold m_marks x2 z_24 e_z_24) (cV ht mv_X12_isMan tb_1551 rfl rfl ⟨Nat.le_of_ble_eq_true rfl, Nat.le_of_ble_eq_true rfl⟩) (P_sub hP.1 [0] rfl) hX rfl rfl rfl hl.1 rfl (Nat.le_of_ble_eq_true rfl) dX12_charm_10 ⟨Nat.le_of_ble_eq_true rfl, Nat.le_of_ble_eq_true rfl⟩ ?_
    refine lv_if_eq (tgt := 28) hx hb dX12_charm_13 (by decide) (fun c_25 => ?_) (fun c_25 => ?_)
    · have h := it c_25 h
      refine lv_aload_n hx hb dX12_charm_28 rfl (lv_at hl 0 rfl) ?_
      refine lv_iconst (v := 1) hx hb dX12_charm_29 (by decide) ?_
      obtain ⟨z_26, e_z_26, h⟩ := bi h
      refine efVi (rest := []) ⟨hx, hb, hml, hown, ht⟩ (c_X12_is l D cy fu A_m m_at m_names m_status m_top m_bottom m_sort m_trayMany m_trays m_tape m_text m_taped m_size m_token m_from m_end m_value m_faultKind m_faultPlace m_faults m_seen m_toldParts m_opened m_depth m_counted m_bestOrder m_standers m_has m_bestHas m_standerMany m_bestCouples m_bestFondness m_cameTo m_doesStandFirst m_stoodBy m_drawn m_ranSteps m_loops m_ran m_told1 m_isTold m_marks 1 z_26 e_z_26 _ rfl _ rfl) (cV ht mv_X12_is tb_1372 rfl rfl ⟨Nat.le_of_ble_eq_true rfl, Nat.le_of_ble_eq_true rfl⟩) hP hS hX [0] rfl rfl rfl rfl rfl rfl hl.1 rfl (Nat.le_of_ble_eq_true rfl) dX12_charm_30 ⟨Nat.le_of_ble_eq_true rfl, Nat.le_of_ble_eq_true rfl⟩ (fun H locs hP hS => ?_)
      have hP : PD D A [bl_X12 cy A_m m_at m_names z_26.2 m_top m_bottom m_sort m_trayMany m_trays m_tape m_text m_taped m_size m_token m_from m_end m_value m_faultKind m_faultPlace m_faults m_seen m_toldParts m_opened m_depth m_counted m_bestOrder m_standers m_has m_bestHas m_standerMany m_bestCouples m_bestFondness m_cameTo m_doesStandFirst m_stoodBy m_drawn m_ranSteps m_loops m_ran m_told1 m_isTold m_marks] H := hP
      obtain ⟨b_27, e_b_27, h⟩ := bi h
      obtain ⟨-, n_b_27, -⟩ := bz_ok e_b_27
      cases h
      subst hW1
      exact W.zret hx hb hr n_b_27 (fun _ ht9 _ => ⟨⟨_, (), rfl, rfl, hPt ht9 hP.1⟩, hS.F ht9⟩) hS.2.2 dX12_charm_33
    · have h := ie c_25 h
      refine lv_iload_n hx hb dX12_charm_16 rfl (lv_at hl 3 rfl) ?_
      refine lv_i2l (v := Int32.toInt64 x3) hx hb dX12_charm_17 rfl ?_
      refine lv_lconst (v := 0) hx hb dX12_charm_18 (by decide) ?_
      refine lv_ldc2 (v := 9) hx hb hown (ht _ tb_1642) dX12_charm_19 ?_
      obtain ⟨z_28, e_z_28, h⟩ := bi h
      refine roSi (rest := []) ⟨hx, hb, hml, hown, ht⟩ (c_X12_isFrom l D cy fu  (Int32.toInt64 x3) 0 9 z_28 e_z_28) (cS ht ms_X12_isFrom tb_1575 rfl rfl ⟨Nat.le_of_ble_eq_true rfl, Nat.le_of_ble_eq_true rfl⟩) (P_sub hP.1 [] rfl) hX rfl hl.1 rfl (Nat.le_of_ble_eq_true rfl) dX12_charm_22 ⟨Nat.le_of_ble_eq_true rfl, Nat.le_of_ble_eq_true rfl⟩ ?_
      refine lv_if_ne (tgt := 34) hx hb dX12_charm_25 (by decide) (fun c_29 => ?_) (fun c_29 => ?_)
      · have h := ie c_29 h
        refine lv_iload_n hx hb dX12_charm_34 rfl (lv_at hl 1 rfl) ?_
        refine lv_iload_n hx hb dX12_charm_35 rfl (lv_at hl 2 rfl) ?_
        refine lv_icmp_ne (tgt := 46) hx hb dX12_charm_36 (by decide) (fun c_30 => ?_) (fun c_30 => ?_)
        · have h := ie c_30 h
          refine lv_aload_n hx hb dX12_charm_46 rfl (lv_at hl 0 rfl) ?_
          refine xget (i := 0) (j := 0) (k := 0) (T := TX12) hx hb ht tb_iX12 hown hX hP.1 rfl rfl rfl (by decide) tb_1229 rfl dX12_charm_47 ?_
          refine lv_iload_n hx hb dX12_charm_50 rfl (lv_at hl 1 rfl) ?_
          obtain ⟨z_31, e_z_31, h⟩ := bi h
          refine roSi (rest := [.ref (A_m 1)]) ⟨hx, hb, hml, hown, ht⟩ (c_X12_manRow l D cy fu  x1 z_31 e_z_31) (cS ht ms_X12_manRow tb_1226 rfl rfl ⟨Nat.le_of_ble_eq_true rfl, Nat.le_of_ble_eq_true rfl⟩) (P_sub hP.1 [] rfl) hX rfl hl.1 rfl (Nat.le_of_ble_eq_true rfl) dX12_charm_51 ⟨Nat.le_of_ble_eq_true rfl, Nat.le_of_ble_eq_true rfl⟩ ?_
          refine lv_bipush (v := 6) hx hb dX12_charm_54 (by decide) ?_
          refine lv_iadd hx hb dX12_charm_56 ?_
          refine lv_iload_n hx hb dX12_charm_57 rfl (lv_at hl 2 rfl) ?_
          refine lv_iadd hx hb dX12_charm_58 ?_
          refine lv_iload_n hx hb dX12_charm_59 rfl (lv_at hl 3 rfl) ?_
          obtain ⟨m_at_32, e_m_at_32, h⟩ := bi h
          refine xiast (i0 := 0) (j0 := 1) hx hb hX hP hS rfl rfl e_m_at_32 dX12_charm_60 (fun H locs hP hS => ?_)
          have hP : PD D A [bl_X12 cy A_m m_at_32 m_names m_status m_top m_bottom m_sort m_trayMany m_trays m_tape m_text m_taped m_size m_token m_from m_end m_value m_faultKind m_faultPlace m_faults m_seen m_toldParts m_opened m_depth m_counted m_bestOrder m_standers m_has m_bestHas m_standerMany m_bestCouples m_bestFondness m_cameTo m_doesStandFirst m_stoodBy m_drawn m_ranSteps m_loops m_ran m_told1 m_isTold m_marks] H := hP
          refine lv_aload_n hx hb dX12_charm_61 rfl (lv_at hl 0 rfl) ?_
          refine lv_iconst (v := 0) hx hb dX12_charm_62 (by decide) ?_
          obtain ⟨z_33, e_z_33, h⟩ := bi h
          refine efVi (rest := []) ⟨hx, hb, hml, hown, ht⟩ (c_X12_is l D cy fu A_m m_at_32 m_names m_status m_top m_bottom m_sort m_trayMany m_trays m_tape m_text m_taped m_size m_token m_from m_end m_value m_faultKind m_faultPlace m_faults m_seen m_toldParts m_opened m_depth m_counted m_bestOrder m_standers m_has m_bestHas m_standerMany m_bestCouples m_bestFondness m_cameTo m_doesStandFirst m_stoodBy m_drawn m_ranSteps m_loops m_ran m_told1 m_isTold m_marks 0 z_33 e_z_33 _ rfl _ rfl) (cV ht mv_X12_is tb_1372 rfl rfl ⟨Nat.le_of_ble_eq_true rfl, Nat.le_of_ble_eq_true rfl⟩) hP hS hX [0] rfl rfl rfl rfl rfl rfl hl.1 rfl (Nat.le_of_ble_eq_true rfl) dX12_charm_63 ⟨Nat.le_of_ble_eq_true rfl, Nat.le_of_ble_eq_true rfl⟩ (fun H locs hP hS => ?_)
          have hP : PD D A [bl_X12 cy A_m m_at_32 m_names z_33.2 m_top m_bottom m_sort m_trayMany m_trays m_tape m_text m_taped m_size m_token m_from m_end m_value m_faultKind m_faultPlace m_faults m_seen m_toldParts m_opened m_depth m_counted m_bestOrder m_standers m_has m_bestHas m_standerMany m_bestCouples m_bestFondness m_cameTo m_doesStandFirst m_stoodBy m_drawn m_ranSteps m_loops m_ran m_told1 m_isTold m_marks] H := hP
          obtain ⟨b_34, e_b_34, h⟩ := bi h
          obtain ⟨-, n_b_34, -⟩ := bz_ok e_b_34
          cases h
          subst hW1
          exact W.zret hx hb hr n_b_34 (fun _ ht9 _ => ⟨⟨_, (), rfl, rfl, hPt ht9 hP.1⟩, hS.F ht9⟩) hS.2.2 dX12_charm_66
        · have h := it c_30 h
          refine lv_aload_n hx hb dX12_charm_39 rfl (lv_at hl 0 rfl) ?_
          refine lv_bipush (v := 7) hx hb dX12_charm_40 (by decide) ?_
          obtain ⟨z_35, e_z_35, h⟩ := bi h
          refine efVi (rest := []) ⟨hx, hb, hml, hown, ht⟩ (c_X12_is l D cy fu A_m m_at m_names m_status m_top m_bottom m_sort m_trayMany m_trays m_tape m_text m_taped m_size m_token m_from m_end m_value m_faultKind m_faultPlace m_faults m_seen m_toldParts m_opened m_depth m_counted m_bestOrder m_standers m_has m_bestHas m_standerMany m_bestCouples m_bestFondness m_cameTo m_doesStandFirst m_stoodBy m_drawn m_ranSteps m_loops m_ran m_told1 m_isTold m_marks 7 z_35 e_z_35 _ rfl _ rfl) (cV ht mv_X12_is tb_1372 rfl rfl ⟨Nat.le_of_ble_eq_true rfl, Nat.le_of_ble_eq_true rfl⟩) hP hS hX [0] rfl rfl rfl rfl rfl rfl hl.1 rfl (Nat.le_of_ble_eq_true rfl) dX12_charm_42 ⟨Nat.le_of_ble_eq_true rfl, Nat.le_of_ble_eq_true rfl⟩ (fun H locs hP hS => ?_)
          have hP : PD D A [bl_X12 cy A_m m_at m_names z_35.2 m_top m_bottom m_sort m_trayMany m_trays m_tape m_text m_taped m_size m_token m_from m_end m_value m_faultKind m_faultPlace m_faults m_seen m_toldParts m_opened m_depth m_counted m_bestOrder m_standers m_has m_bestHas m_standerMany m_bestCouples m_bestFondness m_cameTo m_doesStandFirst m_stoodBy m_drawn m_ranSteps m_loops m_ran m_told1 m_isTold m_marks] H := hP
          obtain ⟨b_36, e_b_36, h⟩ := bi h
          obtain ⟨-, n_b_36, -⟩ := bz_ok e_b_36
          cases h
          subst hW1
          exact W.zret hx hb hr n_b_36 (fun _ ht9 _ => ⟨⟨_, (), rfl, rfl, hPt ht9 hP.1⟩, hS.F ht9⟩) hS.2.2 dX12_charm_45
      · have h := it c_29 h
        refine lv_aload_n hx hb dX12_charm_28 rfl (lv_at hl 0 rfl) ?_
        refine lv_iconst (v := 1) hx hb dX12_charm_29 (by decide) ?_
        obtain ⟨z_37, e_z_37, h⟩ := bi h
        refine efVi (rest := []) ⟨hx, hb, hml, hown, ht⟩ (c_X12_is l D cy fu A_m m_at m_names m_status m_top m_bottom m_sort m_trayMany m_trays m_tape m_text m_taped m_size m_token m_from m_end m_value m_faultKind m_faultPlace m_faults m_seen m_toldParts m_opened m_depth m_counted m_bestOrder m_standers m_has m_bestHas m_standerMany m_bestCouples m_bestFondness m_cameTo m_doesStandFirst m_stoodBy m_drawn m_ranSteps m_loops m_ran m_told1 m_isTold m_marks 1 z_37 e_z_37 _ rfl _ rfl) (cV ht mv_X12_is tb_1372 rfl rfl ⟨Nat.le_of_ble_eq_true rfl, Nat.le_of_ble_eq_true rfl⟩) hP hS hX [0] rfl rfl rfl rfl rfl rfl hl.1 rfl (Nat.le_of_ble_eq_true rfl) dX12_charm_30 ⟨Nat.le_of_ble_eq_true rfl, Nat.le_of_ble_eq_true rfl⟩ (fun H locs hP hS => ?_)
        have hP : PD D A [bl_X12 cy A_m m_at m_names z_37.2 m_top m_bottom m_sort m_trayMany m_trays m_tape m_text m_taped m_size m_token m_from m_end m_value m_faultKind m_faultPlace m_faults m_seen m_toldParts m_opened m_depth m_counted m_bestOrder m_standers m_has m_bestHas m_standerMany m_bestCouples m_bestFondness m_cameTo m_doesStandFirst m_stoodBy m_drawn m_ranSteps m_loops m_ran m_told1 m_isTold m_marks] H := hP
        obtain ⟨b_38, e_b_38, h⟩ := bi h
        obtain ⟨-, n_b_38, -⟩ := bz_ok e_b_38
        cases h
        subst hW1
        exact W.zret hx hb hr n_b_38 (fun _ ht9 _ => ⟨⟨_, (), rfl, rfl, hPt ht9 hP.1⟩, hS.F ht9⟩) hS.2.2 dX12_charm_33
theorem dX12_rule_0 : decode cX12_rule 0 = .ok (.iload_n 1, 1) := by decide +kernel
theorem dX12_rule_1 : decode cX12_rule 1 = .ok (.iconst 1, 1) := by decide +kernel
theorem dX12_rule_2 : decode cX12_rule 2 = .ok (.if_icmp .lt 40, 3) := by decide +kernel
theorem dX12_rule_5 : decode cX12_rule 5 = .ok (.iload_n 1, 1) := by decide +kernel
theorem dX12_rule_6 : decode cX12_rule 6 = .ok (.iconst 2, 1) := by decide +kernel
theorem dX12_rule_7 : decode cX12_rule 7 = .ok (.if_icmp .gt 35, 3) := by decide +kernel
theorem dX12_rule_10 : decode cX12_rule 10 = .ok (.iload_n 2, 1) := by decide +kernel
theorem dX12_rule_11 : decode cX12_rule 11 = .ok (.i2l, 1) := by decide +kernel
theorem dX12_rule_12 : decode cX12_rule 12 = .ok (.iload_n 1, 1) := by decide +kernel
theorem dX12_rule_13 : decode cX12_rule 13 = .ok (.iconst 1, 1) := by decide +kernel
theorem dX12_rule_14 : decode cX12_rule 14 = .ok (.if_icmp .ne 7, 3) := by decide +kernel
theorem dX12_rule_17 : decode cX12_rule 17 = .ok (.lconst 0, 1) := by decide +kernel
theorem dX12_rule_18 : decode cX12_rule 18 = .ok (.goto 4, 3) := by decide +kernel
theorem dX12_rule_21 : decode cX12_rule 21 = .ok (.lconst 1, 1) := by decide +kernel
theorem dX12_rule_22 : decode cX12_rule 22 = .ok (.iload_n 1, 1) := by decide +kernel
theorem dX12_rule_23 : decode cX12_rule 23 = .ok (.iconst 1, 1) := by decide +kernel
theorem dX12_rule_24 : decode cX12_rule 24 = .ok (.if_icmp .ne 9, 3) := by decide +kernel
theorem dX12_rule_27 : decode cX12_rule 27 = .ok (.ldc2_w 313, 3) := by decide +kernel
theorem dX12_rule_30 : decode cX12_rule 30 = .ok (.goto 6, 3) := by decide +kernel
theorem dX12_rule_33 : decode cX12_rule 33 = .ok (.ldc2_w 244, 3) := by decide +kernel
theorem dX12_rule_36 : decode cX12_rule 36 = .ok (.invokestatic 246, 3) := by decide +kernel
theorem dX12_rule_39 : decode cX12_rule 39 = .ok (.ifCond .ne 9, 3) := by decide +kernel
theorem dX12_rule_42 : decode cX12_rule 42 = .ok (.aload_n 0, 1) := by decide +kernel
theorem dX12_rule_43 : decode cX12_rule 43 = .ok (.iconst 1, 1) := by decide +kernel
theorem dX12_rule_44 : decode cX12_rule 44 = .ok (.invokevirtual 91, 3) := by decide +kernel
theorem dX12_rule_47 : decode cX12_rule 47 = .ok (.ireturn, 1) := by decide +kernel
theorem dX12_rule_48 : decode cX12_rule 48 = .ok (.aload_n 0, 1) := by decide +kernel
theorem dX12_rule_49 : decode cX12_rule 49 = .ok (.getfield 7, 3) := by decide +kernel
theorem dX12_rule_52 : decode cX12_rule 52 = .ok (.iload_n 1, 1) := by decide +kernel
theorem dX12_rule_53 : decode cX12_rule 53 = .ok (.iload_n 2, 1) := by decide +kernel
theorem dX12_rule_54 : decode cX12_rule 54 = .ok (.iastore, 1) := by decide +kernel
theorem dX12_rule_55 : decode cX12_rule 55 = .ok (.aload_n 0, 1) := by decide +kernel
theorem dX12_rule_56 : decode cX12_rule 56 = .ok (.iconst 0, 1) := by decide +kernel
theorem dX12_rule_57 : decode cX12_rule 57 = .ok (.invokevirtual 91, 3) := by decide +kernel
theorem dX12_rule_60 : decode cX12_rule 60 = .ok (.ireturn, 1) := by decide +kernel
theorem mv_X12_rule : MV yX12_rule RX12 cX12_rule 3 (some .boolean) 2 := ⟨tb_1658, tb_1656, tb_1657, tb_16, by decide +kernel, by decide +kernel, by decide +kernel⟩
def f_X12_rule_j36 (fu : Nat) (x1 : Int32) (x2 : Int32) (m_at : Nat → Int32) (m_status : Int32) (s0 : Int64) (s1 : Int64) (s2 : Int64) : Option (Int32 × (Nat → Int32) × Int32) := (f_X12_isFrom fu s0 s1 s2).bind fun z_16 => (if z_16 = 0 then (f_X12_is fu m_status 1).bind fun z_21 => (bz z_21.1).bind fun _ => some (z_21.1, m_at, z_21.2) else (wrI m_at 3648 x1 x2).bind fun m_at_18 => (f_X12_is fu m_status 0).bind fun z_19 => (bz z_19.1).bind fun _ => some (z_19.1, m_at_18, z_19.2))
def f_X12_rule_j22 (fu : Nat) (x1 : Int32) (x2 : Int32) (m_at : Nat → Int32) (m_status : Int32) (s0 : Int64) (s1 : Int64) : Option (Int32 × (Nat → Int32) × Int32) := (if x1 = 1 then f_X12_rule_j36 fu x1 x2 m_at m_status s0 s1 9 else f_X12_rule_j36 fu x1 x2 m_at m_status s0 s1 99)
def f_X12_rule (fu : Nat) (m_at : Nat → Int32) (m_status : Int32) (x1 : Int32) (x2 : Int32) : Option (Int32 × (Nat → Int32) × Int32) := (if x1 < 1 then (f_X12_is fu m_status 1).bind fun z_25 => (bz z_25.1).bind fun _ => some (z_25.1, m_at, z_25.2) else (if 2 < x1 then (f_X12_is fu m_status 1).bind fun z_28 => (bz z_28.1).bind fun _ => some (z_28.1, m_at, z_28.2) else (if x1 = 1 then f_X12_rule_j22 fu x1 x2 m_at m_status (Int32.toInt64 x2) 0 else f_X12_rule_j22 fu x1 x2 m_at m_status (Int32.toInt64 x2) 1)))
abbrev rm_X12_rule : Room := { frames := 1, cells := 0, slots := 0, locals := 25 }
set_option maxHeartbeats 4000000 in
set_option maxRecDepth 100000 in
theorem c_X12_rule (l : Launch) (D : va_G) (cy : Nat → ClassId) (fu : Nat) (A_m : Nat → Nat) (m_at : Nat → Int32) (m_names : Nat → Int64) (m_status : Int32) (m_top : Int64) (m_bottom : Int64) (m_sort : Nat → Int32) (m_trayMany : Nat → Int32) (m_trays : Nat → Int64) (m_tape : Nat → Int32) (m_text : Nat → Int32) (m_taped : Int32) (m_size : Int32) (m_token : Int32) (m_from : Int32) (m_end : Int32) (m_value : Int32) (m_faultKind : Int32) (m_faultPlace : Int32) (m_faults : Int32) (m_seen : Int32) (m_toldParts : Int32) (m_opened : Nat → Int32) (m_depth : Int32) (m_counted : Int32) (m_bestOrder : Int32) (m_standers : Nat → Int32) (m_has : Nat → Int32) (m_bestHas : Nat → Int32) (m_standerMany : Int32) (m_bestCouples : Int32) (m_bestFondness : Int32) (m_cameTo : Nat → Int32) (m_doesStandFirst : Int32) (m_stoodBy : Nat → Int64) (m_drawn : Int32) (m_ranSteps : Int32) (m_loops : Nat → Int32) (m_ran : Nat → Int32) (m_told1 : Nat → Int32) (m_isTold : Int32) (m_marks : Int32) (x1 : Int32) (x2 : Int32) (res : Int32 × (Nat → Int32) × Int32) (h : f_X12_rule fu m_at m_status x1 x2 = some res) (A : Nat → Prop) (hA : A = adr [bl_X12 cy A_m m_at m_names m_status m_top m_bottom m_sort m_trayMany m_trays m_tape m_text m_taped m_size m_token m_from m_end m_value m_faultKind m_faultPlace m_faults m_seen m_toldParts m_opened m_depth m_counted m_bestOrder m_standers m_has m_bestHas m_standerMany m_bestCouples m_bestFondness m_cameTo m_doesStandFirst m_stoodBy m_drawn m_ranSteps m_loops m_ran m_told1 m_isTold m_marks]) (W1 : List va_W) (hW1 : W1 = [bl_X12 cy A_m res.2.1 m_names res.2.2 m_top m_bottom m_sort m_trayMany m_trays m_tape m_text m_taped m_size m_token m_from m_end m_value m_faultKind m_faultPlace m_faults m_seen m_toldParts m_opened m_depth m_counted m_bestOrder m_standers m_has m_bestHas m_standerMany m_bestCouples m_bestFondness m_cameTo m_doesStandFirst m_stoodBy m_drawn m_ranSteps m_loops m_ran m_told1 m_isTold m_marks]) : Met l yX12_rule (WW yX12_rule cX12_rule 3 (some .boolean)) rm_X12_rule (Ed D cy [.ref (A_m 0), .int x1, .int x2] [bl_X12 cy A_m m_at m_names m_status m_top m_bottom m_sort m_trayMany m_trays m_tape m_text m_taped m_size m_token m_from m_end m_value m_faultKind m_faultPlace m_faults m_seen m_toldParts m_opened m_depth m_counted m_bestOrder m_standers m_has m_bestHas m_standerMany m_bestCouples m_bestFondness m_cameTo m_doesStandFirst m_stoodBy m_drawn m_ranSteps m_loops m_ran m_told1 m_isTold m_marks]) (Qei D res.1 A W1) 0 0 A := by
  refine Met.ofW (cc := cX12_rule) (maxL := 3) (ret := (some .boolean)) (by decide) rfl ?_
  intro p e s m args below meth c s₁ B hml hv
  obtain ⟨hargs, hP, hX, hD0⟩ := hv
  have hx := B.exec
  have hb := B.bytes
  have hr := B.returns
  have ht : ∀ w ∈ lw_gd, w.before args s = true := fun w hw => atoms_spec (ws := WW yX12_rule cX12_rule 3 (some .boolean)) B.pre w (List.mem_cons_of_mem _ hw)
  have hown : s.vm.findClass RX12 = some m.cls := findClass_of_methodNamed B.named
  have hlocks := B.notSynchronized
  have hP : PD D A [bl_X12 cy A_m m_at m_names m_status m_top m_bottom m_sort m_trayMany m_trays m_tape m_text m_taped m_size m_token m_from m_end m_value m_faultKind m_faultPlace m_faults m_seen m_toldParts m_opened m_depth m_counted m_bestOrder m_standers m_has m_bestHas m_standerMany m_bestCouples m_bestFondness m_cameTo m_doesStandFirst m_stoodBy m_drawn m_ranSteps m_loops m_ran m_told1 m_isTold m_marks] s.heap := ⟨hP, by rw [hA]; exact hD0.own⟩
  have hS : va_S A s.heap s.heap [] := va_S.rf
  obtain ⟨ls, hl, hent⟩ := ent (m := m) (n := 3) hargs (Nat.le_of_ble_eq_true rfl) (lv := [(0, .ref (A_m 0)), (1, .int x1), (2, .int x2)]) rfl
  rw [hent]
  clear hent
  have j36 : ∀ (m_at : Nat → Int32) (m_status : Int32) (s0 : Int64) (s1 : Int64) (s2 : Int64) (H : Heap) (locs : List Loc) (_ : PD D A [bl_X12 cy A_m m_at m_names m_status m_top m_bottom m_sort m_trayMany m_trays m_tape m_text m_taped m_size m_token m_from m_end m_value m_faultKind m_faultPlace m_faults m_seen m_toldParts m_opened m_depth m_counted m_bestOrder m_standers m_has m_bestHas m_standerMany m_bestCouples m_bestFondness m_cameTo m_doesStandFirst m_stoodBy m_drawn m_ranSteps m_loops m_ran m_told1 m_isTold m_marks] H) (_ : va_S A s.heap H locs) (ls : Array Slot), lv_has ls 3 [(0, .ref (A_m 0)), (1, .int x1), (2, .int x2)] → f_X12_rule_j36 fu x1 x2 m_at m_status s0 s1 s2 = some res → W p l e (headSpec (WW yX12_rule cX12_rule 3 (some .boolean)) rm_X12_rule).room s m args below meth c H locs 0 0 (MQ below (Qei D res.1 A W1) args s 0 0 A) (F0 m 36 ls [.long s2, .long s1, .long s0]) := by
    intro m_at m_status s0 s1 s2 H locs hP hS ls hl h
    unfold f_X12_rule_j36 at h
    obtain ⟨z_16, e_z_16, h⟩ := bi h
    refine roSi (rest := []) ⟨hx, hb, hml, hown, ht⟩ (c_X12_isFrom l D cy fu  s0 s1 s2 z_16 e_z_16) (cS ht ms_X12_isFrom tb_1575 rfl rfl ⟨Nat.le_of_ble_eq_true rfl, Nat.le_of_ble_eq_true rfl⟩) (P_sub hP.1 [] rfl) hX rfl hl.1 rfl (Nat.le_of_ble_eq_true rfl) dX12_rule_36 ⟨Nat.le_of_ble_eq_true rfl, Nat.le_of_ble_eq_true rfl⟩ ?_
    refine lv_if_ne (tgt := 48) hx hb dX12_rule_39 (by decide) (fun c_17 => ?_) (fun c_17 => ?_)
    · have h := ie c_17 h
      refine lv_aload_n hx hb dX12_rule_48 rfl (lv_at hl 0 rfl) ?_
      refine xget (i := 0) (j := 0) (k := 0) (T := TX12) hx hb ht tb_iX12 hown hX hP.1 rfl rfl rfl (by decide) tb_1229 rfl dX12_rule_49 ?_
      refine lv_iload_n hx hb dX12_rule_52 rfl (lv_at hl 1 rfl) ?_
      refine lv_iload_n hx hb dX12_rule_53 rfl (lv_at hl 2 rfl) ?_
      obtain ⟨m_at_18, e_m_at_18, h⟩ := bi h
      refine xiast (i0 := 0) (j0 := 1) hx hb hX hP hS rfl rfl e_m_at_18 dX12_rule_54 (fun H locs hP hS => ?_)
      have hP : PD D A [bl_X12 cy A_m m_at_18 m_names m_status m_top m_bottom m_sort m_trayMany m_trays m_tape m_text m_taped m_size m_token m_from m_end m_value m_faultKind m_faultPlace m_faults m_seen m_toldParts m_opened m_depth m_counted m_bestOrder m_standers m_has m_bestHas m_standerMany m_bestCouples m_bestFondness m_cameTo m_doesStandFirst m_stoodBy m_drawn m_ranSteps m_loops m_ran m_told1 m_isTold m_marks] H := hP
      refine lv_aload_n hx hb dX12_rule_55 rfl (lv_at hl 0 rfl) ?_
      refine lv_iconst (v := 0) hx hb dX12_rule_56 (by decide) ?_
      obtain ⟨z_19, e_z_19, h⟩ := bi h
      refine efVi (rest := []) ⟨hx, hb, hml, hown, ht⟩ (c_X12_is l D cy fu A_m m_at_18 m_names m_status m_top m_bottom m_sort m_trayMany m_trays m_tape m_text m_taped m_size m_token m_from m_end m_value m_faultKind m_faultPlace m_faults m_seen m_toldParts m_opened m_depth m_counted m_bestOrder m_standers m_has m_bestHas m_standerMany m_bestCouples m_bestFondness m_cameTo m_doesStandFirst m_stoodBy m_drawn m_ranSteps m_loops m_ran m_told1 m_isTold m_marks 0 z_19 e_z_19 _ rfl _ rfl) (cV ht mv_X12_is tb_1372 rfl rfl ⟨Nat.le_of_ble_eq_true rfl, Nat.le_of_ble_eq_true rfl⟩) hP hS hX [0] rfl rfl rfl rfl rfl rfl hl.1 rfl (Nat.le_of_ble_eq_true rfl) dX12_rule_57 ⟨Nat.le_of_ble_eq_true rfl, Nat.le_of_ble_eq_true rfl⟩ (fun H locs hP hS => ?_)
      have hP : PD D A [bl_X12 cy A_m m_at_18 m_names z_19.2 m_top m_bottom m_sort m_trayMany m_trays m_tape m_text m_taped m_size m_token m_from m_end m_value m_faultKind m_faultPlace m_faults m_seen m_toldParts m_opened m_depth m_counted m_bestOrder m_standers m_has m_bestHas m_standerMany m_bestCouples m_bestFondness m_cameTo m_doesStandFirst m_stoodBy m_drawn m_ranSteps m_loops m_ran m_told1 m_isTold m_marks] H := hP
      obtain ⟨b_20, e_b_20, h⟩ := bi h
      obtain ⟨-, n_b_20, -⟩ := bz_ok e_b_20
      cases h
      subst hW1
      exact W.zret hx hb hr n_b_20 (fun _ ht9 _ => ⟨⟨_, (), rfl, rfl, hPt ht9 hP.1⟩, hS.F ht9⟩) hS.2.2 dX12_rule_60
    · have h := it c_17 h
      refine lv_aload_n hx hb dX12_rule_42 rfl (lv_at hl 0 rfl) ?_
      refine lv_iconst (v := 1) hx hb dX12_rule_43 (by decide) ?_
      obtain ⟨z_21, e_z_21, h⟩ := bi h
      refine efVi (rest := []) ⟨hx, hb, hml, hown, ht⟩ (c_X12_is l D cy fu A_m m_at m_names m_status m_top m_bottom m_sort m_trayMany m_trays m_tape m_text m_taped m_size m_token m_from m_end m_value m_faultKind m_faultPlace m_faults m_seen m_toldParts m_opened m_depth m_counted m_bestOrder m_standers m_has m_bestHas m_standerMany m_bestCouples m_bestFondness m_cameTo m_doesStandFirst m_stoodBy m_drawn m_ranSteps m_loops m_ran m_told1 m_isTold m_marks 1 z_21 e_z_21 _ rfl _ rfl) (cV ht mv_X12_is tb_1372 rfl rfl ⟨Nat.le_of_ble_eq_true rfl, Nat.le_of_ble_eq_true rfl⟩) hP hS hX [0] rfl rfl rfl rfl rfl rfl hl.1 rfl (Nat.le_of_ble_eq_true rfl) dX12_rule_44 ⟨Nat.le_of_ble_eq_true rfl, Nat.le_of_ble_eq_true rfl⟩ (fun H locs hP hS => ?_)
      have hP : PD D A [bl_X12 cy A_m m_at m_names z_21.2 m_top m_bottom m_sort m_trayMany m_trays m_tape m_text m_taped m_size m_token m_from m_end m_value m_faultKind m_faultPlace m_faults m_seen m_toldParts m_opened m_depth m_counted m_bestOrder m_standers m_has m_bestHas m_standerMany m_bestCouples m_bestFondness m_cameTo m_doesStandFirst m_stoodBy m_drawn m_ranSteps m_loops m_ran m_told1 m_isTold m_marks] H := hP
      obtain ⟨b_22, e_b_22, h⟩ := bi h
      obtain ⟨-, n_b_22, -⟩ := bz_ok e_b_22
      cases h
      subst hW1
      exact W.zret hx hb hr n_b_22 (fun _ ht9 _ => ⟨⟨_, (), rfl, rfl, hPt ht9 hP.1⟩, hS.F ht9⟩) hS.2.2 dX12_rule_47
  have j22 : ∀ (m_at : Nat → Int32) (m_status : Int32) (s0 : Int64) (s1 : Int64) (H : Heap) (locs : List Loc) (_ : PD D A [bl_X12 cy A_m m_at m_names m_status m_top m_bottom m_sort m_trayMany m_trays m_tape m_text m_taped m_size m_token m_from m_end m_value m_faultKind m_faultPlace m_faults m_seen m_toldParts m_opened m_depth m_counted m_bestOrder m_standers m_has m_bestHas m_standerMany m_bestCouples m_bestFondness m_cameTo m_doesStandFirst m_stoodBy m_drawn m_ranSteps m_loops m_ran m_told1 m_isTold m_marks] H) (_ : va_S A s.heap H locs) (ls : Array Slot), lv_has ls 3 [(0, .ref (A_m 0)), (1, .int x1), (2, .int x2)] → f_X12_rule_j22 fu x1 x2 m_at m_status s0 s1 = some res → W p l e (headSpec (WW yX12_rule cX12_rule 3 (some .boolean)) rm_X12_rule).room s m args below meth c H locs 0 0 (MQ below (Qei D res.1 A W1) args s 0 0 A) (F0 m 22 ls [.long s1, .long s0]) := by
    intro m_at m_status s0 s1 H locs hP hS ls hl h
    unfold f_X12_rule_j22 at h
    refine lv_iload_n hx hb dX12_rule_22 rfl (lv_at hl 1 rfl) ?_
    refine lv_iconst (v := 1) hx hb dX12_rule_23 (by decide) ?_
    refine lv_icmp_ne (tgt := 33) hx hb dX12_rule_24 (by decide) (fun c_23 => ?_) (fun c_23 => ?_)
    · have h := ie c_23 h
      refine lv_ldc2 (v := 99) hx hb hown (ht _ tb_1574) dX12_rule_33 ?_
      exact j36 m_at m_status s0 s1 99 _ _ hP hS ls (lv_sub hl [0, 1, 2] rfl) h
    · have h := it c_23 h
      refine lv_ldc2 (v := 9) hx hb hown (ht _ tb_1642) dX12_rule_27 ?_
      refine lv_goto (tgt := 36) hx hb dX12_rule_30 (by decide) ?_
      exact j36 m_at m_status s0 s1 9 _ _ hP hS ls (lv_sub hl [0, 1, 2] rfl) h
  unfold f_X12_rule at h
  refine lv_iload_n hx hb dX12_rule_0 rfl (lv_at hl 1 rfl) ?_
  refine lv_iconst (v := 1) hx hb dX12_rule_1 (by decide) ?_
  refine lv_icmp_lt (tgt := 42) hx hb dX12_rule_2 (by decide) (fun c_24 => ?_) (fun c_24 => ?_)
  · have h := it c_24 h
    refine lv_aload_n hx hb dX12_rule_42 rfl (lv_at hl 0 rfl) ?_
    refine lv_iconst (v := 1) hx hb dX12_rule_43 (by decide) ?_
    obtain ⟨z_25, e_z_25, h⟩ := bi h
    refine efVi (rest := []) ⟨hx, hb, hml, hown, ht⟩ (c_X12_is l D cy fu A_m m_at m_names m_status m_top m_bottom m_sort m_trayMany m_trays m_tape m_text m_taped m_size m_token m_from m_end m_value m_faultKind m_faultPlace m_faults m_seen m_toldParts m_opened m_depth m_counted m_bestOrder m_standers m_has m_bestHas m_standerMany m_bestCouples m_bestFondness m_cameTo m_doesStandFirst m_stoodBy m_drawn m_ranSteps m_loops m_ran m_told1 m_isTold m_marks 1 z_25 e_z_25 _ rfl _ rfl) (cV ht mv_X12_is tb_1372 rfl rfl ⟨Nat.le_of_ble_eq_true rfl, Nat.le_of_ble_eq_true rfl⟩) hP hS hX [0] rfl rfl rfl rfl rfl rfl hl.1 rfl (Nat.le_of_ble_eq_true rfl) dX12_rule_44 ⟨Nat.le_of_ble_eq_true rfl, Nat.le_of_ble_eq_true rfl⟩ (fun H locs hP hS => ?_)
    have hP : PD D A [bl_X12 cy A_m m_at m_names z_25.2 m_top m_bottom m_sort m_trayMany m_trays m_tape m_text m_taped m_size m_token m_from m_end m_value m_faultKind m_faultPlace m_faults m_seen m_toldParts m_opened m_depth m_counted m_bestOrder m_standers m_has m_bestHas m_standerMany m_bestCouples m_bestFondness m_cameTo m_doesStandFirst m_stoodBy m_drawn m_ranSteps m_loops m_ran m_told1 m_isTold m_marks] H := hP
    obtain ⟨b_26, e_b_26, h⟩ := bi h
    obtain ⟨-, n_b_26, -⟩ := bz_ok e_b_26
    cases h
    subst hW1
    exact W.zret hx hb hr n_b_26 (fun _ ht9 _ => ⟨⟨_, (), rfl, rfl, hPt ht9 hP.1⟩, hS.F ht9⟩) hS.2.2 dX12_rule_47
  · have h := ie c_24 h
    refine lv_iload_n hx hb dX12_rule_5 rfl (lv_at hl 1 rfl) ?_
    refine lv_iconst (v := 2) hx hb dX12_rule_6 (by decide) ?_
    refine lv_icmp_gt (tgt := 42) hx hb dX12_rule_7 (by decide) (fun c_27 => ?_) (fun c_27 => ?_)
    · have h := it c_27 h
      refine lv_aload_n hx hb dX12_rule_42 rfl (lv_at hl 0 rfl) ?_
      refine lv_iconst (v := 1) hx hb dX12_rule_43 (by decide) ?_
      obtain ⟨z_28, e_z_28, h⟩ := bi h
      refine efVi (rest := []) ⟨hx, hb, hml, hown, ht⟩ (c_X12_is l D cy fu A_m m_at m_names m_status m_top m_bottom m_sort m_trayMany m_trays m_tape m_text m_taped m_size m_token m_from m_end m_value m_faultKind m_faultPlace m_faults m_seen m_toldParts m_opened m_depth m_counted m_bestOrder m_standers m_has m_bestHas m_standerMany m_bestCouples m_bestFondness m_cameTo m_doesStandFirst m_stoodBy m_drawn m_ranSteps m_loops m_ran m_told1 m_isTold m_marks 1 z_28 e_z_28 _ rfl _ rfl) (cV ht mv_X12_is tb_1372 rfl rfl ⟨Nat.le_of_ble_eq_true rfl, Nat.le_of_ble_eq_true rfl⟩) hP hS hX [0] rfl rfl rfl rfl rfl rfl hl.1 rfl (Nat.le_of_ble_eq_true rfl) dX12_rule_44 ⟨Nat.le_of_ble_eq_true rfl, Nat.le_of_ble_eq_true rfl⟩ (fun H locs hP hS => ?_)
      have hP : PD D A [bl_X12 cy A_m m_at m_names z_28.2 m_top m_bottom m_sort m_trayMany m_trays m_tape m_text m_taped m_size m_token m_from m_end m_value m_faultKind m_faultPlace m_faults m_seen m_toldParts m_opened m_depth m_counted m_bestOrder m_standers m_has m_bestHas m_standerMany m_bestCouples m_bestFondness m_cameTo m_doesStandFirst m_stoodBy m_drawn m_ranSteps m_loops m_ran m_told1 m_isTold m_marks] H := hP
      obtain ⟨b_29, e_b_29, h⟩ := bi h
      obtain ⟨-, n_b_29, -⟩ := bz_ok e_b_29
      cases h
      subst hW1
      exact W.zret hx hb hr n_b_29 (fun _ ht9 _ => ⟨⟨_, (), rfl, rfl, hPt ht9 hP.1⟩, hS.F ht9⟩) hS.2.2 dX12_rule_47
    · have h := ie c_27 h
      refine lv_iload_n hx hb dX12_rule_10 rfl (lv_at hl 2 rfl) ?_
      refine lv_i2l (v := Int32.toInt64 x2) hx hb dX12_rule_11 rfl ?_
      refine lv_iload_n hx hb dX12_rule_12 rfl (lv_at hl 1 rfl) ?_
      refine lv_iconst (v := 1) hx hb dX12_rule_13 (by decide) ?_
      refine lv_icmp_ne (tgt := 21) hx hb dX12_rule_14 (by decide) (fun c_30 => ?_) (fun c_30 => ?_)
      · have h := ie c_30 h
        refine lv_lconst (v := 1) hx hb dX12_rule_21 (by decide) ?_
        exact j22 m_at m_status (Int32.toInt64 x2) 1 _ _ hP hS ls (lv_sub hl [0, 1, 2] rfl) h
      · have h := it c_30 h
        refine lv_lconst (v := 0) hx hb dX12_rule_17 (by decide) ?_
        refine lv_goto (tgt := 22) hx hb dX12_rule_18 (by decide) ?_
        exact j22 m_at m_status (Int32.toInt64 x2) 0 _ _ hP hS ls (lv_sub hl [0, 1, 2] rfl) h
theorem dX12_standing_0 : decode cX12_standing 0 = .ok (.iconst 0, 1) := by decide +kernel
theorem dX12_standing_1 : decode cX12_standing 1 = .ok (.istore_n 2, 1) := by decide +kernel
theorem dX12_standing_2 : decode cX12_standing 2 = .ok (.iconst 0, 1) := by decide +kernel
theorem dX12_standing_3 : decode cX12_standing 3 = .ok (.istore_n 3, 1) := by decide +kernel
theorem dX12_standing_4 : decode cX12_standing 4 = .ok (.iload_n 3, 1) := by decide +kernel
theorem dX12_standing_5 : decode cX12_standing 5 = .ok (.aload_n 0, 1) := by decide +kernel
theorem dX12_standing_6 : decode cX12_standing 6 = .ok (.getfield 7, 3) := by decide +kernel
theorem dX12_standing_9 : decode cX12_standing 9 = .ok (.iconst 0, 1) := by decide +kernel
theorem dX12_standing_10 : decode cX12_standing 10 = .ok (.iaload, 1) := by decide +kernel
theorem dX12_standing_11 : decode cX12_standing 11 = .ok (.if_icmp .ge 36, 3) := by decide +kernel
theorem dX12_standing_14 : decode cX12_standing 14 = .ok (.iload_n 2, 1) := by decide +kernel
theorem dX12_standing_15 : decode cX12_standing 15 = .ok (.aload_n 0, 1) := by decide +kernel
theorem dX12_standing_16 : decode cX12_standing 16 = .ok (.iload_n 3, 1) := by decide +kernel
theorem dX12_standing_17 : decode cX12_standing 17 = .ok (.invokevirtual 253, 3) := by decide +kernel
theorem dX12_standing_20 : decode cX12_standing 20 = .ok (.ifCond .eq 18, 3) := by decide +kernel
theorem dX12_standing_23 : decode cX12_standing 23 = .ok (.aload_n 0, 1) := by decide +kernel
theorem dX12_standing_24 : decode cX12_standing 24 = .ok (.iload_n 3, 1) := by decide +kernel
theorem dX12_standing_25 : decode cX12_standing 25 = .ok (.iload_n 1, 1) := by decide +kernel
theorem dX12_standing_26 : decode cX12_standing 26 = .ok (.invokevirtual 271, 3) := by decide +kernel
theorem dX12_standing_29 : decode cX12_standing 29 = .ok (.ifCond .eq 9, 3) := by decide +kernel
theorem dX12_standing_32 : decode cX12_standing 32 = .ok (.iconst 1, 1) := by decide +kernel
theorem dX12_standing_33 : decode cX12_standing 33 = .ok (.iload_n 3, 1) := by decide +kernel
theorem dX12_standing_34 : decode cX12_standing 34 = .ok (.ishl, 1) := by decide +kernel
theorem dX12_standing_35 : decode cX12_standing 35 = .ok (.goto 4, 3) := by decide +kernel
theorem dX12_standing_38 : decode cX12_standing 38 = .ok (.iconst 0, 1) := by decide +kernel
theorem dX12_standing_39 : decode cX12_standing 39 = .ok (.ior, 1) := by decide +kernel
theorem dX12_standing_40 : decode cX12_standing 40 = .ok (.istore_n 2, 1) := by decide +kernel
theorem dX12_standing_41 : decode cX12_standing 41 = .ok (.iinc 3 1, 3) := by decide +kernel
theorem dX12_standing_44 : decode cX12_standing 44 = .ok (.goto (-40), 3) := by decide +kernel
theorem dX12_standing_47 : decode cX12_standing 47 = .ok (.iload_n 2, 1) := by decide +kernel
theorem dX12_standing_48 : decode cX12_standing 48 = .ok (.ireturn, 1) := by decide +kernel
theorem mv_X12_standing : MV yX12_standing RX12 cX12_standing 4 (some .int) 1 := ⟨tb_1666, tb_1665, ts_86, tb_16, by decide +kernel, by decide +kernel, by decide +kernel⟩
def f_X12_standing_b4 (fu : Nat) (m_at : Nat → Int32) (x1 : Int32) (k4 : Int32 → Int32 → Option (Int32)) (x2 : Int32) (x3 : Int32) : Option (Int32) := (rdI m_at 3648 0).bind fun y_13 => (if y_13 ≤ x3 then some (x2) else (f_X12_isAlive fu m_at x3).bind fun z_15 => (if z_15 = 0 then bnd (x2 ||| 0) fun x2_17 => bnd (x3 + 1) fun x3_18 => k4 x2_17 x3_18 else (f_X12_stands fu m_at x3 x1).bind fun z_19 => (if z_19 = 0 then bnd (x2 ||| 0) fun x2_21 => bnd (x3 + 1) fun x3_22 => k4 x2_21 x3_22 else bnd (x2 ||| ((1 : Int32) <<< (x3 &&& 31))) fun x2_23 => bnd (x3 + 1) fun x3_24 => k4 x2_23 x3_24)))
def f_X12_standing_l4 (fu : Nat) (m_at : Nat → Int32) (x1 : Int32) : Nat → Int32 → Int32 → Option (Int32)
  | 0, _, _ => none
  | n + 1, x2, x3 => f_X12_standing_b4 fu m_at x1 (f_X12_standing_l4 fu m_at x1 n) x2 x3
def f_X12_standing (fu : Nat) (m_at : Nat → Int32) (x1 : Int32) : Option (Int32) := f_X12_standing_l4 fu m_at x1 fu 0 0
abbrev rm_X12_standing : Room := { frames := 4, cells := 0, slots := 0, locals := 85 }
set_option maxHeartbeats 4000000 in
set_option maxRecDepth 100000 in
theorem c_X12_standing (l : Launch) (D : va_G) (cy : Nat → ClassId) (fu : Nat) (A_m : Nat → Nat) (m_at : Nat → Int32) (m_names : Nat → Int64) (m_status : Int32) (m_top : Int64) (m_bottom : Int64) (m_sort : Nat → Int32) (m_trayMany : Nat → Int32) (m_trays : Nat → Int64) (m_tape : Nat → Int32) (m_text : Nat → Int32) (m_taped : Int32) (m_size : Int32) (m_token : Int32) (m_from : Int32) (m_end : Int32) (m_value : Int32) (m_faultKind : Int32) (m_faultPlace : Int32) (m_faults : Int32) (m_seen : Int32) (m_toldParts : Int32) (m_opened : Nat → Int32) (m_depth : Int32) (m_counted : Int32) (m_bestOrder : Int32) (m_standers : Nat → Int32) (m_has : Nat → Int32) (m_bestHas : Nat → Int32) (m_standerMany : Int32) (m_bestCouples : Int32) (m_bestFondness : Int32) (m_cameTo : Nat → Int32) (m_doesStandFirst : Int32) (m_stoodBy : Nat → Int64) (m_drawn : Int32) (m_ranSteps : Int32) (m_loops : Nat → Int32) (m_ran : Nat → Int32) (m_told1 : Nat → Int32) (m_isTold : Int32) (m_marks : Int32) (x1 : Int32) (res : Int32) (h : f_X12_standing fu m_at x1 = some res) : Met l yX12_standing (WW yX12_standing cX12_standing 4 (some .int)) rm_X12_standing (Rd D cy [.ref (A_m 0), .int x1] [bl_X12 cy A_m m_at m_names m_status m_top m_bottom m_sort m_trayMany m_trays m_tape m_text m_taped m_size m_token m_from m_end m_value m_faultKind m_faultPlace m_faults m_seen m_toldParts m_opened m_depth m_counted m_bestOrder m_standers m_has m_bestHas m_standerMany m_bestCouples m_bestFondness m_cameTo m_doesStandFirst m_stoodBy m_drawn m_ranSteps m_loops m_ran m_told1 m_isTold m_marks]) (vp_Si (fun v => v = res)) 0 0 (fun _ => False) := by
  refine Met.ofW (cc := cX12_standing) (maxL := 4) (ret := (some .int)) (by decide) rfl ?_
  intro p e s m args below meth c s₁ B hml hv
  obtain ⟨hargs, hP, hX⟩ := hv
  have hx := B.exec
  have hb := B.bytes
  have hr := B.returns
  have ht : ∀ w ∈ lw_gd, w.before args s = true := fun w hw => atoms_spec (ws := WW yX12_standing cX12_standing 4 (some .int)) B.pre w (List.mem_cons_of_mem _ hw)
  have hown : s.vm.findClass RX12 = some m.cls := findClass_of_methodNamed B.named
  have hlocks := B.notSynchronized
  have hP : PB D [bl_X12 cy A_m m_at m_names m_status m_top m_bottom m_sort m_trayMany m_trays m_tape m_text m_taped m_size m_token m_from m_end m_value m_faultKind m_faultPlace m_faults m_seen m_toldParts m_opened m_depth m_counted m_bestOrder m_standers m_has m_bestHas m_standerMany m_bestCouples m_bestFondness m_cameTo m_doesStandFirst m_stoodBy m_drawn m_ranSteps m_loops m_ran m_told1 m_isTold m_marks] s.heap := hP
  obtain ⟨ls, hl, hent⟩ := ent (m := m) (n := 4) hargs (Nat.le_of_ble_eq_true rfl) (lv := [(0, .ref (A_m 0)), (1, .int x1)]) rfl
  rw [hent]
  clear hent
  have l4 : ∀ (n4 : Nat) (x2 : Int32) (x3 : Int32) (ls : Array Slot), lv_has ls 4 [(0, .ref (A_m 0)), (1, .int x1), (2, .int x2), (3, .int x3)] → f_X12_standing_l4 fu m_at x1 n4 x2 x3 = some res → W p l e (headSpec (WW yX12_standing cX12_standing 4 (some .int)) rm_X12_standing).room s m args below meth c s.heap [] 0 0 (MQ below (vp_Si (fun v => v = res)) args s 0 0 (fun _ => False)) (F0 m 4 ls []) := by
    intro n4
    induction n4 with
    | zero => intro x2 x3 ls hl h; cases h
    | succ n4 ih4 =>
      intro x2 x3 ls hl h
      have h : f_X12_standing_b4 fu m_at x1 (f_X12_standing_l4 fu m_at x1 n4) x2 x3 = some res := h
      unfold f_X12_standing_b4 at h
      refine lv_iload_n hx hb dX12_standing_4 rfl (lv_at hl 3 rfl) ?_
      refine lv_aload_n hx hb dX12_standing_5 rfl (lv_at hl 0 rfl) ?_
      refine xget (i := 0) (j := 0) (k := 0) (T := TX12) hx hb ht tb_iX12 hown hX hP rfl rfl rfl (by decide) tb_1229 rfl dX12_standing_6 ?_
      refine lv_iconst (v := 0) hx hb dX12_standing_9 (by decide) ?_
      obtain ⟨y_13, e_y_13, h⟩ := bi h
      refine xiald (i0 := 0) (j0 := 1) hx hb hX hP rfl rfl e_y_13 dX12_standing_10 ?_
      refine lv_icmp_ge (tgt := 47) hx hb dX12_standing_11 (by decide) (fun c_14 => ?_) (fun c_14 => ?_)
      · have h := it c_14 h
        refine lv_iload_n hx hb dX12_standing_47 rfl (lv_at hl 2 rfl) ?_
        cases h
        exact W.iret hx hb hr (fun _ ht9 _ => ⟨_, rfl, rfl, ht9⟩) (fun _ hq => by cases hq) dX12_standing_48
      · have h := ie c_14 h
        refine lv_iload_n hx hb dX12_standing_14 rfl (lv_at hl 2 rfl) ?_
        refine lv_aload_n hx hb dX12_standing_15 rfl (lv_at hl 0 rfl) ?_
        refine lv_iload_n hx hb dX12_standing_16 rfl (lv_at hl 3 rfl) ?_
        obtain ⟨z_15, e_z_15, h⟩ := bi h
        refine roVi (rest := [.int x2]) ⟨hx, hb, hml, hown, ht⟩ (c_X12_isAlive l D cy fu A_m m_at m_names m_status m_top m_bottom m_sort m_trayMany m_trays m_tape m_text m_taped m_size m_token m_from m_end m_value m_faultKind m_faultPlace m_faults m_seen m_toldParts m_opened m_depth m_counted m_bestOrder m_standers m_has m_bestHas m_standerMany m_bestCouples m_bestFondness m_cameTo m_doesStandFirst m_stoodBy m_drawn m_ranSteps m_loops m_ran m_told1 m_isTold m_marks x3 z_15 e_z_15) (cV ht mv_X12_isAlive tb_1531 rfl rfl ⟨Nat.le_of_ble_eq_true rfl, Nat.le_of_ble_eq_true rfl⟩) (P_sub hP [0] rfl) hX rfl rfl rfl hl.1 rfl (Nat.le_of_ble_eq_true rfl) dX12_standing_17 ⟨Nat.le_of_ble_eq_true rfl, Nat.le_of_ble_eq_true rfl⟩ ?_
        refine lv_if_eq (tgt := 38) hx hb dX12_standing_20 (by decide) (fun c_16 => ?_) (fun c_16 => ?_)
        · have h := it c_16 h
          refine lv_iconst (v := 0) hx hb dX12_standing_38 (by decide) ?_
          refine lv_ior hx hb dX12_standing_39 ?_
          refine lv_topi (fun x2_17 e_x2_17 => ?_)
          have h := bn e_x2_17 h
          refine lv_istore_n (lv' := [(2, .int x2_17), (0, .ref (A_m 0)), (1, .int x1), (3, .int x3)]) hx hb dX12_standing_40 rfl hl (by decide) rfl (fun ls hl => ?_)
          obtain ⟨x3_18, e_x3_18⟩ : ∃ y : Int32, y = x3 + 1 := ⟨_, rfl⟩
          have h := bn e_x3_18 h
          refine lv_iinc (v := x3_18) (lv' := [(3, .int x3_18), (2, .int x2_17), (0, .ref (A_m 0)), (1, .int x1)]) hx hb dX12_standing_41 hl (k := 3) rfl (by rw [e_x3_18]; rfl) (by decide) rfl (fun ls hl => ?_)
          refine lv_goto (tgt := 4) hx hb dX12_standing_44 (by decide) ?_
          exact ih4 x2_17 x3_18 ls (lv_sub hl [2, 3, 1, 0] rfl) h
        · have h := ie c_16 h
          refine lv_aload_n hx hb dX12_standing_23 rfl (lv_at hl 0 rfl) ?_
          refine lv_iload_n hx hb dX12_standing_24 rfl (lv_at hl 3 rfl) ?_
          refine lv_iload_n hx hb dX12_standing_25 rfl (lv_at hl 1 rfl) ?_
          obtain ⟨z_19, e_z_19, h⟩ := bi h
          refine roVi (rest := [.int x2]) ⟨hx, hb, hml, hown, ht⟩ (c_X12_stands l D cy fu A_m m_at m_names m_status m_top m_bottom m_sort m_trayMany m_trays m_tape m_text m_taped m_size m_token m_from m_end m_value m_faultKind m_faultPlace m_faults m_seen m_toldParts m_opened m_depth m_counted m_bestOrder m_standers m_has m_bestHas m_standerMany m_bestCouples m_bestFondness m_cameTo m_doesStandFirst m_stoodBy m_drawn m_ranSteps m_loops m_ran m_told1 m_isTold m_marks x3 x1 z_19 e_z_19) (cV ht mv_X12_stands tb_1582 rfl rfl ⟨Nat.le_of_ble_eq_true rfl, Nat.le_of_ble_eq_true rfl⟩) (P_sub hP [0] rfl) hX rfl rfl rfl hl.1 rfl (Nat.le_of_ble_eq_true rfl) dX12_standing_26 ⟨Nat.le_of_ble_eq_true rfl, Nat.le_of_ble_eq_true rfl⟩ ?_
          refine lv_if_eq (tgt := 38) hx hb dX12_standing_29 (by decide) (fun c_20 => ?_) (fun c_20 => ?_)
          · have h := it c_20 h
            refine lv_iconst (v := 0) hx hb dX12_standing_38 (by decide) ?_
            refine lv_ior hx hb dX12_standing_39 ?_
            refine lv_topi (fun x2_21 e_x2_21 => ?_)
            have h := bn e_x2_21 h
            refine lv_istore_n (lv' := [(2, .int x2_21), (0, .ref (A_m 0)), (1, .int x1), (3, .int x3)]) hx hb dX12_standing_40 rfl hl (by decide) rfl (fun ls hl => ?_)
            obtain ⟨x3_22, e_x3_22⟩ : ∃ y : Int32, y = x3 + 1 := ⟨_, rfl⟩
            have h := bn e_x3_22 h
            refine lv_iinc (v := x3_22) (lv' := [(3, .int x3_22), (2, .int x2_21), (0, .ref (A_m 0)), (1, .int x1)]) hx hb dX12_standing_41 hl (k := 3) rfl (by rw [e_x3_22]; rfl) (by decide) rfl (fun ls hl => ?_)
            refine lv_goto (tgt := 4) hx hb dX12_standing_44 (by decide) ?_
            exact ih4 x2_21 x3_22 ls (lv_sub hl [2, 3, 1, 0] rfl) h
          · have h := ie c_20 h
            refine lv_iconst (v := 1) hx hb dX12_standing_32 (by decide) ?_
            refine lv_iload_n hx hb dX12_standing_33 rfl (lv_at hl 3 rfl) ?_
            refine lv_ishl hx hb dX12_standing_34 ?_
            refine lv_goto (tgt := 39) hx hb dX12_standing_35 (by decide) ?_
            refine lv_ior hx hb dX12_standing_39 ?_
            refine lv_topi (fun x2_23 e_x2_23 => ?_)
            have h := bn e_x2_23 h
            refine lv_istore_n (lv' := [(2, .int x2_23), (0, .ref (A_m 0)), (1, .int x1), (3, .int x3)]) hx hb dX12_standing_40 rfl hl (by decide) rfl (fun ls hl => ?_)
            obtain ⟨x3_24, e_x3_24⟩ : ∃ y : Int32, y = x3 + 1 := ⟨_, rfl⟩
            have h := bn e_x3_24 h
            refine lv_iinc (v := x3_24) (lv' := [(3, .int x3_24), (2, .int x2_23), (0, .ref (A_m 0)), (1, .int x1)]) hx hb dX12_standing_41 hl (k := 3) rfl (by rw [e_x3_24]; rfl) (by decide) rfl (fun ls hl => ?_)
            refine lv_goto (tgt := 4) hx hb dX12_standing_44 (by decide) ?_
            exact ih4 x2_23 x3_24 ls (lv_sub hl [2, 3, 1, 0] rfl) h
  unfold f_X12_standing at h
  refine lv_iconst (v := 0) hx hb dX12_standing_0 (by decide) ?_
  refine lv_istore_n (lv' := [(2, .int 0), (0, .ref (A_m 0)), (1, .int x1)]) hx hb dX12_standing_1 rfl hl (by decide) rfl (fun ls hl => ?_)
  refine lv_iconst (v := 0) hx hb dX12_standing_2 (by decide) ?_
  refine lv_istore_n (lv' := [(3, .int 0), (2, .int 0), (0, .ref (A_m 0)), (1, .int x1)]) hx hb dX12_standing_3 rfl hl (by decide) rfl (fun ls hl => ?_)
  exact l4 fu 0 0 ls (lv_sub hl [2, 3, 1, 0] rfl) h
theorem dX12_brave_0 : decode cX12_brave 0 = .ok (.iload_n 1, 1) := by decide +kernel
theorem dX12_brave_1 : decode cX12_brave 1 = .ok (.i2l, 1) := by decide +kernel
theorem dX12_brave_2 : decode cX12_brave 2 = .ok (.invokestatic 292, 3) := by decide +kernel
theorem dX12_brave_5 : decode cX12_brave 5 = .ok (.ifCond .eq 15, 3) := by decide +kernel
theorem dX12_brave_8 : decode cX12_brave 8 = .ok (.aload_n 0, 1) := by decide +kernel
theorem dX12_brave_9 : decode cX12_brave 9 = .ok (.aload_n 0, 1) := by decide +kernel
theorem dX12_brave_10 : decode cX12_brave 10 = .ok (.iload_n 1, 1) := by decide +kernel
theorem dX12_brave_11 : decode cX12_brave 11 = .ok (.invokevirtual 315, 3) := by decide +kernel
theorem dX12_brave_14 : decode cX12_brave 14 = .ok (.invokevirtual 88, 3) := by decide +kernel
theorem dX12_brave_17 : decode cX12_brave 17 = .ok (.goto 8, 3) := by decide +kernel
theorem dX12_brave_20 : decode cX12_brave 20 = .ok (.aload_n 0, 1) := by decide +kernel
theorem dX12_brave_21 : decode cX12_brave 21 = .ok (.iconst 1, 1) := by decide +kernel
theorem dX12_brave_22 : decode cX12_brave 22 = .ok (.invokevirtual 85, 3) := by decide +kernel
theorem dX12_brave_25 : decode cX12_brave 25 = .ok (.ireturn, 1) := by decide +kernel
theorem mv_X12_brave : MV yX12_brave RX12 cX12_brave 2 (some .int) 1 := ⟨tb_1662, tb_1660, tb_1661, tb_16, by decide +kernel, by decide +kernel, by decide +kernel⟩
def f_X12_brave (fu : Nat) (m_at : Nat → Int32) (m_status : Int32) (x1 : Int32) : Option (Int32 × Int32) := (f_X12_isSize fu (Int32.toInt64 x1)).bind fun z_6 => (if z_6 = 0 then (f_X12_refuse fu m_status 1).bind fun z_8 => some (z_8.1, z_8.2) else (f_X12_standing fu m_at x1).bind fun z_9 => (f_X12_gives fu m_status z_9).bind fun z_10 => some (z_10.1, z_10.2))
abbrev rm_X12_brave : Room := { frames := 5, cells := 0, slots := 0, locals := 108 }
set_option maxHeartbeats 4000000 in
set_option maxRecDepth 100000 in
theorem c_X12_brave (l : Launch) (D : va_G) (cy : Nat → ClassId) (fu : Nat) (A_m : Nat → Nat) (m_at : Nat → Int32) (m_names : Nat → Int64) (m_status : Int32) (m_top : Int64) (m_bottom : Int64) (m_sort : Nat → Int32) (m_trayMany : Nat → Int32) (m_trays : Nat → Int64) (m_tape : Nat → Int32) (m_text : Nat → Int32) (m_taped : Int32) (m_size : Int32) (m_token : Int32) (m_from : Int32) (m_end : Int32) (m_value : Int32) (m_faultKind : Int32) (m_faultPlace : Int32) (m_faults : Int32) (m_seen : Int32) (m_toldParts : Int32) (m_opened : Nat → Int32) (m_depth : Int32) (m_counted : Int32) (m_bestOrder : Int32) (m_standers : Nat → Int32) (m_has : Nat → Int32) (m_bestHas : Nat → Int32) (m_standerMany : Int32) (m_bestCouples : Int32) (m_bestFondness : Int32) (m_cameTo : Nat → Int32) (m_doesStandFirst : Int32) (m_stoodBy : Nat → Int64) (m_drawn : Int32) (m_ranSteps : Int32) (m_loops : Nat → Int32) (m_ran : Nat → Int32) (m_told1 : Nat → Int32) (m_isTold : Int32) (m_marks : Int32) (x1 : Int32) (res : Int32 × Int32) (h : f_X12_brave fu m_at m_status x1 = some res) (A : Nat → Prop) (hA : A = adr [bl_X12 cy A_m m_at m_names m_status m_top m_bottom m_sort m_trayMany m_trays m_tape m_text m_taped m_size m_token m_from m_end m_value m_faultKind m_faultPlace m_faults m_seen m_toldParts m_opened m_depth m_counted m_bestOrder m_standers m_has m_bestHas m_standerMany m_bestCouples m_bestFondness m_cameTo m_doesStandFirst m_stoodBy m_drawn m_ranSteps m_loops m_ran m_told1 m_isTold m_marks]) (W1 : List va_W) (hW1 : W1 = [bl_X12 cy A_m m_at m_names res.2 m_top m_bottom m_sort m_trayMany m_trays m_tape m_text m_taped m_size m_token m_from m_end m_value m_faultKind m_faultPlace m_faults m_seen m_toldParts m_opened m_depth m_counted m_bestOrder m_standers m_has m_bestHas m_standerMany m_bestCouples m_bestFondness m_cameTo m_doesStandFirst m_stoodBy m_drawn m_ranSteps m_loops m_ran m_told1 m_isTold m_marks]) : Met l yX12_brave (WW yX12_brave cX12_brave 2 (some .int)) rm_X12_brave (Ed D cy [.ref (A_m 0), .int x1] [bl_X12 cy A_m m_at m_names m_status m_top m_bottom m_sort m_trayMany m_trays m_tape m_text m_taped m_size m_token m_from m_end m_value m_faultKind m_faultPlace m_faults m_seen m_toldParts m_opened m_depth m_counted m_bestOrder m_standers m_has m_bestHas m_standerMany m_bestCouples m_bestFondness m_cameTo m_doesStandFirst m_stoodBy m_drawn m_ranSteps m_loops m_ran m_told1 m_isTold m_marks]) (Qei D res.1 A W1) 0 0 A := by
  refine Met.ofW (cc := cX12_brave) (maxL := 2) (ret := (some .int)) (by decide) rfl ?_
  intro p e s m args below meth c s₁ B hml hv
  obtain ⟨hargs, hP, hX, hD0⟩ := hv
  have hx := B.exec
  have hb := B.bytes
  have hr := B.returns
  have ht : ∀ w ∈ lw_gd, w.before args s = true := fun w hw => atoms_spec (ws := WW yX12_brave cX12_brave 2 (some .int)) B.pre w (List.mem_cons_of_mem _ hw)
  have hown : s.vm.findClass RX12 = some m.cls := findClass_of_methodNamed B.named
  have hlocks := B.notSynchronized
  have hP : PD D A [bl_X12 cy A_m m_at m_names m_status m_top m_bottom m_sort m_trayMany m_trays m_tape m_text m_taped m_size m_token m_from m_end m_value m_faultKind m_faultPlace m_faults m_seen m_toldParts m_opened m_depth m_counted m_bestOrder m_standers m_has m_bestHas m_standerMany m_bestCouples m_bestFondness m_cameTo m_doesStandFirst m_stoodBy m_drawn m_ranSteps m_loops m_ran m_told1 m_isTold m_marks] s.heap := ⟨hP, by rw [hA]; exact hD0.own⟩
  have hS : va_S A s.heap s.heap [] := va_S.rf
  obtain ⟨ls, hl, hent⟩ := ent (m := m) (n := 2) hargs (Nat.le_of_ble_eq_true rfl) (lv := [(0, .ref (A_m 0)), (1, .int x1)]) rfl
  rw [hent]
  clear hent
  unfold f_X12_brave at h
  refine lv_iload_n hx hb dX12_brave_0 rfl (lv_at hl 1 rfl) ?_
  refine lv_i2l (v := Int32.toInt64 x1) hx hb dX12_brave_1 rfl ?_
  obtain ⟨z_6, e_z_6, h⟩ := bi h
  refine roSi (rest := []) ⟨hx, hb, hml, hown, ht⟩ (c_X12_isSize l D cy fu  (Int32.toInt64 x1) z_6 e_z_6) (cS ht ms_X12_isSize tb_1571 rfl rfl ⟨Nat.le_of_ble_eq_true rfl, Nat.le_of_ble_eq_true rfl⟩) (P_sub hP.1 [] rfl) hX rfl hl.1 rfl (Nat.le_of_ble_eq_true rfl) dX12_brave_2 ⟨Nat.le_of_ble_eq_true rfl, Nat.le_of_ble_eq_true rfl⟩ ?_
  refine lv_if_eq (tgt := 20) hx hb dX12_brave_5 (by decide) (fun c_7 => ?_) (fun c_7 => ?_)
  · have h := it c_7 h
    refine lv_aload_n hx hb dX12_brave_20 rfl (lv_at hl 0 rfl) ?_
    refine lv_iconst (v := 1) hx hb dX12_brave_21 (by decide) ?_
    obtain ⟨z_8, e_z_8, h⟩ := bi h
    refine efVi (rest := []) ⟨hx, hb, hml, hown, ht⟩ (c_X12_refuse l D cy fu A_m m_at m_names m_status m_top m_bottom m_sort m_trayMany m_trays m_tape m_text m_taped m_size m_token m_from m_end m_value m_faultKind m_faultPlace m_faults m_seen m_toldParts m_opened m_depth m_counted m_bestOrder m_standers m_has m_bestHas m_standerMany m_bestCouples m_bestFondness m_cameTo m_doesStandFirst m_stoodBy m_drawn m_ranSteps m_loops m_ran m_told1 m_isTold m_marks 1 z_8 e_z_8 _ rfl _ rfl) (cV ht mv_X12_refuse tb_1432 rfl rfl ⟨Nat.le_of_ble_eq_true rfl, Nat.le_of_ble_eq_true rfl⟩) hP hS hX [0] rfl rfl rfl rfl rfl rfl hl.1 rfl (Nat.le_of_ble_eq_true rfl) dX12_brave_22 ⟨Nat.le_of_ble_eq_true rfl, Nat.le_of_ble_eq_true rfl⟩ (fun H locs hP hS => ?_)
    have hP : PD D A [bl_X12 cy A_m m_at m_names z_8.2 m_top m_bottom m_sort m_trayMany m_trays m_tape m_text m_taped m_size m_token m_from m_end m_value m_faultKind m_faultPlace m_faults m_seen m_toldParts m_opened m_depth m_counted m_bestOrder m_standers m_has m_bestHas m_standerMany m_bestCouples m_bestFondness m_cameTo m_doesStandFirst m_stoodBy m_drawn m_ranSteps m_loops m_ran m_told1 m_isTold m_marks] H := hP
    cases h
    subst hW1
    exact W.iret hx hb hr (fun _ ht9 _ => ⟨⟨_, (), rfl, rfl, hPt ht9 hP.1⟩, hS.F ht9⟩) hS.2.2 dX12_brave_25
  · have h := ie c_7 h
    refine lv_aload_n hx hb dX12_brave_8 rfl (lv_at hl 0 rfl) ?_
    refine lv_aload_n hx hb dX12_brave_9 rfl (lv_at hl 0 rfl) ?_
    refine lv_iload_n hx hb dX12_brave_10 rfl (lv_at hl 1 rfl) ?_
    obtain ⟨z_9, e_z_9, h⟩ := bi h
    refine roVi (rest := [.ref (A_m 0)]) ⟨hx, hb, hml, hown, ht⟩ (c_X12_standing l D cy fu A_m m_at m_names m_status m_top m_bottom m_sort m_trayMany m_trays m_tape m_text m_taped m_size m_token m_from m_end m_value m_faultKind m_faultPlace m_faults m_seen m_toldParts m_opened m_depth m_counted m_bestOrder m_standers m_has m_bestHas m_standerMany m_bestCouples m_bestFondness m_cameTo m_doesStandFirst m_stoodBy m_drawn m_ranSteps m_loops m_ran m_told1 m_isTold m_marks x1 z_9 e_z_9) (cV ht mv_X12_standing tb_1663 rfl rfl ⟨Nat.le_of_ble_eq_true rfl, Nat.le_of_ble_eq_true rfl⟩) (P_sub hP.1 [0] rfl) hX rfl rfl rfl hl.1 rfl (Nat.le_of_ble_eq_true rfl) dX12_brave_11 ⟨Nat.le_of_ble_eq_true rfl, Nat.le_of_ble_eq_true rfl⟩ ?_
    obtain ⟨z_10, e_z_10, h⟩ := bi h
    refine efVi (rest := []) ⟨hx, hb, hml, hown, ht⟩ (c_X12_gives l D cy fu A_m m_at m_names m_status m_top m_bottom m_sort m_trayMany m_trays m_tape m_text m_taped m_size m_token m_from m_end m_value m_faultKind m_faultPlace m_faults m_seen m_toldParts m_opened m_depth m_counted m_bestOrder m_standers m_has m_bestHas m_standerMany m_bestCouples m_bestFondness m_cameTo m_doesStandFirst m_stoodBy m_drawn m_ranSteps m_loops m_ran m_told1 m_isTold m_marks z_9 z_10 e_z_10 _ rfl _ rfl) (cV ht mv_X12_gives tb_1499 rfl rfl ⟨Nat.le_of_ble_eq_true rfl, Nat.le_of_ble_eq_true rfl⟩) hP hS hX [0] rfl rfl rfl rfl rfl rfl hl.1 rfl (Nat.le_of_ble_eq_true rfl) dX12_brave_14 ⟨Nat.le_of_ble_eq_true rfl, Nat.le_of_ble_eq_true rfl⟩ (fun H locs hP hS => ?_)
    have hP : PD D A [bl_X12 cy A_m m_at m_names z_10.2 m_top m_bottom m_sort m_trayMany m_trays m_tape m_text m_taped m_size m_token m_from m_end m_value m_faultKind m_faultPlace m_faults m_seen m_toldParts m_opened m_depth m_counted m_bestOrder m_standers m_has m_bestHas m_standerMany m_bestCouples m_bestFondness m_cameTo m_doesStandFirst m_stoodBy m_drawn m_ranSteps m_loops m_ran m_told1 m_isTold m_marks] H := hP
    refine lv_goto (tgt := 25) hx hb dX12_brave_17 (by decide) ?_
    cases h
    subst hW1
    exact W.iret hx hb hr (fun _ ht9 _ => ⟨⟨_, (), rfl, rfl, hPt ht9 hP.1⟩, hS.F ht9⟩) hS.2.2 dX12_brave_25
theorem dX12_limit_0 : decode cX12_limit 0 = .ok (.aload_n 0, 1) := by decide +kernel
theorem dX12_limit_1 : decode cX12_limit 1 = .ok (.iload_n 1, 1) := by decide +kernel
theorem dX12_limit_2 : decode cX12_limit 2 = .ok (.invokevirtual 241, 3) := by decide +kernel
theorem dX12_limit_5 : decode cX12_limit 5 = .ok (.ifCond .ne 9, 3) := by decide +kernel
theorem dX12_limit_8 : decode cX12_limit 8 = .ok (.aload_n 0, 1) := by decide +kernel
theorem dX12_limit_9 : decode cX12_limit 9 = .ok (.iconst 1, 1) := by decide +kernel
theorem dX12_limit_10 : decode cX12_limit 10 = .ok (.invokevirtual 85, 3) := by decide +kernel
theorem dX12_limit_13 : decode cX12_limit 13 = .ok (.ireturn, 1) := by decide +kernel
theorem dX12_limit_14 : decode cX12_limit 14 = .ok (.aload_n 0, 1) := by decide +kernel
theorem dX12_limit_15 : decode cX12_limit 15 = .ok (.iload_n 1, 1) := by decide +kernel
theorem dX12_limit_16 : decode cX12_limit 16 = .ok (.invokevirtual 253, 3) := by decide +kernel
theorem dX12_limit_19 : decode cX12_limit 19 = .ok (.ifCond .ne 10, 3) := by decide +kernel
theorem dX12_limit_22 : decode cX12_limit 22 = .ok (.aload_n 0, 1) := by decide +kernel
theorem dX12_limit_23 : decode cX12_limit 23 = .ok (.bipush 7, 2) := by decide +kernel
theorem dX12_limit_25 : decode cX12_limit 25 = .ok (.invokevirtual 85, 3) := by decide +kernel
theorem dX12_limit_28 : decode cX12_limit 28 = .ok (.ireturn, 1) := by decide +kernel
theorem dX12_limit_29 : decode cX12_limit 29 = .ok (.aload_n 0, 1) := by decide +kernel
theorem dX12_limit_30 : decode cX12_limit 30 = .ok (.iload_n 1, 1) := by decide +kernel
theorem dX12_limit_31 : decode cX12_limit 31 = .ok (.invokevirtual 256, 3) := by decide +kernel
theorem dX12_limit_34 : decode cX12_limit 34 = .ok (.bipush 99, 2) := by decide +kernel
theorem dX12_limit_36 : decode cX12_limit 36 = .ok (.if_icmp .ne 12, 3) := by decide +kernel
theorem dX12_limit_39 : decode cX12_limit 39 = .ok (.aload_n 0, 1) := by decide +kernel
theorem dX12_limit_40 : decode cX12_limit 40 = .ok (.bipush 6, 2) := by decide +kernel
theorem dX12_limit_42 : decode cX12_limit 42 = .ok (.invokevirtual 85, 3) := by decide +kernel
theorem dX12_limit_45 : decode cX12_limit 45 = .ok (.goto 14, 3) := by decide +kernel
theorem dX12_limit_48 : decode cX12_limit 48 = .ok (.aload_n 0, 1) := by decide +kernel
theorem dX12_limit_49 : decode cX12_limit 49 = .ok (.aload_n 0, 1) := by decide +kernel
theorem dX12_limit_50 : decode cX12_limit 50 = .ok (.iload_n 1, 1) := by decide +kernel
theorem dX12_limit_51 : decode cX12_limit 51 = .ok (.invokevirtual 256, 3) := by decide +kernel
theorem dX12_limit_54 : decode cX12_limit 54 = .ok (.iconst 1, 1) := by decide +kernel
theorem dX12_limit_55 : decode cX12_limit 55 = .ok (.iadd, 1) := by decide +kernel
theorem dX12_limit_56 : decode cX12_limit 56 = .ok (.invokevirtual 88, 3) := by decide +kernel
theorem dX12_limit_59 : decode cX12_limit 59 = .ok (.ireturn, 1) := by decide +kernel
theorem mv_X12_limit : MV yX12_limit RX12 cX12_limit 2 (some .int) 1 := ⟨tb_1670, tb_1668, tb_1669, tb_16, by decide +kernel, by decide +kernel, by decide +kernel⟩
def f_X12_limit (fu : Nat) (m_at : Nat → Int32) (m_status : Int32) (x1 : Int32) : Option (Int32 × Int32) := (f_X12_isMan fu m_at x1).bind fun z_12 => (if z_12 = 0 then (f_X12_refuse fu m_status 1).bind fun z_22 => some (z_22.1, z_22.2) else (f_X12_isAlive fu m_at x1).bind fun z_14 => (if z_14 = 0 then (f_X12_refuse fu m_status 7).bind fun z_21 => some (z_21.1, z_21.2) else (f_X12_braveOf fu m_at x1).bind fun z_16 => (if z_16 = 99 then (f_X12_refuse fu m_status 6).bind fun z_20 => some (z_20.1, z_20.2) else (f_X12_braveOf fu m_at x1).bind fun z_18 => (f_X12_gives fu m_status (z_18 + 1)).bind fun z_19 => some (z_19.1, z_19.2))))
abbrev rm_X12_limit : Room := { frames := 3, cells := 0, slots := 0, locals := 63 }
set_option maxHeartbeats 4000000 in
set_option maxRecDepth 100000 in
theorem c_X12_limit (l : Launch) (D : va_G) (cy : Nat → ClassId) (fu : Nat) (A_m : Nat → Nat) (m_at : Nat → Int32) (m_names : Nat → Int64) (m_status : Int32) (m_top : Int64) (m_bottom : Int64) (m_sort : Nat → Int32) (m_trayMany : Nat → Int32) (m_trays : Nat → Int64) (m_tape : Nat → Int32) (m_text : Nat → Int32) (m_taped : Int32) (m_size : Int32) (m_token : Int32) (m_from : Int32) (m_end : Int32) (m_value : Int32) (m_faultKind : Int32) (m_faultPlace : Int32) (m_faults : Int32) (m_seen : Int32) (m_toldParts : Int32) (m_opened : Nat → Int32) (m_depth : Int32) (m_counted : Int32) (m_bestOrder : Int32) (m_standers : Nat → Int32) (m_has : Nat → Int32) (m_bestHas : Nat → Int32) (m_standerMany : Int32) (m_bestCouples : Int32) (m_bestFondness : Int32) (m_cameTo : Nat → Int32) (m_doesStandFirst : Int32) (m_stoodBy : Nat → Int64) (m_drawn : Int32) (m_ranSteps : Int32) (m_loops : Nat → Int32) (m_ran : Nat → Int32) (m_told1 : Nat → Int32) (m_isTold : Int32) (m_marks : Int32) (x1 : Int32) (res : Int32 × Int32) (h : f_X12_limit fu m_at m_status x1 = some res) (A : Nat → Prop) (hA : A = adr [bl_X12 cy A_m m_at m_names m_status m_top m_bottom m_sort m_trayMany m_trays m_tape m_text m_taped m_size m_token m_from m_end m_value m_faultKind m_faultPlace m_faults m_seen m_toldParts m_opened m_depth m_counted m_bestOrder m_standers m_has m_bestHas m_standerMany m_bestCouples m_bestFondness m_cameTo m_doesStandFirst m_stoodBy m_drawn m_ranSteps m_loops m_ran m_told1 m_isTold m_marks]) (W1 : List va_W) (hW1 : W1 = [bl_X12 cy A_m m_at m_names res.2 m_top m_bottom m_sort m_trayMany m_trays m_tape m_text m_taped m_size m_token m_from m_end m_value m_faultKind m_faultPlace m_faults m_seen m_toldParts m_opened m_depth m_counted m_bestOrder m_standers m_has m_bestHas m_standerMany m_bestCouples m_bestFondness m_cameTo m_doesStandFirst m_stoodBy m_drawn m_ranSteps m_loops m_ran m_told1 m_isTold m_marks]) : Met l yX12_limit (WW yX12_limit cX12_limit 2 (some .int)) rm_X12_limit (Ed D cy [.ref (A_m 0), .int x1] [bl_X12 cy A_m m_at m_names m_status m_top m_bottom m_sort m_trayMany m_trays m_tape m_text m_taped m_size m_token m_from m_end m_value m_faultKind m_faultPlace m_faults m_seen m_toldParts m_opened m_depth m_counted m_bestOrder m_standers m_has m_bestHas m_standerMany m_bestCouples m_bestFondness m_cameTo m_doesStandFirst m_stoodBy m_drawn m_ranSteps m_loops m_ran m_told1 m_isTold m_marks]) (Qei D res.1 A W1) 0 0 A := by
  refine Met.ofW (cc := cX12_limit) (maxL := 2) (ret := (some .int)) (by decide) rfl ?_
  intro p e s m args below meth c s₁ B hml hv
  obtain ⟨hargs, hP, hX, hD0⟩ := hv
  have hx := B.exec
  have hb := B.bytes
  have hr := B.returns
  have ht : ∀ w ∈ lw_gd, w.before args s = true := fun w hw => atoms_spec (ws := WW yX12_limit cX12_limit 2 (some .int)) B.pre w (List.mem_cons_of_mem _ hw)
  have hown : s.vm.findClass RX12 = some m.cls := findClass_of_methodNamed B.named
  have hlocks := B.notSynchronized
  have hP : PD D A [bl_X12 cy A_m m_at m_names m_status m_top m_bottom m_sort m_trayMany m_trays m_tape m_text m_taped m_size m_token m_from m_end m_value m_faultKind m_faultPlace m_faults m_seen m_toldParts m_opened m_depth m_counted m_bestOrder m_standers m_has m_bestHas m_standerMany m_bestCouples m_bestFondness m_cameTo m_doesStandFirst m_stoodBy m_drawn m_ranSteps m_loops m_ran m_told1 m_isTold m_marks] s.heap := ⟨hP, by rw [hA]; exact hD0.own⟩
  have hS : va_S A s.heap s.heap [] := va_S.rf
  obtain ⟨ls, hl, hent⟩ := ent (m := m) (n := 2) hargs (Nat.le_of_ble_eq_true rfl) (lv := [(0, .ref (A_m 0)), (1, .int x1)]) rfl
  rw [hent]
  clear hent
  unfold f_X12_limit at h
  refine lv_aload_n hx hb dX12_limit_0 rfl (lv_at hl 0 rfl) ?_
  refine lv_iload_n hx hb dX12_limit_1 rfl (lv_at hl 1 rfl) ?_
  obtain ⟨z_12, e_z_12, h⟩ := bi h
  refine roVi (rest := []) ⟨hx, hb, hml, hown, ht⟩ (c_X12_isMan l D cy fu A_m m_at m_names m_status m_top m_bottom m_sort m_trayMany m_trays m_tape m_text m_taped m_size m_token m_from m_end m_value m_faultKind m_faultPlace m_faults m_seen m_toldParts m_opened m_depth m_counted m_bestOrder m_standers m_has m_bestHas m_standerMany m_bestCouples m_bestFondness m_cameTo m_doesStandFirst m_stoodBy m_drawn m_ranSteps m_loops m_ran m_told1 m_isTold m_marks x1 z_12 e_z_12) (cV ht mv_X12_isMan tb_1551 rfl rfl ⟨Nat.le_of_ble_eq_true rfl, Nat.le_of_ble_eq_true rfl⟩) (P_sub hP.1 [0] rfl) hX rfl rfl rfl hl.1 rfl (Nat.le_of_ble_eq_true rfl) dX12_limit_2 ⟨Nat.le_of_ble_eq_true rfl, Nat.le_of_ble_eq_true rfl⟩ ?_
  refine lv_if_ne (tgt := 14) hx hb dX12_limit_5 (by decide) (fun c_13 => ?_) (fun c_13 => ?_)
  · have h := ie c_13 h
    refine lv_aload_n hx hb dX12_limit_14 rfl (lv_at hl 0 rfl) ?_
    refine lv_iload_n hx hb dX12_limit_15 rfl (lv_at hl 1 rfl) ?_
    obtain ⟨z_14, e_z_14, h⟩ := bi h
    refine roVi (rest := []) ⟨hx, hb, hml, hown, ht⟩ (c_X12_isAlive l D cy fu A_m m_at m_names m_status m_top m_bottom m_sort m_trayMany m_trays m_tape m_text m_taped m_size m_token m_from m_end m_value m_faultKind m_faultPlace m_faults m_seen m_toldParts m_opened m_depth m_counted m_bestOrder m_standers m_has m_bestHas m_standerMany m_bestCouples m_bestFondness m_cameTo m_doesStandFirst m_stoodBy m_drawn m_ranSteps m_loops m_ran m_told1 m_isTold m_marks x1 z_14 e_z_14) (cV ht mv_X12_isAlive tb_1531 rfl rfl ⟨Nat.le_of_ble_eq_true rfl, Nat.le_of_ble_eq_true rfl⟩) (P_sub hP.1 [0] rfl) hX rfl rfl rfl hl.1 rfl (Nat.le_of_ble_eq_true rfl) dX12_limit_16 ⟨Nat.le_of_ble_eq_true rfl, Nat.le_of_ble_eq_true rfl⟩ ?_
    refine lv_if_ne (tgt := 29) hx hb dX12_limit_19 (by decide) (fun c_15 => ?_) (fun c_15 => ?_)
    · have h := ie c_15 h
      refine lv_aload_n hx hb dX12_limit_29 rfl (lv_at hl 0 rfl) ?_
      refine lv_iload_n hx hb dX12_limit_30 rfl (lv_at hl 1 rfl) ?_
      obtain ⟨z_16, e_z_16, h⟩ := bi h
      refine roVi (rest := []) ⟨hx, hb, hml, hown, ht⟩ (c_X12_braveOf l D cy fu A_m m_at m_names m_status m_top m_bottom m_sort m_trayMany m_trays m_tape m_text m_taped m_size m_token m_from m_end m_value m_faultKind m_faultPlace m_faults m_seen m_toldParts m_opened m_depth m_counted m_bestOrder m_standers m_has m_bestHas m_standerMany m_bestCouples m_bestFondness m_cameTo m_doesStandFirst m_stoodBy m_drawn m_ranSteps m_loops m_ran m_told1 m_isTold m_marks x1 z_16 e_z_16) (cV ht mv_X12_braveOf tb_1555 rfl rfl ⟨Nat.le_of_ble_eq_true rfl, Nat.le_of_ble_eq_true rfl⟩) (P_sub hP.1 [0] rfl) hX rfl rfl rfl hl.1 rfl (Nat.le_of_ble_eq_true rfl) dX12_limit_31 ⟨Nat.le_of_ble_eq_true rfl, Nat.le_of_ble_eq_true rfl⟩ ?_
      refine lv_bipush (v := 99) hx hb dX12_limit_34 (by decide) ?_
      refine lv_icmp_ne (tgt := 48) hx hb dX12_limit_36 (by decide) (fun c_17 => ?_) (fun c_17 => ?_)
      · have h := ie c_17 h
        refine lv_aload_n hx hb dX12_limit_48 rfl (lv_at hl 0 rfl) ?_
        refine lv_aload_n hx hb dX12_limit_49 rfl (lv_at hl 0 rfl) ?_
        refine lv_iload_n hx hb dX12_limit_50 rfl (lv_at hl 1 rfl) ?_
        obtain ⟨z_18, e_z_18, h⟩ := bi h
        refine roVi (rest := [.ref (A_m 0)]) ⟨hx, hb, hml, hown, ht⟩ (c_X12_braveOf l D cy fu A_m m_at m_names m_status m_top m_bottom m_sort m_trayMany m_trays m_tape m_text m_taped m_size m_token m_from m_end m_value m_faultKind m_faultPlace m_faults m_seen m_toldParts m_opened m_depth m_counted m_bestOrder m_standers m_has m_bestHas m_standerMany m_bestCouples m_bestFondness m_cameTo m_doesStandFirst m_stoodBy m_drawn m_ranSteps m_loops m_ran m_told1 m_isTold m_marks x1 z_18 e_z_18) (cV ht mv_X12_braveOf tb_1555 rfl rfl ⟨Nat.le_of_ble_eq_true rfl, Nat.le_of_ble_eq_true rfl⟩) (P_sub hP.1 [0] rfl) hX rfl rfl rfl hl.1 rfl (Nat.le_of_ble_eq_true rfl) dX12_limit_51 ⟨Nat.le_of_ble_eq_true rfl, Nat.le_of_ble_eq_true rfl⟩ ?_
        refine lv_iconst (v := 1) hx hb dX12_limit_54 (by decide) ?_
        refine lv_iadd hx hb dX12_limit_55 ?_
        obtain ⟨z_19, e_z_19, h⟩ := bi h
        refine efVi (rest := []) ⟨hx, hb, hml, hown, ht⟩ (c_X12_gives l D cy fu A_m m_at m_names m_status m_top m_bottom m_sort m_trayMany m_trays m_tape m_text m_taped m_size m_token m_from m_end m_value m_faultKind m_faultPlace m_faults m_seen m_toldParts m_opened m_depth m_counted m_bestOrder m_standers m_has m_bestHas m_standerMany m_bestCouples m_bestFondness m_cameTo m_doesStandFirst m_stoodBy m_drawn m_ranSteps m_loops m_ran m_told1 m_isTold m_marks (z_18 + 1) z_19 e_z_19 _ rfl _ rfl) (cV ht mv_X12_gives tb_1499 rfl rfl ⟨Nat.le_of_ble_eq_true rfl, Nat.le_of_ble_eq_true rfl⟩) hP hS hX [0] rfl rfl rfl rfl rfl rfl hl.1 rfl (Nat.le_of_ble_eq_true rfl) dX12_limit_56 ⟨Nat.le_of_ble_eq_true rfl, Nat.le_of_ble_eq_true rfl⟩ (fun H locs hP hS => ?_)
        have hP : PD D A [bl_X12 cy A_m m_at m_names z_19.2 m_top m_bottom m_sort m_trayMany m_trays m_tape m_text m_taped m_size m_token m_from m_end m_value m_faultKind m_faultPlace m_faults m_seen m_toldParts m_opened m_depth m_counted m_bestOrder m_standers m_has m_bestHas m_standerMany m_bestCouples m_bestFondness m_cameTo m_doesStandFirst m_stoodBy m_drawn m_ranSteps m_loops m_ran m_told1 m_isTold m_marks] H := hP
        cases h
        subst hW1
        exact W.iret hx hb hr (fun _ ht9 _ => ⟨⟨_, (), rfl, rfl, hPt ht9 hP.1⟩, hS.F ht9⟩) hS.2.2 dX12_limit_59
      · have h := it c_17 h
        refine lv_aload_n hx hb dX12_limit_39 rfl (lv_at hl 0 rfl) ?_
        refine lv_bipush (v := 6) hx hb dX12_limit_40 (by decide) ?_
        obtain ⟨z_20, e_z_20, h⟩ := bi h
        refine efVi (rest := []) ⟨hx, hb, hml, hown, ht⟩ (c_X12_refuse l D cy fu A_m m_at m_names m_status m_top m_bottom m_sort m_trayMany m_trays m_tape m_text m_taped m_size m_token m_from m_end m_value m_faultKind m_faultPlace m_faults m_seen m_toldParts m_opened m_depth m_counted m_bestOrder m_standers m_has m_bestHas m_standerMany m_bestCouples m_bestFondness m_cameTo m_doesStandFirst m_stoodBy m_drawn m_ranSteps m_loops m_ran m_told1 m_isTold m_marks 6 z_20 e_z_20 _ rfl _ rfl) (cV ht mv_X12_refuse tb_1432 rfl rfl ⟨Nat.le_of_ble_eq_true rfl, Nat.le_of_ble_eq_true rfl⟩) hP hS hX [0] rfl rfl rfl rfl rfl rfl hl.1 rfl (Nat.le_of_ble_eq_true rfl) dX12_limit_42 ⟨Nat.le_of_ble_eq_true rfl, Nat.le_of_ble_eq_true rfl⟩ (fun H locs hP hS => ?_)
        have hP : PD D A [bl_X12 cy A_m m_at m_names z_20.2 m_top m_bottom m_sort m_trayMany m_trays m_tape m_text m_taped m_size m_token m_from m_end m_value m_faultKind m_faultPlace m_faults m_seen m_toldParts m_opened m_depth m_counted m_bestOrder m_standers m_has m_bestHas m_standerMany m_bestCouples m_bestFondness m_cameTo m_doesStandFirst m_stoodBy m_drawn m_ranSteps m_loops m_ran m_told1 m_isTold m_marks] H := hP
        refine lv_goto (tgt := 59) hx hb dX12_limit_45 (by decide) ?_
        cases h
        subst hW1
        exact W.iret hx hb hr (fun _ ht9 _ => ⟨⟨_, (), rfl, rfl, hPt ht9 hP.1⟩, hS.F ht9⟩) hS.2.2 dX12_limit_59
    · have h := it c_15 h
      refine lv_aload_n hx hb dX12_limit_22 rfl (lv_at hl 0 rfl) ?_
      refine lv_bipush (v := 7) hx hb dX12_limit_23 (by decide) ?_
      obtain ⟨z_21, e_z_21, h⟩ := bi h
      refine efVi (rest := []) ⟨hx, hb, hml, hown, ht⟩ (c_X12_refuse l D cy fu A_m m_at m_names m_status m_top m_bottom m_sort m_trayMany m_trays m_tape m_text m_taped m_size m_token m_from m_end m_value m_faultKind m_faultPlace m_faults m_seen m_toldParts m_opened m_depth m_counted m_bestOrder m_standers m_has m_bestHas m_standerMany m_bestCouples m_bestFondness m_cameTo m_doesStandFirst m_stoodBy m_drawn m_ranSteps m_loops m_ran m_told1 m_isTold m_marks 7 z_21 e_z_21 _ rfl _ rfl) (cV ht mv_X12_refuse tb_1432 rfl rfl ⟨Nat.le_of_ble_eq_true rfl, Nat.le_of_ble_eq_true rfl⟩) hP hS hX [0] rfl rfl rfl rfl rfl rfl hl.1 rfl (Nat.le_of_ble_eq_true rfl) dX12_limit_25 ⟨Nat.le_of_ble_eq_true rfl, Nat.le_of_ble_eq_true rfl⟩ (fun H locs hP hS => ?_)
      have hP : PD D A [bl_X12 cy A_m m_at m_names z_21.2 m_top m_bottom m_sort m_trayMany m_trays m_tape m_text m_taped m_size m_token m_from m_end m_value m_faultKind m_faultPlace m_faults m_seen m_toldParts m_opened m_depth m_counted m_bestOrder m_standers m_has m_bestHas m_standerMany m_bestCouples m_bestFondness m_cameTo m_doesStandFirst m_stoodBy m_drawn m_ranSteps m_loops m_ran m_told1 m_isTold m_marks] H := hP
      cases h
      subst hW1
      exact W.iret hx hb hr (fun _ ht9 _ => ⟨⟨_, (), rfl, rfl, hPt ht9 hP.1⟩, hS.F ht9⟩) hS.2.2 dX12_limit_28
  · have h := it c_13 h
    refine lv_aload_n hx hb dX12_limit_8 rfl (lv_at hl 0 rfl) ?_
    refine lv_iconst (v := 1) hx hb dX12_limit_9 (by decide) ?_
    obtain ⟨z_22, e_z_22, h⟩ := bi h
    refine efVi (rest := []) ⟨hx, hb, hml, hown, ht⟩ (c_X12_refuse l D cy fu A_m m_at m_names m_status m_top m_bottom m_sort m_trayMany m_trays m_tape m_text m_taped m_size m_token m_from m_end m_value m_faultKind m_faultPlace m_faults m_seen m_toldParts m_opened m_depth m_counted m_bestOrder m_standers m_has m_bestHas m_standerMany m_bestCouples m_bestFondness m_cameTo m_doesStandFirst m_stoodBy m_drawn m_ranSteps m_loops m_ran m_told1 m_isTold m_marks 1 z_22 e_z_22 _ rfl _ rfl) (cV ht mv_X12_refuse tb_1432 rfl rfl ⟨Nat.le_of_ble_eq_true rfl, Nat.le_of_ble_eq_true rfl⟩) hP hS hX [0] rfl rfl rfl rfl rfl rfl hl.1 rfl (Nat.le_of_ble_eq_true rfl) dX12_limit_10 ⟨Nat.le_of_ble_eq_true rfl, Nat.le_of_ble_eq_true rfl⟩ (fun H locs hP hS => ?_)
    have hP : PD D A [bl_X12 cy A_m m_at m_names z_22.2 m_top m_bottom m_sort m_trayMany m_trays m_tape m_text m_taped m_size m_token m_from m_end m_value m_faultKind m_faultPlace m_faults m_seen m_toldParts m_opened m_depth m_counted m_bestOrder m_standers m_has m_bestHas m_standerMany m_bestCouples m_bestFondness m_cameTo m_doesStandFirst m_stoodBy m_drawn m_ranSteps m_loops m_ran m_told1 m_isTold m_marks] H := hP
    cases h
    subst hW1
    exact W.iret hx hb hr (fun _ ht9 _ => ⟨⟨_, (), rfl, rfl, hPt ht9 hP.1⟩, hS.F ht9⟩) hS.2.2 dX12_limit_13
theorem dX12_candidates_0 : decode cX12_candidates 0 = .ok (.aload_n 0, 1) := by decide +kernel
theorem dX12_candidates_1 : decode cX12_candidates 1 = .ok (.iload_n 1, 1) := by decide +kernel
theorem dX12_candidates_2 : decode cX12_candidates 2 = .ok (.invokevirtual 241, 3) := by decide +kernel
theorem dX12_candidates_5 : decode cX12_candidates 5 = .ok (.ifCond .eq 11, 3) := by decide +kernel
theorem dX12_candidates_8 : decode cX12_candidates 8 = .ok (.iload_n 2, 1) := by decide +kernel
theorem dX12_candidates_9 : decode cX12_candidates 9 = .ok (.i2l, 1) := by decide +kernel
theorem dX12_candidates_10 : decode cX12_candidates 10 = .ok (.invokestatic 292, 3) := by decide +kernel
theorem dX12_candidates_13 : decode cX12_candidates 13 = .ok (.ifCond .ne 9, 3) := by decide +kernel
theorem dX12_candidates_16 : decode cX12_candidates 16 = .ok (.aload_n 0, 1) := by decide +kernel
theorem dX12_candidates_17 : decode cX12_candidates 17 = .ok (.iconst 1, 1) := by decide +kernel
theorem dX12_candidates_18 : decode cX12_candidates 18 = .ok (.invokevirtual 85, 3) := by decide +kernel
theorem dX12_candidates_21 : decode cX12_candidates 21 = .ok (.ireturn, 1) := by decide +kernel
theorem dX12_candidates_22 : decode cX12_candidates 22 = .ok (.aload_n 0, 1) := by decide +kernel
theorem dX12_candidates_23 : decode cX12_candidates 23 = .ok (.iload_n 1, 1) := by decide +kernel
theorem dX12_candidates_24 : decode cX12_candidates 24 = .ok (.invokevirtual 253, 3) := by decide +kernel
theorem dX12_candidates_27 : decode cX12_candidates 27 = .ok (.ifCond .eq 16, 3) := by decide +kernel
theorem dX12_candidates_30 : decode cX12_candidates 30 = .ok (.aload_n 0, 1) := by decide +kernel
theorem dX12_candidates_31 : decode cX12_candidates 31 = .ok (.aload_n 0, 1) := by decide +kernel
theorem dX12_candidates_32 : decode cX12_candidates 32 = .ok (.iload_n 1, 1) := by decide +kernel
theorem dX12_candidates_33 : decode cX12_candidates 33 = .ok (.iload_n 2, 1) := by decide +kernel
theorem dX12_candidates_34 : decode cX12_candidates 34 = .ok (.invokevirtual 280, 3) := by decide +kernel
theorem dX12_candidates_37 : decode cX12_candidates 37 = .ok (.invokevirtual 88, 3) := by decide +kernel
theorem dX12_candidates_40 : decode cX12_candidates 40 = .ok (.goto 9, 3) := by decide +kernel
theorem dX12_candidates_43 : decode cX12_candidates 43 = .ok (.aload_n 0, 1) := by decide +kernel
theorem dX12_candidates_44 : decode cX12_candidates 44 = .ok (.bipush 7, 2) := by decide +kernel
theorem dX12_candidates_46 : decode cX12_candidates 46 = .ok (.invokevirtual 85, 3) := by decide +kernel
theorem dX12_candidates_49 : decode cX12_candidates 49 = .ok (.ireturn, 1) := by decide +kernel
theorem mv_X12_candidates : MV yX12_candidates RX12 cX12_candidates 3 (some .int) 2 := ⟨tb_1674, tb_1672, tb_1673, tb_16, by decide +kernel, by decide +kernel, by decide +kernel⟩
def f_X12_candidates (fu : Nat) (m_at : Nat → Int32) (m_status : Int32) (x1 : Int32) (x2 : Int32) : Option (Int32 × Int32) := (f_X12_isMan fu m_at x1).bind fun z_12 => (if z_12 = 0 then (f_X12_refuse fu m_status 1).bind fun z_14 => some (z_14.1, z_14.2) else (f_X12_isSize fu (Int32.toInt64 x2)).bind fun z_15 => (if z_15 = 0 then (f_X12_refuse fu m_status 1).bind fun z_22 => some (z_22.1, z_22.2) else (f_X12_isAlive fu m_at x1).bind fun z_17 => (if z_17 = 0 then (f_X12_refuse fu m_status 7).bind fun z_19 => some (z_19.1, z_19.2) else (f_X12_candidatesOf fu m_at x1 x2).bind fun z_20 => (f_X12_gives fu m_status z_20).bind fun z_21 => some (z_21.1, z_21.2))))
abbrev rm_X12_candidates : Room := { frames := 5, cells := 0, slots := 0, locals := 109 }
set_option maxHeartbeats 4000000 in
set_option maxRecDepth 100000 in
theorem c_X12_candidates (l : Launch) (D : va_G) (cy : Nat → ClassId) (fu : Nat) (A_m : Nat → Nat) (m_at : Nat → Int32) (m_names : Nat → Int64) (m_status : Int32) (m_top : Int64) (m_bottom : Int64) (m_sort : Nat → Int32) (m_trayMany : Nat → Int32) (m_trays : Nat → Int64) (m_tape : Nat → Int32) (m_text : Nat → Int32) (m_taped : Int32) (m_size : Int32) (m_token : Int32) (m_from : Int32) (m_end : Int32) (m_value : Int32) (m_faultKind : Int32) (m_faultPlace : Int32) (m_faults : Int32) (m_seen : Int32) (m_toldParts : Int32) (m_opened : Nat → Int32) (m_depth : Int32) (m_counted : Int32) (m_bestOrder : Int32) (m_standers : Nat → Int32) (m_has : Nat → Int32) (m_bestHas : Nat → Int32) (m_standerMany : Int32) (m_bestCouples : Int32) (m_bestFondness : Int32) (m_cameTo : Nat → Int32) (m_doesStandFirst : Int32) (m_stoodBy : Nat → Int64) (m_drawn : Int32) (m_ranSteps : Int32) (m_loops : Nat → Int32) (m_ran : Nat → Int32) (m_told1 : Nat → Int32) (m_isTold : Int32) (m_marks : Int32) (x1 : Int32) (x2 : Int32) (res : Int32 × Int32) (h : f_X12_candidates fu m_at m_status x1 x2 = some res) (A : Nat → Prop) (hA : A = adr [bl_X12 cy A_m m_at m_names m_status m_top m_bottom m_sort m_trayMany m_trays m_tape m_text m_taped m_size m_token m_from m_end m_value m_faultKind m_faultPlace m_faults m_seen m_toldParts m_opened m_depth m_counted m_bestOrder m_standers m_has m_bestHas m_standerMany m_bestCouples m_bestFondness m_cameTo m_doesStandFirst m_stoodBy m_drawn m_ranSteps m_loops m_ran m_told1 m_isTold m_marks]) (W1 : List va_W) (hW1 : W1 = [bl_X12 cy A_m m_at m_names res.2 m_top m_bottom m_sort m_trayMany m_trays m_tape m_text m_taped m_size m_token m_from m_end m_value m_faultKind m_faultPlace m_faults m_seen m_toldParts m_opened m_depth m_counted m_bestOrder m_standers m_has m_bestHas m_standerMany m_bestCouples m_bestFondness m_cameTo m_doesStandFirst m_stoodBy m_drawn m_ranSteps m_loops m_ran m_told1 m_isTold m_marks]) : Met l yX12_candidates (WW yX12_candidates cX12_candidates 3 (some .int)) rm_X12_candidates (Ed D cy [.ref (A_m 0), .int x1, .int x2] [bl_X12 cy A_m m_at m_names m_status m_top m_bottom m_sort m_trayMany m_trays m_tape m_text m_taped m_size m_token m_from m_end m_value m_faultKind m_faultPlace m_faults m_seen m_toldParts m_opened m_depth m_counted m_bestOrder m_standers m_has m_bestHas m_standerMany m_bestCouples m_bestFondness m_cameTo m_doesStandFirst m_stoodBy m_drawn m_ranSteps m_loops m_ran m_told1 m_isTold m_marks]) (Qei D res.1 A W1) 0 0 A := by
  refine Met.ofW (cc := cX12_candidates) (maxL := 3) (ret := (some .int)) (by decide) rfl ?_
  intro p e s m args below meth c s₁ B hml hv
  obtain ⟨hargs, hP, hX, hD0⟩ := hv
  have hx := B.exec
  have hb := B.bytes
  have hr := B.returns
  have ht : ∀ w ∈ lw_gd, w.before args s = true := fun w hw => atoms_spec (ws := WW yX12_candidates cX12_candidates 3 (some .int)) B.pre w (List.mem_cons_of_mem _ hw)
  have hown : s.vm.findClass RX12 = some m.cls := findClass_of_methodNamed B.named
  have hlocks := B.notSynchronized
  have hP : PD D A [bl_X12 cy A_m m_at m_names m_status m_top m_bottom m_sort m_trayMany m_trays m_tape m_text m_taped m_size m_token m_from m_end m_value m_faultKind m_faultPlace m_faults m_seen m_toldParts m_opened m_depth m_counted m_bestOrder m_standers m_has m_bestHas m_standerMany m_bestCouples m_bestFondness m_cameTo m_doesStandFirst m_stoodBy m_drawn m_ranSteps m_loops m_ran m_told1 m_isTold m_marks] s.heap := ⟨hP, by rw [hA]; exact hD0.own⟩
  have hS : va_S A s.heap s.heap [] := va_S.rf
  obtain ⟨ls, hl, hent⟩ := ent (m := m) (n := 3) hargs (Nat.le_of_ble_eq_true rfl) (lv := [(0, .ref (A_m 0)), (1, .int x1), (2, .int x2)]) rfl
  rw [hent]
  clear hent
  unfold f_X12_candidates at h
  refine lv_aload_n hx hb dX12_candidates_0 rfl (lv_at hl 0 rfl) ?_
  refine lv_iload_n hx hb dX12_candidates_1 rfl (lv_at hl 1 rfl) ?_
  obtain ⟨z_12, e_z_12, h⟩ := bi h
  refine roVi (rest := []) ⟨hx, hb, hml, hown, ht⟩ (c_X12_isMan l D cy fu A_m m_at m_names m_status m_top m_bottom m_sort m_trayMany m_trays m_tape m_text m_taped m_size m_token m_from m_end m_value m_faultKind m_faultPlace m_faults m_seen m_toldParts m_opened m_depth m_counted m_bestOrder m_standers m_has m_bestHas m_standerMany m_bestCouples m_bestFondness m_cameTo m_doesStandFirst m_stoodBy m_drawn m_ranSteps m_loops m_ran m_told1 m_isTold m_marks x1 z_12 e_z_12) (cV ht mv_X12_isMan tb_1551 rfl rfl ⟨Nat.le_of_ble_eq_true rfl, Nat.le_of_ble_eq_true rfl⟩) (P_sub hP.1 [0] rfl) hX rfl rfl rfl hl.1 rfl (Nat.le_of_ble_eq_true rfl) dX12_candidates_2 ⟨Nat.le_of_ble_eq_true rfl, Nat.le_of_ble_eq_true rfl⟩ ?_
  refine lv_if_eq (tgt := 16) hx hb dX12_candidates_5 (by decide) (fun c_13 => ?_) (fun c_13 => ?_)
  · have h := it c_13 h
    refine lv_aload_n hx hb dX12_candidates_16 rfl (lv_at hl 0 rfl) ?_
    refine lv_iconst (v := 1) hx hb dX12_candidates_17 (by decide) ?_
    obtain ⟨z_14, e_z_14, h⟩ := bi h
    refine efVi (rest := []) ⟨hx, hb, hml, hown, ht⟩ (c_X12_refuse l D cy fu A_m m_at m_names m_status m_top m_bottom m_sort m_trayMany m_trays m_tape m_text m_taped m_size m_token m_from m_end m_value m_faultKind m_faultPlace m_faults m_seen m_toldParts m_opened m_depth m_counted m_bestOrder m_standers m_has m_bestHas m_standerMany m_bestCouples m_bestFondness m_cameTo m_doesStandFirst m_stoodBy m_drawn m_ranSteps m_loops m_ran m_told1 m_isTold m_marks 1 z_14 e_z_14 _ rfl _ rfl) (cV ht mv_X12_refuse tb_1432 rfl rfl ⟨Nat.le_of_ble_eq_true rfl, Nat.le_of_ble_eq_true rfl⟩) hP hS hX [0] rfl rfl rfl rfl rfl rfl hl.1 rfl (Nat.le_of_ble_eq_true rfl) dX12_candidates_18 ⟨Nat.le_of_ble_eq_true rfl, Nat.le_of_ble_eq_true rfl⟩ (fun H locs hP hS => ?_)
    have hP : PD D A [bl_X12 cy A_m m_at m_names z_14.2 m_top m_bottom m_sort m_trayMany m_trays m_tape m_text m_taped m_size m_token m_from m_end m_value m_faultKind m_faultPlace m_faults m_seen m_toldParts m_opened m_depth m_counted m_bestOrder m_standers m_has m_bestHas m_standerMany m_bestCouples m_bestFondness m_cameTo m_doesStandFirst m_stoodBy m_drawn m_ranSteps m_loops m_ran m_told1 m_isTold m_marks] H := hP
    cases h
    subst hW1
    exact W.iret hx hb hr (fun _ ht9 _ => ⟨⟨_, (), rfl, rfl, hPt ht9 hP.1⟩, hS.F ht9⟩) hS.2.2 dX12_candidates_21
  · have h := ie c_13 h
    refine lv_iload_n hx hb dX12_candidates_8 rfl (lv_at hl 2 rfl) ?_
    refine lv_i2l (v := Int32.toInt64 x2) hx hb dX12_candidates_9 rfl ?_
    obtain ⟨z_15, e_z_15, h⟩ := bi h
    refine roSi (rest := []) ⟨hx, hb, hml, hown, ht⟩ (c_X12_isSize l D cy fu  (Int32.toInt64 x2) z_15 e_z_15) (cS ht ms_X12_isSize tb_1571 rfl rfl ⟨Nat.le_of_ble_eq_true rfl, Nat.le_of_ble_eq_true rfl⟩) (P_sub hP.1 [] rfl) hX rfl hl.1 rfl (Nat.le_of_ble_eq_true rfl) dX12_candidates_10 ⟨Nat.le_of_ble_eq_true rfl, Nat.le_of_ble_eq_true rfl⟩ ?_
    refine lv_if_ne (tgt := 22) hx hb dX12_candidates_13 (by decide) (fun c_16 => ?_) (fun c_16 => ?_)
    · have h := ie c_16 h
      refine lv_aload_n hx hb dX12_candidates_22 rfl (lv_at hl 0 rfl) ?_
      refine lv_iload_n hx hb dX12_candidates_23 rfl (lv_at hl 1 rfl) ?_
      obtain ⟨z_17, e_z_17, h⟩ := bi h
      refine roVi (rest := []) ⟨hx, hb, hml, hown, ht⟩ (c_X12_isAlive l D cy fu A_m m_at m_names m_status m_top m_bottom m_sort m_trayMany m_trays m_tape m_text m_taped m_size m_token m_from m_end m_value m_faultKind m_faultPlace m_faults m_seen m_toldParts m_opened m_depth m_counted m_bestOrder m_standers m_has m_bestHas m_standerMany m_bestCouples m_bestFondness m_cameTo m_doesStandFirst m_stoodBy m_drawn m_ranSteps m_loops m_ran m_told1 m_isTold m_marks x1 z_17 e_z_17) (cV ht mv_X12_isAlive tb_1531 rfl rfl ⟨Nat.le_of_ble_eq_true rfl, Nat.le_of_ble_eq_true rfl⟩) (P_sub hP.1 [0] rfl) hX rfl rfl rfl hl.1 rfl (Nat.le_of_ble_eq_true rfl) dX12_candidates_24 ⟨Nat.le_of_ble_eq_true rfl, Nat.le_of_ble_eq_true rfl⟩ ?_
      refine lv_if_eq (tgt := 43) hx hb dX12_candidates_27 (by decide) (fun c_18 => ?_) (fun c_18 => ?_)
      · have h := it c_18 h
        refine lv_aload_n hx hb dX12_candidates_43 rfl (lv_at hl 0 rfl) ?_
        refine lv_bipush (v := 7) hx hb dX12_candidates_44 (by decide) ?_
        obtain ⟨z_19, e_z_19, h⟩ := bi h
        refine efVi (rest := []) ⟨hx, hb, hml, hown, ht⟩ (c_X12_refuse l D cy fu A_m m_at m_names m_status m_top m_bottom m_sort m_trayMany m_trays m_tape m_text m_taped m_size m_token m_from m_end m_value m_faultKind m_faultPlace m_faults m_seen m_toldParts m_opened m_depth m_counted m_bestOrder m_standers m_has m_bestHas m_standerMany m_bestCouples m_bestFondness m_cameTo m_doesStandFirst m_stoodBy m_drawn m_ranSteps m_loops m_ran m_told1 m_isTold m_marks 7 z_19 e_z_19 _ rfl _ rfl) (cV ht mv_X12_refuse tb_1432 rfl rfl ⟨Nat.le_of_ble_eq_true rfl, Nat.le_of_ble_eq_true rfl⟩) hP hS hX [0] rfl rfl rfl rfl rfl rfl hl.1 rfl (Nat.le_of_ble_eq_true rfl) dX12_candidates_46 ⟨Nat.le_of_ble_eq_true rfl, Nat.le_of_ble_eq_true rfl⟩ (fun H locs hP hS => ?_)
        have hP : PD D A [bl_X12 cy A_m m_at m_names z_19.2 m_top m_bottom m_sort m_trayMany m_trays m_tape m_text m_taped m_size m_token m_from m_end m_value m_faultKind m_faultPlace m_faults m_seen m_toldParts m_opened m_depth m_counted m_bestOrder m_standers m_has m_bestHas m_standerMany m_bestCouples m_bestFondness m_cameTo m_doesStandFirst m_stoodBy m_drawn m_ranSteps m_loops m_ran m_told1 m_isTold m_marks] H := hP
        cases h
        subst hW1
        exact W.iret hx hb hr (fun _ ht9 _ => ⟨⟨_, (), rfl, rfl, hPt ht9 hP.1⟩, hS.F ht9⟩) hS.2.2 dX12_candidates_49
      · have h := ie c_18 h
        refine lv_aload_n hx hb dX12_candidates_30 rfl (lv_at hl 0 rfl) ?_
        refine lv_aload_n hx hb dX12_candidates_31 rfl (lv_at hl 0 rfl) ?_
        refine lv_iload_n hx hb dX12_candidates_32 rfl (lv_at hl 1 rfl) ?_
        refine lv_iload_n hx hb dX12_candidates_33 rfl (lv_at hl 2 rfl) ?_
        obtain ⟨z_20, e_z_20, h⟩ := bi h
        refine roVi (rest := [.ref (A_m 0)]) ⟨hx, hb, hml, hown, ht⟩ (c_X12_candidatesOf l D cy fu A_m m_at m_names m_status m_top m_bottom m_sort m_trayMany m_trays m_tape m_text m_taped m_size m_token m_from m_end m_value m_faultKind m_faultPlace m_faults m_seen m_toldParts m_opened m_depth m_counted m_bestOrder m_standers m_has m_bestHas m_standerMany m_bestCouples m_bestFondness m_cameTo m_doesStandFirst m_stoodBy m_drawn m_ranSteps m_loops m_ran m_told1 m_isTold m_marks x1 x2 z_20 e_z_20) (cV ht mv_X12_candidatesOf tb_1594 rfl rfl ⟨Nat.le_of_ble_eq_true rfl, Nat.le_of_ble_eq_true rfl⟩) (P_sub hP.1 [0] rfl) hX rfl rfl rfl hl.1 rfl (Nat.le_of_ble_eq_true rfl) dX12_candidates_34 ⟨Nat.le_of_ble_eq_true rfl, Nat.le_of_ble_eq_true rfl⟩ ?_
        obtain ⟨z_21, e_z_21, h⟩ := bi h
        refine efVi (rest := []) ⟨hx, hb, hml, hown, ht⟩ (c_X12_gives l D cy fu A_m m_at m_names m_status m_top m_bottom m_sort m_trayMany m_trays m_tape m_text m_taped m_size m_token m_from m_end m_value m_faultKind m_faultPlace m_faults m_seen m_toldParts m_opened m_depth m_counted m_bestOrder m_standers m_has m_bestHas m_standerMany m_bestCouples m_bestFondness m_cameTo m_doesStandFirst m_stoodBy m_drawn m_ranSteps m_loops m_ran m_told1 m_isTold m_marks z_20 z_21 e_z_21 _ rfl _ rfl) (cV ht mv_X12_gives tb_1499 rfl rfl ⟨Nat.le_of_ble_eq_true rfl, Nat.le_of_ble_eq_true rfl⟩) hP hS hX [0] rfl rfl rfl rfl rfl rfl hl.1 rfl (Nat.le_of_ble_eq_true rfl) dX12_candidates_37 ⟨Nat.le_of_ble_eq_true rfl, Nat.le_of_ble_eq_true rfl⟩ (fun H locs hP hS => ?_)
        have hP : PD D A [bl_X12 cy A_m m_at m_names z_21.2 m_top m_bottom m_sort m_trayMany m_trays m_tape m_text m_taped m_size m_token m_from m_end m_value m_faultKind m_faultPlace m_faults m_seen m_toldParts m_opened m_depth m_counted m_bestOrder m_standers m_has m_bestHas m_standerMany m_bestCouples m_bestFondness m_cameTo m_doesStandFirst m_stoodBy m_drawn m_ranSteps m_loops m_ran m_told1 m_isTold m_marks] H := hP
        refine lv_goto (tgt := 49) hx hb dX12_candidates_40 (by decide) ?_
        cases h
        subst hW1
        exact W.iret hx hb hr (fun _ ht9 _ => ⟨⟨_, (), rfl, rfl, hPt ht9 hP.1⟩, hS.F ht9⟩) hS.2.2 dX12_candidates_49
    · have h := it c_16 h
      refine lv_aload_n hx hb dX12_candidates_16 rfl (lv_at hl 0 rfl) ?_
      refine lv_iconst (v := 1) hx hb dX12_candidates_17 (by decide) ?_
      obtain ⟨z_22, e_z_22, h⟩ := bi h
      refine efVi (rest := []) ⟨hx, hb, hml, hown, ht⟩ (c_X12_refuse l D cy fu A_m m_at m_names m_status m_top m_bottom m_sort m_trayMany m_trays m_tape m_text m_taped m_size m_token m_from m_end m_value m_faultKind m_faultPlace m_faults m_seen m_toldParts m_opened m_depth m_counted m_bestOrder m_standers m_has m_bestHas m_standerMany m_bestCouples m_bestFondness m_cameTo m_doesStandFirst m_stoodBy m_drawn m_ranSteps m_loops m_ran m_told1 m_isTold m_marks 1 z_22 e_z_22 _ rfl _ rfl) (cV ht mv_X12_refuse tb_1432 rfl rfl ⟨Nat.le_of_ble_eq_true rfl, Nat.le_of_ble_eq_true rfl⟩) hP hS hX [0] rfl rfl rfl rfl rfl rfl hl.1 rfl (Nat.le_of_ble_eq_true rfl) dX12_candidates_18 ⟨Nat.le_of_ble_eq_true rfl, Nat.le_of_ble_eq_true rfl⟩ (fun H locs hP hS => ?_)
      have hP : PD D A [bl_X12 cy A_m m_at m_names z_22.2 m_top m_bottom m_sort m_trayMany m_trays m_tape m_text m_taped m_size m_token m_from m_end m_value m_faultKind m_faultPlace m_faults m_seen m_toldParts m_opened m_depth m_counted m_bestOrder m_standers m_has m_bestHas m_standerMany m_bestCouples m_bestFondness m_cameTo m_doesStandFirst m_stoodBy m_drawn m_ranSteps m_loops m_ran m_told1 m_isTold m_marks] H := hP
      cases h
      subst hW1
      exact W.iret hx hb hr (fun _ ht9 _ => ⟨⟨_, (), rfl, rfl, hPt ht9 hP.1⟩, hS.F ht9⟩) hS.2.2 dX12_candidates_21
theorem dX12_voteOf_0 : decode cX12_voteOf 0 = .ok (.aload_n 0, 1) := by decide +kernel
theorem dX12_voteOf_1 : decode cX12_voteOf 1 = .ok (.iload_n 1, 1) := by decide +kernel
theorem dX12_voteOf_2 : decode cX12_voteOf 2 = .ok (.invokevirtual 241, 3) := by decide +kernel
theorem dX12_voteOf_5 : decode cX12_voteOf 5 = .ok (.ifCond .eq 19, 3) := by decide +kernel
theorem dX12_voteOf_8 : decode cX12_voteOf 8 = .ok (.aload_n 0, 1) := by decide +kernel
theorem dX12_voteOf_9 : decode cX12_voteOf 9 = .ok (.iload_n 2, 1) := by decide +kernel
theorem dX12_voteOf_10 : decode cX12_voteOf 10 = .ok (.invokevirtual 241, 3) := by decide +kernel
theorem dX12_voteOf_13 : decode cX12_voteOf 13 = .ok (.ifCond .eq 11, 3) := by decide +kernel
theorem dX12_voteOf_16 : decode cX12_voteOf 16 = .ok (.iload_n 3, 1) := by decide +kernel
theorem dX12_voteOf_17 : decode cX12_voteOf 17 = .ok (.i2l, 1) := by decide +kernel
theorem dX12_voteOf_18 : decode cX12_voteOf 18 = .ok (.invokestatic 292, 3) := by decide +kernel
theorem dX12_voteOf_21 : decode cX12_voteOf 21 = .ok (.ifCond .ne 9, 3) := by decide +kernel
theorem dX12_voteOf_24 : decode cX12_voteOf 24 = .ok (.aload_n 0, 1) := by decide +kernel
theorem dX12_voteOf_25 : decode cX12_voteOf 25 = .ok (.iconst 1, 1) := by decide +kernel
theorem dX12_voteOf_26 : decode cX12_voteOf 26 = .ok (.invokevirtual 85, 3) := by decide +kernel
theorem dX12_voteOf_29 : decode cX12_voteOf 29 = .ok (.ireturn, 1) := by decide +kernel
theorem dX12_voteOf_30 : decode cX12_voteOf 30 = .ok (.aload_n 0, 1) := by decide +kernel
theorem dX12_voteOf_31 : decode cX12_voteOf 31 = .ok (.iload_n 1, 1) := by decide +kernel
theorem dX12_voteOf_32 : decode cX12_voteOf 32 = .ok (.invokevirtual 253, 3) := by decide +kernel
theorem dX12_voteOf_35 : decode cX12_voteOf 35 = .ok (.ifCond .eq 11, 3) := by decide +kernel
theorem dX12_voteOf_38 : decode cX12_voteOf 38 = .ok (.aload_n 0, 1) := by decide +kernel
theorem dX12_voteOf_39 : decode cX12_voteOf 39 = .ok (.iload_n 2, 1) := by decide +kernel
theorem dX12_voteOf_40 : decode cX12_voteOf 40 = .ok (.invokevirtual 253, 3) := by decide +kernel
theorem dX12_voteOf_43 : decode cX12_voteOf 43 = .ok (.ifCond .ne 10, 3) := by decide +kernel
theorem dX12_voteOf_46 : decode cX12_voteOf 46 = .ok (.aload_n 0, 1) := by decide +kernel
theorem dX12_voteOf_47 : decode cX12_voteOf 47 = .ok (.bipush 7, 2) := by decide +kernel
theorem dX12_voteOf_49 : decode cX12_voteOf 49 = .ok (.invokevirtual 85, 3) := by decide +kernel
theorem dX12_voteOf_52 : decode cX12_voteOf 52 = .ok (.ireturn, 1) := by decide +kernel
theorem dX12_voteOf_53 : decode cX12_voteOf 53 = .ok (.aload_n 0, 1) := by decide +kernel
theorem dX12_voteOf_54 : decode cX12_voteOf 54 = .ok (.aload_n 0, 1) := by decide +kernel
theorem dX12_voteOf_55 : decode cX12_voteOf 55 = .ok (.iload_n 1, 1) := by decide +kernel
theorem dX12_voteOf_56 : decode cX12_voteOf 56 = .ok (.aload_n 0, 1) := by decide +kernel
theorem dX12_voteOf_57 : decode cX12_voteOf 57 = .ok (.iload_n 2, 1) := by decide +kernel
theorem dX12_voteOf_58 : decode cX12_voteOf 58 = .ok (.iload_n 3, 1) := by decide +kernel
theorem dX12_voteOf_59 : decode cX12_voteOf 59 = .ok (.invokevirtual 280, 3) := by decide +kernel
theorem dX12_voteOf_62 : decode cX12_voteOf 62 = .ok (.invokevirtual 277, 3) := by decide +kernel
theorem dX12_voteOf_65 : decode cX12_voteOf 65 = .ok (.invokevirtual 318, 3) := by decide +kernel
theorem dX12_voteOf_68 : decode cX12_voteOf 68 = .ok (.ireturn, 1) := by decide +kernel
theorem mv_X12_voteOf : MV yX12_voteOf RX12 cX12_voteOf 4 (some .int) 3 := ⟨tb_1678, tb_1676, tb_1677, tb_16, by decide +kernel, by decide +kernel, by decide +kernel⟩
def f_X12_voteOf (fu : Nat) (m_at : Nat → Int32) (m_status : Int32) (x1 : Int32) (x2 : Int32) (x3 : Int32) : Option (Int32 × Int32) := (f_X12_isMan fu m_at x1).bind fun z_19 => (if z_19 = 0 then (f_X12_refuse fu m_status 1).bind fun z_21 => some (z_21.1, z_21.2) else (f_X12_isMan fu m_at x2).bind fun z_22 => (if z_22 = 0 then (f_X12_refuse fu m_status 1).bind fun z_24 => some (z_24.1, z_24.2) else (f_X12_isSize fu (Int32.toInt64 x3)).bind fun z_25 => (if z_25 = 0 then (f_X12_refuse fu m_status 1).bind fun z_36 => some (z_36.1, z_36.2) else (f_X12_isAlive fu m_at x1).bind fun z_27 => (if z_27 = 0 then (f_X12_refuse fu m_status 7).bind fun z_29 => some (z_29.1, z_29.2) else (f_X12_isAlive fu m_at x2).bind fun z_30 => (if z_30 = 0 then (f_X12_refuse fu m_status 7).bind fun z_35 => some (z_35.1, z_35.2) else (f_X12_candidatesOf fu m_at x2 x3).bind fun z_32 => (f_X12_voteBy fu m_at x1 z_32).bind fun z_33 => (f_X12_orNone fu m_status z_33).bind fun z_34 => some (z_34.1, z_34.2))))))
abbrev rm_X12_voteOf : Room := { frames := 5, cells := 0, slots := 0, locals := 109 }
set_option maxHeartbeats 4000000 in
set_option maxRecDepth 100000 in
theorem c_X12_voteOf (l : Launch) (D : va_G) (cy : Nat → ClassId) (fu : Nat) (A_m : Nat → Nat) (m_at : Nat → Int32) (m_names : Nat → Int64) (m_status : Int32) (m_top : Int64) (m_bottom : Int64) (m_sort : Nat → Int32) (m_trayMany : Nat → Int32) (m_trays : Nat → Int64) (m_tape : Nat → Int32) (m_text : Nat → Int32) (m_taped : Int32) (m_size : Int32) (m_token : Int32) (m_from : Int32) (m_end : Int32) (m_value : Int32) (m_faultKind : Int32) (m_faultPlace : Int32) (m_faults : Int32) (m_seen : Int32) (m_toldParts : Int32) (m_opened : Nat → Int32) (m_depth : Int32) (m_counted : Int32) (m_bestOrder : Int32) (m_standers : Nat → Int32) (m_has : Nat → Int32) (m_bestHas : Nat → Int32) (m_standerMany : Int32) (m_bestCouples : Int32) (m_bestFondness : Int32) (m_cameTo : Nat → Int32) (m_doesStandFirst : Int32) (m_stoodBy : Nat → Int64) (m_drawn : Int32) (m_ranSteps : Int32) (m_loops : Nat → Int32) (m_ran : Nat → Int32) (m_told1 : Nat → Int32) (m_isTold : Int32) (m_marks : Int32) (x1 : Int32) (x2 : Int32) (x3 : Int32) (res : Int32 × Int32) (h : f_X12_voteOf fu m_at m_status x1 x2 x3 = some res) (A : Nat → Prop) (hA : A = adr [bl_X12 cy A_m m_at m_names m_status m_top m_bottom m_sort m_trayMany m_trays m_tape m_text m_taped m_size m_token m_from m_end m_value m_faultKind m_faultPlace m_faults m_seen m_toldParts m_opened m_depth m_counted m_bestOrder m_standers m_has m_bestHas m_standerMany m_bestCouples m_bestFondness m_cameTo m_doesStandFirst m_stoodBy m_drawn m_ranSteps m_loops m_ran m_told1 m_isTold m_marks]) (W1 : List va_W) (hW1 : W1 = [bl_X12 cy A_m m_at m_names res.2 m_top m_bottom m_sort m_trayMany m_trays m_tape m_text m_taped m_size m_token m_from m_end m_value m_faultKind m_faultPlace m_faults m_seen m_toldParts m_opened m_depth m_counted m_bestOrder m_standers m_has m_bestHas m_standerMany m_bestCouples m_bestFondness m_cameTo m_doesStandFirst m_stoodBy m_drawn m_ranSteps m_loops m_ran m_told1 m_isTold m_marks]) : Met l yX12_voteOf (WW yX12_voteOf cX12_voteOf 4 (some .int)) rm_X12_voteOf (Ed D cy [.ref (A_m 0), .int x1, .int x2, .int x3] [bl_X12 cy A_m m_at m_names m_status m_top m_bottom m_sort m_trayMany m_trays m_tape m_text m_taped m_size m_token m_from m_end m_value m_faultKind m_faultPlace m_faults m_seen m_toldParts m_opened m_depth m_counted m_bestOrder m_standers m_has m_bestHas m_standerMany m_bestCouples m_bestFondness m_cameTo m_doesStandFirst m_stoodBy m_drawn m_ranSteps m_loops m_ran m_told1 m_isTold m_marks]) (Qei D res.1 A W1) 0 0 A := by
  refine Met.ofW (cc := cX12_voteOf) (maxL := 4) (ret := (some .int)) (by decide) rfl ?_
  intro p e s m args below meth c s₁ B hml hv
  obtain ⟨hargs, hP, hX, hD0⟩ := hv
  have hx := B.exec
  have hb := B.bytes
  have hr := B.returns
  have ht : ∀ w ∈ lw_gd, w.before args s = true := fun w hw => atoms_spec (ws := WW yX12_voteOf cX12_voteOf 4 (some .int)) B.pre w (List.mem_cons_of_mem _ hw)
  have hown : s.vm.findClass RX12 = some m.cls := findClass_of_methodNamed B.named
  have hlocks := B.notSynchronized
  have hP : PD D A [bl_X12 cy A_m m_at m_names m_status m_top m_bottom m_sort m_trayMany m_trays m_tape m_text m_taped m_size m_token m_from m_end m_value m_faultKind m_faultPlace m_faults m_seen m_toldParts m_opened m_depth m_counted m_bestOrder m_standers m_has m_bestHas m_standerMany m_bestCouples m_bestFondness m_cameTo m_doesStandFirst m_stoodBy m_drawn m_ranSteps m_loops m_ran m_told1 m_isTold m_marks] s.heap := ⟨hP, by rw [hA]; exact hD0.own⟩
  have hS : va_S A s.heap s.heap [] := va_S.rf
  obtain ⟨ls, hl, hent⟩ := ent (m := m) (n := 4) hargs (Nat.le_of_ble_eq_true rfl) (lv := [(0, .ref (A_m 0)), (1, .int x1), (2, .int x2), (3, .int x3)]) rfl
  rw [hent]
  clear hent
  unfold f_X12_voteOf at h
  refine lv_aload_n hx hb dX12_voteOf_0 rfl (lv_at hl 0 rfl) ?_
  refine lv_iload_n hx hb dX12_voteOf_1 rfl (lv_at hl 1 rfl) ?_
  obtain ⟨z_19, e_z_19, h⟩ := bi h
  refine roVi (rest := []) ⟨hx, hb, hml, hown, ht⟩ (c_X12_isMan l D cy fu A_m m_at m_names m_status m_top m_bottom m_sort m_trayMany m_trays m_tape m_text m_taped m_size m_token m_from m_end m_value m_faultKind m_faultPlace m_faults m_seen m_toldParts m_opened m_depth m_counted m_bestOrder m_standers m_has m_bestHas m_standerMany m_bestCouples m_bestFondness m_cameTo m_doesStandFirst m_stoodBy m_drawn m_ranSteps m_loops m_ran m_told1 m_isTold m_marks x1 z_19 e_z_19) (cV ht mv_X12_isMan tb_1551 rfl rfl ⟨Nat.le_of_ble_eq_true rfl, Nat.le_of_ble_eq_true rfl⟩) (P_sub hP.1 [0] rfl) hX rfl rfl rfl hl.1 rfl (Nat.le_of_ble_eq_true rfl) dX12_voteOf_2 ⟨Nat.le_of_ble_eq_true rfl, Nat.le_of_ble_eq_true rfl⟩ ?_
  refine lv_if_eq (tgt := 24) hx hb dX12_voteOf_5 (by decide) (fun c_20 => ?_) (fun c_20 => ?_)
  · have h := it c_20 h
    refine lv_aload_n hx hb dX12_voteOf_24 rfl (lv_at hl 0 rfl) ?_
    refine lv_iconst (v := 1) hx hb dX12_voteOf_25 (by decide) ?_
    obtain ⟨z_21, e_z_21, h⟩ := bi h
    refine efVi (rest := []) ⟨hx, hb, hml, hown, ht⟩ (c_X12_refuse l D cy fu A_m m_at m_names m_status m_top m_bottom m_sort m_trayMany m_trays m_tape m_text m_taped m_size m_token m_from m_end m_value m_faultKind m_faultPlace m_faults m_seen m_toldParts m_opened m_depth m_counted m_bestOrder m_standers m_has m_bestHas m_standerMany m_bestCouples m_bestFondness m_cameTo m_doesStandFirst m_stoodBy m_drawn m_ranSteps m_loops m_ran m_told1 m_isTold m_marks 1 z_21 e_z_21 _ rfl _ rfl) (cV ht mv_X12_refuse tb_1432 rfl rfl ⟨Nat.le_of_ble_eq_true rfl, Nat.le_of_ble_eq_true rfl⟩) hP hS hX [0] rfl rfl rfl rfl rfl rfl hl.1 rfl (Nat.le_of_ble_eq_true rfl) dX12_voteOf_26 ⟨Nat.le_of_ble_eq_true rfl, Nat.le_of_ble_eq_true rfl⟩ (fun H locs hP hS => ?_)
    have hP : PD D A [bl_X12 cy A_m m_at m_names z_21.2 m_top m_bottom m_sort m_trayMany m_trays m_tape m_text m_taped m_size m_token m_from m_end m_value m_faultKind m_faultPlace m_faults m_seen m_toldParts m_opened m_depth m_counted m_bestOrder m_standers m_has m_bestHas m_standerMany m_bestCouples m_bestFondness m_cameTo m_doesStandFirst m_stoodBy m_drawn m_ranSteps m_loops m_ran m_told1 m_isTold m_marks] H := hP
    cases h
    subst hW1
    exact W.iret hx hb hr (fun _ ht9 _ => ⟨⟨_, (), rfl, rfl, hPt ht9 hP.1⟩, hS.F ht9⟩) hS.2.2 dX12_voteOf_29
  · have h := ie c_20 h
    refine lv_aload_n hx hb dX12_voteOf_8 rfl (lv_at hl 0 rfl) ?_
    refine lv_iload_n hx hb dX12_voteOf_9 rfl (lv_at hl 2 rfl) ?_
    obtain ⟨z_22, e_z_22, h⟩ := bi h
    refine roVi (rest := []) ⟨hx, hb, hml, hown, ht⟩ (c_X12_isMan l D cy fu A_m m_at m_names m_status m_top m_bottom m_sort m_trayMany m_trays m_tape m_text m_taped m_size m_token m_from m_end m_value m_faultKind m_faultPlace m_faults m_seen m_toldParts m_opened m_depth m_counted m_bestOrder m_standers m_has m_bestHas m_standerMany m_bestCouples m_bestFondness m_cameTo m_doesStandFirst m_stoodBy m_drawn m_ranSteps m_loops m_ran m_told1 m_isTold m_marks x2 z_22 e_z_22) (cV ht mv_X12_isMan tb_1551 rfl rfl ⟨Nat.le_of_ble_eq_true rfl, Nat.le_of_ble_eq_true rfl⟩) (P_sub hP.1 [0] rfl) hX rfl rfl rfl hl.1 rfl (Nat.le_of_ble_eq_true rfl) dX12_voteOf_10 ⟨Nat.le_of_ble_eq_true rfl, Nat.le_of_ble_eq_true rfl⟩ ?_
    refine lv_if_eq (tgt := 24) hx hb dX12_voteOf_13 (by decide) (fun c_23 => ?_) (fun c_23 => ?_)
    · have h := it c_23 h
      refine lv_aload_n hx hb dX12_voteOf_24 rfl (lv_at hl 0 rfl) ?_
      refine lv_iconst (v := 1) hx hb dX12_voteOf_25 (by decide) ?_
      obtain ⟨z_24, e_z_24, h⟩ := bi h
      refine efVi (rest := []) ⟨hx, hb, hml, hown, ht⟩ (c_X12_refuse l D cy fu A_m m_at m_names m_status m_top m_bottom m_sort m_trayMany m_trays m_tape m_text m_taped m_size m_token m_from m_end m_value m_faultKind m_faultPlace m_faults m_seen m_toldParts m_opened m_depth m_counted m_bestOrder m_standers m_has m_bestHas m_standerMany m_bestCouples m_bestFondness m_cameTo m_doesStandFirst m_stoodBy m_drawn m_ranSteps m_loops m_ran m_told1 m_isTold m_marks 1 z_24 e_z_24 _ rfl _ rfl) (cV ht mv_X12_refuse tb_1432 rfl rfl ⟨Nat.le_of_ble_eq_true rfl, Nat.le_of_ble_eq_true rfl⟩) hP hS hX [0] rfl rfl rfl rfl rfl rfl hl.1 rfl (Nat.le_of_ble_eq_true rfl) dX12_voteOf_26 ⟨Nat.le_of_ble_eq_true rfl, Nat.le_of_ble_eq_true rfl⟩ (fun H locs hP hS => ?_)
      have hP : PD D A [bl_X12 cy A_m m_at m_names z_24.2 m_top m_bottom m_sort m_trayMany m_trays m_tape m_text m_taped m_size m_token m_from m_end m_value m_faultKind m_faultPlace m_faults m_seen m_toldParts m_opened m_depth m_counted m_bestOrder m_standers m_has m_bestHas m_standerMany m_bestCouples m_bestFondness m_cameTo m_doesStandFirst m_stoodBy m_drawn m_ranSteps m_loops m_ran m_told1 m_isTold m_marks] H := hP
      cases h
      subst hW1
      exact W.iret hx hb hr (fun _ ht9 _ => ⟨⟨_, (), rfl, rfl, hPt ht9 hP.1⟩, hS.F ht9⟩) hS.2.2 dX12_voteOf_29
    · have h := ie c_23 h
      refine lv_iload_n hx hb dX12_voteOf_16 rfl (lv_at hl 3 rfl) ?_
      refine lv_i2l (v := Int32.toInt64 x3) hx hb dX12_voteOf_17 rfl ?_
      obtain ⟨z_25, e_z_25, h⟩ := bi h
      refine roSi (rest := []) ⟨hx, hb, hml, hown, ht⟩ (c_X12_isSize l D cy fu  (Int32.toInt64 x3) z_25 e_z_25) (cS ht ms_X12_isSize tb_1571 rfl rfl ⟨Nat.le_of_ble_eq_true rfl, Nat.le_of_ble_eq_true rfl⟩) (P_sub hP.1 [] rfl) hX rfl hl.1 rfl (Nat.le_of_ble_eq_true rfl) dX12_voteOf_18 ⟨Nat.le_of_ble_eq_true rfl, Nat.le_of_ble_eq_true rfl⟩ ?_
      refine lv_if_ne (tgt := 30) hx hb dX12_voteOf_21 (by decide) (fun c_26 => ?_) (fun c_26 => ?_)
      · have h := ie c_26 h
        refine lv_aload_n hx hb dX12_voteOf_30 rfl (lv_at hl 0 rfl) ?_
        refine lv_iload_n hx hb dX12_voteOf_31 rfl (lv_at hl 1 rfl) ?_
        obtain ⟨z_27, e_z_27, h⟩ := bi h
        refine roVi (rest := []) ⟨hx, hb, hml, hown, ht⟩ (c_X12_isAlive l D cy fu A_m m_at m_names m_status m_top m_bottom m_sort m_trayMany m_trays m_tape m_text m_taped m_size m_token m_from m_end m_value m_faultKind m_faultPlace m_faults m_seen m_toldParts m_opened m_depth m_counted m_bestOrder m_standers m_has m_bestHas m_standerMany m_bestCouples m_bestFondness m_cameTo m_doesStandFirst m_stoodBy m_drawn m_ranSteps m_loops m_ran m_told1 m_isTold m_marks x1 z_27 e_z_27) (cV ht mv_X12_isAlive tb_1531 rfl rfl ⟨Nat.le_of_ble_eq_true rfl, Nat.le_of_ble_eq_true rfl⟩) (P_sub hP.1 [0] rfl) hX rfl rfl rfl hl.1 rfl (Nat.le_of_ble_eq_true rfl) dX12_voteOf_32 ⟨Nat.le_of_ble_eq_true rfl, Nat.le_of_ble_eq_true rfl⟩ ?_
        refine lv_if_eq (tgt := 46) hx hb dX12_voteOf_35 (by decide) (fun c_28 => ?_) (fun c_28 => ?_)
        · have h := it c_28 h
          refine lv_aload_n hx hb dX12_voteOf_46 rfl (lv_at hl 0 rfl) ?_
          refine lv_bipush (v := 7) hx hb dX12_voteOf_47 (by decide) ?_
          obtain ⟨z_29, e_z_29, h⟩ := bi h
          refine efVi (rest := []) ⟨hx, hb, hml, hown, ht⟩ (c_X12_refuse l D cy fu A_m m_at m_names m_status m_top m_bottom m_sort m_trayMany m_trays m_tape m_text m_taped m_size m_token m_from m_end m_value m_faultKind m_faultPlace m_faults m_seen m_toldParts m_opened m_depth m_counted m_bestOrder m_standers m_has m_bestHas m_standerMany m_bestCouples m_bestFondness m_cameTo m_doesStandFirst m_stoodBy m_drawn m_ranSteps m_loops m_ran m_told1 m_isTold m_marks 7 z_29 e_z_29 _ rfl _ rfl) (cV ht mv_X12_refuse tb_1432 rfl rfl ⟨Nat.le_of_ble_eq_true rfl, Nat.le_of_ble_eq_true rfl⟩) hP hS hX [0] rfl rfl rfl rfl rfl rfl hl.1 rfl (Nat.le_of_ble_eq_true rfl) dX12_voteOf_49 ⟨Nat.le_of_ble_eq_true rfl, Nat.le_of_ble_eq_true rfl⟩ (fun H locs hP hS => ?_)
          have hP : PD D A [bl_X12 cy A_m m_at m_names z_29.2 m_top m_bottom m_sort m_trayMany m_trays m_tape m_text m_taped m_size m_token m_from m_end m_value m_faultKind m_faultPlace m_faults m_seen m_toldParts m_opened m_depth m_counted m_bestOrder m_standers m_has m_bestHas m_standerMany m_bestCouples m_bestFondness m_cameTo m_doesStandFirst m_stoodBy m_drawn m_ranSteps m_loops m_ran m_told1 m_isTold m_marks] H := hP
          cases h
          subst hW1
          exact W.iret hx hb hr (fun _ ht9 _ => ⟨⟨_, (), rfl, rfl, hPt ht9 hP.1⟩, hS.F ht9⟩) hS.2.2 dX12_voteOf_52
        · have h := ie c_28 h
          refine lv_aload_n hx hb dX12_voteOf_38 rfl (lv_at hl 0 rfl) ?_
          refine lv_iload_n hx hb dX12_voteOf_39 rfl (lv_at hl 2 rfl) ?_
          obtain ⟨z_30, e_z_30, h⟩ := bi h
          refine roVi (rest := []) ⟨hx, hb, hml, hown, ht⟩ (c_X12_isAlive l D cy fu A_m m_at m_names m_status m_top m_bottom m_sort m_trayMany m_trays m_tape m_text m_taped m_size m_token m_from m_end m_value m_faultKind m_faultPlace m_faults m_seen m_toldParts m_opened m_depth m_counted m_bestOrder m_standers m_has m_bestHas m_standerMany m_bestCouples m_bestFondness m_cameTo m_doesStandFirst m_stoodBy m_drawn m_ranSteps m_loops m_ran m_told1 m_isTold m_marks x2 z_30 e_z_30) (cV ht mv_X12_isAlive tb_1531 rfl rfl ⟨Nat.le_of_ble_eq_true rfl, Nat.le_of_ble_eq_true rfl⟩) (P_sub hP.1 [0] rfl) hX rfl rfl rfl hl.1 rfl (Nat.le_of_ble_eq_true rfl) dX12_voteOf_40 ⟨Nat.le_of_ble_eq_true rfl, Nat.le_of_ble_eq_true rfl⟩ ?_
          refine lv_if_ne (tgt := 53) hx hb dX12_voteOf_43 (by decide) (fun c_31 => ?_) (fun c_31 => ?_)
          · have h := ie c_31 h
            refine lv_aload_n hx hb dX12_voteOf_53 rfl (lv_at hl 0 rfl) ?_
            refine lv_aload_n hx hb dX12_voteOf_54 rfl (lv_at hl 0 rfl) ?_
            refine lv_iload_n hx hb dX12_voteOf_55 rfl (lv_at hl 1 rfl) ?_
            refine lv_aload_n hx hb dX12_voteOf_56 rfl (lv_at hl 0 rfl) ?_
            refine lv_iload_n hx hb dX12_voteOf_57 rfl (lv_at hl 2 rfl) ?_
            refine lv_iload_n hx hb dX12_voteOf_58 rfl (lv_at hl 3 rfl) ?_
            obtain ⟨z_32, e_z_32, h⟩ := bi h
            refine roVi (rest := [.int x1, .ref (A_m 0), .ref (A_m 0)]) ⟨hx, hb, hml, hown, ht⟩ (c_X12_candidatesOf l D cy fu A_m m_at m_names m_status m_top m_bottom m_sort m_trayMany m_trays m_tape m_text m_taped m_size m_token m_from m_end m_value m_faultKind m_faultPlace m_faults m_seen m_toldParts m_opened m_depth m_counted m_bestOrder m_standers m_has m_bestHas m_standerMany m_bestCouples m_bestFondness m_cameTo m_doesStandFirst m_stoodBy m_drawn m_ranSteps m_loops m_ran m_told1 m_isTold m_marks x2 x3 z_32 e_z_32) (cV ht mv_X12_candidatesOf tb_1594 rfl rfl ⟨Nat.le_of_ble_eq_true rfl, Nat.le_of_ble_eq_true rfl⟩) (P_sub hP.1 [0] rfl) hX rfl rfl rfl hl.1 rfl (Nat.le_of_ble_eq_true rfl) dX12_voteOf_59 ⟨Nat.le_of_ble_eq_true rfl, Nat.le_of_ble_eq_true rfl⟩ ?_
            obtain ⟨z_33, e_z_33, h⟩ := bi h
            refine roVi (rest := [.ref (A_m 0)]) ⟨hx, hb, hml, hown, ht⟩ (c_X12_voteBy l D cy fu A_m m_at m_names m_status m_top m_bottom m_sort m_trayMany m_trays m_tape m_text m_taped m_size m_token m_from m_end m_value m_faultKind m_faultPlace m_faults m_seen m_toldParts m_opened m_depth m_counted m_bestOrder m_standers m_has m_bestHas m_standerMany m_bestCouples m_bestFondness m_cameTo m_doesStandFirst m_stoodBy m_drawn m_ranSteps m_loops m_ran m_told1 m_isTold m_marks x1 z_32 z_33 e_z_33) (cV ht mv_X12_voteBy tb_1606 rfl rfl ⟨Nat.le_of_ble_eq_true rfl, Nat.le_of_ble_eq_true rfl⟩) (P_sub hP.1 [0] rfl) hX rfl rfl rfl hl.1 rfl (Nat.le_of_ble_eq_true rfl) dX12_voteOf_62 ⟨Nat.le_of_ble_eq_true rfl, Nat.le_of_ble_eq_true rfl⟩ ?_
            obtain ⟨z_34, e_z_34, h⟩ := bi h
            refine efVi (rest := []) ⟨hx, hb, hml, hown, ht⟩ (c_X12_orNone l D cy fu A_m m_at m_names m_status m_top m_bottom m_sort m_trayMany m_trays m_tape m_text m_taped m_size m_token m_from m_end m_value m_faultKind m_faultPlace m_faults m_seen m_toldParts m_opened m_depth m_counted m_bestOrder m_standers m_has m_bestHas m_standerMany m_bestCouples m_bestFondness m_cameTo m_doesStandFirst m_stoodBy m_drawn m_ranSteps m_loops m_ran m_told1 m_isTold m_marks z_33 z_34 e_z_34 _ rfl _ rfl) (cV ht mv_X12_orNone tb_1679 rfl rfl ⟨Nat.le_of_ble_eq_true rfl, Nat.le_of_ble_eq_true rfl⟩) hP hS hX [0] rfl rfl rfl rfl rfl rfl hl.1 rfl (Nat.le_of_ble_eq_true rfl) dX12_voteOf_65 ⟨Nat.le_of_ble_eq_true rfl, Nat.le_of_ble_eq_true rfl⟩ (fun H locs hP hS => ?_)
            have hP : PD D A [bl_X12 cy A_m m_at m_names z_34.2 m_top m_bottom m_sort m_trayMany m_trays m_tape m_text m_taped m_size m_token m_from m_end m_value m_faultKind m_faultPlace m_faults m_seen m_toldParts m_opened m_depth m_counted m_bestOrder m_standers m_has m_bestHas m_standerMany m_bestCouples m_bestFondness m_cameTo m_doesStandFirst m_stoodBy m_drawn m_ranSteps m_loops m_ran m_told1 m_isTold m_marks] H := hP
            cases h
            subst hW1
            exact W.iret hx hb hr (fun _ ht9 _ => ⟨⟨_, (), rfl, rfl, hPt ht9 hP.1⟩, hS.F ht9⟩) hS.2.2 dX12_voteOf_68
          · have h := it c_31 h
            refine lv_aload_n hx hb dX12_voteOf_46 rfl (lv_at hl 0 rfl) ?_
            refine lv_bipush (v := 7) hx hb dX12_voteOf_47 (by decide) ?_
            obtain ⟨z_35, e_z_35, h⟩ := bi h
            refine efVi (rest := []) ⟨hx, hb, hml, hown, ht⟩ (c_X12_refuse l D cy fu A_m m_at m_names m_status m_top m_bottom m_sort m_trayMany m_trays m_tape m_text m_taped m_size m_token m_from m_end m_value m_faultKind m_faultPlace m_faults m_seen m_toldParts m_opened m_depth m_counted m_bestOrder m_standers m_has m_bestHas m_standerMany m_bestCouples m_bestFondness m_cameTo m_doesStandFirst m_stoodBy m_drawn m_ranSteps m_loops m_ran m_told1 m_isTold m_marks 7 z_35 e_z_35 _ rfl _ rfl) (cV ht mv_X12_refuse tb_1432 rfl rfl ⟨Nat.le_of_ble_eq_true rfl, Nat.le_of_ble_eq_true rfl⟩) hP hS hX [0] rfl rfl rfl rfl rfl rfl hl.1 rfl (Nat.le_of_ble_eq_true rfl) dX12_voteOf_49 ⟨Nat.le_of_ble_eq_true rfl, Nat.le_of_ble_eq_true rfl⟩ (fun H locs hP hS => ?_)
            have hP : PD D A [bl_X12 cy A_m m_at m_names z_35.2 m_top m_bottom m_sort m_trayMany m_trays m_tape m_text m_taped m_size m_token m_from m_end m_value m_faultKind m_faultPlace m_faults m_seen m_toldParts m_opened m_depth m_counted m_bestOrder m_standers m_has m_bestHas m_standerMany m_bestCouples m_bestFondness m_cameTo m_doesStandFirst m_stoodBy m_drawn m_ranSteps m_loops m_ran m_told1 m_isTold m_marks] H := hP
            cases h
            subst hW1
            exact W.iret hx hb hr (fun _ ht9 _ => ⟨⟨_, (), rfl, rfl, hPt ht9 hP.1⟩, hS.F ht9⟩) hS.2.2 dX12_voteOf_52
      · have h := it c_26 h
        refine lv_aload_n hx hb dX12_voteOf_24 rfl (lv_at hl 0 rfl) ?_
        refine lv_iconst (v := 1) hx hb dX12_voteOf_25 (by decide) ?_
        obtain ⟨z_36, e_z_36, h⟩ := bi h
        refine efVi (rest := []) ⟨hx, hb, hml, hown, ht⟩ (c_X12_refuse l D cy fu A_m m_at m_names m_status m_top m_bottom m_sort m_trayMany m_trays m_tape m_text m_taped m_size m_token m_from m_end m_value m_faultKind m_faultPlace m_faults m_seen m_toldParts m_opened m_depth m_counted m_bestOrder m_standers m_has m_bestHas m_standerMany m_bestCouples m_bestFondness m_cameTo m_doesStandFirst m_stoodBy m_drawn m_ranSteps m_loops m_ran m_told1 m_isTold m_marks 1 z_36 e_z_36 _ rfl _ rfl) (cV ht mv_X12_refuse tb_1432 rfl rfl ⟨Nat.le_of_ble_eq_true rfl, Nat.le_of_ble_eq_true rfl⟩) hP hS hX [0] rfl rfl rfl rfl rfl rfl hl.1 rfl (Nat.le_of_ble_eq_true rfl) dX12_voteOf_26 ⟨Nat.le_of_ble_eq_true rfl, Nat.le_of_ble_eq_true rfl⟩ (fun H locs hP hS => ?_)
        have hP : PD D A [bl_X12 cy A_m m_at m_names z_36.2 m_top m_bottom m_sort m_trayMany m_trays m_tape m_text m_taped m_size m_token m_from m_end m_value m_faultKind m_faultPlace m_faults m_seen m_toldParts m_opened m_depth m_counted m_bestOrder m_standers m_has m_bestHas m_standerMany m_bestCouples m_bestFondness m_cameTo m_doesStandFirst m_stoodBy m_drawn m_ranSteps m_loops m_ran m_told1 m_isTold m_marks] H := hP
        cases h
        subst hW1
        exact W.iret hx hb hr (fun _ ht9 _ => ⟨⟨_, (), rfl, rfl, hPt ht9 hP.1⟩, hS.F ht9⟩) hS.2.2 dX12_voteOf_29
