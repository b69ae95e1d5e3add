theorem dX12_wrongSeen_0 : decode cX12_wrongSeen 0 = .ok (.aload_n 0, 1) := by decide +kernel
theorem dX12_wrongSeen_1 : decode cX12_wrongSeen 1 = .ok (.iload_n 1, 1) := by decide +kernel
theorem dX12_wrongSeen_2 : decode cX12_wrongSeen 2 = .ok (.invokevirtual 241, 3) := by decide +kernel
theorem dX12_wrongSeen_5 : decode cX12_wrongSeen 5 = .ok (.ifCond .eq 22, 3) := by decide +kernel
theorem dX12_wrongSeen_8 : decode cX12_wrongSeen 8 = .ok (.iload_n 2, 1) := by decide +kernel
theorem dX12_wrongSeen_9 : decode cX12_wrongSeen 9 = .ok (.invokestatic 95, 3) := by decide +kernel
theorem dX12_wrongSeen_12 : decode cX12_wrongSeen 12 = .ok (.ifCond .eq 15, 3) := by decide +kernel
theorem dX12_wrongSeen_15 : decode cX12_wrongSeen 15 = .ok (.iload_n 3, 1) := by decide +kernel
theorem dX12_wrongSeen_16 : decode cX12_wrongSeen 16 = .ok (.i2l, 1) := by decide +kernel
theorem dX12_wrongSeen_17 : decode cX12_wrongSeen 17 = .ok (.lconst 0, 1) := by decide +kernel
theorem dX12_wrongSeen_18 : decode cX12_wrongSeen 18 = .ok (.ldc2_w 311, 3) := by decide +kernel
theorem dX12_wrongSeen_21 : decode cX12_wrongSeen 21 = .ok (.invokestatic 246, 3) := by decide +kernel
theorem dX12_wrongSeen_24 : decode cX12_wrongSeen 24 = .ok (.ifCond .ne 5, 3) := by decide +kernel
theorem dX12_wrongSeen_27 : decode cX12_wrongSeen 27 = .ok (.iconst 1, 1) := by decide +kernel
theorem dX12_wrongSeen_28 : decode cX12_wrongSeen 28 = .ok (.ireturn, 1) := by decide +kernel
theorem dX12_wrongSeen_29 : decode cX12_wrongSeen 29 = .ok (.aload_n 0, 1) := by decide +kernel
theorem dX12_wrongSeen_30 : decode cX12_wrongSeen 30 = .ok (.getfield 24, 3) := by decide +kernel
theorem dX12_wrongSeen_33 : decode cX12_wrongSeen 33 = .ok (.iload_n 2, 1) := by decide +kernel
theorem dX12_wrongSeen_34 : decode cX12_wrongSeen 34 = .ok (.iaload, 1) := by decide +kernel
theorem dX12_wrongSeen_35 : decode cX12_wrongSeen 35 = .ok (.iconst (-1), 1) := by decide +kernel
theorem dX12_wrongSeen_36 : decode cX12_wrongSeen 36 = .ok (.if_icmp .ne 5, 3) := by decide +kernel
theorem dX12_wrongSeen_39 : decode cX12_wrongSeen 39 = .ok (.iconst 2, 1) := by decide +kernel
theorem dX12_wrongSeen_40 : decode cX12_wrongSeen 40 = .ok (.ireturn, 1) := by decide +kernel
theorem dX12_wrongSeen_41 : decode cX12_wrongSeen 41 = .ok (.aload_n 0, 1) := by decide +kernel
theorem dX12_wrongSeen_42 : decode cX12_wrongSeen 42 = .ok (.getfield 24, 3) := by decide +kernel
theorem dX12_wrongSeen_45 : decode cX12_wrongSeen 45 = .ok (.iload_n 2, 1) := by decide +kernel
theorem dX12_wrongSeen_46 : decode cX12_wrongSeen 46 = .ok (.iaload, 1) := by decide +kernel
theorem dX12_wrongSeen_47 : decode cX12_wrongSeen 47 = .ok (.iconst 2, 1) := by decide +kernel
theorem dX12_wrongSeen_48 : decode cX12_wrongSeen 48 = .ok (.iload_n 3, 1) := by decide +kernel
theorem dX12_wrongSeen_49 : decode cX12_wrongSeen 49 = .ok (.imul, 1) := by decide +kernel
theorem dX12_wrongSeen_50 : decode cX12_wrongSeen 50 = .ok (.if_icmp .ge 5, 3) := by decide +kernel
theorem dX12_wrongSeen_53 : decode cX12_wrongSeen 53 = .ok (.iconst 3, 1) := by decide +kernel
theorem dX12_wrongSeen_54 : decode cX12_wrongSeen 54 = .ok (.ireturn, 1) := by decide +kernel
theorem dX12_wrongSeen_55 : decode cX12_wrongSeen 55 = .ok (.bipush 60, 2) := by decide +kernel
theorem dX12_wrongSeen_57 : decode cX12_wrongSeen 57 = .ok (.iload_n 2, 1) := by decide +kernel
theorem dX12_wrongSeen_58 : decode cX12_wrongSeen 58 = .ok (.imul, 1) := by decide +kernel
theorem dX12_wrongSeen_59 : decode cX12_wrongSeen 59 = .ok (.istore 4, 2) := by decide +kernel
theorem dX12_wrongSeen_61 : decode cX12_wrongSeen 61 = .ok (.iconst 0, 1) := by decide +kernel
theorem dX12_wrongSeen_62 : decode cX12_wrongSeen 62 = .ok (.istore 5, 2) := by decide +kernel
theorem dX12_wrongSeen_64 : decode cX12_wrongSeen 64 = .ok (.iload 5, 2) := by decide +kernel
theorem dX12_wrongSeen_66 : decode cX12_wrongSeen 66 = .ok (.iload_n 3, 1) := by decide +kernel
theorem dX12_wrongSeen_67 : decode cX12_wrongSeen 67 = .ok (.if_icmp .ge 51, 3) := by decide +kernel
theorem dX12_wrongSeen_70 : decode cX12_wrongSeen 70 = .ok (.aload_n 0, 1) := by decide +kernel
theorem dX12_wrongSeen_71 : decode cX12_wrongSeen 71 = .ok (.getfield 27, 3) := by decide +kernel
theorem dX12_wrongSeen_74 : decode cX12_wrongSeen 74 = .ok (.iload 4, 2) := by decide +kernel
theorem dX12_wrongSeen_76 : decode cX12_wrongSeen 76 = .ok (.iconst 2, 1) := by decide +kernel
theorem dX12_wrongSeen_77 : decode cX12_wrongSeen 77 = .ok (.iload 5, 2) := by decide +kernel
theorem dX12_wrongSeen_79 : decode cX12_wrongSeen 79 = .ok (.imul, 1) := by decide +kernel
theorem dX12_wrongSeen_80 : decode cX12_wrongSeen 80 = .ok (.iadd, 1) := by decide +kernel
theorem dX12_wrongSeen_81 : decode cX12_wrongSeen 81 = .ok (.laload, 1) := by decide +kernel
theorem dX12_wrongSeen_82 : decode cX12_wrongSeen 82 = .ok (.invokestatic 292, 3) := by decide +kernel
theorem dX12_wrongSeen_85 : decode cX12_wrongSeen 85 = .ok (.ifCond .eq 25, 3) := by decide +kernel
theorem dX12_wrongSeen_88 : decode cX12_wrongSeen 88 = .ok (.aload_n 0, 1) := by decide +kernel
theorem dX12_wrongSeen_89 : decode cX12_wrongSeen 89 = .ok (.getfield 27, 3) := by decide +kernel
theorem dX12_wrongSeen_92 : decode cX12_wrongSeen 92 = .ok (.iload 4, 2) := by decide +kernel
theorem dX12_wrongSeen_94 : decode cX12_wrongSeen 94 = .ok (.iconst 2, 1) := by decide +kernel
theorem dX12_wrongSeen_95 : decode cX12_wrongSeen 95 = .ok (.iload 5, 2) := by decide +kernel
theorem dX12_wrongSeen_97 : decode cX12_wrongSeen 97 = .ok (.imul, 1) := by decide +kernel
theorem dX12_wrongSeen_98 : decode cX12_wrongSeen 98 = .ok (.iadd, 1) := by decide +kernel
theorem dX12_wrongSeen_99 : decode cX12_wrongSeen 99 = .ok (.iconst 1, 1) := by decide +kernel
theorem dX12_wrongSeen_100 : decode cX12_wrongSeen 100 = .ok (.iadd, 1) := by decide +kernel
theorem dX12_wrongSeen_101 : decode cX12_wrongSeen 101 = .ok (.laload, 1) := by decide +kernel
theorem dX12_wrongSeen_102 : decode cX12_wrongSeen 102 = .ok (.lconst 0, 1) := by decide +kernel
theorem dX12_wrongSeen_103 : decode cX12_wrongSeen 103 = .ok (.lconst 1, 1) := by decide +kernel
theorem dX12_wrongSeen_104 : decode cX12_wrongSeen 104 = .ok (.invokestatic 246, 3) := by decide +kernel
theorem dX12_wrongSeen_107 : decode cX12_wrongSeen 107 = .ok (.ifCond .ne 5, 3) := by decide +kernel
theorem dX12_wrongSeen_110 : decode cX12_wrongSeen 110 = .ok (.iconst 5, 1) := by decide +kernel
theorem dX12_wrongSeen_111 : decode cX12_wrongSeen 111 = .ok (.ireturn, 1) := by decide +kernel
theorem dX12_wrongSeen_112 : decode cX12_wrongSeen 112 = .ok (.iinc 5 1, 3) := by decide +kernel
theorem dX12_wrongSeen_115 : decode cX12_wrongSeen 115 = .ok (.goto (-51), 3) := by decide +kernel
theorem dX12_wrongSeen_118 : decode cX12_wrongSeen 118 = .ok (.iconst 0, 1) := by decide +kernel
theorem dX12_wrongSeen_119 : decode cX12_wrongSeen 119 = .ok (.ireturn, 1) := by decide +kernel
theorem mv_X12_wrongSeen : MV yX12_wrongSeen RX12 cX12_wrongSeen 6 (some .int) 3 := ⟨tb_1779, tb_1778, ts_99, tb_16, by decide +kernel, by decide +kernel, by decide +kernel⟩
def f_X12_wrongSeen_b64 (fu : Nat) (m_at : Nat → Int32) (m_trayMany : Nat → Int32) (m_trays : Nat → Int64) (x1 : Int32) (x2 : Int32) (x3 : Int32) (k64 : Int32 → Int32 → Option (Int32)) (x4 : Int32) (x5 : Int32) : Option (Int32) := (if x3 ≤ x5 then some (0) else (rdJ m_trays 240 (x4 + (2 * x5))).bind fun y_21 => (f_X12_isSize fu y_21).bind fun z_22 => (if z_22 = 0 then some (5) else (rdJ m_trays 240 ((x4 + (2 * x5)) + 1)).bind fun y_24 => (f_X12_isFrom fu y_24 0 1).bind fun z_25 => (if z_25 = 0 then some (5) else bnd (x5 + 1) fun x5_27 => k64 x4 x5_27)))
def f_X12_wrongSeen_l64 (fu : Nat) (m_at : Nat → Int32) (m_trayMany : Nat → Int32) (m_trays : Nat → Int64) (x1 : Int32) (x2 : Int32) (x3 : Int32) : Nat → Int32 → Int32 → Option (Int32)
  | 0, _, _ => none
  | n + 1, x4, x5 => f_X12_wrongSeen_b64 fu m_at m_trayMany m_trays x1 x2 x3 (f_X12_wrongSeen_l64 fu m_at m_trayMany m_trays x1 x2 x3 n) x4 x5
def f_X12_wrongSeen (fu : Nat) (m_at : Nat → Int32) (m_trayMany : Nat → Int32) (m_trays : Nat → Int64) (x1 : Int32) (x2 : Int32) (x3 : Int32) : Option (Int32) := (f_X12_isMan fu m_at x1).bind fun z_28 => (if z_28 = 0 then some (1) else (f_X12_isTray fu x2).bind fun z_30 => (if z_30 = 0 then some (1) else (f_X12_isFrom fu (Int32.toInt64 x3) 0 20).bind fun z_32 => (if z_32 = 0 then some (1) else (rdI m_trayMany 4 x2).bind fun y_34 => (if y_34 = (-1) then some (2) else (rdI m_trayMany 4 x2).bind fun y_36 => (if (2 * x3) ≤ y_36 then bnd (60 * x2) fun x4_38 => f_X12_wrongSeen_l64 fu m_at m_trayMany m_trays x1 x2 x3 fu x4_38 0 else some (3))))))
abbrev rm_X12_wrongSeen : Room := { frames := 2, cells := 0, slots := 0, locals := 46 }
set_option maxHeartbeats 4000000 in
set_option maxRecDepth 100000 in
theorem c_X12_wrongSeen (l : Launch) (D : va_G) (cy : Nat → ClassId) (fu : Nat) (A_m : Nat → Nat) (m_at : Nat → Int32) (m_names : Nat → Int64) (m_status : Int32) (m_top : Int64) (m_bottom : Int64) (m_sort : Nat → Int32) (m_trayMany : Nat → Int32) (m_trays : Nat → Int64) (m_tape : Nat → Int32) (m_text : Nat → Int32) (m_taped : Int32) (m_size : Int32) (m_token : Int32) (m_from : Int32) (m_end : Int32) (m_value : Int32) (m_faultKind : Int32) (m_faultPlace : Int32) (m_faults : Int32) (m_seen : Int32) (m_toldParts : Int32) (m_opened : Nat → Int32) (m_depth : Int32) (m_counted : Int32) (m_bestOrder : Int32) (m_standers : Nat → Int32) (m_has : Nat → Int32) (m_bestHas : Nat → Int32) (m_standerMany : Int32) (m_bestCouples : Int32) (m_bestFondness : Int32) (m_cameTo : Nat → Int32) (m_doesStandFirst : Int32) (m_stoodBy : Nat → Int64) (m_drawn : Int32) (m_ranSteps : Int32) (m_loops : Nat → Int32) (m_ran : Nat → Int32) (m_told1 : Nat → Int32) (m_isTold : Int32) (m_marks : Int32) (x1 : Int32) (x2 : Int32) (x3 : Int32) (res : Int32) (h : f_X12_wrongSeen fu m_at m_trayMany m_trays x1 x2 x3 = some res) : Met l yX12_wrongSeen (WW yX12_wrongSeen cX12_wrongSeen 6 (some .int)) rm_X12_wrongSeen (Rd D cy [.ref (A_m 0), .int x1, .int x2, .int x3] [bl_X12 cy A_m m_at m_names m_status m_top m_bottom m_sort m_trayMany m_trays m_tape m_text m_taped m_size m_token m_from m_end m_value m_faultKind m_faultPlace m_faults m_seen m_toldParts m_opened m_depth m_counted m_bestOrder m_standers m_has m_bestHas m_standerMany m_bestCouples m_bestFondness m_cameTo m_doesStandFirst m_stoodBy m_drawn m_ranSteps m_loops m_ran m_told1 m_isTold m_marks]) (vp_Si (fun v => v = res)) 0 0 (fun _ => False) := by
  refine Met.ofW (cc := cX12_wrongSeen) (maxL := 6) (ret := (some .int)) (by decide) rfl ?_
  intro p e s m args below meth c s₁ B hml hv
  obtain ⟨hargs, hP, hX⟩ := hv
  have hx := B.exec
  have hb := B.bytes
  have hr := B.returns
  have ht : ∀ w ∈ lw_gd, w.before args s = true := fun w hw => atoms_spec (ws := WW yX12_wrongSeen cX12_wrongSeen 6 (some .int)) B.pre w (List.mem_cons_of_mem _ hw)
  have hown : s.vm.findClass RX12 = some m.cls := findClass_of_methodNamed B.named
  have hlocks := B.notSynchronized
  have hP : PB D [bl_X12 cy A_m m_at m_names m_status m_top m_bottom m_sort m_trayMany m_trays m_tape m_text m_taped m_size m_token m_from m_end m_value m_faultKind m_faultPlace m_faults m_seen m_toldParts m_opened m_depth m_counted m_bestOrder m_standers m_has m_bestHas m_standerMany m_bestCouples m_bestFondness m_cameTo m_doesStandFirst m_stoodBy m_drawn m_ranSteps m_loops m_ran m_told1 m_isTold m_marks] s.heap := hP
  obtain ⟨ls, hl, hent⟩ := ent (m := m) (n := 6) hargs (Nat.le_of_ble_eq_true rfl) (lv := [(0, .ref (A_m 0)), (1, .int x1), (2, .int x2), (3, .int x3)]) rfl
  rw [hent]
  clear hent
  have l64 : ∀ (n64 : Nat) (x4 : Int32) (x5 : Int32) (ls : Array Slot), lv_has ls 6 [(0, .ref (A_m 0)), (3, .int x3), (4, .int x4), (5, .int x5)] → f_X12_wrongSeen_l64 fu m_at m_trayMany m_trays x1 x2 x3 n64 x4 x5 = some res → W p l e (headSpec (WW yX12_wrongSeen cX12_wrongSeen 6 (some .int)) rm_X12_wrongSeen).room s m args below meth c s.heap [] 0 0 (MQ below (vp_Si (fun v => v = res)) args s 0 0 (fun _ => False)) (F0 m 64 ls []) := by
    intro n64
    induction n64 with
    | zero => intro x4 x5 ls hl h; cases h
    | succ n64 ih64 =>
      intro x4 x5 ls hl h
      have h : f_X12_wrongSeen_b64 fu m_at m_trayMany m_trays x1 x2 x3 (f_X12_wrongSeen_l64 fu m_at m_trayMany m_trays x1 x2 x3 n64) x4 x5 = some res := h
      unfold f_X12_wrongSeen_b64 at h
      refine lv_iload hx hb dX12_wrongSeen_64 (lv_at hl 3 rfl) ?_
      refine lv_iload_n hx hb dX12_wrongSeen_66 rfl (lv_at hl 1 rfl) ?_
      refine lv_icmp_ge (tgt := 118) hx hb dX12_wrongSeen_67 (by decide) (fun c_20 => ?_) (fun c_20 => ?_)
      · have h := it c_20 h
        refine lv_iconst (v := 0) hx hb dX12_wrongSeen_118 (by decide) ?_
        cases h
        exact W.iret hx hb hr (fun _ ht9 _ => ⟨_, rfl, rfl, ht9⟩) (fun _ hq => by cases hq) dX12_wrongSeen_119
      · have h := ie c_20 h
        refine lv_aload_n hx hb dX12_wrongSeen_70 rfl (lv_at hl 0 rfl) ?_
        refine xget (i := 0) (j := 0) (k := 7) (T := TX12) hx hb ht tb_iX12 hown hX hP rfl rfl rfl (by decide) tb_1236 rfl dX12_wrongSeen_71 ?_
        refine lv_iload hx hb dX12_wrongSeen_74 (lv_at hl 2 rfl) ?_
        refine lv_iconst (v := 2) hx hb dX12_wrongSeen_76 (by decide) ?_
        refine lv_iload hx hb dX12_wrongSeen_77 (lv_at hl 3 rfl) ?_
        refine lv_imul hx hb dX12_wrongSeen_79 ?_
        refine lv_iadd hx hb dX12_wrongSeen_80 ?_
        obtain ⟨y_21, e_y_21, h⟩ := bi h
        refine xlald (i0 := 0) (j0 := 5) hx hb hX hP rfl rfl e_y_21 dX12_wrongSeen_81 ?_
        obtain ⟨z_22, e_z_22, h⟩ := bi h
        refine roSi (rest := []) ⟨hx, hb, hml, hown, ht⟩ (c_X12_isSize l D cy fu  y_21 z_22 e_z_22) (cS ht ms_X12_isSize tb_1571 rfl rfl ⟨Nat.le_of_ble_eq_true rfl, Nat.le_of_ble_eq_true rfl⟩) (P_sub hP [] rfl) hX rfl hl.1 rfl (Nat.le_of_ble_eq_true rfl) dX12_wrongSeen_82 ⟨Nat.le_of_ble_eq_true rfl, Nat.le_of_ble_eq_true rfl⟩ ?_
        refine lv_if_eq (tgt := 110) hx hb dX12_wrongSeen_85 (by decide) (fun c_23 => ?_) (fun c_23 => ?_)
        · have h := it c_23 h
          refine lv_iconst (v := 5) hx hb dX12_wrongSeen_110 (by decide) ?_
          cases h
          exact W.iret hx hb hr (fun _ ht9 _ => ⟨_, rfl, rfl, ht9⟩) (fun _ hq => by cases hq) dX12_wrongSeen_111
        · have h := ie c_23 h
          refine lv_aload_n hx hb dX12_wrongSeen_88 rfl (lv_at hl 0 rfl) ?_
          refine xget (i := 0) (j := 0) (k := 7) (T := TX12) hx hb ht tb_iX12 hown hX hP rfl rfl rfl (by decide) tb_1236 rfl dX12_wrongSeen_89 ?_
          refine lv_iload hx hb dX12_wrongSeen_92 (lv_at hl 2 rfl) ?_
          refine lv_iconst (v := 2) hx hb dX12_wrongSeen_94 (by decide) ?_
          refine lv_iload hx hb dX12_wrongSeen_95 (lv_at hl 3 rfl) ?_
          refine lv_imul hx hb dX12_wrongSeen_97 ?_
          refine lv_iadd hx hb dX12_wrongSeen_98 ?_
          refine lv_iconst (v := 1) hx hb dX12_wrongSeen_99 (by decide) ?_
          refine lv_iadd hx hb dX12_wrongSeen_100 ?_
          obtain ⟨y_24, e_y_24, h⟩ := bi h
          refine xlald (i0 := 0) (j0 := 5) hx hb hX hP rfl rfl e_y_24 dX12_wrongSeen_101 ?_
          refine lv_lconst (v := 0) hx hb dX12_wrongSeen_102 (by decide) ?_
          refine lv_lconst (v := 1) hx hb dX12_wrongSeen_103 (by decide) ?_
          obtain ⟨z_25, e_z_25, h⟩ := bi h
          refine roSi (rest := []) ⟨hx, hb, hml, hown, ht⟩ (c_X12_isFrom l D cy fu  y_24 0 1 z_25 e_z_25) (cS ht ms_X12_isFrom tb_1575 rfl rfl ⟨Nat.le_of_ble_eq_true rfl, Nat.le_of_ble_eq_true rfl⟩) (P_sub hP [] rfl) hX rfl hl.1 rfl (Nat.le_of_ble_eq_true rfl) dX12_wrongSeen_104 ⟨Nat.le_of_ble_eq_true rfl, Nat.le_of_ble_eq_true rfl⟩ ?_
          refine lv_if_ne (tgt := 112) hx hb dX12_wrongSeen_107 (by decide) (fun c_26 => ?_) (fun c_26 => ?_)
          · have h := ie c_26 h
            obtain ⟨x5_27, e_x5_27⟩ : ∃ y : Int32, y = x5 + 1 := ⟨_, rfl⟩
            have h := bn e_x5_27 h
            refine lv_iinc (v := x5_27) (lv' := [(5, .int x5_27), (0, .ref (A_m 0)), (3, .int x3), (4, .int x4)]) hx hb dX12_wrongSeen_112 hl (k := 3) rfl (by rw [e_x5_27]; rfl) (by decide) rfl (fun ls hl => ?_)
            refine lv_goto (tgt := 64) hx hb dX12_wrongSeen_115 (by decide) ?_
            exact ih64 x4 x5_27 ls (lv_sub hl [1, 2, 3, 0] rfl) h
          · have h := it c_26 h
            refine lv_iconst (v := 5) hx hb dX12_wrongSeen_110 (by decide) ?_
            cases h
            exact W.iret hx hb hr (fun _ ht9 _ => ⟨_, rfl, rfl, ht9⟩) (fun _ hq => by cases hq) dX12_wrongSeen_111
  unfold f_X12_wrongSeen at h
  refine lv_aload_n hx hb dX12_wrongSeen_0 rfl (lv_at hl 0 rfl) ?_
  refine lv_iload_n hx hb dX12_wrongSeen_1 rfl (lv_at hl 1 rfl) ?_
  obtain ⟨z_28, e_z_28, h⟩ := bi h
  refine roVi (rest := []) ⟨hx, hb, hml, hown, ht⟩ (c_X12_isMan l D cy fu A_m m_at m_names m_status m_top m_bottom m_sort m_trayMany m_trays m_tape m_text m_taped m_size m_token m_from m_end m_value m_faultKind m_faultPlace m_faults m_seen m_toldParts m_opened m_depth m_counted m_bestOrder m_standers m_has m_bestHas m_standerMany m_bestCouples m_bestFondness m_cameTo m_doesStandFirst m_stoodBy m_drawn m_ranSteps m_loops m_ran m_told1 m_isTold m_marks x1 z_28 e_z_28) (cV ht mv_X12_isMan tb_1551 rfl rfl ⟨Nat.le_of_ble_eq_true rfl, Nat.le_of_ble_eq_true rfl⟩) (P_sub hP [0] rfl) hX rfl rfl rfl hl.1 rfl (Nat.le_of_ble_eq_true rfl) dX12_wrongSeen_2 ⟨Nat.le_of_ble_eq_true rfl, Nat.le_of_ble_eq_true rfl⟩ ?_
  refine lv_if_eq (tgt := 27) hx hb dX12_wrongSeen_5 (by decide) (fun c_29 => ?_) (fun c_29 => ?_)
  · have h := it c_29 h
    refine lv_iconst (v := 1) hx hb dX12_wrongSeen_27 (by decide) ?_
    cases h
    exact W.iret hx hb hr (fun _ ht9 _ => ⟨_, rfl, rfl, ht9⟩) (fun _ hq => by cases hq) dX12_wrongSeen_28
  · have h := ie c_29 h
    refine lv_iload_n hx hb dX12_wrongSeen_8 rfl (lv_at hl 2 rfl) ?_
    obtain ⟨z_30, e_z_30, h⟩ := bi h
    refine roSi (rest := []) ⟨hx, hb, hml, hown, ht⟩ (c_X12_isTray l D cy fu  x2 z_30 e_z_30) (cS ht ms_X12_isTray tb_1369 rfl rfl ⟨Nat.le_of_ble_eq_true rfl, Nat.le_of_ble_eq_true rfl⟩) (P_sub hP [] rfl) hX rfl hl.1 rfl (Nat.le_of_ble_eq_true rfl) dX12_wrongSeen_9 ⟨Nat.le_of_ble_eq_true rfl, Nat.le_of_ble_eq_true rfl⟩ ?_
    refine lv_if_eq (tgt := 27) hx hb dX12_wrongSeen_12 (by decide) (fun c_31 => ?_) (fun c_31 => ?_)
    · have h := it c_31 h
      refine lv_iconst (v := 1) hx hb dX12_wrongSeen_27 (by decide) ?_
      cases h
      exact W.iret hx hb hr (fun _ ht9 _ => ⟨_, rfl, rfl, ht9⟩) (fun _ hq => by cases hq) dX12_wrongSeen_28
    · have h := ie c_31 h
      refine lv_iload_n hx hb dX12_wrongSeen_15 rfl (lv_at hl 3 rfl) ?_
      refine lv_i2l (v := Int32.toInt64 x3) hx hb dX12_wrongSeen_16 rfl ?_
      refine lv_lconst (v := 0) hx hb dX12_wrongSeen_17 (by decide) ?_
      refine lv_ldc2 (v := 20) hx hb hown (ht _ tb_1641) dX12_wrongSeen_18 ?_
      obtain ⟨z_32, e_z_32, h⟩ := bi h
      refine roSi (rest := []) ⟨hx, hb, hml, hown, ht⟩ (c_X12_isFrom l D cy fu  (Int32.toInt64 x3) 0 20 z_32 e_z_32) (cS ht ms_X12_isFrom tb_1575 rfl rfl ⟨Nat.le_of_ble_eq_true rfl, Nat.le_of_ble_eq_true rfl⟩) (P_sub hP [] rfl) hX rfl hl.1 rfl (Nat.le_of_ble_eq_true rfl) dX12_wrongSeen_21 ⟨Nat.le_of_ble_eq_true rfl, Nat.le_of_ble_eq_true rfl⟩ ?_
      refine lv_if_ne (tgt := 29) hx hb dX12_wrongSeen_24 (by decide) (fun c_33 => ?_) (fun c_33 => ?_)
      · have h := ie c_33 h
        refine lv_aload_n hx hb dX12_wrongSeen_29 rfl (lv_at hl 0 rfl) ?_
        refine xget (i := 0) (j := 0) (k := 6) (T := TX12) hx hb ht tb_iX12 hown hX hP rfl rfl rfl (by decide) tb_1235 rfl dX12_wrongSeen_30 ?_
        refine lv_iload_n hx hb dX12_wrongSeen_33 rfl (lv_at hl 2 rfl) ?_
        obtain ⟨y_34, e_y_34, h⟩ := bi h
        refine xiald (i0 := 0) (j0 := 4) hx hb hX hP rfl rfl e_y_34 dX12_wrongSeen_34 ?_
        refine lv_iconst (v := (-1)) hx hb dX12_wrongSeen_35 (by decide) ?_
        refine lv_icmp_ne (tgt := 41) hx hb dX12_wrongSeen_36 (by decide) (fun c_35 => ?_) (fun c_35 => ?_)
        · have h := ie c_35 h
          refine lv_aload_n hx hb dX12_wrongSeen_41 rfl (lv_at hl 0 rfl) ?_
          refine xget (i := 0) (j := 0) (k := 6) (T := TX12) hx hb ht tb_iX12 hown hX hP rfl rfl rfl (by decide) tb_1235 rfl dX12_wrongSeen_42 ?_
          refine lv_iload_n hx hb dX12_wrongSeen_45 rfl (lv_at hl 2 rfl) ?_
          obtain ⟨y_36, e_y_36, h⟩ := bi h
          refine xiald (i0 := 0) (j0 := 4) hx hb hX hP rfl rfl e_y_36 dX12_wrongSeen_46 ?_
          refine lv_iconst (v := 2) hx hb dX12_wrongSeen_47 (by decide) ?_
          refine lv_iload_n hx hb dX12_wrongSeen_48 rfl (lv_at hl 3 rfl) ?_
          refine lv_imul hx hb dX12_wrongSeen_49 ?_
          refine lv_icmp_ge (tgt := 55) hx hb dX12_wrongSeen_50 (by decide) (fun c_37 => ?_) (fun c_37 => ?_)
          · have h := it c_37 h
            refine lv_bipush (v := 60) hx hb dX12_wrongSeen_55 (by decide) ?_
            refine lv_iload_n hx hb dX12_wrongSeen_57 rfl (lv_at hl 2 rfl) ?_
            refine lv_imul hx hb dX12_wrongSeen_58 ?_
            refine lv_topi (fun x4_38 e_x4_38 => ?_)
            have h := bn e_x4_38 h
            refine lv_istore (lv' := [(4, .int x4_38), (0, .ref (A_m 0)), (1, .int x1), (2, .int x2), (3, .int x3)]) hx hb dX12_wrongSeen_59 hl (by decide) rfl (fun ls hl => ?_)
            refine lv_iconst (v := 0) hx hb dX12_wrongSeen_61 (by decide) ?_
            refine lv_istore (lv' := [(5, .int 0), (4, .int x4_38), (0, .ref (A_m 0)), (1, .int x1), (2, .int x2), (3, .int x3)]) hx hb dX12_wrongSeen_62 hl (by decide) rfl (fun ls hl => ?_)
            exact l64 fu x4_38 0 ls (lv_sub hl [2, 5, 1, 0] rfl) h
          · have h := ie c_37 h
            refine lv_iconst (v := 3) hx hb dX12_wrongSeen_53 (by decide) ?_
            cases h
            exact W.iret hx hb hr (fun _ ht9 _ => ⟨_, rfl, rfl, ht9⟩) (fun _ hq => by cases hq) dX12_wrongSeen_54
        · have h := it c_35 h
          refine lv_iconst (v := 2) hx hb dX12_wrongSeen_39 (by decide) ?_
          cases h
          exact W.iret hx hb hr (fun _ ht9 _ => ⟨_, rfl, rfl, ht9⟩) (fun _ hq => by cases hq) dX12_wrongSeen_40
      · have h := it c_33 h
        refine lv_iconst (v := 1) hx hb dX12_wrongSeen_27 (by decide) ?_
        cases h
        exact W.iret hx hb hr (fun _ ht9 _ => ⟨_, rfl, rfl, ht9⟩) (fun _ hq => by cases hq) dX12_wrongSeen_28
theorem dX12_wouldStand_0 : decode cX12_wouldStand 0 = .ok (.bipush 99, 2) := by decide +kernel
theorem dX12_wouldStand_2 : decode cX12_wouldStand 2 = .ok (.iload_n 1, 1) := by decide +kernel
theorem dX12_wouldStand_3 : decode cX12_wouldStand 3 = .ok (.aload_n 0, 1) := by decide +kernel
theorem dX12_wouldStand_4 : decode cX12_wouldStand 4 = .ok (.getfield 7, 3) := by decide +kernel
theorem dX12_wouldStand_7 : decode cX12_wouldStand 7 = .ok (.iconst 1, 1) := by decide +kernel
theorem dX12_wouldStand_8 : decode cX12_wouldStand 8 = .ok (.iaload, 1) := by decide +kernel
theorem dX12_wouldStand_9 : decode cX12_wouldStand 9 = .ok (.aload_n 0, 1) := by decide +kernel
theorem dX12_wouldStand_10 : decode cX12_wouldStand 10 = .ok (.iload_n 2, 1) := by decide +kernel
theorem dX12_wouldStand_11 : decode cX12_wouldStand 11 = .ok (.iconst 2, 1) := by decide +kernel
theorem dX12_wouldStand_12 : decode cX12_wouldStand 12 = .ok (.invokevirtual 250, 3) := by decide +kernel
theorem dX12_wouldStand_15 : decode cX12_wouldStand 15 = .ok (.imul, 1) := by decide +kernel
theorem dX12_wouldStand_16 : decode cX12_wouldStand 16 = .ok (.iadd, 1) := by decide +kernel
theorem dX12_wouldStand_17 : decode cX12_wouldStand 17 = .ok (.invokestatic 139, 3) := by decide +kernel
theorem dX12_wouldStand_20 : decode cX12_wouldStand 20 = .ok (.iload_n 3, 1) := by decide +kernel
theorem dX12_wouldStand_21 : decode cX12_wouldStand 21 = .ok (.if_icmp .lt 7, 3) := by decide +kernel
theorem dX12_wouldStand_24 : decode cX12_wouldStand 24 = .ok (.iconst 1, 1) := by decide +kernel
theorem dX12_wouldStand_25 : decode cX12_wouldStand 25 = .ok (.goto 4, 3) := by decide +kernel
theorem dX12_wouldStand_28 : decode cX12_wouldStand 28 = .ok (.iconst 0, 1) := by decide +kernel
theorem dX12_wouldStand_29 : decode cX12_wouldStand 29 = .ok (.ireturn, 1) := by decide +kernel
theorem mv_X12_wouldStand : MV yX12_wouldStand RX12 cX12_wouldStand 4 (some .boolean) 3 := ⟨tb_1791, tb_1790, ts_102, tb_16, by decide +kernel, by decide +kernel, by decide +kernel⟩
def f_X12_wouldStand (fu : Nat) (m_at : Nat → Int32) (x1 : Int32) (x2 : Int32) (x3 : Int32) : Option (Int32) := (rdI m_at 3648 1).bind fun y_4 => (f_X12_manOf fu m_at x2 2).bind fun z_5 => (if (if (x1 + (y_4 * z_5)) < 99 then (x1 + (y_4 * z_5)) else 99) < x3 then some (0) else some (1))
abbrev rm_X12_wouldStand : Room := { frames := 2, cells := 0, slots := 0, locals := 42 }
set_option maxHeartbeats 4000000 in
set_option maxRecDepth 100000 in
theorem c_X12_wouldStand (l : Launch) (D : va_G) (cy : Nat → ClassId) (fu : Nat) (A_m : Nat → Nat) (m_at : Nat → Int32) (m_names : Nat → Int64) (m_status : Int32) (m_top : Int64) (m_bottom : Int64) (m_sort : Nat → Int32) (m_trayMany : Nat → Int32) (m_trays : Nat → Int64) (m_tape : Nat → Int32) (m_text : Nat → Int32) (m_taped : Int32) (m_size : Int32) (m_token : Int32) (m_from : Int32) (m_end : Int32) (m_value : Int32) (m_faultKind : Int32) (m_faultPlace : Int32) (m_faults : Int32) (m_seen : Int32) (m_toldParts : Int32) (m_opened : Nat → Int32) (m_depth : Int32) (m_counted : Int32) (m_bestOrder : Int32) (m_standers : Nat → Int32) (m_has : Nat → Int32) (m_bestHas : Nat → Int32) (m_standerMany : Int32) (m_bestCouples : Int32) (m_bestFondness : Int32) (m_cameTo : Nat → Int32) (m_doesStandFirst : Int32) (m_stoodBy : Nat → Int64) (m_drawn : Int32) (m_ranSteps : Int32) (m_loops : Nat → Int32) (m_ran : Nat → Int32) (m_told1 : Nat → Int32) (m_isTold : Int32) (m_marks : Int32) (x1 : Int32) (x2 : Int32) (x3 : Int32) (res : Int32) (h : f_X12_wouldStand fu m_at x1 x2 x3 = some res) : Met l yX12_wouldStand (WW yX12_wouldStand cX12_wouldStand 4 (some .boolean)) rm_X12_wouldStand (Rd D cy [.ref (A_m 0), .int x1, .int x2, .int x3] [bl_X12 cy A_m m_at m_names m_status m_top m_bottom m_sort m_trayMany m_trays m_tape m_text m_taped m_size m_token m_from m_end m_value m_faultKind m_faultPlace m_faults m_seen m_toldParts m_opened m_depth m_counted m_bestOrder m_standers m_has m_bestHas m_standerMany m_bestCouples m_bestFondness m_cameTo m_doesStandFirst m_stoodBy m_drawn m_ranSteps m_loops m_ran m_told1 m_isTold m_marks]) (vp_Si (fun v => v = res)) 0 0 (fun _ => False) := by
  refine Met.ofW (cc := cX12_wouldStand) (maxL := 4) (ret := (some .boolean)) (by decide) rfl ?_
  intro p e s m args below meth c s₁ B hml hv
  obtain ⟨hargs, hP, hX⟩ := hv
  have hx := B.exec
  have hb := B.bytes
  have hr := B.returns
  have ht : ∀ w ∈ lw_gd, w.before args s = true := fun w hw => atoms_spec (ws := WW yX12_wouldStand cX12_wouldStand 4 (some .boolean)) B.pre w (List.mem_cons_of_mem _ hw)
  have hown : s.vm.findClass RX12 = some m.cls := findClass_of_methodNamed B.named
  have hlocks := B.notSynchronized
  have hP : PB D [bl_X12 cy A_m m_at m_names m_status m_top m_bottom m_sort m_trayMany m_trays m_tape m_text m_taped m_size m_token m_from m_end m_value m_faultKind m_faultPlace m_faults m_seen m_toldParts m_opened m_depth m_counted m_bestOrder m_standers m_has m_bestHas m_standerMany m_bestCouples m_bestFondness m_cameTo m_doesStandFirst m_stoodBy m_drawn m_ranSteps m_loops m_ran m_told1 m_isTold m_marks] s.heap := hP
  obtain ⟨ls, hl, hent⟩ := ent (m := m) (n := 4) hargs (Nat.le_of_ble_eq_true rfl) (lv := [(0, .ref (A_m 0)), (1, .int x1), (2, .int x2), (3, .int x3)]) rfl
  rw [hent]
  clear hent
  unfold f_X12_wouldStand at h
  refine lv_bipush (v := 99) hx hb dX12_wouldStand_0 (by decide) ?_
  refine lv_iload_n hx hb dX12_wouldStand_2 rfl (lv_at hl 1 rfl) ?_
  refine lv_aload_n hx hb dX12_wouldStand_3 rfl (lv_at hl 0 rfl) ?_
  refine xget (i := 0) (j := 0) (k := 0) (T := TX12) hx hb ht tb_iX12 hown hX hP rfl rfl rfl (by decide) tb_1229 rfl dX12_wouldStand_4 ?_
  refine lv_iconst (v := 1) hx hb dX12_wouldStand_7 (by decide) ?_
  obtain ⟨y_4, e_y_4, h⟩ := bi h
  refine xiald (i0 := 0) (j0 := 1) hx hb hX hP rfl rfl e_y_4 dX12_wouldStand_8 ?_
  refine lv_aload_n hx hb dX12_wouldStand_9 rfl (lv_at hl 0 rfl) ?_
  refine lv_iload_n hx hb dX12_wouldStand_10 rfl (lv_at hl 2 rfl) ?_
  refine lv_iconst (v := 2) hx hb dX12_wouldStand_11 (by decide) ?_
  obtain ⟨z_5, e_z_5, h⟩ := bi h
  refine roVi (rest := [.int y_4, .int x1, .int 99]) ⟨hx, hb, hml, hown, ht⟩ (c_X12_manOf l D cy fu A_m m_at m_names m_status m_top m_bottom m_sort m_trayMany m_trays m_tape m_text m_taped m_size m_token m_from m_end m_value m_faultKind m_faultPlace m_faults m_seen m_toldParts m_opened m_depth m_counted m_bestOrder m_standers m_has m_bestHas m_standerMany m_bestCouples m_bestFondness m_cameTo m_doesStandFirst m_stoodBy m_drawn m_ranSteps m_loops m_ran m_told1 m_isTold m_marks x2 2 z_5 e_z_5) (cV ht mv_X12_manOf tb_1535 rfl rfl ⟨Nat.le_of_ble_eq_true rfl, Nat.le_of_ble_eq_true rfl⟩) (P_sub hP [0] rfl) hX rfl rfl rfl hl.1 rfl (Nat.le_of_ble_eq_true rfl) dX12_wouldStand_12 ⟨Nat.le_of_ble_eq_true rfl, Nat.le_of_ble_eq_true rfl⟩ ?_
  refine lv_imul hx hb dX12_wouldStand_15 ?_
  refine lv_iadd hx hb dX12_wouldStand_16 ?_
  refine va_mmin hx hb (hml.trans hl.1.symm) hown (ht _ tb_1431) (ht _ tb_583) (ht _ tb_19) (ht _ tb_584) (Nat.le_of_ble_eq_true rfl) (Nat.le_of_ble_eq_true rfl) (Nat.le_of_ble_eq_true rfl) (Nat.le_of_ble_eq_true rfl) dX12_wouldStand_17 ?_
  refine lv_iload_n hx hb dX12_wouldStand_20 rfl (lv_at hl 3 rfl) ?_
  refine lv_icmp_lt (tgt := 28) hx hb dX12_wouldStand_21 (by decide) (fun c_6 => ?_) (fun c_6 => ?_)
  · have h := it c_6 h
    refine lv_iconst (v := 0) hx hb dX12_wouldStand_28 (by decide) ?_
    cases h
    exact W.zret hx hb hr rfl (fun _ ht9 _ => ⟨_, rfl, rfl, ht9⟩) (fun _ hq => by cases hq) dX12_wouldStand_29
  · have h := ie c_6 h
    refine lv_iconst (v := 1) hx hb dX12_wouldStand_24 (by decide) ?_
    refine lv_goto (tgt := 29) hx hb dX12_wouldStand_25 (by decide) ?_
    cases h
    exact W.zret hx hb hr rfl (fun _ ht9 _ => ⟨_, rfl, rfl, ht9⟩) (fun _ hq => by cases hq) dX12_wouldStand_29
theorem dX12_fits_0 : decode cX12_fits 0 = .ok (.bipush 60, 2) := by decide +kernel
theorem dX12_fits_2 : decode cX12_fits 2 = .ok (.iload_n 3, 1) := by decide +kernel
theorem dX12_fits_3 : decode cX12_fits 3 = .ok (.imul, 1) := by decide +kernel
theorem dX12_fits_4 : decode cX12_fits 4 = .ok (.istore 5, 2) := by decide +kernel
theorem dX12_fits_6 : decode cX12_fits 6 = .ok (.iconst 0, 1) := by decide +kernel
theorem dX12_fits_7 : decode cX12_fits 7 = .ok (.istore 6, 2) := by decide +kernel
theorem dX12_fits_9 : decode cX12_fits 9 = .ok (.iload 6, 2) := by decide +kernel
theorem dX12_fits_11 : decode cX12_fits 11 = .ok (.iload 4, 2) := by decide +kernel
theorem dX12_fits_13 : decode cX12_fits 13 = .ok (.if_icmp .ge 57, 3) := by decide +kernel
theorem dX12_fits_16 : decode cX12_fits 16 = .ok (.aload_n 0, 1) := by decide +kernel
theorem dX12_fits_17 : decode cX12_fits 17 = .ok (.iload_n 1, 1) := by decide +kernel
theorem dX12_fits_18 : decode cX12_fits 18 = .ok (.iload_n 2, 1) := by decide +kernel
theorem dX12_fits_19 : decode cX12_fits 19 = .ok (.aload_n 0, 1) := by decide +kernel
theorem dX12_fits_20 : decode cX12_fits 20 = .ok (.getfield 27, 3) := by decide +kernel
theorem dX12_fits_23 : decode cX12_fits 23 = .ok (.iload 5, 2) := by decide +kernel
theorem dX12_fits_25 : decode cX12_fits 25 = .ok (.iconst 2, 1) := by decide +kernel
theorem dX12_fits_26 : decode cX12_fits 26 = .ok (.iload 6, 2) := by decide +kernel
theorem dX12_fits_28 : decode cX12_fits 28 = .ok (.imul, 1) := by decide +kernel
theorem dX12_fits_29 : decode cX12_fits 29 = .ok (.iadd, 1) := by decide +kernel
theorem dX12_fits_30 : decode cX12_fits 30 = .ok (.laload, 1) := by decide +kernel
theorem dX12_fits_31 : decode cX12_fits 31 = .ok (.l2i, 1) := by decide +kernel
theorem dX12_fits_32 : decode cX12_fits 32 = .ok (.invokevirtual 366, 3) := by decide +kernel
theorem dX12_fits_35 : decode cX12_fits 35 = .ok (.aload_n 0, 1) := by decide +kernel
theorem dX12_fits_36 : decode cX12_fits 36 = .ok (.getfield 27, 3) := by decide +kernel
theorem dX12_fits_39 : decode cX12_fits 39 = .ok (.iload 5, 2) := by decide +kernel
theorem dX12_fits_41 : decode cX12_fits 41 = .ok (.iconst 2, 1) := by decide +kernel
theorem dX12_fits_42 : decode cX12_fits 42 = .ok (.iload 6, 2) := by decide +kernel
theorem dX12_fits_44 : decode cX12_fits 44 = .ok (.imul, 1) := by decide +kernel
theorem dX12_fits_45 : decode cX12_fits 45 = .ok (.iadd, 1) := by decide +kernel
theorem dX12_fits_46 : decode cX12_fits 46 = .ok (.iconst 1, 1) := by decide +kernel
theorem dX12_fits_47 : decode cX12_fits 47 = .ok (.iadd, 1) := by decide +kernel
theorem dX12_fits_48 : decode cX12_fits 48 = .ok (.laload, 1) := by decide +kernel
theorem dX12_fits_49 : decode cX12_fits 49 = .ok (.lconst 1, 1) := by decide +kernel
theorem dX12_fits_50 : decode cX12_fits 50 = .ok (.lcmp, 1) := by decide +kernel
theorem dX12_fits_51 : decode cX12_fits 51 = .ok (.ifCond .ne 7, 3) := by decide +kernel
theorem dX12_fits_54 : decode cX12_fits 54 = .ok (.iconst 1, 1) := by decide +kernel
theorem dX12_fits_55 : decode cX12_fits 55 = .ok (.goto 4, 3) := by decide +kernel
theorem dX12_fits_58 : decode cX12_fits 58 = .ok (.iconst 0, 1) := by decide +kernel
theorem dX12_fits_59 : decode cX12_fits 59 = .ok (.if_icmp .eq 5, 3) := by decide +kernel
theorem dX12_fits_62 : decode cX12_fits 62 = .ok (.iconst 0, 1) := by decide +kernel
theorem dX12_fits_63 : decode cX12_fits 63 = .ok (.ireturn, 1) := by decide +kernel
theorem dX12_fits_64 : decode cX12_fits 64 = .ok (.iinc 6 1, 3) := by decide +kernel
theorem dX12_fits_67 : decode cX12_fits 67 = .ok (.goto (-58), 3) := by decide +kernel
theorem dX12_fits_70 : decode cX12_fits 70 = .ok (.iconst 1, 1) := by decide +kernel
theorem dX12_fits_71 : decode cX12_fits 71 = .ok (.ireturn, 1) := by decide +kernel
theorem mv_X12_fits : MV yX12_fits RX12 cX12_fits 7 (some .boolean) 4 := ⟨tb_1787, tb_1786, ts_101, tb_16, by decide +kernel, by decide +kernel, by decide +kernel⟩
def f_X12_fits_j59 (fu : Nat) (m_at : Nat → Int32) (m_trays : Nat → Int64) (x1 : Int32) (x2 : Int32) (x3 : Int32) (x4 : Int32) (k9 : Int32 → Int32 → Option (Int32)) (x5 : Int32) (x6 : Int32) (s0 : Int32) (s1 : Int32) : Option (Int32) := (if s0 = s1 then bnd (x6 + 1) fun x6_10 => k9 x5 x6_10 else some (0))
def f_X12_fits_b9 (fu : Nat) (m_at : Nat → Int32) (m_trays : Nat → Int64) (x1 : Int32) (x2 : Int32) (x3 : Int32) (x4 : Int32) (k9 : Int32 → Int32 → Option (Int32)) (x5 : Int32) (x6 : Int32) : Option (Int32) := (if x4 ≤ x6 then some (1) else (rdJ m_trays 240 (x5 + (2 * x6))).bind fun y_12 => (f_X12_wouldStand fu m_at x1 x2 (Int64.toInt32 y_12)).bind fun z_13 => (rdJ m_trays 240 ((x5 + (2 * x6)) + 1)).bind fun y_14 => (if (lg_cmp y_14 1) = 0 then f_X12_fits_j59 fu m_at m_trays x1 x2 x3 x4 k9 x5 x6 z_13 1 else f_X12_fits_j59 fu m_at m_trays x1 x2 x3 x4 k9 x5 x6 z_13 0))
def f_X12_fits_l9 (fu : Nat) (m_at : Nat → Int32) (m_trays : Nat → Int64) (x1 : Int32) (x2 : Int32) (x3 : Int32) (x4 : Int32) : Nat → Int32 → Int32 → Option (Int32)
  | 0, _, _ => none
  | n + 1, x5, x6 => f_X12_fits_b9 fu m_at m_trays x1 x2 x3 x4 (f_X12_fits_l9 fu m_at m_trays x1 x2 x3 x4 n) x5 x6
def f_X12_fits (fu : Nat) (m_at : Nat → Int32) (m_trays : Nat → Int64) (x1 : Int32) (x2 : Int32) (x3 : Int32) (x4 : Int32) : Option (Int32) := bnd (60 * x3) fun x5_16 => f_X12_fits_l9 fu m_at m_trays x1 x2 x3 x4 fu x5_16 0
abbrev rm_X12_fits : Room := { frames := 3, cells := 0, slots := 0, locals := 65 }
set_option maxHeartbeats 4000000 in
set_option maxRecDepth 100000 in
theorem c_X12_fits (l : Launch) (D : va_G) (cy : Nat → ClassId) (fu : Nat) (A_m : Nat → Nat) (m_at : Nat → Int32) (m_names : Nat → Int64) (m_status : Int32) (m_top : Int64) (m_bottom : Int64) (m_sort : Nat → Int32) (m_trayMany : Nat → Int32) (m_trays : Nat → Int64) (m_tape : Nat → Int32) (m_text : Nat → Int32) (m_taped : Int32) (m_size : Int32) (m_token : Int32) (m_from : Int32) (m_end : Int32) (m_value : Int32) (m_faultKind : Int32) (m_faultPlace : Int32) (m_faults : Int32) (m_seen : Int32) (m_toldParts : Int32) (m_opened : Nat → Int32) (m_depth : Int32) (m_counted : Int32) (m_bestOrder : Int32) (m_standers : Nat → Int32) (m_has : Nat → Int32) (m_bestHas : Nat → Int32) (m_standerMany : Int32) (m_bestCouples : Int32) (m_bestFondness : Int32) (m_cameTo : Nat → Int32) (m_doesStandFirst : Int32) (m_stoodBy : Nat → Int64) (m_drawn : Int32) (m_ranSteps : Int32) (m_loops : Nat → Int32) (m_ran : Nat → Int32) (m_told1 : Nat → Int32) (m_isTold : Int32) (m_marks : Int32) (x1 : Int32) (x2 : Int32) (x3 : Int32) (x4 : Int32) (res : Int32) (h : f_X12_fits fu m_at m_trays x1 x2 x3 x4 = some res) : Met l yX12_fits (WW yX12_fits cX12_fits 7 (some .boolean)) rm_X12_fits (Rd D cy [.ref (A_m 0), .int x1, .int x2, .int x3, .int x4] [bl_X12 cy A_m m_at m_names m_status m_top m_bottom m_sort m_trayMany m_trays m_tape m_text m_taped m_size m_token m_from m_end m_value m_faultKind m_faultPlace m_faults m_seen m_toldParts m_opened m_depth m_counted m_bestOrder m_standers m_has m_bestHas m_standerMany m_bestCouples m_bestFondness m_cameTo m_doesStandFirst m_stoodBy m_drawn m_ranSteps m_loops m_ran m_told1 m_isTold m_marks]) (vp_Si (fun v => v = res)) 0 0 (fun _ => False) := by
  refine Met.ofW (cc := cX12_fits) (maxL := 7) (ret := (some .boolean)) (by decide) rfl ?_
  intro p e s m args below meth c s₁ B hml hv
  obtain ⟨hargs, hP, hX⟩ := hv
  have hx := B.exec
  have hb := B.bytes
  have hr := B.returns
  have ht : ∀ w ∈ lw_gd, w.before args s = true := fun w hw => atoms_spec (ws := WW yX12_fits cX12_fits 7 (some .boolean)) B.pre w (List.mem_cons_of_mem _ hw)
  have hown : s.vm.findClass RX12 = some m.cls := findClass_of_methodNamed B.named
  have hlocks := B.notSynchronized
  have hP : PB D [bl_X12 cy A_m m_at m_names m_status m_top m_bottom m_sort m_trayMany m_trays m_tape m_text m_taped m_size m_token m_from m_end m_value m_faultKind m_faultPlace m_faults m_seen m_toldParts m_opened m_depth m_counted m_bestOrder m_standers m_has m_bestHas m_standerMany m_bestCouples m_bestFondness m_cameTo m_doesStandFirst m_stoodBy m_drawn m_ranSteps m_loops m_ran m_told1 m_isTold m_marks] s.heap := hP
  obtain ⟨ls, hl, hent⟩ := ent (m := m) (n := 7) hargs (Nat.le_of_ble_eq_true rfl) (lv := [(0, .ref (A_m 0)), (1, .int x1), (2, .int x2), (3, .int x3), (4, .int x4)]) rfl
  rw [hent]
  clear hent
  have l9 : ∀ (n9 : Nat) (x5 : Int32) (x6 : Int32) (ls : Array Slot), lv_has ls 7 [(0, .ref (A_m 0)), (1, .int x1), (2, .int x2), (4, .int x4), (5, .int x5), (6, .int x6)] → f_X12_fits_l9 fu m_at m_trays x1 x2 x3 x4 n9 x5 x6 = some res → W p l e (headSpec (WW yX12_fits cX12_fits 7 (some .boolean)) rm_X12_fits).room s m args below meth c s.heap [] 0 0 (MQ below (vp_Si (fun v => v = res)) args s 0 0 (fun _ => False)) (F0 m 9 ls []) := by
    intro n9
    induction n9 with
    | zero => intro x5 x6 ls hl h; cases h
    | succ n9 ih9 =>
      have j59 : ∀ (x5 : Int32) (x6 : Int32) (s0 : Int32) (s1 : Int32) (ls : Array Slot), lv_has ls 7 [(0, .ref (A_m 0)), (1, .int x1), (2, .int x2), (4, .int x4), (5, .int x5), (6, .int x6)] → f_X12_fits_j59 fu m_at m_trays x1 x2 x3 x4 (f_X12_fits_l9 fu m_at m_trays x1 x2 x3 x4 n9) x5 x6 s0 s1 = some res → W p l e (headSpec (WW yX12_fits cX12_fits 7 (some .boolean)) rm_X12_fits).room s m args below meth c s.heap [] 0 0 (MQ below (vp_Si (fun v => v = res)) args s 0 0 (fun _ => False)) (F0 m 59 ls [.int s1, .int s0]) := by
        intro x5 x6 s0 s1 ls hl h
        unfold f_X12_fits_j59 at h
        refine lv_icmp_eq (tgt := 64) hx hb dX12_fits_59 (by decide) (fun c_9 => ?_) (fun c_9 => ?_)
        · have h := it c_9 h
          obtain ⟨x6_10, e_x6_10⟩ : ∃ y : Int32, y = x6 + 1 := ⟨_, rfl⟩
          have h := bn e_x6_10 h
          refine lv_iinc (v := x6_10) (lv' := [(6, .int x6_10), (0, .ref (A_m 0)), (1, .int x1), (2, .int x2), (4, .int x4), (5, .int x5)]) hx hb dX12_fits_64 hl (k := 5) rfl (by rw [e_x6_10]; rfl) (by decide) rfl (fun ls hl => ?_)
          refine lv_goto (tgt := 9) hx hb dX12_fits_67 (by decide) ?_
          exact ih9 x5 x6_10 ls (lv_sub hl [1, 2, 3, 4, 5, 0] rfl) h
        · have h := ie c_9 h
          refine lv_iconst (v := 0) hx hb dX12_fits_62 (by decide) ?_
          cases h
          exact W.zret hx hb hr rfl (fun _ ht9 _ => ⟨_, rfl, rfl, ht9⟩) (fun _ hq => by cases hq) dX12_fits_63
      intro x5 x6 ls hl h
      have h : f_X12_fits_b9 fu m_at m_trays x1 x2 x3 x4 (f_X12_fits_l9 fu m_at m_trays x1 x2 x3 x4 n9) x5 x6 = some res := h
      unfold f_X12_fits_b9 at h
      refine lv_iload hx hb dX12_fits_9 (lv_at hl 5 rfl) ?_
      refine lv_iload hx hb dX12_fits_11 (lv_at hl 3 rfl) ?_
      refine lv_icmp_ge (tgt := 70) hx hb dX12_fits_13 (by decide) (fun c_11 => ?_) (fun c_11 => ?_)
      · have h := it c_11 h
        refine lv_iconst (v := 1) hx hb dX12_fits_70 (by decide) ?_
        cases h
        exact W.zret hx hb hr rfl (fun _ ht9 _ => ⟨_, rfl, rfl, ht9⟩) (fun _ hq => by cases hq) dX12_fits_71
      · have h := ie c_11 h
        refine lv_aload_n hx hb dX12_fits_16 rfl (lv_at hl 0 rfl) ?_
        refine lv_iload_n hx hb dX12_fits_17 rfl (lv_at hl 1 rfl) ?_
        refine lv_iload_n hx hb dX12_fits_18 rfl (lv_at hl 2 rfl) ?_
        refine lv_aload_n hx hb dX12_fits_19 rfl (lv_at hl 0 rfl) ?_
        refine xget (i := 0) (j := 0) (k := 7) (T := TX12) hx hb ht tb_iX12 hown hX hP rfl rfl rfl (by decide) tb_1236 rfl dX12_fits_20 ?_
        refine lv_iload hx hb dX12_fits_23 (lv_at hl 4 rfl) ?_
        refine lv_iconst (v := 2) hx hb dX12_fits_25 (by decide) ?_
        refine lv_iload hx hb dX12_fits_26 (lv_at hl 5 rfl) ?_
        refine lv_imul hx hb dX12_fits_28 ?_
        refine lv_iadd hx hb dX12_fits_29 ?_
        obtain ⟨y_12, e_y_12, h⟩ := bi h
        refine xlald (i0 := 0) (j0 := 5) hx hb hX hP rfl rfl e_y_12 dX12_fits_30 ?_
        refine lv_l2i (v := Int64.toInt32 y_12) hx hb dX12_fits_31 rfl ?_
        obtain ⟨z_13, e_z_13, h⟩ := bi h
        refine roVi (rest := []) ⟨hx, hb, hml, hown, ht⟩ (c_X12_wouldStand l D cy fu A_m m_at m_names m_status m_top m_bottom m_sort m_trayMany m_trays m_tape m_text m_taped m_size m_token m_from m_end m_value m_faultKind m_faultPlace m_faults m_seen m_toldParts m_opened m_depth m_counted m_bestOrder m_standers m_has m_bestHas m_standerMany m_bestCouples m_bestFondness m_cameTo m_doesStandFirst m_stoodBy m_drawn m_ranSteps m_loops m_ran m_told1 m_isTold m_marks x1 x2 (Int64.toInt32 y_12) z_13 e_z_13) (cV ht mv_X12_wouldStand tb_1788 rfl rfl ⟨Nat.le_of_ble_eq_true rfl, Nat.le_of_ble_eq_true rfl⟩) (P_sub hP [0] rfl) hX rfl rfl rfl hl.1 rfl (Nat.le_of_ble_eq_true rfl) dX12_fits_32 ⟨Nat.le_of_ble_eq_true rfl, Nat.le_of_ble_eq_true rfl⟩ ?_
        refine lv_aload_n hx hb dX12_fits_35 rfl (lv_at hl 0 rfl) ?_
        refine xget (i := 0) (j := 0) (k := 7) (T := TX12) hx hb ht tb_iX12 hown hX hP rfl rfl rfl (by decide) tb_1236 rfl dX12_fits_36 ?_
        refine lv_iload hx hb dX12_fits_39 (lv_at hl 4 rfl) ?_
        refine lv_iconst (v := 2) hx hb dX12_fits_41 (by decide) ?_
        refine lv_iload hx hb dX12_fits_42 (lv_at hl 5 rfl) ?_
        refine lv_imul hx hb dX12_fits_44 ?_
        refine lv_iadd hx hb dX12_fits_45 ?_
        refine lv_iconst (v := 1) hx hb dX12_fits_46 (by decide) ?_
        refine lv_iadd hx hb dX12_fits_47 ?_
        obtain ⟨y_14, e_y_14, h⟩ := bi h
        refine xlald (i0 := 0) (j0 := 5) hx hb hX hP rfl rfl e_y_14 dX12_fits_48 ?_
        refine lv_lconst (v := 1) hx hb dX12_fits_49 (by decide) ?_
        refine W.lcmp hx hb dX12_fits_50 ?_
        refine lv_if_ne (tgt := 58) hx hb dX12_fits_51 (by decide) (fun c_15 => ?_) (fun c_15 => ?_)
        · have h := ie c_15 h
          refine lv_iconst (v := 0) hx hb dX12_fits_58 (by decide) ?_
          exact j59 x5 x6 z_13 0 ls (lv_sub hl [0, 1, 2, 3, 4, 5] rfl) h
        · have h := it c_15 h
          refine lv_iconst (v := 1) hx hb dX12_fits_54 (by decide) ?_
          refine lv_goto (tgt := 59) hx hb dX12_fits_55 (by decide) ?_
          exact j59 x5 x6 z_13 1 ls (lv_sub hl [0, 1, 2, 3, 4, 5] rfl) h
  unfold f_X12_fits at h
  refine lv_bipush (v := 60) hx hb dX12_fits_0 (by decide) ?_
  refine lv_iload_n hx hb dX12_fits_2 rfl (lv_at hl 3 rfl) ?_
  refine lv_imul hx hb dX12_fits_3 ?_
  refine lv_topi (fun x5_16 e_x5_16 => ?_)
  have h := bn e_x5_16 h
  refine lv_istore (lv' := [(5, .int x5_16), (0, .ref (A_m 0)), (1, .int x1), (2, .int x2), (3, .int x3), (4, .int x4)]) hx hb dX12_fits_4 hl (by decide) rfl (fun ls hl => ?_)
  refine lv_iconst (v := 0) hx hb dX12_fits_6 (by decide) ?_
  refine lv_istore (lv' := [(6, .int 0), (5, .int x5_16), (0, .ref (A_m 0)), (1, .int x1), (2, .int x2), (3, .int x3), (4, .int x4)]) hx hb dX12_fits_7 hl (by decide) rfl (fun ls hl => ?_)
  exact l9 fu x5_16 0 ls (lv_sub hl [2, 3, 4, 6, 1, 0] rfl) h
theorem dX12_fitting_0 : decode cX12_fitting 0 = .ok (.iconst 0, 1) := by decide +kernel
theorem dX12_fitting_1 : decode cX12_fitting 1 = .ok (.istore 5, 2) := by decide +kernel
theorem dX12_fitting_3 : decode cX12_fitting 3 = .ok (.iconst 0, 1) := by decide +kernel
theorem dX12_fitting_4 : decode cX12_fitting 4 = .ok (.istore 6, 2) := by decide +kernel
theorem dX12_fitting_6 : decode cX12_fitting 6 = .ok (.iload 6, 2) := by decide +kernel
theorem dX12_fitting_8 : decode cX12_fitting 8 = .ok (.bipush 20, 2) := by decide +kernel
theorem dX12_fitting_10 : decode cX12_fitting 10 = .ok (.if_icmp .gt 43, 3) := by decide +kernel
theorem dX12_fitting_13 : decode cX12_fitting 13 = .ok (.iload 5, 2) := by decide +kernel
theorem dX12_fitting_15 : decode cX12_fitting 15 = .ok (.aload_n 0, 1) := by decide +kernel
theorem dX12_fitting_16 : decode cX12_fitting 16 = .ok (.iload 6, 2) := by decide +kernel
theorem dX12_fitting_18 : decode cX12_fitting 18 = .ok (.iload_n 1, 1) := by decide +kernel
theorem dX12_fitting_19 : decode cX12_fitting 19 = .ok (.iload_n 2, 1) := by decide +kernel
theorem dX12_fitting_20 : decode cX12_fitting 20 = .ok (.iload_n 3, 1) := by decide +kernel
theorem dX12_fitting_21 : decode cX12_fitting 21 = .ok (.invokevirtual 369, 3) := by decide +kernel
theorem dX12_fitting_24 : decode cX12_fitting 24 = .ok (.ifCond .eq 19, 3) := by decide +kernel
theorem dX12_fitting_27 : decode cX12_fitting 27 = .ok (.aload_n 0, 1) := by decide +kernel
theorem dX12_fitting_28 : decode cX12_fitting 28 = .ok (.iload 6, 2) := by decide +kernel
theorem dX12_fitting_30 : decode cX12_fitting 30 = .ok (.iload_n 1, 1) := by decide +kernel
theorem dX12_fitting_31 : decode cX12_fitting 31 = .ok (.iload 4, 2) := by decide +kernel
theorem dX12_fitting_33 : decode cX12_fitting 33 = .ok (.invokevirtual 366, 3) := by decide +kernel
theorem dX12_fitting_36 : decode cX12_fitting 36 = .ok (.ifCond .eq 7, 3) := by decide +kernel
theorem dX12_fitting_39 : decode cX12_fitting 39 = .ok (.iconst 1, 1) := by decide +kernel
theorem dX12_fitting_40 : decode cX12_fitting 40 = .ok (.goto 4, 3) := by decide +kernel
theorem dX12_fitting_43 : decode cX12_fitting 43 = .ok (.iconst 0, 1) := by decide +kernel
theorem dX12_fitting_44 : decode cX12_fitting 44 = .ok (.iadd, 1) := by decide +kernel
theorem dX12_fitting_45 : decode cX12_fitting 45 = .ok (.istore 5, 2) := by decide +kernel
theorem dX12_fitting_47 : decode cX12_fitting 47 = .ok (.iinc 6 1, 3) := by decide +kernel
theorem dX12_fitting_50 : decode cX12_fitting 50 = .ok (.goto (-44), 3) := by decide +kernel
theorem dX12_fitting_53 : decode cX12_fitting 53 = .ok (.iload 5, 2) := by decide +kernel
theorem dX12_fitting_55 : decode cX12_fitting 55 = .ok (.ireturn, 1) := by decide +kernel
theorem mv_X12_fitting : MV yX12_fitting RX12 cX12_fitting 7 (some .int) 4 := ⟨tb_1783, tb_1782, ts_100, tb_16, by decide +kernel, by decide +kernel, by decide +kernel⟩
def f_X12_fitting_b6 (fu : Nat) (m_at : Nat → Int32) (m_trays : Nat → Int64) (x1 : Int32) (x2 : Int32) (x3 : Int32) (x4 : Int32) (k6 : Int32 → Int32 → Option (Int32)) (x5 : Int32) (x6 : Int32) : Option (Int32) := (if 20 < x6 then some (x5) else (f_X12_fits fu m_at m_trays x6 x1 x2 x3).bind fun z_13 => (if z_13 = 0 then bnd (x5 + 0) fun x5_15 => bnd (x6 + 1) fun x6_16 => k6 x5_15 x6_16 else (f_X12_wouldStand fu m_at x6 x1 x4).bind fun z_17 => (if z_17 = 0 then bnd (x5 + 0) fun x5_19 => bnd (x6 + 1) fun x6_20 => k6 x5_19 x6_20 else bnd (x5 + 1) fun x5_21 => bnd (x6 + 1) fun x6_22 => k6 x5_21 x6_22)))
def f_X12_fitting_l6 (fu : Nat) (m_at : Nat → Int32) (m_trays : Nat → Int64) (x1 : Int32) (x2 : Int32) (x3 : Int32) (x4 : Int32) : Nat → Int32 → Int32 → Option (Int32)
  | 0, _, _ => none
  | n + 1, x5, x6 => f_X12_fitting_b6 fu m_at m_trays x1 x2 x3 x4 (f_X12_fitting_l6 fu m_at m_trays x1 x2 x3 x4 n) x5 x6
def f_X12_fitting (fu : Nat) (m_at : Nat → Int32) (m_trays : Nat → Int64) (x1 : Int32) (x2 : Int32) (x3 : Int32) (x4 : Int32) : Option (Int32) := f_X12_fitting_l6 fu m_at m_trays x1 x2 x3 x4 fu 0 0
abbrev rm_X12_fitting : Room := { frames := 4, cells := 0, slots := 0, locals := 91 }
set_option maxHeartbeats 4000000 in
set_option maxRecDepth 100000 in
theorem c_X12_fitting (l : Launch) (D : va_G) (cy : Nat → ClassId) (fu : Nat) (A_m : Nat → Nat) (m_at : Nat → Int32) (m_names : Nat → Int64) (m_status : Int32) (m_top : Int64) (m_bottom : Int64) (m_sort : Nat → Int32) (m_trayMany : Nat → Int32) (m_trays : Nat → Int64) (m_tape : Nat → Int32) (m_text : Nat → Int32) (m_taped : Int32) (m_size : Int32) (m_token : Int32) (m_from : Int32) (m_end : Int32) (m_value : Int32) (m_faultKind : Int32) (m_faultPlace : Int32) (m_faults : Int32) (m_seen : Int32) (m_toldParts : Int32) (m_opened : Nat → Int32) (m_depth : Int32) (m_counted : Int32) (m_bestOrder : Int32) (m_standers : Nat → Int32) (m_has : Nat → Int32) (m_bestHas : Nat → Int32) (m_standerMany : Int32) (m_bestCouples : Int32) (m_bestFondness : Int32) (m_cameTo : Nat → Int32) (m_doesStandFirst : Int32) (m_stoodBy : Nat → Int64) (m_drawn : Int32) (m_ranSteps : Int32) (m_loops : Nat → Int32) (m_ran : Nat → Int32) (m_told1 : Nat → Int32) (m_isTold : Int32) (m_marks : Int32) (x1 : Int32) (x2 : Int32) (x3 : Int32) (x4 : Int32) (res : Int32) (h : f_X12_fitting fu m_at m_trays x1 x2 x3 x4 = some res) : Met l yX12_fitting (WW yX12_fitting cX12_fitting 7 (some .int)) rm_X12_fitting (Rd D cy [.ref (A_m 0), .int x1, .int x2, .int x3, .int x4] [bl_X12 cy A_m m_at m_names m_status m_top m_bottom m_sort m_trayMany m_trays m_tape m_text m_taped m_size m_token m_from m_end m_value m_faultKind m_faultPlace m_faults m_seen m_toldParts m_opened m_depth m_counted m_bestOrder m_standers m_has m_bestHas m_standerMany m_bestCouples m_bestFondness m_cameTo m_doesStandFirst m_stoodBy m_drawn m_ranSteps m_loops m_ran m_told1 m_isTold m_marks]) (vp_Si (fun v => v = res)) 0 0 (fun _ => False) := by
  refine Met.ofW (cc := cX12_fitting) (maxL := 7) (ret := (some .int)) (by decide) rfl ?_
  intro p e s m args below meth c s₁ B hml hv
  obtain ⟨hargs, hP, hX⟩ := hv
  have hx := B.exec
  have hb := B.bytes
  have hr := B.returns
  have ht : ∀ w ∈ lw_gd, w.before args s = true := fun w hw => atoms_spec (ws := WW yX12_fitting cX12_fitting 7 (some .int)) B.pre w (List.mem_cons_of_mem _ hw)
  have hown : s.vm.findClass RX12 = some m.cls := findClass_of_methodNamed B.named
  have hlocks := B.notSynchronized
  have hP : PB D [bl_X12 cy A_m m_at m_names m_status m_top m_bottom m_sort m_trayMany m_trays m_tape m_text m_taped m_size m_token m_from m_end m_value m_faultKind m_faultPlace m_faults m_seen m_toldParts m_opened m_depth m_counted m_bestOrder m_standers m_has m_bestHas m_standerMany m_bestCouples m_bestFondness m_cameTo m_doesStandFirst m_stoodBy m_drawn m_ranSteps m_loops m_ran m_told1 m_isTold m_marks] s.heap := hP
  obtain ⟨ls, hl, hent⟩ := ent (m := m) (n := 7) hargs (Nat.le_of_ble_eq_true rfl) (lv := [(0, .ref (A_m 0)), (1, .int x1), (2, .int x2), (3, .int x3), (4, .int x4)]) rfl
  rw [hent]
  clear hent
  have l6 : ∀ (n6 : Nat) (x5 : Int32) (x6 : Int32) (ls : Array Slot), lv_has ls 7 [(0, .ref (A_m 0)), (1, .int x1), (2, .int x2), (3, .int x3), (4, .int x4), (5, .int x5), (6, .int x6)] → f_X12_fitting_l6 fu m_at m_trays x1 x2 x3 x4 n6 x5 x6 = some res → W p l e (headSpec (WW yX12_fitting cX12_fitting 7 (some .int)) rm_X12_fitting).room s m args below meth c s.heap [] 0 0 (MQ below (vp_Si (fun v => v = res)) args s 0 0 (fun _ => False)) (F0 m 6 ls []) := by
    intro n6
    induction n6 with
    | zero => intro x5 x6 ls hl h; cases h
    | succ n6 ih6 =>
      intro x5 x6 ls hl h
      have h : f_X12_fitting_b6 fu m_at m_trays x1 x2 x3 x4 (f_X12_fitting_l6 fu m_at m_trays x1 x2 x3 x4 n6) x5 x6 = some res := h
      unfold f_X12_fitting_b6 at h
      refine lv_iload hx hb dX12_fitting_6 (lv_at hl 6 rfl) ?_
      refine lv_bipush (v := 20) hx hb dX12_fitting_8 (by decide) ?_
      refine lv_icmp_gt (tgt := 53) hx hb dX12_fitting_10 (by decide) (fun c_12 => ?_) (fun c_12 => ?_)
      · have h := it c_12 h
        refine lv_iload hx hb dX12_fitting_53 (lv_at hl 5 rfl) ?_
        cases h
        exact W.iret hx hb hr (fun _ ht9 _ => ⟨_, rfl, rfl, ht9⟩) (fun _ hq => by cases hq) dX12_fitting_55
      · have h := ie c_12 h
        refine lv_iload hx hb dX12_fitting_13 (lv_at hl 5 rfl) ?_
        refine lv_aload_n hx hb dX12_fitting_15 rfl (lv_at hl 0 rfl) ?_
        refine lv_iload hx hb dX12_fitting_16 (lv_at hl 6 rfl) ?_
        refine lv_iload_n hx hb dX12_fitting_18 rfl (lv_at hl 1 rfl) ?_
        refine lv_iload_n hx hb dX12_fitting_19 rfl (lv_at hl 2 rfl) ?_
        refine lv_iload_n hx hb dX12_fitting_20 rfl (lv_at hl 3 rfl) ?_
        obtain ⟨z_13, e_z_13, h⟩ := bi h
        refine roVi (rest := [.int x5]) ⟨hx, hb, hml, hown, ht⟩ (c_X12_fits l D cy fu A_m m_at m_names m_status m_top m_bottom m_sort m_trayMany m_trays m_tape m_text m_taped m_size m_token m_from m_end m_value m_faultKind m_faultPlace m_faults m_seen m_toldParts m_opened m_depth m_counted m_bestOrder m_standers m_has m_bestHas m_standerMany m_bestCouples m_bestFondness m_cameTo m_doesStandFirst m_stoodBy m_drawn m_ranSteps m_loops m_ran m_told1 m_isTold m_marks x6 x1 x2 x3 z_13 e_z_13) (cV ht mv_X12_fits tb_1784 rfl rfl ⟨Nat.le_of_ble_eq_true rfl, Nat.le_of_ble_eq_true rfl⟩) (P_sub hP [0] rfl) hX rfl rfl rfl hl.1 rfl (Nat.le_of_ble_eq_true rfl) dX12_fitting_21 ⟨Nat.le_of_ble_eq_true rfl, Nat.le_of_ble_eq_true rfl⟩ ?_
        refine lv_if_eq (tgt := 43) hx hb dX12_fitting_24 (by decide) (fun c_14 => ?_) (fun c_14 => ?_)
        · have h := it c_14 h
          refine lv_iconst (v := 0) hx hb dX12_fitting_43 (by decide) ?_
          refine lv_iadd hx hb dX12_fitting_44 ?_
          refine lv_topi (fun x5_15 e_x5_15 => ?_)
          have h := bn e_x5_15 h
          refine lv_istore (lv' := [(5, .int x5_15), (0, .ref (A_m 0)), (1, .int x1), (2, .int x2), (3, .int x3), (4, .int x4), (6, .int x6)]) hx hb dX12_fitting_45 hl (by decide) rfl (fun ls hl => ?_)
          obtain ⟨x6_16, e_x6_16⟩ : ∃ y : Int32, y = x6 + 1 := ⟨_, rfl⟩
          have h := bn e_x6_16 h
          refine lv_iinc (v := x6_16) (lv' := [(6, .int x6_16), (5, .int x5_15), (0, .ref (A_m 0)), (1, .int x1), (2, .int x2), (3, .int x3), (4, .int x4)]) hx hb dX12_fitting_47 hl (k := 6) rfl (by rw [e_x6_16]; rfl) (by decide) rfl (fun ls hl => ?_)
          refine lv_goto (tgt := 6) hx hb dX12_fitting_50 (by decide) ?_
          exact ih6 x5_15 x6_16 ls (lv_sub hl [2, 3, 4, 5, 6, 1, 0] rfl) h
        · have h := ie c_14 h
          refine lv_aload_n hx hb dX12_fitting_27 rfl (lv_at hl 0 rfl) ?_
          refine lv_iload hx hb dX12_fitting_28 (lv_at hl 6 rfl) ?_
          refine lv_iload_n hx hb dX12_fitting_30 rfl (lv_at hl 1 rfl) ?_
          refine lv_iload hx hb dX12_fitting_31 (lv_at hl 4 rfl) ?_
          obtain ⟨z_17, e_z_17, h⟩ := bi h
          refine roVi (rest := [.int x5]) ⟨hx, hb, hml, hown, ht⟩ (c_X12_wouldStand l D cy fu A_m m_at m_names m_status m_top m_bottom m_sort m_trayMany m_trays m_tape m_text m_taped m_size m_token m_from m_end m_value m_faultKind m_faultPlace m_faults m_seen m_toldParts m_opened m_depth m_counted m_bestOrder m_standers m_has m_bestHas m_standerMany m_bestCouples m_bestFondness m_cameTo m_doesStandFirst m_stoodBy m_drawn m_ranSteps m_loops m_ran m_told1 m_isTold m_marks x6 x1 x4 z_17 e_z_17) (cV ht mv_X12_wouldStand tb_1788 rfl rfl ⟨Nat.le_of_ble_eq_true rfl, Nat.le_of_ble_eq_true rfl⟩) (P_sub hP [0] rfl) hX rfl rfl rfl hl.1 rfl (Nat.le_of_ble_eq_true rfl) dX12_fitting_33 ⟨Nat.le_of_ble_eq_true rfl, Nat.le_of_ble_eq_true rfl⟩ ?_
          refine lv_if_eq (tgt := 43) hx hb dX12_fitting_36 (by decide) (fun c_18 => ?_) (fun c_18 => ?_)
          · have h := it c_18 h
            refine lv_iconst (v := 0) hx hb dX12_fitting_43 (by decide) ?_
            refine lv_iadd hx hb dX12_fitting_44 ?_
            refine lv_topi (fun x5_19 e_x5_19 => ?_)
            have h := bn e_x5_19 h
            refine lv_istore (lv' := [(5, .int x5_19), (0, .ref (A_m 0)), (1, .int x1), (2, .int x2), (3, .int x3), (4, .int x4), (6, .int x6)]) hx hb dX12_fitting_45 hl (by decide) rfl (fun ls hl => ?_)
            obtain ⟨x6_20, e_x6_20⟩ : ∃ y : Int32, y = x6 + 1 := ⟨_, rfl⟩
            have h := bn e_x6_20 h
            refine lv_iinc (v := x6_20) (lv' := [(6, .int x6_20), (5, .int x5_19), (0, .ref (A_m 0)), (1, .int x1), (2, .int x2), (3, .int x3), (4, .int x4)]) hx hb dX12_fitting_47 hl (k := 6) rfl (by rw [e_x6_20]; rfl) (by decide) rfl (fun ls hl => ?_)
            refine lv_goto (tgt := 6) hx hb dX12_fitting_50 (by decide) ?_
            exact ih6 x5_19 x6_20 ls (lv_sub hl [2, 3, 4, 5, 6, 1, 0] rfl) h
          · have h := ie c_18 h
            refine lv_iconst (v := 1) hx hb dX12_fitting_39 (by decide) ?_
            refine lv_goto (tgt := 44) hx hb dX12_fitting_40 (by decide) ?_
            refine lv_iadd hx hb dX12_fitting_44 ?_
            refine lv_topi (fun x5_21 e_x5_21 => ?_)
            have h := bn e_x5_21 h
            refine lv_istore (lv' := [(5, .int x5_21), (0, .ref (A_m 0)), (1, .int x1), (2, .int x2), (3, .int x3), (4, .int x4), (6, .int x6)]) hx hb dX12_fitting_45 hl (by decide) rfl (fun ls hl => ?_)
            obtain ⟨x6_22, e_x6_22⟩ : ∃ y : Int32, y = x6 + 1 := ⟨_, rfl⟩
            have h := bn e_x6_22 h
            refine lv_iinc (v := x6_22) (lv' := [(6, .int x6_22), (5, .int x5_21), (0, .ref (A_m 0)), (1, .int x1), (2, .int x2), (3, .int x3), (4, .int x4)]) hx hb dX12_fitting_47 hl (k := 6) rfl (by rw [e_x6_22]; rfl) (by decide) rfl (fun ls hl => ?_)
            refine lv_goto (tgt := 6) hx hb dX12_fitting_50 (by decide) ?_
            exact ih6 x5_21 x6_22 ls (lv_sub hl [2, 3, 4, 5, 6, 1, 0] rfl) h
  unfold f_X12_fitting at h
  refine lv_iconst (v := 0) hx hb dX12_fitting_0 (by decide) ?_
  refine lv_istore (lv' := [(5, .int 0), (0, .ref (A_m 0)), (1, .int x1), (2, .int x2), (3, .int x3), (4, .int x4)]) hx hb dX12_fitting_1 hl (by decide) rfl (fun ls hl => ?_)
  refine lv_iconst (v := 0) hx hb dX12_fitting_3 (by decide) ?_
  refine lv_istore (lv' := [(6, .int 0), (5, .int 0), (0, .ref (A_m 0)), (1, .int x1), (2, .int x2), (3, .int x3), (4, .int x4)]) hx hb dX12_fitting_4 hl (by decide) rfl (fun ls hl => ?_)
  exact l6 fu 0 0 ls (lv_sub hl [2, 3, 4, 5, 6, 1, 0] rfl) h
theorem dX12_seen_0 : decode cX12_seen 0 = .ok (.aload_n 0, 1) := by decide +kernel
theorem dX12_seen_1 : decode cX12_seen 1 = .ok (.iload_n 1, 1) := by decide +kernel
theorem dX12_seen_2 : decode cX12_seen 2 = .ok (.iload_n 2, 1) := by decide +kernel
theorem dX12_seen_3 : decode cX12_seen 3 = .ok (.iload_n 3, 1) := by decide +kernel
theorem dX12_seen_4 : decode cX12_seen 4 = .ok (.invokevirtual 373, 3) := by decide +kernel
theorem dX12_seen_7 : decode cX12_seen 7 = .ok (.istore 4, 2) := by decide +kernel
theorem dX12_seen_9 : decode cX12_seen 9 = .ok (.iload 4, 2) := by decide +kernel
theorem dX12_seen_11 : decode cX12_seen 11 = .ok (.ifCond .le 12, 3) := by decide +kernel
theorem dX12_seen_14 : decode cX12_seen 14 = .ok (.aload_n 0, 1) := by decide +kernel
theorem dX12_seen_15 : decode cX12_seen 15 = .ok (.iload 4, 2) := by decide +kernel
theorem dX12_seen_17 : decode cX12_seen 17 = .ok (.invokevirtual 85, 3) := by decide +kernel
theorem dX12_seen_20 : decode cX12_seen 20 = .ok (.goto 15, 3) := by decide +kernel
theorem dX12_seen_23 : decode cX12_seen 23 = .ok (.aload_n 0, 1) := by decide +kernel
theorem dX12_seen_24 : decode cX12_seen 24 = .ok (.aload_n 0, 1) := by decide +kernel
theorem dX12_seen_25 : decode cX12_seen 25 = .ok (.iload_n 1, 1) := by decide +kernel
theorem dX12_seen_26 : decode cX12_seen 26 = .ok (.iload_n 2, 1) := by decide +kernel
theorem dX12_seen_27 : decode cX12_seen 27 = .ok (.iload_n 3, 1) := by decide +kernel
theorem dX12_seen_28 : decode cX12_seen 28 = .ok (.iconst 0, 1) := by decide +kernel
theorem dX12_seen_29 : decode cX12_seen 29 = .ok (.invokevirtual 376, 3) := by decide +kernel
theorem dX12_seen_32 : decode cX12_seen 32 = .ok (.invokevirtual 88, 3) := by decide +kernel
theorem dX12_seen_35 : decode cX12_seen 35 = .ok (.ireturn, 1) := by decide +kernel
theorem mv_X12_seen : MV yX12_seen RX12 cX12_seen 5 (some .int) 3 := ⟨tb_1775, tb_1773, tb_1774, tb_16, by decide +kernel, by decide +kernel, by decide +kernel⟩
def f_X12_seen (fu : Nat) (m_at : Nat → Int32) (m_status : Int32) (m_trayMany : Nat → Int32) (m_trays : Nat → Int64) (x1 : Int32) (x2 : Int32) (x3 : Int32) : Option (Int32 × Int32) := (f_X12_wrongSeen fu m_at m_trayMany m_trays x1 x2 x3).bind fun z_6 => (if z_6 ≤ 0 then (f_X12_fitting fu m_at m_trays x1 x2 x3 0).bind fun z_8 => (f_X12_gives fu m_status z_8).bind fun z_9 => some (z_9.1, z_9.2) else (f_X12_refuse fu m_status z_6).bind fun z_10 => some (z_10.1, z_10.2))
abbrev rm_X12_seen : Room := { frames := 5, cells := 0, slots := 0, locals := 117 }
set_option maxHeartbeats 4000000 in
set_option maxRecDepth 100000 in
theorem c_X12_seen (l : Launch) (D : va_G) (cy : Nat → ClassId) (fu : Nat) (A_m : Nat → Nat) (m_at : Nat → Int32) (m_names : Nat → Int64) (m_status : Int32) (m_top : Int64) (m_bottom : Int64) (m_sort : Nat → Int32) (m_trayMany : Nat → Int32) (m_trays : Nat → Int64) (m_tape : Nat → Int32) (m_text : Nat → Int32) (m_taped : Int32) (m_size : Int32) (m_token : Int32) (m_from : Int32) (m_end : Int32) (m_value : Int32) (m_faultKind : Int32) (m_faultPlace : Int32) (m_faults : Int32) (m_seen : Int32) (m_toldParts : Int32) (m_opened : Nat → Int32) (m_depth : Int32) (m_counted : Int32) (m_bestOrder : Int32) (m_standers : Nat → Int32) (m_has : Nat → Int32) (m_bestHas : Nat → Int32) (m_standerMany : Int32) (m_bestCouples : Int32) (m_bestFondness : Int32) (m_cameTo : Nat → Int32) (m_doesStandFirst : Int32) (m_stoodBy : Nat → Int64) (m_drawn : Int32) (m_ranSteps : Int32) (m_loops : Nat → Int32) (m_ran : Nat → Int32) (m_told1 : Nat → Int32) (m_isTold : Int32) (m_marks : Int32) (x1 : Int32) (x2 : Int32) (x3 : Int32) (res : Int32 × Int32) (h : f_X12_seen fu m_at m_status m_trayMany m_trays x1 x2 x3 = some res) (A : Nat → Prop) (hA : A = adr [bl_X12 cy A_m m_at m_names m_status m_top m_bottom m_sort m_trayMany m_trays m_tape m_text m_taped m_size m_token m_from m_end m_value m_faultKind m_faultPlace m_faults m_seen m_toldParts m_opened m_depth m_counted m_bestOrder m_standers m_has m_bestHas m_standerMany m_bestCouples m_bestFondness m_cameTo m_doesStandFirst m_stoodBy m_drawn m_ranSteps m_loops m_ran m_told1 m_isTold m_marks]) (W1 : List va_W) (hW1 : W1 = [bl_X12 cy A_m m_at m_names res.2 m_top m_bottom m_sort m_trayMany m_trays m_tape m_text m_taped m_size m_token m_from m_end m_value m_faultKind m_faultPlace m_faults m_seen m_toldParts m_opened m_depth m_counted m_bestOrder m_standers m_has m_bestHas m_standerMany m_bestCouples m_bestFondness m_cameTo m_doesStandFirst m_stoodBy m_drawn m_ranSteps m_loops m_ran m_told1 m_isTold m_marks]) : Met l yX12_seen (WW yX12_seen cX12_seen 5 (some .int)) rm_X12_seen (Ed D cy [.ref (A_m 0), .int x1, .int x2, .int x3] [bl_X12 cy A_m m_at m_names m_status m_top m_bottom m_sort m_trayMany m_trays m_tape m_text m_taped m_size m_token m_from m_end m_value m_faultKind m_faultPlace m_faults m_seen m_toldParts m_opened m_depth m_counted m_bestOrder m_standers m_has m_bestHas m_standerMany m_bestCouples m_bestFondness m_cameTo m_doesStandFirst m_stoodBy m_drawn m_ranSteps m_loops m_ran m_told1 m_isTold m_marks]) (Qei D res.1 A W1) 0 0 A := by
  refine Met.ofW (cc := cX12_seen) (maxL := 5) (ret := (some .int)) (by decide) rfl ?_
  intro p e s m args below meth c s₁ B hml hv
  obtain ⟨hargs, hP, hX, hD0⟩ := hv
  have hx := B.exec
  have hb := B.bytes
  have hr := B.returns
  have ht : ∀ w ∈ lw_gd, w.before args s = true := fun w hw => atoms_spec (ws := WW yX12_seen cX12_seen 5 (some .int)) B.pre w (List.mem_cons_of_mem _ hw)
  have hown : s.vm.findClass RX12 = some m.cls := findClass_of_methodNamed B.named
  have hlocks := B.notSynchronized
  have hP : PD D A [bl_X12 cy A_m m_at m_names m_status m_top m_bottom m_sort m_trayMany m_trays m_tape m_text m_taped m_size m_token m_from m_end m_value m_faultKind m_faultPlace m_faults m_seen m_toldParts m_opened m_depth m_counted m_bestOrder m_standers m_has m_bestHas m_standerMany m_bestCouples m_bestFondness m_cameTo m_doesStandFirst m_stoodBy m_drawn m_ranSteps m_loops m_ran m_told1 m_isTold m_marks] s.heap := ⟨hP, by rw [hA]; exact hD0.own⟩
  have hS : va_S A s.heap s.heap [] := va_S.rf
  obtain ⟨ls, hl, hent⟩ := ent (m := m) (n := 5) hargs (Nat.le_of_ble_eq_true rfl) (lv := [(0, .ref (A_m 0)), (1, .int x1), (2, .int x2), (3, .int x3)]) rfl
  rw [hent]
  clear hent
  unfold f_X12_seen at h
  refine lv_aload_n hx hb dX12_seen_0 rfl (lv_at hl 0 rfl) ?_
  refine lv_iload_n hx hb dX12_seen_1 rfl (lv_at hl 1 rfl) ?_
  refine lv_iload_n hx hb dX12_seen_2 rfl (lv_at hl 2 rfl) ?_
  refine lv_iload_n hx hb dX12_seen_3 rfl (lv_at hl 3 rfl) ?_
  obtain ⟨z_6, e_z_6, h⟩ := bi h
  refine roVi (rest := []) ⟨hx, hb, hml, hown, ht⟩ (c_X12_wrongSeen l D cy fu A_m m_at m_names m_status m_top m_bottom m_sort m_trayMany m_trays m_tape m_text m_taped m_size m_token m_from m_end m_value m_faultKind m_faultPlace m_faults m_seen m_toldParts m_opened m_depth m_counted m_bestOrder m_standers m_has m_bestHas m_standerMany m_bestCouples m_bestFondness m_cameTo m_doesStandFirst m_stoodBy m_drawn m_ranSteps m_loops m_ran m_told1 m_isTold m_marks x1 x2 x3 z_6 e_z_6) (cV ht mv_X12_wrongSeen tb_1776 rfl rfl ⟨Nat.le_of_ble_eq_true rfl, Nat.le_of_ble_eq_true rfl⟩) (P_sub hP.1 [0] rfl) hX rfl rfl rfl hl.1 rfl (Nat.le_of_ble_eq_true rfl) dX12_seen_4 ⟨Nat.le_of_ble_eq_true rfl, Nat.le_of_ble_eq_true rfl⟩ ?_
  refine lv_istore (lv' := [(4, .int z_6), (0, .ref (A_m 0)), (1, .int x1), (2, .int x2), (3, .int x3)]) hx hb dX12_seen_7 hl (by decide) rfl (fun ls hl => ?_)
  refine lv_iload hx hb dX12_seen_9 (lv_at hl 0 rfl) ?_
  refine lv_if_le (tgt := 23) hx hb dX12_seen_11 (by decide) (fun c_7 => ?_) (fun c_7 => ?_)
  · have h := it c_7 h
    refine lv_aload_n hx hb dX12_seen_23 rfl (lv_at hl 1 rfl) ?_
    refine lv_aload_n hx hb dX12_seen_24 rfl (lv_at hl 1 rfl) ?_
    refine lv_iload_n hx hb dX12_seen_25 rfl (lv_at hl 2 rfl) ?_
    refine lv_iload_n hx hb dX12_seen_26 rfl (lv_at hl 3 rfl) ?_
    refine lv_iload_n hx hb dX12_seen_27 rfl (lv_at hl 4 rfl) ?_
    refine lv_iconst (v := 0) hx hb dX12_seen_28 (by decide) ?_
    obtain ⟨z_8, e_z_8, h⟩ := bi h
    refine roVi (rest := [.ref (A_m 0)]) ⟨hx, hb, hml, hown, ht⟩ (c_X12_fitting l D cy fu A_m m_at m_names m_status m_top m_bottom m_sort m_trayMany m_trays m_tape m_text m_taped m_size m_token m_from m_end m_value m_faultKind m_faultPlace m_faults m_seen m_toldParts m_opened m_depth m_counted m_bestOrder m_standers m_has m_bestHas m_standerMany m_bestCouples m_bestFondness m_cameTo m_doesStandFirst m_stoodBy m_drawn m_ranSteps m_loops m_ran m_told1 m_isTold m_marks x1 x2 x3 0 z_8 e_z_8) (cV ht mv_X12_fitting tb_1780 rfl rfl ⟨Nat.le_of_ble_eq_true rfl, Nat.le_of_ble_eq_true rfl⟩) (P_sub hP.1 [0] rfl) hX rfl rfl rfl hl.1 rfl (Nat.le_of_ble_eq_true rfl) dX12_seen_29 ⟨Nat.le_of_ble_eq_true rfl, Nat.le_of_ble_eq_true rfl⟩ ?_
    obtain ⟨z_9, e_z_9, h⟩ := bi h
    refine efVi (rest := []) ⟨hx, hb, hml, hown, ht⟩ (c_X12_gives l D cy fu A_m m_at m_names m_status m_top m_bottom m_sort m_trayMany m_trays m_tape m_text m_taped m_size m_token m_from m_end m_value m_faultKind m_faultPlace m_faults m_seen m_toldParts m_opened m_depth m_counted m_bestOrder m_standers m_has m_bestHas m_standerMany m_bestCouples m_bestFondness m_cameTo m_doesStandFirst m_stoodBy m_drawn m_ranSteps m_loops m_ran m_told1 m_isTold m_marks z_8 z_9 e_z_9 _ rfl _ rfl) (cV ht mv_X12_gives tb_1499 rfl rfl ⟨Nat.le_of_ble_eq_true rfl, Nat.le_of_ble_eq_true rfl⟩) hP hS hX [0] rfl rfl rfl rfl rfl rfl hl.1 rfl (Nat.le_of_ble_eq_true rfl) dX12_seen_32 ⟨Nat.le_of_ble_eq_true rfl, Nat.le_of_ble_eq_true rfl⟩ (fun H locs hP hS => ?_)
    have hP : PD D A [bl_X12 cy A_m m_at m_names z_9.2 m_top m_bottom m_sort m_trayMany m_trays m_tape m_text m_taped m_size m_token m_from m_end m_value m_faultKind m_faultPlace m_faults m_seen m_toldParts m_opened m_depth m_counted m_bestOrder m_standers m_has m_bestHas m_standerMany m_bestCouples m_bestFondness m_cameTo m_doesStandFirst m_stoodBy m_drawn m_ranSteps m_loops m_ran m_told1 m_isTold m_marks] H := hP
    cases h
    subst hW1
    exact W.iret hx hb hr (fun _ ht9 _ => ⟨⟨_, (), rfl, rfl, hPt ht9 hP.1⟩, hS.F ht9⟩) hS.2.2 dX12_seen_35
  · have h := ie c_7 h
    refine lv_aload_n hx hb dX12_seen_14 rfl (lv_at hl 1 rfl) ?_
    refine lv_iload hx hb dX12_seen_15 (lv_at hl 0 rfl) ?_
    obtain ⟨z_10, e_z_10, h⟩ := bi h
    refine efVi (rest := []) ⟨hx, hb, hml, hown, ht⟩ (c_X12_refuse l D cy fu A_m m_at m_names m_status m_top m_bottom m_sort m_trayMany m_trays m_tape m_text m_taped m_size m_token m_from m_end m_value m_faultKind m_faultPlace m_faults m_seen m_toldParts m_opened m_depth m_counted m_bestOrder m_standers m_has m_bestHas m_standerMany m_bestCouples m_bestFondness m_cameTo m_doesStandFirst m_stoodBy m_drawn m_ranSteps m_loops m_ran m_told1 m_isTold m_marks z_6 z_10 e_z_10 _ rfl _ rfl) (cV ht mv_X12_refuse tb_1432 rfl rfl ⟨Nat.le_of_ble_eq_true rfl, Nat.le_of_ble_eq_true rfl⟩) hP hS hX [0] rfl rfl rfl rfl rfl rfl hl.1 rfl (Nat.le_of_ble_eq_true rfl) dX12_seen_17 ⟨Nat.le_of_ble_eq_true rfl, Nat.le_of_ble_eq_true rfl⟩ (fun H locs hP hS => ?_)
    have hP : PD D A [bl_X12 cy A_m m_at m_names z_10.2 m_top m_bottom m_sort m_trayMany m_trays m_tape m_text m_taped m_size m_token m_from m_end m_value m_faultKind m_faultPlace m_faults m_seen m_toldParts m_opened m_depth m_counted m_bestOrder m_standers m_has m_bestHas m_standerMany m_bestCouples m_bestFondness m_cameTo m_doesStandFirst m_stoodBy m_drawn m_ranSteps m_loops m_ran m_told1 m_isTold m_marks] H := hP
    refine lv_goto (tgt := 35) hx hb dX12_seen_20 (by decide) ?_
    cases h
    subst hW1
    exact W.iret hx hb hr (fun _ ht9 _ => ⟨⟨_, (), rfl, rfl, hPt ht9 hP.1⟩, hS.F ht9⟩) hS.2.2 dX12_seen_35
theorem dX12_seenAt_0 : decode cX12_seenAt 0 = .ok (.iload 4, 2) := by decide +kernel
theorem dX12_seenAt_2 : decode cX12_seenAt 2 = .ok (.ifCond .lt 9, 3) := by decide +kernel
theorem dX12_seenAt_5 : decode cX12_seenAt 5 = .ok (.iload 4, 2) := by decide +kernel
theorem dX12_seenAt_7 : decode cX12_seenAt 7 = .ok (.iconst 1, 1) := by decide +kernel
theorem dX12_seenAt_8 : decode cX12_seenAt 8 = .ok (.if_icmp .le 7, 3) := by decide +kernel
theorem dX12_seenAt_11 : decode cX12_seenAt 11 = .ok (.iconst 1, 1) := by decide +kernel
theorem dX12_seenAt_12 : decode cX12_seenAt 12 = .ok (.goto 10, 3) := by decide +kernel
theorem dX12_seenAt_15 : decode cX12_seenAt 15 = .ok (.aload_n 0, 1) := by decide +kernel
theorem dX12_seenAt_16 : decode cX12_seenAt 16 = .ok (.iload_n 1, 1) := by decide +kernel
theorem dX12_seenAt_17 : decode cX12_seenAt 17 = .ok (.iload_n 2, 1) := by decide +kernel
theorem dX12_seenAt_18 : decode cX12_seenAt 18 = .ok (.iload_n 3, 1) := by decide +kernel
theorem dX12_seenAt_19 : decode cX12_seenAt 19 = .ok (.invokevirtual 373, 3) := by decide +kernel
theorem dX12_seenAt_22 : decode cX12_seenAt 22 = .ok (.istore 5, 2) := by decide +kernel
theorem dX12_seenAt_24 : decode cX12_seenAt 24 = .ok (.iload 5, 2) := by decide +kernel
theorem dX12_seenAt_26 : decode cX12_seenAt 26 = .ok (.ifCond .le 10, 3) := by decide +kernel
theorem dX12_seenAt_29 : decode cX12_seenAt 29 = .ok (.aload_n 0, 1) := by decide +kernel
theorem dX12_seenAt_30 : decode cX12_seenAt 30 = .ok (.iload 5, 2) := by decide +kernel
theorem dX12_seenAt_32 : decode cX12_seenAt 32 = .ok (.invokevirtual 85, 3) := by decide +kernel
theorem dX12_seenAt_35 : decode cX12_seenAt 35 = .ok (.ireturn, 1) := by decide +kernel
theorem dX12_seenAt_36 : decode cX12_seenAt 36 = .ok (.iconst 0, 1) := by decide +kernel
theorem dX12_seenAt_37 : decode cX12_seenAt 37 = .ok (.istore 6, 2) := by decide +kernel
theorem dX12_seenAt_39 : decode cX12_seenAt 39 = .ok (.iload 6, 2) := by decide +kernel
theorem dX12_seenAt_41 : decode cX12_seenAt 41 = .ok (.bipush 20, 2) := by decide +kernel
theorem dX12_seenAt_43 : decode cX12_seenAt 43 = .ok (.if_icmp .gt 45, 3) := by decide +kernel
theorem dX12_seenAt_46 : decode cX12_seenAt 46 = .ok (.iload 4, 2) := by decide +kernel
theorem dX12_seenAt_48 : decode cX12_seenAt 48 = .ok (.ifCond .ne 8, 3) := by decide +kernel
theorem dX12_seenAt_51 : decode cX12_seenAt 51 = .ok (.iload 6, 2) := by decide +kernel
theorem dX12_seenAt_53 : decode cX12_seenAt 53 = .ok (.goto 8, 3) := by decide +kernel
theorem dX12_seenAt_56 : decode cX12_seenAt 56 = .ok (.bipush 20, 2) := by decide +kernel
theorem dX12_seenAt_58 : decode cX12_seenAt 58 = .ok (.iload 6, 2) := by decide +kernel
theorem dX12_seenAt_60 : decode cX12_seenAt 60 = .ok (.isub, 1) := by decide +kernel
theorem dX12_seenAt_61 : decode cX12_seenAt 61 = .ok (.istore 7, 2) := by decide +kernel
theorem dX12_seenAt_63 : decode cX12_seenAt 63 = .ok (.aload_n 0, 1) := by decide +kernel
theorem dX12_seenAt_64 : decode cX12_seenAt 64 = .ok (.iload 7, 2) := by decide +kernel
theorem dX12_seenAt_66 : decode cX12_seenAt 66 = .ok (.iload_n 1, 1) := by decide +kernel
theorem dX12_seenAt_67 : decode cX12_seenAt 67 = .ok (.iload_n 2, 1) := by decide +kernel
theorem dX12_seenAt_68 : decode cX12_seenAt 68 = .ok (.iload_n 3, 1) := by decide +kernel
theorem dX12_seenAt_69 : decode cX12_seenAt 69 = .ok (.invokevirtual 369, 3) := by decide +kernel
theorem dX12_seenAt_72 : decode cX12_seenAt 72 = .ok (.ifCond .eq 10, 3) := by decide +kernel
theorem dX12_seenAt_75 : decode cX12_seenAt 75 = .ok (.aload_n 0, 1) := by decide +kernel
theorem dX12_seenAt_76 : decode cX12_seenAt 76 = .ok (.iload 7, 2) := by decide +kernel
theorem dX12_seenAt_78 : decode cX12_seenAt 78 = .ok (.invokevirtual 88, 3) := by decide +kernel
theorem dX12_seenAt_81 : decode cX12_seenAt 81 = .ok (.ireturn, 1) := by decide +kernel
theorem dX12_seenAt_82 : decode cX12_seenAt 82 = .ok (.iinc 6 1, 3) := by decide +kernel
theorem dX12_seenAt_85 : decode cX12_seenAt 85 = .ok (.goto (-46), 3) := by decide +kernel
theorem dX12_seenAt_88 : decode cX12_seenAt 88 = .ok (.aload_n 0, 1) := by decide +kernel
theorem dX12_seenAt_89 : decode cX12_seenAt 89 = .ok (.bipush 6, 2) := by decide +kernel
theorem dX12_seenAt_91 : decode cX12_seenAt 91 = .ok (.invokevirtual 85, 3) := by decide +kernel
theorem dX12_seenAt_94 : decode cX12_seenAt 94 = .ok (.ireturn, 1) := by decide +kernel
theorem mv_X12_seenAt : MV yX12_seenAt RX12 cX12_seenAt 8 (some .int) 4 := ⟨tb_1795, tb_1793, tb_1794, tb_16, by decide +kernel, by decide +kernel, by decide +kernel⟩
def f_X12_seenAt_j61 (fu : Nat) (m_at : Nat → Int32) (m_trayMany : Nat → Int32) (m_trays : Nat → Int64) (x1 : Int32) (x2 : Int32) (x3 : Int32) (x4 : Int32) (k39 : Int32 → Int32 → Option (Int32 × Int32)) (m_status : Int32) (x6 : Int32) (s0 : Int32) : Option (Int32 × Int32) := (f_X12_fits fu m_at m_trays s0 x1 x2 x3).bind fun z_13 => (if z_13 = 0 then bnd (x6 + 1) fun x6_15 => k39 m_status x6_15 else (f_X12_gives fu m_status s0).bind fun z_16 => some (z_16.1, z_16.2))
def f_X12_seenAt_b39 (fu : Nat) (m_at : Nat → Int32) (m_trayMany : Nat → Int32) (m_trays : Nat → Int64) (x1 : Int32) (x2 : Int32) (x3 : Int32) (x4 : Int32) (k39 : Int32 → Int32 → Option (Int32 × Int32)) (m_status : Int32) (x6 : Int32) : Option (Int32 × Int32) := (if 20 < x6 then (f_X12_refuse fu m_status 6).bind fun z_18 => some (z_18.1, z_18.2) else (if x4 = 0 then f_X12_seenAt_j61 fu m_at m_trayMany m_trays x1 x2 x3 x4 k39 m_status x6 x6 else f_X12_seenAt_j61 fu m_at m_trayMany m_trays x1 x2 x3 x4 k39 m_status x6 (20 - x6)))
def f_X12_seenAt_l39 (fu : Nat) (m_at : Nat → Int32) (m_trayMany : Nat → Int32) (m_trays : Nat → Int64) (x1 : Int32) (x2 : Int32) (x3 : Int32) (x4 : Int32) : Nat → Int32 → Int32 → Option (Int32 × Int32)
  | 0, _, _ => none
  | n + 1, m_status, x6 => f_X12_seenAt_b39 fu m_at m_trayMany m_trays x1 x2 x3 x4 (f_X12_seenAt_l39 fu m_at m_trayMany m_trays x1 x2 x3 x4 n) m_status x6
def f_X12_seenAt_j22 (fu : Nat) (m_at : Nat → Int32) (m_trayMany : Nat → Int32) (m_trays : Nat → Int64) (x1 : Int32) (x2 : Int32) (x3 : Int32) (x4 : Int32) (m_status : Int32) (s0 : Int32) : Option (Int32 × Int32) := (if s0 ≤ 0 then f_X12_seenAt_l39 fu m_at m_trayMany m_trays x1 x2 x3 x4 fu m_status 0 else (f_X12_refuse fu m_status s0).bind fun z_21 => some (z_21.1, z_21.2))
def f_X12_seenAt (fu : Nat) (m_at : Nat → Int32) (m_status : Int32) (m_trayMany : Nat → Int32) (m_trays : Nat → Int64) (x1 : Int32) (x2 : Int32) (x3 : Int32) (x4 : Int32) : Option (Int32 × Int32) := (if x4 < 0 then f_X12_seenAt_j22 fu m_at m_trayMany m_trays x1 x2 x3 x4 m_status 1 else (if x4 ≤ 1 then (f_X12_wrongSeen fu m_at m_trayMany m_trays x1 x2 x3).bind fun z_24 => f_X12_seenAt_j22 fu m_at m_trayMany m_trays x1 x2 x3 x4 m_status z_24 else f_X12_seenAt_j22 fu m_at m_trayMany m_trays x1 x2 x3 x4 m_status 1))
abbrev rm_X12_seenAt : Room := { frames := 4, cells := 0, slots := 0, locals := 91 }
set_option maxHeartbeats 4000000 in
set_option maxRecDepth 100000 in
theorem c_X12_seenAt (l : Launch) (D : va_G) (cy : Nat → ClassId) (fu : Nat) (A_m : Nat → Nat) (m_at : Nat → Int32) (m_names : Nat → Int64) (m_status : Int32) (m_top : Int64) (m_bottom : Int64) (m_sort : Nat → Int32) (m_trayMany : Nat → Int32) (m_trays : Nat → Int64) (m_tape : Nat → Int32) (m_text : Nat → Int32) (m_taped : Int32) (m_size : Int32) (m_token : Int32) (m_from : Int32) (m_end : Int32) (m_value : Int32) (m_faultKind : Int32) (m_faultPlace : Int32) (m_faults : Int32) (m_seen : Int32) (m_toldParts : Int32) (m_opened : Nat → Int32) (m_depth : Int32) (m_counted : Int32) (m_bestOrder : Int32) (m_standers : Nat → Int32) (m_has : Nat → Int32) (m_bestHas : Nat → Int32) (m_standerMany : Int32) (m_bestCouples : Int32) (m_bestFondness : Int32) (m_cameTo : Nat → Int32) (m_doesStandFirst : Int32) (m_stoodBy : Nat → Int64) (m_drawn : Int32) (m_ranSteps : Int32) (m_loops : Nat → Int32) (m_ran : Nat → Int32) (m_told1 : Nat → Int32) (m_isTold : Int32) (m_marks : Int32) (x1 : Int32) (x2 : Int32) (x3 : Int32) (x4 : Int32) (res : Int32 × Int32) (h : f_X12_seenAt fu m_at m_status m_trayMany m_trays x1 x2 x3 x4 = some res) (A : Nat → Prop) (hA : A = adr [bl_X12 cy A_m m_at m_names m_status m_top m_bottom m_sort m_trayMany m_trays m_tape m_text m_taped m_size m_token m_from m_end m_value m_faultKind m_faultPlace m_faults m_seen m_toldParts m_opened m_depth m_counted m_bestOrder m_standers m_has m_bestHas m_standerMany m_bestCouples m_bestFondness m_cameTo m_doesStandFirst m_stoodBy m_drawn m_ranSteps m_loops m_ran m_told1 m_isTold m_marks]) (W1 : List va_W) (hW1 : W1 = [bl_X12 cy A_m m_at m_names res.2 m_top m_bottom m_sort m_trayMany m_trays m_tape m_text m_taped m_size m_token m_from m_end m_value m_faultKind m_faultPlace m_faults m_seen m_toldParts m_opened m_depth m_counted m_bestOrder m_standers m_has m_bestHas m_standerMany m_bestCouples m_bestFondness m_cameTo m_doesStandFirst m_stoodBy m_drawn m_ranSteps m_loops m_ran m_told1 m_isTold m_marks]) : Met l yX12_seenAt (WW yX12_seenAt cX12_seenAt 8 (some .int)) rm_X12_seenAt (Ed D cy [.ref (A_m 0), .int x1, .int x2, .int x3, .int x4] [bl_X12 cy A_m m_at m_names m_status m_top m_bottom m_sort m_trayMany m_trays m_tape m_text m_taped m_size m_token m_from m_end m_value m_faultKind m_faultPlace m_faults m_seen m_toldParts m_opened m_depth m_counted m_bestOrder m_standers m_has m_bestHas m_standerMany m_bestCouples m_bestFondness m_cameTo m_doesStandFirst m_stoodBy m_drawn m_ranSteps m_loops m_ran m_told1 m_isTold m_marks]) (Qei D res.1 A W1) 0 0 A := by
  refine Met.ofW (cc := cX12_seenAt) (maxL := 8) (ret := (some .int)) (by decide) rfl ?_
  intro p e s m args below meth c s₁ B hml hv
  obtain ⟨hargs, hP, hX, hD0⟩ := hv
  have hx := B.exec
  have hb := B.bytes
  have hr := B.returns
  have ht : ∀ w ∈ lw_gd, w.before args s = true := fun w hw => atoms_spec (ws := WW yX12_seenAt cX12_seenAt 8 (some .int)) B.pre w (List.mem_cons_of_mem _ hw)
  have hown : s.vm.findClass RX12 = some m.cls := findClass_of_methodNamed B.named
  have hlocks := B.notSynchronized
  have hP : PD D A [bl_X12 cy A_m m_at m_names m_status m_top m_bottom m_sort m_trayMany m_trays m_tape m_text m_taped m_size m_token m_from m_end m_value m_faultKind m_faultPlace m_faults m_seen m_toldParts m_opened m_depth m_counted m_bestOrder m_standers m_has m_bestHas m_standerMany m_bestCouples m_bestFondness m_cameTo m_doesStandFirst m_stoodBy m_drawn m_ranSteps m_loops m_ran m_told1 m_isTold m_marks] s.heap := ⟨hP, by rw [hA]; exact hD0.own⟩
  have hS : va_S A s.heap s.heap [] := va_S.rf
  obtain ⟨ls, hl, hent⟩ := ent (m := m) (n := 8) hargs (Nat.le_of_ble_eq_true rfl) (lv := [(0, .ref (A_m 0)), (1, .int x1), (2, .int x2), (3, .int x3), (4, .int x4)]) rfl
  rw [hent]
  clear hent
  have l39 : ∀ (n39 : Nat) (m_status : Int32) (x6 : Int32) (H : Heap) (locs : List Loc) (_ : PD D A [bl_X12 cy A_m m_at m_names m_status m_top m_bottom m_sort m_trayMany m_trays m_tape m_text m_taped m_size m_token m_from m_end m_value m_faultKind m_faultPlace m_faults m_seen m_toldParts m_opened m_depth m_counted m_bestOrder m_standers m_has m_bestHas m_standerMany m_bestCouples m_bestFondness m_cameTo m_doesStandFirst m_stoodBy m_drawn m_ranSteps m_loops m_ran m_told1 m_isTold m_marks] H) (_ : va_S A s.heap H locs) (ls : Array Slot), lv_has ls 8 [(0, .ref (A_m 0)), (1, .int x1), (2, .int x2), (3, .int x3), (4, .int x4), (6, .int x6)] → f_X12_seenAt_l39 fu m_at m_trayMany m_trays x1 x2 x3 x4 n39 m_status x6 = some res → W p l e (headSpec (WW yX12_seenAt cX12_seenAt 8 (some .int)) rm_X12_seenAt).room s m args below meth c H locs 0 0 (MQ below (Qei D res.1 A W1) args s 0 0 A) (F0 m 39 ls []) := by
    intro n39
    induction n39 with
    | zero => intro m_status x6 H locs hP hS ls hl h; cases h
    | succ n39 ih39 =>
      have j61 : ∀ (m_status : Int32) (x6 : Int32) (s0 : Int32) (H : Heap) (locs : List Loc) (_ : PD D A [bl_X12 cy A_m m_at m_names m_status m_top m_bottom m_sort m_trayMany m_trays m_tape m_text m_taped m_size m_token m_from m_end m_value m_faultKind m_faultPlace m_faults m_seen m_toldParts m_opened m_depth m_counted m_bestOrder m_standers m_has m_bestHas m_standerMany m_bestCouples m_bestFondness m_cameTo m_doesStandFirst m_stoodBy m_drawn m_ranSteps m_loops m_ran m_told1 m_isTold m_marks] H) (_ : va_S A s.heap H locs) (ls : Array Slot), lv_has ls 8 [(0, .ref (A_m 0)), (1, .int x1), (2, .int x2), (3, .int x3), (4, .int x4), (6, .int x6)] → f_X12_seenAt_j61 fu m_at m_trayMany m_trays x1 x2 x3 x4 (f_X12_seenAt_l39 fu m_at m_trayMany m_trays x1 x2 x3 x4 n39) m_status x6 s0 = some res → W p l e (headSpec (WW yX12_seenAt cX12_seenAt 8 (some .int)) rm_X12_seenAt).room s m args below meth c H locs 0 0 (MQ below (Qei D res.1 A W1) args s 0 0 A) (F0 m 61 ls [.int s0]) := by
        intro m_status x6 s0 H locs hP hS ls hl h
        unfold f_X12_seenAt_j61 at h
        refine lv_istore (lv' := [(7, .int s0), (0, .ref (A_m 0)), (1, .int x1), (2, .int x2), (3, .int x3), (4, .int x4), (6, .int x6)]) hx hb dX12_seenAt_61 hl (by decide) rfl (fun ls hl => ?_)
        refine lv_aload_n hx hb dX12_seenAt_63 rfl (lv_at hl 1 rfl) ?_
        refine lv_iload hx hb dX12_seenAt_64 (lv_at hl 0 rfl) ?_
        refine lv_iload_n hx hb dX12_seenAt_66 rfl (lv_at hl 2 rfl) ?_
        refine lv_iload_n hx hb dX12_seenAt_67 rfl (lv_at hl 3 rfl) ?_
        refine lv_iload_n hx hb dX12_seenAt_68 rfl (lv_at hl 4 rfl) ?_
        obtain ⟨z_13, e_z_13, h⟩ := bi h
        refine roVi (rest := []) ⟨hx, hb, hml, hown, ht⟩ (c_X12_fits l D cy fu A_m m_at m_names m_status m_top m_bottom m_sort m_trayMany m_trays m_tape m_text m_taped m_size m_token m_from m_end m_value m_faultKind m_faultPlace m_faults m_seen m_toldParts m_opened m_depth m_counted m_bestOrder m_standers m_has m_bestHas m_standerMany m_bestCouples m_bestFondness m_cameTo m_doesStandFirst m_stoodBy m_drawn m_ranSteps m_loops m_ran m_told1 m_isTold m_marks s0 x1 x2 x3 z_13 e_z_13) (cV ht mv_X12_fits tb_1784 rfl rfl ⟨Nat.le_of_ble_eq_true rfl, Nat.le_of_ble_eq_true rfl⟩) (P_sub hP.1 [0] rfl) hX rfl rfl rfl hl.1 rfl (Nat.le_of_ble_eq_true rfl) dX12_seenAt_69 ⟨Nat.le_of_ble_eq_true rfl, Nat.le_of_ble_eq_true rfl⟩ ?_
        refine lv_if_eq (tgt := 82) hx hb dX12_seenAt_72 (by decide) (fun c_14 => ?_) (fun c_14 => ?_)
        · have h := it c_14 h
          obtain ⟨x6_15, e_x6_15⟩ : ∃ y : Int32, y = x6 + 1 := ⟨_, rfl⟩
          have h := bn e_x6_15 h
          refine lv_iinc (v := x6_15) (lv' := [(6, .int x6_15), (7, .int s0), (0, .ref (A_m 0)), (1, .int x1), (2, .int x2), (3, .int x3), (4, .int x4)]) hx hb dX12_seenAt_82 hl (k := 6) rfl (by rw [e_x6_15]; rfl) (by decide) rfl (fun ls hl => ?_)
          refine lv_goto (tgt := 39) hx hb dX12_seenAt_85 (by decide) ?_
          exact ih39 m_status x6_15 _ _ hP hS ls (lv_sub hl [2, 3, 4, 5, 6, 0] rfl) h
        · have h := ie c_14 h
          refine lv_aload_n hx hb dX12_seenAt_75 rfl (lv_at hl 1 rfl) ?_
          refine lv_iload hx hb dX12_seenAt_76 (lv_at hl 0 rfl) ?_
          obtain ⟨z_16, e_z_16, h⟩ := bi h
          refine efVi (rest := []) ⟨hx, hb, hml, hown, ht⟩ (c_X12_gives l D cy fu A_m m_at m_names m_status m_top m_bottom m_sort m_trayMany m_trays m_tape m_text m_taped m_size m_token m_from m_end m_value m_faultKind m_faultPlace m_faults m_seen m_toldParts m_opened m_depth m_counted m_bestOrder m_standers m_has m_bestHas m_standerMany m_bestCouples m_bestFondness m_cameTo m_doesStandFirst m_stoodBy m_drawn m_ranSteps m_loops m_ran m_told1 m_isTold m_marks s0 z_16 e_z_16 _ rfl _ rfl) (cV ht mv_X12_gives tb_1499 rfl rfl ⟨Nat.le_of_ble_eq_true rfl, Nat.le_of_ble_eq_true rfl⟩) hP hS hX [0] rfl rfl rfl rfl rfl rfl hl.1 rfl (Nat.le_of_ble_eq_true rfl) dX12_seenAt_78 ⟨Nat.le_of_ble_eq_true rfl, Nat.le_of_ble_eq_true rfl⟩ (fun H locs hP hS => ?_)
          have hP : PD D A [bl_X12 cy A_m m_at m_names z_16.2 m_top m_bottom m_sort m_trayMany m_trays m_tape m_text m_taped m_size m_token m_from m_end m_value m_faultKind m_faultPlace m_faults m_seen m_toldParts m_opened m_depth m_counted m_bestOrder m_standers m_has m_bestHas m_standerMany m_bestCouples m_bestFondness m_cameTo m_doesStandFirst m_stoodBy m_drawn m_ranSteps m_loops m_ran m_told1 m_isTold m_marks] H := hP
          cases h
          subst hW1
          exact W.iret hx hb hr (fun _ ht9 _ => ⟨⟨_, (), rfl, rfl, hPt ht9 hP.1⟩, hS.F ht9⟩) hS.2.2 dX12_seenAt_81
      intro m_status x6 H locs hP hS ls hl h
      have h : f_X12_seenAt_b39 fu m_at m_trayMany m_trays x1 x2 x3 x4 (f_X12_seenAt_l39 fu m_at m_trayMany m_trays x1 x2 x3 x4 n39) m_status x6 = some res := h
      unfold f_X12_seenAt_b39 at h
      refine lv_iload hx hb dX12_seenAt_39 (lv_at hl 5 rfl) ?_
      refine lv_bipush (v := 20) hx hb dX12_seenAt_41 (by decide) ?_
      refine lv_icmp_gt (tgt := 88) hx hb dX12_seenAt_43 (by decide) (fun c_17 => ?_) (fun c_17 => ?_)
      · have h := it c_17 h
        refine lv_aload_n hx hb dX12_seenAt_88 rfl (lv_at hl 0 rfl) ?_
        refine lv_bipush (v := 6) hx hb dX12_seenAt_89 (by decide) ?_
        obtain ⟨z_18, e_z_18, h⟩ := bi h
        refine efVi (rest := []) ⟨hx, hb, hml, hown, ht⟩ (c_X12_refuse l D cy fu A_m m_at m_names m_status m_top m_bottom m_sort m_trayMany m_trays m_tape m_text m_taped m_size m_token m_from m_end m_value m_faultKind m_faultPlace m_faults m_seen m_toldParts m_opened m_depth m_counted m_bestOrder m_standers m_has m_bestHas m_standerMany m_bestCouples m_bestFondness m_cameTo m_doesStandFirst m_stoodBy m_drawn m_ranSteps m_loops m_ran m_told1 m_isTold m_marks 6 z_18 e_z_18 _ rfl _ rfl) (cV ht mv_X12_refuse tb_1432 rfl rfl ⟨Nat.le_of_ble_eq_true rfl, Nat.le_of_ble_eq_true rfl⟩) hP hS hX [0] rfl rfl rfl rfl rfl rfl hl.1 rfl (Nat.le_of_ble_eq_true rfl) dX12_seenAt_91 ⟨Nat.le_of_ble_eq_true rfl, Nat.le_of_ble_eq_true rfl⟩ (fun H locs hP hS => ?_)
        have hP : PD D A [bl_X12 cy A_m m_at m_names z_18.2 m_top m_bottom m_sort m_trayMany m_trays m_tape m_text m_taped m_size m_token m_from m_end m_value m_faultKind m_faultPlace m_faults m_seen m_toldParts m_opened m_depth m_counted m_bestOrder m_standers m_has m_bestHas m_standerMany m_bestCouples m_bestFondness m_cameTo m_doesStandFirst m_stoodBy m_drawn m_ranSteps m_loops m_ran m_told1 m_isTold m_marks] H := hP
        cases h
        subst hW1
        exact W.iret hx hb hr (fun _ ht9 _ => ⟨⟨_, (), rfl, rfl, hPt ht9 hP.1⟩, hS.F ht9⟩) hS.2.2 dX12_seenAt_94
      · have h := ie c_17 h
        refine lv_iload hx hb dX12_seenAt_46 (lv_at hl 4 rfl) ?_
        refine lv_if_ne (tgt := 56) hx hb dX12_seenAt_48 (by decide) (fun c_19 => ?_) (fun c_19 => ?_)
        · have h := ie c_19 h
          refine lv_bipush (v := 20) hx hb dX12_seenAt_56 (by decide) ?_
          refine lv_iload hx hb dX12_seenAt_58 (lv_at hl 5 rfl) ?_
          refine lv_isub hx hb dX12_seenAt_60 ?_
          exact j61 m_status x6 (20 - x6) _ _ hP hS ls (lv_sub hl [0, 1, 2, 3, 4, 5] rfl) h
        · have h := it c_19 h
          refine lv_iload hx hb dX12_seenAt_51 (lv_at hl 5 rfl) ?_
          refine lv_goto (tgt := 61) hx hb dX12_seenAt_53 (by decide) ?_
          exact j61 m_status x6 x6 _ _ hP hS ls (lv_sub hl [0, 1, 2, 3, 4, 5] rfl) h
  have j22 : ∀ (m_status : Int32) (s0 : Int32) (H : Heap) (locs : List Loc) (_ : PD D A [bl_X12 cy A_m m_at m_names m_status m_top m_bottom m_sort m_trayMany m_trays m_tape m_text m_taped m_size m_token m_from m_end m_value m_faultKind m_faultPlace m_faults m_seen m_toldParts m_opened m_depth m_counted m_bestOrder m_standers m_has m_bestHas m_standerMany m_bestCouples m_bestFondness m_cameTo m_doesStandFirst m_stoodBy m_drawn m_ranSteps m_loops m_ran m_told1 m_isTold m_marks] H) (_ : va_S A s.heap H locs) (ls : Array Slot), lv_has ls 8 [(0, .ref (A_m 0)), (1, .int x1), (2, .int x2), (3, .int x3), (4, .int x4)] → f_X12_seenAt_j22 fu m_at m_trayMany m_trays x1 x2 x3 x4 m_status s0 = some res → W p l e (headSpec (WW yX12_seenAt cX12_seenAt 8 (some .int)) rm_X12_seenAt).room s m args below meth c H locs 0 0 (MQ below (Qei D res.1 A W1) args s 0 0 A) (F0 m 22 ls [.int s0]) := by
    intro m_status s0 H locs hP hS ls hl h
    unfold f_X12_seenAt_j22 at h
    refine lv_istore (lv' := [(5, .int s0), (0, .ref (A_m 0)), (1, .int x1), (2, .int x2), (3, .int x3), (4, .int x4)]) hx hb dX12_seenAt_22 hl (by decide) rfl (fun ls hl => ?_)
    refine lv_iload hx hb dX12_seenAt_24 (lv_at hl 0 rfl) ?_
    refine lv_if_le (tgt := 36) hx hb dX12_seenAt_26 (by decide) (fun c_20 => ?_) (fun c_20 => ?_)
    · have h := it c_20 h
      refine lv_iconst (v := 0) hx hb dX12_seenAt_36 (by decide) ?_
      refine lv_istore (lv' := [(6, .int 0), (5, .int s0), (0, .ref (A_m 0)), (1, .int x1), (2, .int x2), (3, .int x3), (4, .int x4)]) hx hb dX12_seenAt_37 hl (by decide) rfl (fun ls hl => ?_)
      exact l39 fu m_status 0 _ _ hP hS ls (lv_sub hl [2, 3, 4, 5, 6, 0] rfl) h
    · have h := ie c_20 h
      refine lv_aload_n hx hb dX12_seenAt_29 rfl (lv_at hl 1 rfl) ?_
      refine lv_iload hx hb dX12_seenAt_30 (lv_at hl 0 rfl) ?_
      obtain ⟨z_21, e_z_21, h⟩ := bi h
      refine efVi (rest := []) ⟨hx, hb, hml, hown, ht⟩ (c_X12_refuse l D cy fu A_m m_at m_names m_status m_top m_bottom m_sort m_trayMany m_trays m_tape m_text m_taped m_size m_token m_from m_end m_value m_faultKind m_faultPlace m_faults m_seen m_toldParts m_opened m_depth m_counted m_bestOrder m_standers m_has m_bestHas m_standerMany m_bestCouples m_bestFondness m_cameTo m_doesStandFirst m_stoodBy m_drawn m_ranSteps m_loops m_ran m_told1 m_isTold m_marks s0 z_21 e_z_21 _ rfl _ rfl) (cV ht mv_X12_refuse tb_1432 rfl rfl ⟨Nat.le_of_ble_eq_true rfl, Nat.le_of_ble_eq_true rfl⟩) hP hS hX [0] rfl rfl rfl rfl rfl rfl hl.1 rfl (Nat.le_of_ble_eq_true rfl) dX12_seenAt_32 ⟨Nat.le_of_ble_eq_true rfl, Nat.le_of_ble_eq_true rfl⟩ (fun H locs hP hS => ?_)
      have hP : PD D A [bl_X12 cy A_m m_at m_names z_21.2 m_top m_bottom m_sort m_trayMany m_trays m_tape m_text m_taped m_size m_token m_from m_end m_value m_faultKind m_faultPlace m_faults m_seen m_toldParts m_opened m_depth m_counted m_bestOrder m_standers m_has m_bestHas m_standerMany m_bestCouples m_bestFondness m_cameTo m_doesStandFirst m_stoodBy m_drawn m_ranSteps m_loops m_ran m_told1 m_isTold m_marks] H := hP
      cases h
      subst hW1
      exact W.iret hx hb hr (fun _ ht9 _ => ⟨⟨_, (), rfl, rfl, hPt ht9 hP.1⟩, hS.F ht9⟩) hS.2.2 dX12_seenAt_35
  unfold f_X12_seenAt at h
  refine lv_iload hx hb dX12_seenAt_0 (lv_at hl 4 rfl) ?_
  refine lv_if_lt (tgt := 11) hx hb dX12_seenAt_2 (by decide) (fun c_22 => ?_) (fun c_22 => ?_)
  · have h := it c_22 h
    refine lv_iconst (v := 1) hx hb dX12_seenAt_11 (by decide) ?_
    refine lv_goto (tgt := 22) hx hb dX12_seenAt_12 (by decide) ?_
    exact j22 m_status 1 _ _ hP hS ls (lv_sub hl [0, 1, 2, 3, 4] rfl) h
  · have h := ie c_22 h
    refine lv_iload hx hb dX12_seenAt_5 (lv_at hl 4 rfl) ?_
    refine lv_iconst (v := 1) hx hb dX12_seenAt_7 (by decide) ?_
    refine lv_icmp_le (tgt := 15) hx hb dX12_seenAt_8 (by decide) (fun c_23 => ?_) (fun c_23 => ?_)
    · have h := it c_23 h
      refine lv_aload_n hx hb dX12_seenAt_15 rfl (lv_at hl 0 rfl) ?_
      refine lv_iload_n hx hb dX12_seenAt_16 rfl (lv_at hl 1 rfl) ?_
      refine lv_iload_n hx hb dX12_seenAt_17 rfl (lv_at hl 2 rfl) ?_
      refine lv_iload_n hx hb dX12_seenAt_18 rfl (lv_at hl 3 rfl) ?_
      obtain ⟨z_24, e_z_24, h⟩ := bi h
      refine roVi (rest := []) ⟨hx, hb, hml, hown, ht⟩ (c_X12_wrongSeen l D cy fu A_m m_at m_names m_status m_top m_bottom m_sort m_trayMany m_trays m_tape m_text m_taped m_size m_token m_from m_end m_value m_faultKind m_faultPlace m_faults m_seen m_toldParts m_opened m_depth m_counted m_bestOrder m_standers m_has m_bestHas m_standerMany m_bestCouples m_bestFondness m_cameTo m_doesStandFirst m_stoodBy m_drawn m_ranSteps m_loops m_ran m_told1 m_isTold m_marks x1 x2 x3 z_24 e_z_24) (cV ht mv_X12_wrongSeen tb_1776 rfl rfl ⟨Nat.le_of_ble_eq_true rfl, Nat.le_of_ble_eq_true rfl⟩) (P_sub hP.1 [0] rfl) hX rfl rfl rfl hl.1 rfl (Nat.le_of_ble_eq_true rfl) dX12_seenAt_19 ⟨Nat.le_of_ble_eq_true rfl, Nat.le_of_ble_eq_true rfl⟩ ?_
      exact j22 m_status z_24 _ _ hP hS ls (lv_sub hl [0, 1, 2, 3, 4] rfl) h
    · have h := ie c_23 h
      refine lv_iconst (v := 1) hx hb dX12_seenAt_11 (by decide) ?_
      refine lv_goto (tgt := 22) hx hb dX12_seenAt_12 (by decide) ?_
      exact j22 m_status 1 _ _ hP hS ls (lv_sub hl [0, 1, 2, 3, 4] rfl) h
theorem dX12_ask_0 : decode cX12_ask 0 = .ok (.aload_n 0, 1) := by decide +kernel
theorem dX12_ask_1 : decode cX12_ask 1 = .ok (.iload_n 1, 1) := by decide +kernel
theorem dX12_ask_2 : decode cX12_ask 2 = .ok (.iload_n 2, 1) := by decide +kernel
theorem dX12_ask_3 : decode cX12_ask 3 = .ok (.iload_n 3, 1) := by decide +kernel
theorem dX12_ask_4 : decode cX12_ask 4 = .ok (.invokevirtual 373, 3) := by decide +kernel
theorem dX12_ask_7 : decode cX12_ask 7 = .ok (.istore 4, 2) := by decide +kernel
theorem dX12_ask_9 : decode cX12_ask 9 = .ok (.iload 4, 2) := by decide +kernel
theorem dX12_ask_11 : decode cX12_ask 11 = .ok (.ifCond .le 10, 3) := by decide +kernel
theorem dX12_ask_14 : decode cX12_ask 14 = .ok (.aload_n 0, 1) := by decide +kernel
theorem dX12_ask_15 : decode cX12_ask 15 = .ok (.iload 4, 2) := by decide +kernel
theorem dX12_ask_17 : decode cX12_ask 17 = .ok (.invokevirtual 85, 3) := by decide +kernel
theorem dX12_ask_20 : decode cX12_ask 20 = .ok (.ireturn, 1) := by decide +kernel
theorem dX12_ask_21 : decode cX12_ask 21 = .ok (.aload_n 0, 1) := by decide +kernel
theorem dX12_ask_22 : decode cX12_ask 22 = .ok (.iload_n 1, 1) := by decide +kernel
theorem dX12_ask_23 : decode cX12_ask 23 = .ok (.iload_n 2, 1) := by decide +kernel
theorem dX12_ask_24 : decode cX12_ask 24 = .ok (.iload_n 3, 1) := by decide +kernel
theorem dX12_ask_25 : decode cX12_ask 25 = .ok (.iconst 0, 1) := by decide +kernel
theorem dX12_ask_26 : decode cX12_ask 26 = .ok (.invokevirtual 376, 3) := by decide +kernel
theorem dX12_ask_29 : decode cX12_ask 29 = .ok (.istore 5, 2) := by decide +kernel
theorem dX12_ask_31 : decode cX12_ask 31 = .ok (.iload 5, 2) := by decide +kernel
theorem dX12_ask_33 : decode cX12_ask 33 = .ok (.iconst 2, 1) := by decide +kernel
theorem dX12_ask_34 : decode cX12_ask 34 = .ok (.if_icmp .ge 10, 3) := by decide +kernel
theorem dX12_ask_37 : decode cX12_ask 37 = .ok (.aload_n 0, 1) := by decide +kernel
theorem dX12_ask_38 : decode cX12_ask 38 = .ok (.bipush 6, 2) := by decide +kernel
theorem dX12_ask_40 : decode cX12_ask 40 = .ok (.invokevirtual 85, 3) := by decide +kernel
theorem dX12_ask_43 : decode cX12_ask 43 = .ok (.ireturn, 1) := by decide +kernel
theorem dX12_ask_44 : decode cX12_ask 44 = .ok (.iconst (-1), 1) := by decide +kernel
theorem dX12_ask_45 : decode cX12_ask 45 = .ok (.istore 6, 2) := by decide +kernel
theorem dX12_ask_47 : decode cX12_ask 47 = .ok (.ldc_w 379, 3) := by decide +kernel
theorem dX12_ask_50 : decode cX12_ask 50 = .ok (.istore 7, 2) := by decide +kernel
theorem dX12_ask_52 : decode cX12_ask 52 = .ok (.iconst 1, 1) := by decide +kernel
theorem dX12_ask_53 : decode cX12_ask 53 = .ok (.istore 8, 2) := by decide +kernel
theorem dX12_ask_55 : decode cX12_ask 55 = .ok (.iload 8, 2) := by decide +kernel
theorem dX12_ask_57 : decode cX12_ask 57 = .ok (.bipush 99, 2) := by decide +kernel
theorem dX12_ask_59 : decode cX12_ask 59 = .ok (.if_icmp .gt 50, 3) := by decide +kernel
theorem dX12_ask_62 : decode cX12_ask 62 = .ok (.aload_n 0, 1) := by decide +kernel
theorem dX12_ask_63 : decode cX12_ask 63 = .ok (.iload_n 1, 1) := by decide +kernel
theorem dX12_ask_64 : decode cX12_ask 64 = .ok (.iload_n 2, 1) := by decide +kernel
theorem dX12_ask_65 : decode cX12_ask 65 = .ok (.iload_n 3, 1) := by decide +kernel
theorem dX12_ask_66 : decode cX12_ask 66 = .ok (.iload 8, 2) := by decide +kernel
theorem dX12_ask_68 : decode cX12_ask 68 = .ok (.invokevirtual 376, 3) := by decide +kernel
theorem dX12_ask_71 : decode cX12_ask 71 = .ok (.istore 9, 2) := by decide +kernel
theorem dX12_ask_73 : decode cX12_ask 73 = .ok (.iload 9, 2) := by decide +kernel
theorem dX12_ask_75 : decode cX12_ask 75 = .ok (.iload 5, 2) := by decide +kernel
theorem dX12_ask_77 : decode cX12_ask 77 = .ok (.iload 9, 2) := by decide +kernel
theorem dX12_ask_79 : decode cX12_ask 79 = .ok (.isub, 1) := by decide +kernel
theorem dX12_ask_80 : decode cX12_ask 80 = .ok (.invokestatic 380, 3) := by decide +kernel
theorem dX12_ask_83 : decode cX12_ask 83 = .ok (.istore 10, 2) := by decide +kernel
theorem dX12_ask_85 : decode cX12_ask 85 = .ok (.iload 10, 2) := by decide +kernel
theorem dX12_ask_87 : decode cX12_ask 87 = .ok (.iload 7, 2) := by decide +kernel
theorem dX12_ask_89 : decode cX12_ask 89 = .ok (.if_icmp .lt 6, 3) := by decide +kernel
theorem dX12_ask_92 : decode cX12_ask 92 = .ok (.goto 11, 3) := by decide +kernel
theorem dX12_ask_95 : decode cX12_ask 95 = .ok (.iload 10, 2) := by decide +kernel
theorem dX12_ask_97 : decode cX12_ask 97 = .ok (.istore 7, 2) := by decide +kernel
theorem dX12_ask_99 : decode cX12_ask 99 = .ok (.iload 8, 2) := by decide +kernel
theorem dX12_ask_101 : decode cX12_ask 101 = .ok (.istore 6, 2) := by decide +kernel
theorem dX12_ask_103 : decode cX12_ask 103 = .ok (.iinc 8 1, 3) := by decide +kernel
theorem dX12_ask_106 : decode cX12_ask 106 = .ok (.goto (-51), 3) := by decide +kernel
theorem dX12_ask_109 : decode cX12_ask 109 = .ok (.aload_n 0, 1) := by decide +kernel
theorem dX12_ask_110 : decode cX12_ask 110 = .ok (.iload 6, 2) := by decide +kernel
theorem dX12_ask_112 : decode cX12_ask 112 = .ok (.invokevirtual 88, 3) := by decide +kernel
theorem dX12_ask_115 : decode cX12_ask 115 = .ok (.ireturn, 1) := by decide +kernel
theorem mv_X12_ask : MV yX12_ask RX12 cX12_ask 11 (some .int) 3 := ⟨tb_1799, tb_1797, tb_1798, tb_16, by decide +kernel, by decide +kernel, by decide +kernel⟩
def f_X12_ask_b55 (fu : Nat) (m_at : Nat → Int32) (m_trayMany : Nat → Int32) (m_trays : Nat → Int64) (x1 : Int32) (x2 : Int32) (x3 : Int32) (k55 : Int32 → Int32 → Int32 → Int32 → Int32 → Option (Int32 × Int32)) (m_status : Int32) (x5 : Int32) (x6 : Int32) (x7 : Int32) (x8 : Int32) : Option (Int32 × Int32) := (if 99 < x8 then (f_X12_gives fu m_status x6).bind fun z_15 => some (z_15.1, z_15.2) else (f_X12_fitting fu m_at m_trays x1 x2 x3 x8).bind fun z_16 => bnd (if z_16 < (x5 - z_16) then (x5 - z_16) else z_16) fun x10_17 => (if x10_17 < x7 then bnd (x8 + 1) fun x8_19 => k55 m_status x5 x8 x10_17 x8_19 else bnd (x8 + 1) fun x8_20 => k55 m_status x5 x6 x7 x8_20))
def f_X12_ask_l55 (fu : Nat) (m_at : Nat → Int32) (m_trayMany : Nat → Int32) (m_trays : Nat → Int64) (x1 : Int32) (x2 : Int32) (x3 : Int32) : Nat → Int32 → Int32 → Int32 → Int32 → Int32 → Option (Int32 × Int32)
  | 0, _, _, _, _, _ => none
  | n + 1, m_status, x5, x6, x7, x8 => f_X12_ask_b55 fu m_at m_trayMany m_trays x1 x2 x3 (f_X12_ask_l55 fu m_at m_trayMany m_trays x1 x2 x3 n) m_status x5 x6 x7 x8
def f_X12_ask (fu : Nat) (m_at : Nat → Int32) (m_status : Int32) (m_trayMany : Nat → Int32) (m_trays : Nat → Int64) (x1 : Int32) (x2 : Int32) (x3 : Int32) : Option (Int32 × Int32) := (f_X12_wrongSeen fu m_at m_trayMany m_trays x1 x2 x3).bind fun z_21 => (if z_21 ≤ 0 then (f_X12_fitting fu m_at m_trays x1 x2 x3 0).bind fun z_23 => (if 2 ≤ z_23 then f_X12_ask_l55 fu m_at m_trayMany m_trays x1 x2 x3 fu m_status z_23 (-1) 1000000 1 else (f_X12_refuse fu m_status 6).bind fun z_25 => some (z_25.1, z_25.2)) else (f_X12_refuse fu m_status z_21).bind fun z_26 => some (z_26.1, z_26.2))
abbrev rm_X12_ask : Room := { frames := 5, cells := 0, slots := 0, locals := 117 }
set_option maxHeartbeats 4000000 in
set_option maxRecDepth 100000 in
theorem c_X12_ask (l : Launch) (D : va_G) (cy : Nat → ClassId) (fu : Nat) (A_m : Nat → Nat) (m_at : Nat → Int32) (m_names : Nat → Int64) (m_status : Int32) (m_top : Int64) (m_bottom : Int64) (m_sort : Nat → Int32) (m_trayMany : Nat → Int32) (m_trays : Nat → Int64) (m_tape : Nat → Int32) (m_text : Nat → Int32) (m_taped : Int32) (m_size : Int32) (m_token : Int32) (m_from : Int32) (m_end : Int32) (m_value : Int32) (m_faultKind : Int32) (m_faultPlace : Int32) (m_faults : Int32) (m_seen : Int32) (m_toldParts : Int32) (m_opened : Nat → Int32) (m_depth : Int32) (m_counted : Int32) (m_bestOrder : Int32) (m_standers : Nat → Int32) (m_has : Nat → Int32) (m_bestHas : Nat → Int32) (m_standerMany : Int32) (m_bestCouples : Int32) (m_bestFondness : Int32) (m_cameTo : Nat → Int32) (m_doesStandFirst : Int32) (m_stoodBy : Nat → Int64) (m_drawn : Int32) (m_ranSteps : Int32) (m_loops : Nat → Int32) (m_ran : Nat → Int32) (m_told1 : Nat → Int32) (m_isTold : Int32) (m_marks : Int32) (x1 : Int32) (x2 : Int32) (x3 : Int32) (res : Int32 × Int32) (h : f_X12_ask fu m_at m_status m_trayMany m_trays x1 x2 x3 = some res) (A : Nat → Prop) (hA : A = adr [bl_X12 cy A_m m_at m_names m_status m_top m_bottom m_sort m_trayMany m_trays m_tape m_text m_taped m_size m_token m_from m_end m_value m_faultKind m_faultPlace m_faults m_seen m_toldParts m_opened m_depth m_counted m_bestOrder m_standers m_has m_bestHas m_standerMany m_bestCouples m_bestFondness m_cameTo m_doesStandFirst m_stoodBy m_drawn m_ranSteps m_loops m_ran m_told1 m_isTold m_marks]) (W1 : List va_W) (hW1 : W1 = [bl_X12 cy A_m m_at m_names res.2 m_top m_bottom m_sort m_trayMany m_trays m_tape m_text m_taped m_size m_token m_from m_end m_value m_faultKind m_faultPlace m_faults m_seen m_toldParts m_opened m_depth m_counted m_bestOrder m_standers m_has m_bestHas m_standerMany m_bestCouples m_bestFondness m_cameTo m_doesStandFirst m_stoodBy m_drawn m_ranSteps m_loops m_ran m_told1 m_isTold m_marks]) : Met l yX12_ask (WW yX12_ask cX12_ask 11 (some .int)) rm_X12_ask (Ed D cy [.ref (A_m 0), .int x1, .int x2, .int x3] [bl_X12 cy A_m m_at m_names m_status m_top m_bottom m_sort m_trayMany m_trays m_tape m_text m_taped m_size m_token m_from m_end m_value m_faultKind m_faultPlace m_faults m_seen m_toldParts m_opened m_depth m_counted m_bestOrder m_standers m_has m_bestHas m_standerMany m_bestCouples m_bestFondness m_cameTo m_doesStandFirst m_stoodBy m_drawn m_ranSteps m_loops m_ran m_told1 m_isTold m_marks]) (Qei D res.1 A W1) 0 0 A := by
  refine Met.ofW (cc := cX12_ask) (maxL := 11) (ret := (some .int)) (by decide) rfl ?_
  intro p e s m args below meth c s₁ B hml hv
  obtain ⟨hargs, hP, hX, hD0⟩ := hv
  have hx := B.exec
  have hb := B.bytes
  have hr := B.returns
  have ht : ∀ w ∈ lw_gd, w.before args s = true := fun w hw => atoms_spec (ws := WW yX12_ask cX12_ask 11 (some .int)) B.pre w (List.mem_cons_of_mem _ hw)
  have hown : s.vm.findClass RX12 = some m.cls := findClass_of_methodNamed B.named
  have hlocks := B.notSynchronized
  have hP : PD D A [bl_X12 cy A_m m_at m_names m_status m_top m_bottom m_sort m_trayMany m_trays m_tape m_text m_taped m_size m_token m_from m_end m_value m_faultKind m_faultPlace m_faults m_seen m_toldParts m_opened m_depth m_counted m_bestOrder m_standers m_has m_bestHas m_standerMany m_bestCouples m_bestFondness m_cameTo m_doesStandFirst m_stoodBy m_drawn m_ranSteps m_loops m_ran m_told1 m_isTold m_marks] s.heap := ⟨hP, by rw [hA]; exact hD0.own⟩
  have hS : va_S A s.heap s.heap [] := va_S.rf
  obtain ⟨ls, hl, hent⟩ := ent (m := m) (n := 11) hargs (Nat.le_of_ble_eq_true rfl) (lv := [(0, .ref (A_m 0)), (1, .int x1), (2, .int x2), (3, .int x3)]) rfl
  rw [hent]
  clear hent
  have l55 : ∀ (n55 : Nat) (m_status : Int32) (x5 : Int32) (x6 : Int32) (x7 : Int32) (x8 : Int32) (H : Heap) (locs : List Loc) (_ : PD D A [bl_X12 cy A_m m_at m_names m_status m_top m_bottom m_sort m_trayMany m_trays m_tape m_text m_taped m_size m_token m_from m_end m_value m_faultKind m_faultPlace m_faults m_seen m_toldParts m_opened m_depth m_counted m_bestOrder m_standers m_has m_bestHas m_standerMany m_bestCouples m_bestFondness m_cameTo m_doesStandFirst m_stoodBy m_drawn m_ranSteps m_loops m_ran m_told1 m_isTold m_marks] H) (_ : va_S A s.heap H locs) (ls : Array Slot), lv_has ls 11 [(0, .ref (A_m 0)), (1, .int x1), (2, .int x2), (3, .int x3), (5, .int x5), (6, .int x6), (7, .int x7), (8, .int x8)] → f_X12_ask_l55 fu m_at m_trayMany m_trays x1 x2 x3 n55 m_status x5 x6 x7 x8 = some res → W p l e (headSpec (WW yX12_ask cX12_ask 11 (some .int)) rm_X12_ask).room s m args below meth c H locs 0 0 (MQ below (Qei D res.1 A W1) args s 0 0 A) (F0 m 55 ls []) := by
    intro n55
    induction n55 with
    | zero => intro m_status x5 x6 x7 x8 H locs hP hS ls hl h; cases h
    | succ n55 ih55 =>
      intro m_status x5 x6 x7 x8 H locs hP hS ls hl h
      have h : f_X12_ask_b55 fu m_at m_trayMany m_trays x1 x2 x3 (f_X12_ask_l55 fu m_at m_trayMany m_trays x1 x2 x3 n55) m_status x5 x6 x7 x8 = some res := h
      unfold f_X12_ask_b55 at h
      refine lv_iload hx hb dX12_ask_55 (lv_at hl 7 rfl) ?_
      refine lv_bipush (v := 99) hx hb dX12_ask_57 (by decide) ?_
      refine lv_icmp_gt (tgt := 109) hx hb dX12_ask_59 (by decide) (fun c_14 => ?_) (fun c_14 => ?_)
      · have h := it c_14 h
        refine lv_aload_n hx hb dX12_ask_109 rfl (lv_at hl 0 rfl) ?_
        refine lv_iload hx hb dX12_ask_110 (lv_at hl 5 rfl) ?_
        obtain ⟨z_15, e_z_15, h⟩ := bi h
        refine efVi (rest := []) ⟨hx, hb, hml, hown, ht⟩ (c_X12_gives l D cy fu A_m m_at m_names m_status m_top m_bottom m_sort m_trayMany m_trays m_tape m_text m_taped m_size m_token m_from m_end m_value m_faultKind m_faultPlace m_faults m_seen m_toldParts m_opened m_depth m_counted m_bestOrder m_standers m_has m_bestHas m_standerMany m_bestCouples m_bestFondness m_cameTo m_doesStandFirst m_stoodBy m_drawn m_ranSteps m_loops m_ran m_told1 m_isTold m_marks x6 z_15 e_z_15 _ rfl _ rfl) (cV ht mv_X12_gives tb_1499 rfl rfl ⟨Nat.le_of_ble_eq_true rfl, Nat.le_of_ble_eq_true rfl⟩) hP hS hX [0] rfl rfl rfl rfl rfl rfl hl.1 rfl (Nat.le_of_ble_eq_true rfl) dX12_ask_112 ⟨Nat.le_of_ble_eq_true rfl, Nat.le_of_ble_eq_true rfl⟩ (fun H locs hP hS => ?_)
        have hP : PD D A [bl_X12 cy A_m m_at m_names z_15.2 m_top m_bottom m_sort m_trayMany m_trays m_tape m_text m_taped m_size m_token m_from m_end m_value m_faultKind m_faultPlace m_faults m_seen m_toldParts m_opened m_depth m_counted m_bestOrder m_standers m_has m_bestHas m_standerMany m_bestCouples m_bestFondness m_cameTo m_doesStandFirst m_stoodBy m_drawn m_ranSteps m_loops m_ran m_told1 m_isTold m_marks] H := hP
        cases h
        subst hW1
        exact W.iret hx hb hr (fun _ ht9 _ => ⟨⟨_, (), rfl, rfl, hPt ht9 hP.1⟩, hS.F ht9⟩) hS.2.2 dX12_ask_115
      · have h := ie c_14 h
        refine lv_aload_n hx hb dX12_ask_62 rfl (lv_at hl 0 rfl) ?_
        refine lv_iload_n hx hb dX12_ask_63 rfl (lv_at hl 1 rfl) ?_
        refine lv_iload_n hx hb dX12_ask_64 rfl (lv_at hl 2 rfl) ?_
        refine lv_iload_n hx hb dX12_ask_65 rfl (lv_at hl 3 rfl) ?_
        refine lv_iload hx hb dX12_ask_66 (lv_at hl 7 rfl) ?_
        obtain ⟨z_16, e_z_16, h⟩ := bi h
        refine roVi (rest := []) ⟨hx, hb, hml, hown, ht⟩ (c_X12_fitting l D cy fu A_m m_at m_names m_status m_top m_bottom m_sort m_trayMany m_trays m_tape m_text m_taped m_size m_token m_from m_end m_value m_faultKind m_faultPlace m_faults m_seen m_toldParts m_opened m_depth m_counted m_bestOrder m_standers m_has m_bestHas m_standerMany m_bestCouples m_bestFondness m_cameTo m_doesStandFirst m_stoodBy m_drawn m_ranSteps m_loops m_ran m_told1 m_isTold m_marks x1 x2 x3 x8 z_16 e_z_16) (cV ht mv_X12_fitting tb_1780 rfl rfl ⟨Nat.le_of_ble_eq_true rfl, Nat.le_of_ble_eq_true rfl⟩) (P_sub hP.1 [0] rfl) hX rfl rfl rfl hl.1 rfl (Nat.le_of_ble_eq_true rfl) dX12_ask_68 ⟨Nat.le_of_ble_eq_true rfl, Nat.le_of_ble_eq_true rfl⟩ ?_
        refine lv_istore (lv' := [(9, .int z_16), (0, .ref (A_m 0)), (1, .int x1), (2, .int x2), (3, .int x3), (5, .int x5), (6, .int x6), (7, .int x7), (8, .int x8)]) hx hb dX12_ask_71 hl (by decide) rfl (fun ls hl => ?_)
        refine lv_iload hx hb dX12_ask_73 (lv_at hl 0 rfl) ?_
        refine lv_iload hx hb dX12_ask_75 (lv_at hl 5 rfl) ?_
        refine lv_iload hx hb dX12_ask_77 (lv_at hl 0 rfl) ?_
        refine lv_isub hx hb dX12_ask_79 ?_
        refine va_mmax hx hb (hml.trans hl.1.symm) hown (ht _ tb_1801) (ht _ tb_586) (ht _ tb_19) (ht _ tb_587) (Nat.le_of_ble_eq_true rfl) (Nat.le_of_ble_eq_true rfl) (Nat.le_of_ble_eq_true rfl) (Nat.le_of_ble_eq_true rfl) dX12_ask_80 ?_
        refine lv_topi (fun x10_17 e_x10_17 => ?_)
        have h := bn e_x10_17 h
        refine lv_istore (lv' := [(10, .int x10_17), (9, .int z_16), (0, .ref (A_m 0)), (1, .int x1), (2, .int x2), (3, .int x3), (5, .int x5), (6, .int x6), (7, .int x7), (8, .int x8)]) hx hb dX12_ask_83 hl (by decide) rfl (fun ls hl => ?_)
        refine lv_iload hx hb dX12_ask_85 (lv_at hl 0 rfl) ?_
        refine lv_iload hx hb dX12_ask_87 (lv_at hl 8 rfl) ?_
        refine lv_icmp_lt (tgt := 95) hx hb dX12_ask_89 (by decide) (fun c_18 => ?_) (fun c_18 => ?_)
        · have h := it c_18 h
          refine lv_iload hx hb dX12_ask_95 (lv_at hl 0 rfl) ?_
          refine lv_istore (lv' := [(7, .int x10_17), (10, .int x10_17), (9, .int z_16), (0, .ref (A_m 0)), (1, .int x1), (2, .int x2), (3, .int x3), (5, .int x5), (6, .int x6), (8, .int x8)]) hx hb dX12_ask_97 hl (by decide) rfl (fun ls hl => ?_)
          refine lv_iload hx hb dX12_ask_99 (lv_at hl 9 rfl) ?_
          refine lv_istore (lv' := [(6, .int x8), (7, .int x10_17), (10, .int x10_17), (9, .int z_16), (0, .ref (A_m 0)), (1, .int x1), (2, .int x2), (3, .int x3), (5, .int x5), (8, .int x8)]) hx hb dX12_ask_101 hl (by decide) rfl (fun ls hl => ?_)
          obtain ⟨x8_19, e_x8_19⟩ : ∃ y : Int32, y = x8 + 1 := ⟨_, rfl⟩
          have h := bn e_x8_19 h
          refine lv_iinc (v := x8_19) (lv' := [(8, .int x8_19), (6, .int x8), (7, .int x10_17), (10, .int x10_17), (9, .int z_16), (0, .ref (A_m 0)), (1, .int x1), (2, .int x2), (3, .int x3), (5, .int x5)]) hx hb dX12_ask_103 hl (k := 9) rfl (by rw [e_x8_19]; rfl) (by decide) rfl (fun ls hl => ?_)
          refine lv_goto (tgt := 55) hx hb dX12_ask_106 (by decide) ?_
          exact ih55 m_status x5 x8 x10_17 x8_19 _ _ hP hS ls (lv_sub hl [5, 6, 7, 8, 9, 1, 2, 0] rfl) h
        · have h := ie c_18 h
          refine lv_goto (tgt := 103) hx hb dX12_ask_92 (by decide) ?_
          obtain ⟨x8_20, e_x8_20⟩ : ∃ y : Int32, y = x8 + 1 := ⟨_, rfl⟩
          have h := bn e_x8_20 h
          refine lv_iinc (v := x8_20) (lv' := [(8, .int x8_20), (10, .int x10_17), (9, .int z_16), (0, .ref (A_m 0)), (1, .int x1), (2, .int x2), (3, .int x3), (5, .int x5), (6, .int x6), (7, .int x7)]) hx hb dX12_ask_103 hl (k := 9) rfl (by rw [e_x8_20]; rfl) (by decide) rfl (fun ls hl => ?_)
          refine lv_goto (tgt := 55) hx hb dX12_ask_106 (by decide) ?_
          exact ih55 m_status x5 x6 x7 x8_20 _ _ hP hS ls (lv_sub hl [3, 4, 5, 6, 7, 8, 9, 0] rfl) h
  unfold f_X12_ask at h
  refine lv_aload_n hx hb dX12_ask_0 rfl (lv_at hl 0 rfl) ?_
  refine lv_iload_n hx hb dX12_ask_1 rfl (lv_at hl 1 rfl) ?_
  refine lv_iload_n hx hb dX12_ask_2 rfl (lv_at hl 2 rfl) ?_
  refine lv_iload_n hx hb dX12_ask_3 rfl (lv_at hl 3 rfl) ?_
  obtain ⟨z_21, e_z_21, h⟩ := bi h
  refine roVi (rest := []) ⟨hx, hb, hml, hown, ht⟩ (c_X12_wrongSeen l D cy fu A_m m_at m_names m_status m_top m_bottom m_sort m_trayMany m_trays m_tape m_text m_taped m_size m_token m_from m_end m_value m_faultKind m_faultPlace m_faults m_seen m_toldParts m_opened m_depth m_counted m_bestOrder m_standers m_has m_bestHas m_standerMany m_bestCouples m_bestFondness m_cameTo m_doesStandFirst m_stoodBy m_drawn m_ranSteps m_loops m_ran m_told1 m_isTold m_marks x1 x2 x3 z_21 e_z_21) (cV ht mv_X12_wrongSeen tb_1776 rfl rfl ⟨Nat.le_of_ble_eq_true rfl, Nat.le_of_ble_eq_true rfl⟩) (P_sub hP.1 [0] rfl) hX rfl rfl rfl hl.1 rfl (Nat.le_of_ble_eq_true rfl) dX12_ask_4 ⟨Nat.le_of_ble_eq_true rfl, Nat.le_of_ble_eq_true rfl⟩ ?_
  refine lv_istore (lv' := [(4, .int z_21), (0, .ref (A_m 0)), (1, .int x1), (2, .int x2), (3, .int x3)]) hx hb dX12_ask_7 hl (by decide) rfl (fun ls hl => ?_)
  refine lv_iload hx hb dX12_ask_9 (lv_at hl 0 rfl) ?_
  refine lv_if_le (tgt := 21) hx hb dX12_ask_11 (by decide) (fun c_22 => ?_) (fun c_22 => ?_)
  · have h := it c_22 h
    refine lv_aload_n hx hb dX12_ask_21 rfl (lv_at hl 1 rfl) ?_
    refine lv_iload_n hx hb dX12_ask_22 rfl (lv_at hl 2 rfl) ?_
    refine lv_iload_n hx hb dX12_ask_23 rfl (lv_at hl 3 rfl) ?_
    refine lv_iload_n hx hb dX12_ask_24 rfl (lv_at hl 4 rfl) ?_
    refine lv_iconst (v := 0) hx hb dX12_ask_25 (by decide) ?_
    obtain ⟨z_23, e_z_23, h⟩ := bi h
    refine roVi (rest := []) ⟨hx, hb, hml, hown, ht⟩ (c_X12_fitting l D cy fu A_m m_at m_names m_status m_top m_bottom m_sort m_trayMany m_trays m_tape m_text m_taped m_size m_token m_from m_end m_value m_faultKind m_faultPlace m_faults m_seen m_toldParts m_opened m_depth m_counted m_bestOrder m_standers m_has m_bestHas m_standerMany m_bestCouples m_bestFondness m_cameTo m_doesStandFirst m_stoodBy m_drawn m_ranSteps m_loops m_ran m_told1 m_isTold m_marks x1 x2 x3 0 z_23 e_z_23) (cV ht mv_X12_fitting tb_1780 rfl rfl ⟨Nat.le_of_ble_eq_true rfl, Nat.le_of_ble_eq_true rfl⟩) (P_sub hP.1 [0] rfl) hX rfl rfl rfl hl.1 rfl (Nat.le_of_ble_eq_true rfl) dX12_ask_26 ⟨Nat.le_of_ble_eq_true rfl, Nat.le_of_ble_eq_true rfl⟩ ?_
    refine lv_istore (lv' := [(5, .int z_23), (4, .int z_21), (0, .ref (A_m 0)), (1, .int x1), (2, .int x2), (3, .int x3)]) hx hb dX12_ask_29 hl (by decide) rfl (fun ls hl => ?_)
    refine lv_iload hx hb dX12_ask_31 (lv_at hl 0 rfl) ?_
    refine lv_iconst (v := 2) hx hb dX12_ask_33 (by decide) ?_
    refine lv_icmp_ge (tgt := 44) hx hb dX12_ask_34 (by decide) (fun c_24 => ?_) (fun c_24 => ?_)
    · have h := it c_24 h
      refine lv_iconst (v := (-1)) hx hb dX12_ask_44 (by decide) ?_
      refine lv_istore (lv' := [(6, .int (-1)), (5, .int z_23), (4, .int z_21), (0, .ref (A_m 0)), (1, .int x1), (2, .int x2), (3, .int x3)]) hx hb dX12_ask_45 hl (by decide) rfl (fun ls hl => ?_)
      refine lv_ldcw (v := 1000000) hx hb hown (ht _ tb_1800) dX12_ask_47 ?_
      refine lv_istore (lv' := [(7, .int 1000000), (6, .int (-1)), (5, .int z_23), (4, .int z_21), (0, .ref (A_m 0)), (1, .int x1), (2, .int x2), (3, .int x3)]) hx hb dX12_ask_50 hl (by decide) rfl (fun ls hl => ?_)
      refine lv_iconst (v := 1) hx hb dX12_ask_52 (by decide) ?_
      refine lv_istore (lv' := [(8, .int 1), (7, .int 1000000), (6, .int (-1)), (5, .int z_23), (4, .int z_21), (0, .ref (A_m 0)), (1, .int x1), (2, .int x2), (3, .int x3)]) hx hb dX12_ask_53 hl (by decide) rfl (fun ls hl => ?_)
      exact l55 fu m_status z_23 (-1) 1000000 1 _ _ hP hS ls (lv_sub hl [5, 6, 7, 8, 3, 2, 1, 0] rfl) h
    · have h := ie c_24 h
      refine lv_aload_n hx hb dX12_ask_37 rfl (lv_at hl 2 rfl) ?_
      refine lv_bipush (v := 6) hx hb dX12_ask_38 (by decide) ?_
      obtain ⟨z_25, e_z_25, h⟩ := bi h
      refine efVi (rest := []) ⟨hx, hb, hml, hown, ht⟩ (c_X12_refuse l D cy fu A_m m_at m_names m_status m_top m_bottom m_sort m_trayMany m_trays m_tape m_text m_taped m_size m_token m_from m_end m_value m_faultKind m_faultPlace m_faults m_seen m_toldParts m_opened m_depth m_counted m_bestOrder m_standers m_has m_bestHas m_standerMany m_bestCouples m_bestFondness m_cameTo m_doesStandFirst m_stoodBy m_drawn m_ranSteps m_loops m_ran m_told1 m_isTold m_marks 6 z_25 e_z_25 _ rfl _ rfl) (cV ht mv_X12_refuse tb_1432 rfl rfl ⟨Nat.le_of_ble_eq_true rfl, Nat.le_of_ble_eq_true rfl⟩) hP hS hX [0] rfl rfl rfl rfl rfl rfl hl.1 rfl (Nat.le_of_ble_eq_true rfl) dX12_ask_40 ⟨Nat.le_of_ble_eq_true rfl, Nat.le_of_ble_eq_true rfl⟩ (fun H locs hP hS => ?_)
      have hP : PD D A [bl_X12 cy A_m m_at m_names z_25.2 m_top m_bottom m_sort m_trayMany m_trays m_tape m_text m_taped m_size m_token m_from m_end m_value m_faultKind m_faultPlace m_faults m_seen m_toldParts m_opened m_depth m_counted m_bestOrder m_standers m_has m_bestHas m_standerMany m_bestCouples m_bestFondness m_cameTo m_doesStandFirst m_stoodBy m_drawn m_ranSteps m_loops m_ran m_told1 m_isTold m_marks] H := hP
      cases h
      subst hW1
      exact W.iret hx hb hr (fun _ ht9 _ => ⟨⟨_, (), rfl, rfl, hPt ht9 hP.1⟩, hS.F ht9⟩) hS.2.2 dX12_ask_43
  · have h := ie c_22 h
    refine lv_aload_n hx hb dX12_ask_14 rfl (lv_at hl 1 rfl) ?_
    refine lv_iload hx hb dX12_ask_15 (lv_at hl 0 rfl) ?_
    obtain ⟨z_26, e_z_26, h⟩ := bi h
    refine efVi (rest := []) ⟨hx, hb, hml, hown, ht⟩ (c_X12_refuse l D cy fu A_m m_at m_names m_status m_top m_bottom m_sort m_trayMany m_trays m_tape m_text m_taped m_size m_token m_from m_end m_value m_faultKind m_faultPlace m_faults m_seen m_toldParts m_opened m_depth m_counted m_bestOrder m_standers m_has m_bestHas m_standerMany m_bestCouples m_bestFondness m_cameTo m_doesStandFirst m_stoodBy m_drawn m_ranSteps m_loops m_ran m_told1 m_isTold m_marks z_21 z_26 e_z_26 _ rfl _ rfl) (cV ht mv_X12_refuse tb_1432 rfl rfl ⟨Nat.le_of_ble_eq_true rfl, Nat.le_of_ble_eq_true rfl⟩) hP hS hX [0] rfl rfl rfl rfl rfl rfl hl.1 rfl (Nat.le_of_ble_eq_true rfl) dX12_ask_17 ⟨Nat.le_of_ble_eq_true rfl, Nat.le_of_ble_eq_true rfl⟩ (fun H locs hP hS => ?_)
    have hP : PD D A [bl_X12 cy A_m m_at m_names z_26.2 m_top m_bottom m_sort m_trayMany m_trays m_tape m_text m_taped m_size m_token m_from m_end m_value m_faultKind m_faultPlace m_faults m_seen m_toldParts m_opened m_depth m_counted m_bestOrder m_standers m_has m_bestHas m_standerMany m_bestCouples m_bestFondness m_cameTo m_doesStandFirst m_stoodBy m_drawn m_ranSteps m_loops m_ran m_told1 m_isTold m_marks] H := hP
    cases h
    subst hW1
    exact W.iret hx hb hr (fun _ ht9 _ => ⟨⟨_, (), rfl, rfl, hPt ht9 hP.1⟩, hS.F ht9⟩) hS.2.2 dX12_ask_20
theorem dX12_fondOf_0 : decode cX12_fondOf 0 = .ok (.aload_n 0, 1) := by decide +kernel
theorem dX12_fondOf_1 : decode cX12_fondOf 1 = .ok (.iload_n 1, 1) := by decide +kernel
theorem dX12_fondOf_2 : decode cX12_fondOf 2 = .ok (.iload_n 2, 1) := by decide +kernel
theorem dX12_fondOf_3 : decode cX12_fondOf 3 = .ok (.invokevirtual 268, 3) := by decide +kernel
theorem dX12_fondOf_6 : decode cX12_fondOf 6 = .ok (.aload_n 0, 1) := by decide +kernel
theorem dX12_fondOf_7 : decode cX12_fondOf 7 = .ok (.iload_n 2, 1) := by decide +kernel
theorem dX12_fondOf_8 : decode cX12_fondOf 8 = .ok (.iload_n 1, 1) := by decide +kernel
theorem dX12_fondOf_9 : decode cX12_fondOf 9 = .ok (.invokevirtual 268, 3) := by decide +kernel
theorem dX12_fondOf_12 : decode cX12_fondOf 12 = .ok (.iadd, 1) := by decide +kernel
theorem dX12_fondOf_13 : decode cX12_fondOf 13 = .ok (.ireturn, 1) := by decide +kernel
theorem mv_X12_fondOf : MV yX12_fondOf RX12 cX12_fondOf 3 (some .int) 2 := ⟨tb_1817, tb_1816, ts_105, tb_16, by decide +kernel, by decide +kernel, by decide +kernel⟩
def f_X12_fondOf (fu : Nat) (m_at : Nat → Int32) (x1 : Int32) (x2 : Int32) : Option (Int32) := (f_X12_likesOf fu m_at x1 x2).bind fun z_3 => (f_X12_likesOf fu m_at x2 x1).bind fun z_4 => some (z_3 + z_4)
abbrev rm_X12_fondOf : Room := { frames := 3, cells := 0, slots := 0, locals := 64 }
set_option maxHeartbeats 4000000 in
set_option maxRecDepth 100000 in
theorem c_X12_fondOf (l : Launch) (D : va_G) (cy : Nat → ClassId) (fu : Nat) (A_m : Nat → Nat) (m_at : Nat → Int32) (m_names : Nat → Int64) (m_status : Int32) (m_top : Int64) (m_bottom : Int64) (m_sort : Nat → Int32) (m_trayMany : Nat → Int32) (m_trays : Nat → Int64) (m_tape : Nat → Int32) (m_text : Nat → Int32) (m_taped : Int32) (m_size : Int32) (m_token : Int32) (m_from : Int32) (m_end : Int32) (m_value : Int32) (m_faultKind : Int32) (m_faultPlace : Int32) (m_faults : Int32) (m_seen : Int32) (m_toldParts : Int32) (m_opened : Nat → Int32) (m_depth : Int32) (m_counted : Int32) (m_bestOrder : Int32) (m_standers : Nat → Int32) (m_has : Nat → Int32) (m_bestHas : Nat → Int32) (m_standerMany : Int32) (m_bestCouples : Int32) (m_bestFondness : Int32) (m_cameTo : Nat → Int32) (m_doesStandFirst : Int32) (m_stoodBy : Nat → Int64) (m_drawn : Int32) (m_ranSteps : Int32) (m_loops : Nat → Int32) (m_ran : Nat → Int32) (m_told1 : Nat → Int32) (m_isTold : Int32) (m_marks : Int32) (x1 : Int32) (x2 : Int32) (res : Int32) (h : f_X12_fondOf fu m_at x1 x2 = some res) : Met l yX12_fondOf (WW yX12_fondOf cX12_fondOf 3 (some .int)) rm_X12_fondOf (Rd D cy [.ref (A_m 0), .int x1, .int x2] [bl_X12 cy A_m m_at m_names m_status m_top m_bottom m_sort m_trayMany m_trays m_tape m_text m_taped m_size m_token m_from m_end m_value m_faultKind m_faultPlace m_faults m_seen m_toldParts m_opened m_depth m_counted m_bestOrder m_standers m_has m_bestHas m_standerMany m_bestCouples m_bestFondness m_cameTo m_doesStandFirst m_stoodBy m_drawn m_ranSteps m_loops m_ran m_told1 m_isTold m_marks]) (vp_Si (fun v => v = res)) 0 0 (fun _ => False) := by
  refine Met.ofW (cc := cX12_fondOf) (maxL := 3) (ret := (some .int)) (by decide) rfl ?_
  intro p e s m args below meth c s₁ B hml hv
  obtain ⟨hargs, hP, hX⟩ := hv
  have hx := B.exec
  have hb := B.bytes
  have hr := B.returns
  have ht : ∀ w ∈ lw_gd, w.before args s = true := fun w hw => atoms_spec (ws := WW yX12_fondOf cX12_fondOf 3 (some .int)) B.pre w (List.mem_cons_of_mem _ hw)
  have hown : s.vm.findClass RX12 = some m.cls := findClass_of_methodNamed B.named
  have hlocks := B.notSynchronized
  have hP : PB D [bl_X12 cy A_m m_at m_names m_status m_top m_bottom m_sort m_trayMany m_trays m_tape m_text m_taped m_size m_token m_from m_end m_value m_faultKind m_faultPlace m_faults m_seen m_toldParts m_opened m_depth m_counted m_bestOrder m_standers m_has m_bestHas m_standerMany m_bestCouples m_bestFondness m_cameTo m_doesStandFirst m_stoodBy m_drawn m_ranSteps m_loops m_ran m_told1 m_isTold m_marks] s.heap := hP
  obtain ⟨ls, hl, hent⟩ := ent (m := m) (n := 3) hargs (Nat.le_of_ble_eq_true rfl) (lv := [(0, .ref (A_m 0)), (1, .int x1), (2, .int x2)]) rfl
  rw [hent]
  clear hent
  unfold f_X12_fondOf at h
  refine lv_aload_n hx hb dX12_fondOf_0 rfl (lv_at hl 0 rfl) ?_
  refine lv_iload_n hx hb dX12_fondOf_1 rfl (lv_at hl 1 rfl) ?_
  refine lv_iload_n hx hb dX12_fondOf_2 rfl (lv_at hl 2 rfl) ?_
  obtain ⟨z_3, e_z_3, h⟩ := bi h
  refine roVi (rest := []) ⟨hx, hb, hml, hown, ht⟩ (c_X12_likesOf l D cy fu A_m m_at m_names m_status m_top m_bottom m_sort m_trayMany m_trays m_tape m_text m_taped m_size m_token m_from m_end m_value m_faultKind m_faultPlace m_faults m_seen m_toldParts m_opened m_depth m_counted m_bestOrder m_standers m_has m_bestHas m_standerMany m_bestCouples m_bestFondness m_cameTo m_doesStandFirst m_stoodBy m_drawn m_ranSteps m_loops m_ran m_told1 m_isTold m_marks x1 x2 z_3 e_z_3) (cV ht mv_X12_likesOf tb_1563 rfl rfl ⟨Nat.le_of_ble_eq_true rfl, Nat.le_of_ble_eq_true rfl⟩) (P_sub hP [0] rfl) hX rfl rfl rfl hl.1 rfl (Nat.le_of_ble_eq_true rfl) dX12_fondOf_3 ⟨Nat.le_of_ble_eq_true rfl, Nat.le_of_ble_eq_true rfl⟩ ?_
  refine lv_aload_n hx hb dX12_fondOf_6 rfl (lv_at hl 0 rfl) ?_
  refine lv_iload_n hx hb dX12_fondOf_7 rfl (lv_at hl 2 rfl) ?_
  refine lv_iload_n hx hb dX12_fondOf_8 rfl (lv_at hl 1 rfl) ?_
  obtain ⟨z_4, e_z_4, h⟩ := bi h
  refine roVi (rest := [.int z_3]) ⟨hx, hb, hml, hown, ht⟩ (c_X12_likesOf l D cy fu A_m m_at m_names m_status m_top m_bottom m_sort m_trayMany m_trays m_tape m_text m_taped m_size m_token m_from m_end m_value m_faultKind m_faultPlace m_faults m_seen m_toldParts m_opened m_depth m_counted m_bestOrder m_standers m_has m_bestHas m_standerMany m_bestCouples m_bestFondness m_cameTo m_doesStandFirst m_stoodBy m_drawn m_ranSteps m_loops m_ran m_told1 m_isTold m_marks x2 x1 z_4 e_z_4) (cV ht mv_X12_likesOf tb_1563 rfl rfl ⟨Nat.le_of_ble_eq_true rfl, Nat.le_of_ble_eq_true rfl⟩) (P_sub hP [0] rfl) hX rfl rfl rfl hl.1 rfl (Nat.le_of_ble_eq_true rfl) dX12_fondOf_9 ⟨Nat.le_of_ble_eq_true rfl, Nat.le_of_ble_eq_true rfl⟩ ?_
  refine lv_iadd hx hb dX12_fondOf_12 ?_
  cases h
  exact W.iret hx hb hr (fun _ ht9 _ => ⟨_, rfl, rfl, ht9⟩) (fun _ hq => by cases hq) dX12_fondOf_13
theorem dX12_weighs_0 : decode cX12_weighs 0 = .ok (.iconst 0, 1) := by decide +kernel
theorem dX12_weighs_1 : decode cX12_weighs 1 = .ok (.istore_n 1, 1) := by decide +kernel
theorem dX12_weighs_2 : decode cX12_weighs 2 = .ok (.iconst 0, 1) := by decide +kernel
theorem dX12_weighs_3 : decode cX12_weighs 3 = .ok (.istore_n 2, 1) := by decide +kernel
theorem dX12_weighs_4 : decode cX12_weighs 4 = .ok (.iconst 0, 1) := by decide +kernel
theorem dX12_weighs_5 : decode cX12_weighs 5 = .ok (.istore_n 3, 1) := by decide +kernel
theorem dX12_weighs_6 : decode cX12_weighs 6 = .ok (.iload_n 3, 1) := by decide +kernel
theorem dX12_weighs_7 : decode cX12_weighs 7 = .ok (.aload_n 0, 1) := by decide +kernel
theorem dX12_weighs_8 : decode cX12_weighs 8 = .ok (.getfield 383, 3) := by decide +kernel
theorem dX12_weighs_11 : decode cX12_weighs 11 = .ok (.if_icmp .ge 45, 3) := by decide +kernel
theorem dX12_weighs_14 : decode cX12_weighs 14 = .ok (.aload_n 0, 1) := by decide +kernel
theorem dX12_weighs_15 : decode cX12_weighs 15 = .ok (.getfield 50, 3) := by decide +kernel
theorem dX12_weighs_18 : decode cX12_weighs 18 = .ok (.iload_n 3, 1) := by decide +kernel
theorem dX12_weighs_19 : decode cX12_weighs 19 = .ok (.iaload, 1) := by decide +kernel
theorem dX12_weighs_20 : decode cX12_weighs 20 = .ok (.bipush 8, 2) := by decide +kernel
theorem dX12_weighs_22 : decode cX12_weighs 22 = .ok (.if_icmp .ne 6, 3) := by decide +kernel
theorem dX12_weighs_25 : decode cX12_weighs 25 = .ok (.goto 25, 3) := by decide +kernel
theorem dX12_weighs_28 : decode cX12_weighs 28 = .ok (.iinc 1 1, 3) := by decide +kernel
theorem dX12_weighs_31 : decode cX12_weighs 31 = .ok (.iload_n 2, 1) := by decide +kernel
theorem dX12_weighs_32 : decode cX12_weighs 32 = .ok (.aload_n 0, 1) := by decide +kernel
theorem dX12_weighs_33 : decode cX12_weighs 33 = .ok (.aload_n 0, 1) := by decide +kernel
theorem dX12_weighs_34 : decode cX12_weighs 34 = .ok (.getfield 47, 3) := by decide +kernel
theorem dX12_weighs_37 : decode cX12_weighs 37 = .ok (.iload_n 3, 1) := by decide +kernel
theorem dX12_weighs_38 : decode cX12_weighs 38 = .ok (.iaload, 1) := by decide +kernel
theorem dX12_weighs_39 : decode cX12_weighs 39 = .ok (.aload_n 0, 1) := by decide +kernel
theorem dX12_weighs_40 : decode cX12_weighs 40 = .ok (.getfield 50, 3) := by decide +kernel
theorem dX12_weighs_43 : decode cX12_weighs 43 = .ok (.iload_n 3, 1) := by decide +kernel
theorem dX12_weighs_44 : decode cX12_weighs 44 = .ok (.iaload, 1) := by decide +kernel
theorem dX12_weighs_45 : decode cX12_weighs 45 = .ok (.invokevirtual 386, 3) := by decide +kernel
theorem dX12_weighs_48 : decode cX12_weighs 48 = .ok (.iadd, 1) := by decide +kernel
theorem dX12_weighs_49 : decode cX12_weighs 49 = .ok (.istore_n 2, 1) := by decide +kernel
theorem dX12_weighs_50 : decode cX12_weighs 50 = .ok (.iinc 3 1, 3) := by decide +kernel
theorem dX12_weighs_53 : decode cX12_weighs 53 = .ok (.goto (-47), 3) := by decide +kernel
theorem dX12_weighs_56 : decode cX12_weighs 56 = .ok (.iload_n 1, 1) := by decide +kernel
theorem dX12_weighs_57 : decode cX12_weighs 57 = .ok (.aload_n 0, 1) := by decide +kernel
theorem dX12_weighs_58 : decode cX12_weighs 58 = .ok (.getfield 389, 3) := by decide +kernel
theorem dX12_weighs_61 : decode cX12_weighs 61 = .ok (.if_icmp .lt 19, 3) := by decide +kernel
theorem dX12_weighs_64 : decode cX12_weighs 64 = .ok (.iload_n 1, 1) := by decide +kernel
theorem dX12_weighs_65 : decode cX12_weighs 65 = .ok (.aload_n 0, 1) := by decide +kernel
theorem dX12_weighs_66 : decode cX12_weighs 66 = .ok (.getfield 389, 3) := by decide +kernel
theorem dX12_weighs_69 : decode cX12_weighs 69 = .ok (.if_icmp .ne 12, 3) := by decide +kernel
theorem dX12_weighs_72 : decode cX12_weighs 72 = .ok (.iload_n 2, 1) := by decide +kernel
theorem dX12_weighs_73 : decode cX12_weighs 73 = .ok (.aload_n 0, 1) := by decide +kernel
theorem dX12_weighs_74 : decode cX12_weighs 74 = .ok (.getfield 392, 3) := by decide +kernel
theorem dX12_weighs_77 : decode cX12_weighs 77 = .ok (.if_icmp .gt 4, 3) := by decide +kernel
theorem dX12_weighs_80 : decode cX12_weighs 80 = .ok (.return_, 1) := by decide +kernel
theorem dX12_weighs_81 : decode cX12_weighs 81 = .ok (.aload_n 0, 1) := by decide +kernel
theorem dX12_weighs_82 : decode cX12_weighs 82 = .ok (.iload_n 1, 1) := by decide +kernel
theorem dX12_weighs_83 : decode cX12_weighs 83 = .ok (.putfield 389, 3) := by decide +kernel
theorem dX12_weighs_86 : decode cX12_weighs 86 = .ok (.aload_n 0, 1) := by decide +kernel
theorem dX12_weighs_87 : decode cX12_weighs 87 = .ok (.iload_n 2, 1) := by decide +kernel
theorem dX12_weighs_88 : decode cX12_weighs 88 = .ok (.putfield 392, 3) := by decide +kernel
theorem dX12_weighs_91 : decode cX12_weighs 91 = .ok (.iconst 0, 1) := by decide +kernel
theorem dX12_weighs_92 : decode cX12_weighs 92 = .ok (.istore_n 3, 1) := by decide +kernel
theorem dX12_weighs_93 : decode cX12_weighs 93 = .ok (.iload_n 3, 1) := by decide +kernel
theorem dX12_weighs_94 : decode cX12_weighs 94 = .ok (.aload_n 0, 1) := by decide +kernel
theorem dX12_weighs_95 : decode cX12_weighs 95 = .ok (.getfield 383, 3) := by decide +kernel
theorem dX12_weighs_98 : decode cX12_weighs 98 = .ok (.if_icmp .ge 21, 3) := by decide +kernel
theorem dX12_weighs_101 : decode cX12_weighs 101 = .ok (.aload_n 0, 1) := by decide +kernel
theorem dX12_weighs_102 : decode cX12_weighs 102 = .ok (.getfield 53, 3) := by decide +kernel
theorem dX12_weighs_105 : decode cX12_weighs 105 = .ok (.iload_n 3, 1) := by decide +kernel
theorem dX12_weighs_106 : decode cX12_weighs 106 = .ok (.aload_n 0, 1) := by decide +kernel
theorem dX12_weighs_107 : decode cX12_weighs 107 = .ok (.getfield 50, 3) := by decide +kernel
theorem dX12_weighs_110 : decode cX12_weighs 110 = .ok (.iload_n 3, 1) := by decide +kernel
theorem dX12_weighs_111 : decode cX12_weighs 111 = .ok (.iaload, 1) := by decide +kernel
theorem dX12_weighs_112 : decode cX12_weighs 112 = .ok (.iastore, 1) := by decide +kernel
theorem dX12_weighs_113 : decode cX12_weighs 113 = .ok (.iinc 3 1, 3) := by decide +kernel
theorem dX12_weighs_116 : decode cX12_weighs 116 = .ok (.goto (-23), 3) := by decide +kernel
theorem dX12_weighs_119 : decode cX12_weighs 119 = .ok (.return_, 1) := by decide +kernel
theorem mv_X12_weighs : MV yX12_weighs RX12 cX12_weighs 4 none 0 := ⟨tb_1813, tb_1812, ts_104, tb_16, by decide +kernel, by decide +kernel, by decide +kernel⟩
def f_X12_weighs_b93 (fu : Nat) (m_at : Nat → Int32) (m_standers : Nat → Int32) (m_has : Nat → Int32) (m_standerMany : Int32) (k93 : (Nat → Int32) → Int32 → Int32 → Int32 → (Option ((Nat → Int32) × Int32 × Int32))) (m_bestHas : Nat → Int32) (m_bestCouples : Int32) (m_bestFondness : Int32) (x3 : Int32) : Option ((Nat → Int32) × Int32 × Int32) := (if m_standerMany ≤ x3 then some (m_bestHas, m_bestCouples, m_bestFondness) else (rdI m_has 8 x3).bind fun y_19 => (wrI m_bestHas 8 x3 y_19).bind fun m_bestHas_20 => bnd (x3 + 1) fun x3_21 => k93 m_bestHas_20 m_bestCouples m_bestFondness x3_21)
def f_X12_weighs_l93 (fu : Nat) (m_at : Nat → Int32) (m_standers : Nat → Int32) (m_has : Nat → Int32) (m_standerMany : Int32) : Nat → (Nat → Int32) → Int32 → Int32 → Int32 → (Option ((Nat → Int32) × Int32 × Int32))
  | 0, _, _, _, _ => none
  | n + 1, m_bestHas, m_bestCouples, m_bestFondness, x3 => f_X12_weighs_b93 fu m_at m_standers m_has m_standerMany (f_X12_weighs_l93 fu m_at m_standers m_has m_standerMany n) m_bestHas m_bestCouples m_bestFondness x3
def f_X12_weighs_j81 (fu : Nat) (m_at : Nat → Int32) (m_standers : Nat → Int32) (m_has : Nat → Int32) (m_standerMany : Int32) (m_bestHas : Nat → Int32) (m_bestCouples : Int32) (m_bestFondness : Int32) (x1 : Int32) (x2 : Int32) : Option ((Nat → Int32) × Int32 × Int32) := f_X12_weighs_l93 fu m_at m_standers m_has m_standerMany fu m_bestHas x1 x2 0
def f_X12_weighs_b6 (fu : Nat) (m_at : Nat → Int32) (m_standers : Nat → Int32) (m_has : Nat → Int32) (m_standerMany : Int32) (k6 : (Nat → Int32) → Int32 → Int32 → Int32 → Int32 → Int32 → (Option ((Nat → Int32) × Int32 × Int32))) (m_bestHas : Nat → Int32) (m_bestCouples : Int32) (m_bestFondness : Int32) (x1 : Int32) (x2 : Int32) (x3 : Int32) : Option ((Nat → Int32) × Int32 × Int32) := (if m_standerMany ≤ x3 then (if x1 < m_bestCouples then some (m_bestHas, m_bestCouples, m_bestFondness) else (if x1 = m_bestCouples then (if m_bestFondness < x2 then f_X12_weighs_j81 fu m_at m_standers m_has m_standerMany m_bestHas m_bestCouples m_bestFondness x1 x2 else some (m_bestHas, m_bestCouples, m_bestFondness)) else f_X12_weighs_j81 fu m_at m_standers m_has m_standerMany m_bestHas m_bestCouples m_bestFondness x1 x2)) else (rdI m_has 8 x3).bind fun y_26 => (if y_26 = 8 then bnd (x3 + 1) fun x3_34 => k6 m_bestHas m_bestCouples m_bestFondness x1 x2 x3_34 else bnd (x1 + 1) fun x1_28 => (rdI m_standers 8 x3).bind fun y_29 => (rdI m_has 8 x3).bind fun y_30 => (f_X12_fondOf fu m_at y_29 y_30).bind fun z_31 => bnd (x2 + z_31) fun x2_32 => bnd (x3 + 1) fun x3_33 => k6 m_bestHas m_bestCouples m_bestFondness x1_28 x2_32 x3_33))
def f_X12_weighs_l6 (fu : Nat) (m_at : Nat → Int32) (m_standers : Nat → Int32) (m_has : Nat → Int32) (m_standerMany : Int32) : Nat → (Nat → Int32) → Int32 → Int32 → Int32 → Int32 → Int32 → (Option ((Nat → Int32) × Int32 × Int32))
  | 0, _, _, _, _, _, _ => none
  | n + 1, m_bestHas, m_bestCouples, m_bestFondness, x1, x2, x3 => f_X12_weighs_b6 fu m_at m_standers m_has m_standerMany (f_X12_weighs_l6 fu m_at m_standers m_has m_standerMany n) m_bestHas m_bestCouples m_bestFondness x1 x2 x3
def f_X12_weighs (fu : Nat) (m_at : Nat → Int32) (m_standers : Nat → Int32) (m_has : Nat → Int32) (m_bestHas : Nat → Int32) (m_standerMany : Int32) (m_bestCouples : Int32) (m_bestFondness : Int32) : Option ((Nat → Int32) × Int32 × Int32) := f_X12_weighs_l6 fu m_at m_standers m_has m_standerMany fu m_bestHas m_bestCouples m_bestFondness 0 0 0
abbrev rm_X12_weighs : Room := { frames := 4, cells := 0, slots := 0, locals := 86 }
set_option maxHeartbeats 4000000 in
set_option maxRecDepth 100000 in
theorem c_X12_weighs (l : Launch) (D : va_G) (cy : Nat → ClassId) (fu : Nat) (A_m : Nat → Nat) (m_at : Nat → Int32) (m_names : Nat → Int64) (m_status : Int32) (m_top : Int64) (m_bottom : Int64) (m_sort : Nat → Int32) (m_trayMany : Nat → Int32) (m_trays : Nat → Int64) (m_tape : Nat → Int32) (m_text : Nat → Int32) (m_taped : Int32) (m_size : Int32) (m_token : Int32) (m_from : Int32) (m_end : Int32) (m_value : Int32) (m_faultKind : Int32) (m_faultPlace : Int32) (m_faults : Int32) (m_seen : Int32) (m_toldParts : Int32) (m_opened : Nat → Int32) (m_depth : Int32) (m_counted : Int32) (m_bestOrder : Int32) (m_standers : Nat → Int32) (m_has : Nat → Int32) (m_bestHas : Nat → Int32) (m_standerMany : Int32) (m_bestCouples : Int32) (m_bestFondness : Int32) (m_cameTo : Nat → Int32) (m_doesStandFirst : Int32) (m_stoodBy : Nat → Int64) (m_drawn : Int32) (m_ranSteps : Int32) (m_loops : Nat → Int32) (m_ran : Nat → Int32) (m_told1 : Nat → Int32) (m_isTold : Int32) (m_marks : Int32) (res : (Nat → Int32) × Int32 × Int32) (h : f_X12_weighs fu m_at m_standers m_has m_bestHas m_standerMany m_bestCouples m_bestFondness = some res) (A : Nat → Prop) (hA : A = adr [bl_X12 cy A_m m_at m_names m_status m_top m_bottom m_sort m_trayMany m_trays m_tape m_text m_taped m_size m_token m_from m_end m_value m_faultKind m_faultPlace m_faults m_seen m_toldParts m_opened m_depth m_counted m_bestOrder m_standers m_has m_bestHas m_standerMany m_bestCouples m_bestFondness m_cameTo m_doesStandFirst m_stoodBy m_drawn m_ranSteps m_loops m_ran m_told1 m_isTold m_marks]) (W1 : List va_W) (hW1 : W1 = [bl_X12 cy A_m m_at m_names m_status m_top m_bottom m_sort m_trayMany m_trays m_tape m_text m_taped m_size m_token m_from m_end m_value m_faultKind m_faultPlace m_faults m_seen m_toldParts m_opened m_depth m_counted m_bestOrder m_standers m_has res.1 m_standerMany res.2.1 res.2.2 m_cameTo m_doesStandFirst m_stoodBy m_drawn m_ranSteps m_loops m_ran m_told1 m_isTold m_marks]) : Met l yX12_weighs (WW yX12_weighs cX12_weighs 4 none) rm_X12_weighs (Ed D cy [.ref (A_m 0)] [bl_X12 cy A_m m_at m_names m_status m_top m_bottom m_sort m_trayMany m_trays m_tape m_text m_taped m_size m_token m_from m_end m_value m_faultKind m_faultPlace m_faults m_seen m_toldParts m_opened m_depth m_counted m_bestOrder m_standers m_has m_bestHas m_standerMany m_bestCouples m_bestFondness m_cameTo m_doesStandFirst m_stoodBy m_drawn m_ranSteps m_loops m_ran m_told1 m_isTold m_marks]) (Qev D A W1) 0 0 A := by
  refine Met.ofW (cc := cX12_weighs) (maxL := 4) (ret := none) (by decide) rfl ?_
  intro p e s m args below meth c s₁ B hml hv
  obtain ⟨hargs, hP, hX, hD0⟩ := hv
  have hx := B.exec
  have hb := B.bytes
  have hr := B.returns
  have ht : ∀ w ∈ lw_gd, w.before args s = true := fun w hw => atoms_spec (ws := WW yX12_weighs cX12_weighs 4 none) B.pre w (List.mem_cons_of_mem _ hw)
  have hown : s.vm.findClass RX12 = some m.cls := findClass_of_methodNamed B.named
  have hlocks := B.notSynchronized
  have hP : PD D A [bl_X12 cy A_m m_at m_names m_status m_top m_bottom m_sort m_trayMany m_trays m_tape m_text m_taped m_size m_token m_from m_end m_value m_faultKind m_faultPlace m_faults m_seen m_toldParts m_opened m_depth m_counted m_bestOrder m_standers m_has m_bestHas m_standerMany m_bestCouples m_bestFondness m_cameTo m_doesStandFirst m_stoodBy m_drawn m_ranSteps m_loops m_ran m_told1 m_isTold m_marks] s.heap := ⟨hP, by rw [hA]; exact hD0.own⟩
  have hS : va_S A s.heap s.heap [] := va_S.rf
  obtain ⟨ls, hl, hent⟩ := ent (m := m) (n := 4) hargs (Nat.le_of_ble_eq_true rfl) (lv := [(0, .ref (A_m 0))]) rfl
  rw [hent]
  clear hent
  have l93 : ∀ (n93 : Nat) (m_bestHas : Nat → Int32) (m_bestCouples : Int32) (m_bestFondness : Int32) (x3 : Int32) (H : Heap) (locs : List Loc) (_ : PD D A [bl_X12 cy A_m m_at m_names m_status m_top m_bottom m_sort m_trayMany m_trays m_tape m_text m_taped m_size m_token m_from m_end m_value m_faultKind m_faultPlace m_faults m_seen m_toldParts m_opened m_depth m_counted m_bestOrder m_standers m_has m_bestHas m_standerMany m_bestCouples m_bestFondness m_cameTo m_doesStandFirst m_stoodBy m_drawn m_ranSteps m_loops m_ran m_told1 m_isTold m_marks] H) (_ : va_S A s.heap H locs) (ls : Array Slot), lv_has ls 4 [(0, .ref (A_m 0)), (3, .int x3)] → f_X12_weighs_l93 fu m_at m_standers m_has m_standerMany n93 m_bestHas m_bestCouples m_bestFondness x3 = some res → W p l e (headSpec (WW yX12_weighs cX12_weighs 4 none) rm_X12_weighs).room s m args below meth c H locs 0 0 (MQ below (Qev D A W1) args s 0 0 A) (F0 m 93 ls []) := by
    intro n93
    induction n93 with
    | zero => intro m_bestHas m_bestCouples m_bestFondness x3 H locs hP hS ls hl h; cases h
    | succ n93 ih93 =>
      intro m_bestHas m_bestCouples m_bestFondness x3 H locs hP hS ls hl h
      have h : f_X12_weighs_b93 fu m_at m_standers m_has m_standerMany (f_X12_weighs_l93 fu m_at m_standers m_has m_standerMany n93) m_bestHas m_bestCouples m_bestFondness x3 = some res := h
      unfold f_X12_weighs_b93 at h
      refine lv_iload_n hx hb dX12_weighs_93 rfl (lv_at hl 1 rfl) ?_
      refine lv_aload_n hx hb dX12_weighs_94 rfl (lv_at hl 0 rfl) ?_
      refine xget (i := 0) (j := 0) (k := 28) (T := TX12) hx hb ht tb_iX12 hown hX hP.1 rfl rfl rfl (by decide) tb_1257 rfl dX12_weighs_95 ?_
      refine lv_icmp_ge (tgt := 119) hx hb dX12_weighs_98 (by decide) (fun c_18 => ?_) (fun c_18 => ?_)
      · have h := it c_18 h
        cases h
        subst hW1
        exact W.vret hx hb hr (fun _ ht9 _ => ⟨⟨(), rfl, trivial, hPt ht9 hP.1⟩, hS.F ht9⟩) hS.2.2 dX12_weighs_119
      · have h := ie c_18 h
        refine lv_aload_n hx hb dX12_weighs_101 rfl (lv_at hl 0 rfl) ?_
        refine xget (i := 0) (j := 0) (k := 27) (T := TX12) hx hb ht tb_iX12 hown hX hP.1 rfl rfl rfl (by decide) tb_1256 rfl dX12_weighs_102 ?_
        refine lv_iload_n hx hb dX12_weighs_105 rfl (lv_at hl 1 rfl) ?_
        refine lv_aload_n hx hb dX12_weighs_106 rfl (lv_at hl 0 rfl) ?_
        refine xget (i := 0) (j := 0) (k := 26) (T := TX12) hx hb ht tb_iX12 hown hX hP.1 rfl rfl rfl (by decide) tb_1255 rfl dX12_weighs_107 ?_
        refine lv_iload_n hx hb dX12_weighs_110 rfl (lv_at hl 1 rfl) ?_
        obtain ⟨y_19, e_y_19, h⟩ := bi h
        refine xiald (i0 := 0) (j0 := 10) hx hb hX hP.1 rfl rfl e_y_19 dX12_weighs_111 ?_
        obtain ⟨m_bestHas_20, e_m_bestHas_20, h⟩ := bi h
        refine xiast (i0 := 0) (j0 := 11) hx hb hX hP hS rfl rfl e_m_bestHas_20 dX12_weighs_112 (fun H locs hP hS => ?_)
        have hP : PD D A [bl_X12 cy A_m m_at m_names m_status m_top m_bottom m_sort m_trayMany m_trays m_tape m_text m_taped m_size m_token m_from m_end m_value m_faultKind m_faultPlace m_faults m_seen m_toldParts m_opened m_depth m_counted m_bestOrder m_standers m_has m_bestHas_20 m_standerMany m_bestCouples m_bestFondness m_cameTo m_doesStandFirst m_stoodBy m_drawn m_ranSteps m_loops m_ran m_told1 m_isTold m_marks] H := hP
        obtain ⟨x3_21, e_x3_21⟩ : ∃ y : Int32, y = x3 + 1 := ⟨_, rfl⟩
        have h := bn e_x3_21 h
        refine lv_iinc (v := x3_21) (lv' := [(3, .int x3_21), (0, .ref (A_m 0))]) hx hb dX12_weighs_113 hl (k := 1) rfl (by rw [e_x3_21]; rfl) (by decide) rfl (fun ls hl => ?_)
        refine lv_goto (tgt := 93) hx hb dX12_weighs_116 (by decide) ?_
        exact ih93 m_bestHas_20 m_bestCouples m_bestFondness x3_21 _ _ hP hS ls (lv_sub hl [1, 0] rfl) h
  have j81 : ∀ (m_bestHas : Nat → Int32) (m_bestCouples : Int32) (m_bestFondness : Int32) (x1 : Int32) (x2 : Int32) (H : Heap) (locs : List Loc) (_ : PD D A [bl_X12 cy A_m m_at m_names m_status m_top m_bottom m_sort m_trayMany m_trays m_tape m_text m_taped m_size m_token m_from m_end m_value m_faultKind m_faultPlace m_faults m_seen m_toldParts m_opened m_depth m_counted m_bestOrder m_standers m_has m_bestHas m_standerMany m_bestCouples m_bestFondness m_cameTo m_doesStandFirst m_stoodBy m_drawn m_ranSteps m_loops m_ran m_told1 m_isTold m_marks] H) (_ : va_S A s.heap H locs) (ls : Array Slot), lv_has ls 4 [(0, .ref (A_m 0)), (1, .int x1), (2, .int x2)] → f_X12_weighs_j81 fu m_at m_standers m_has m_standerMany m_bestHas m_bestCouples m_bestFondness x1 x2 = some res → W p l e (headSpec (WW yX12_weighs cX12_weighs 4 none) rm_X12_weighs).room s m args below meth c H locs 0 0 (MQ below (Qev D A W1) args s 0 0 A) (F0 m 81 ls []) := by
    intro m_bestHas m_bestCouples m_bestFondness x1 x2 H locs hP hS ls hl h
    unfold f_X12_weighs_j81 at h
    refine lv_aload_n hx hb dX12_weighs_81 rfl (lv_at hl 0 rfl) ?_
    refine lv_iload_n hx hb dX12_weighs_82 rfl (lv_at hl 1 rfl) ?_
    refine xput (i := 0) (j := 0) (k := 29) (T := TX12) tyX12 tyX12_ok nmX12 hx hb ht tb_iX12 hown hX hP hS rfl rfl rfl (by decide) tb_1258 rfl rfl rfl (Nat.le_of_ble_eq_true rfl) dX12_weighs_83 (fun H locs hP hS => ?_)
    have hP : PD D A [bl_X12 cy A_m m_at m_names m_status m_top m_bottom m_sort m_trayMany m_trays m_tape m_text m_taped m_size m_token m_from m_end m_value m_faultKind m_faultPlace m_faults m_seen m_toldParts m_opened m_depth m_counted m_bestOrder m_standers m_has m_bestHas m_standerMany x1 m_bestFondness m_cameTo m_doesStandFirst m_stoodBy m_drawn m_ranSteps m_loops m_ran m_told1 m_isTold m_marks] H := hP
    refine lv_aload_n hx hb dX12_weighs_86 rfl (lv_at hl 0 rfl) ?_
    refine lv_iload_n hx hb dX12_weighs_87 rfl (lv_at hl 2 rfl) ?_
    refine xput (i := 0) (j := 0) (k := 30) (T := TX12) tyX12 tyX12_ok nmX12 hx hb ht tb_iX12 hown hX hP hS rfl rfl rfl (by decide) tb_1259 rfl rfl rfl (Nat.le_of_ble_eq_true rfl) dX12_weighs_88 (fun H locs hP hS => ?_)
    have hP : PD D A [bl_X12 cy A_m m_at m_names m_status m_top m_bottom m_sort m_trayMany m_trays m_tape m_text m_taped m_size m_token m_from m_end m_value m_faultKind m_faultPlace m_faults m_seen m_toldParts m_opened m_depth m_counted m_bestOrder m_standers m_has m_bestHas m_standerMany x1 x2 m_cameTo m_doesStandFirst m_stoodBy m_drawn m_ranSteps m_loops m_ran m_told1 m_isTold m_marks] H := hP
    refine lv_iconst (v := 0) hx hb dX12_weighs_91 (by decide) ?_
    refine lv_istore_n (lv' := [(3, .int 0), (0, .ref (A_m 0)), (1, .int x1), (2, .int x2)]) hx hb dX12_weighs_92 rfl hl (by decide) rfl (fun ls hl => ?_)
    exact l93 fu m_bestHas x1 x2 0 _ _ hP hS ls (lv_sub hl [1, 0] rfl) h
  have l6 : ∀ (n6 : Nat) (m_bestHas : Nat → Int32) (m_bestCouples : Int32) (m_bestFondness : Int32) (x1 : Int32) (x2 : Int32) (x3 : Int32) (H : Heap) (locs : List Loc) (_ : PD D A [bl_X12 cy A_m m_at m_names m_status m_top m_bottom m_sort m_trayMany m_trays m_tape m_text m_taped m_size m_token m_from m_end m_value m_faultKind m_faultPlace m_faults m_seen m_toldParts m_opened m_depth m_counted m_bestOrder m_standers m_has m_bestHas m_standerMany m_bestCouples m_bestFondness m_cameTo m_doesStandFirst m_stoodBy m_drawn m_ranSteps m_loops m_ran m_told1 m_isTold m_marks] H) (_ : va_S A s.heap H locs) (ls : Array Slot), lv_has ls 4 [(0, .ref (A_m 0)), (1, .int x1), (2, .int x2), (3, .int x3)] → f_X12_weighs_l6 fu m_at m_standers m_has m_standerMany n6 m_bestHas m_bestCouples m_bestFondness x1 x2 x3 = some res → W p l e (headSpec (WW yX12_weighs cX12_weighs 4 none) rm_X12_weighs).room s m args below meth c H locs 0 0 (MQ below (Qev D A W1) args s 0 0 A) (F0 m 6 ls []) := by
    intro n6
    induction n6 with
    | zero => intro m_bestHas m_bestCouples m_bestFondness x1 x2 x3 H locs hP hS ls hl h; cases h
    | succ n6 ih6 =>
      intro m_bestHas m_bestCouples m_bestFondness x1 x2 x3 H locs hP hS ls hl h
      have h : f_X12_weighs_b6 fu m_at m_standers m_has m_standerMany (f_X12_weighs_l6 fu m_at m_standers m_has m_standerMany n6) m_bestHas m_bestCouples m_bestFondness x1 x2 x3 = some res := h
      unfold f_X12_weighs_b6 at h
      refine lv_iload_n hx hb dX12_weighs_6 rfl (lv_at hl 3 rfl) ?_
      refine lv_aload_n hx hb dX12_weighs_7 rfl (lv_at hl 0 rfl) ?_
      refine xget (i := 0) (j := 0) (k := 28) (T := TX12) hx hb ht tb_iX12 hown hX hP.1 rfl rfl rfl (by decide) tb_1257 rfl dX12_weighs_8 ?_
      refine lv_icmp_ge (tgt := 56) hx hb dX12_weighs_11 (by decide) (fun c_22 => ?_) (fun c_22 => ?_)
      · have h := it c_22 h
        refine lv_iload_n hx hb dX12_weighs_56 rfl (lv_at hl 1 rfl) ?_
        refine lv_aload_n hx hb dX12_weighs_57 rfl (lv_at hl 0 rfl) ?_
        refine xget (i := 0) (j := 0) (k := 29) (T := TX12) hx hb ht tb_iX12 hown hX hP.1 rfl rfl rfl (by decide) tb_1258 rfl dX12_weighs_58 ?_
        refine lv_icmp_lt (tgt := 80) hx hb dX12_weighs_61 (by decide) (fun c_23 => ?_) (fun c_23 => ?_)
        · have h := it c_23 h
          cases h
          subst hW1
          exact W.vret hx hb hr (fun _ ht9 _ => ⟨⟨(), rfl, trivial, hPt ht9 hP.1⟩, hS.F ht9⟩) hS.2.2 dX12_weighs_80
        · have h := ie c_23 h
          refine lv_iload_n hx hb dX12_weighs_64 rfl (lv_at hl 1 rfl) ?_
          refine lv_aload_n hx hb dX12_weighs_65 rfl (lv_at hl 0 rfl) ?_
          refine xget (i := 0) (j := 0) (k := 29) (T := TX12) hx hb ht tb_iX12 hown hX hP.1 rfl rfl rfl (by decide) tb_1258 rfl dX12_weighs_66 ?_
          refine lv_icmp_ne (tgt := 81) hx hb dX12_weighs_69 (by decide) (fun c_24 => ?_) (fun c_24 => ?_)
          · have h := ie c_24 h
            exact j81 m_bestHas m_bestCouples m_bestFondness x1 x2 _ _ hP hS ls (lv_sub hl [0, 1, 2] rfl) h
          · have h := it c_24 h
            refine lv_iload_n hx hb dX12_weighs_72 rfl (lv_at hl 2 rfl) ?_
            refine lv_aload_n hx hb dX12_weighs_73 rfl (lv_at hl 0 rfl) ?_
            refine xget (i := 0) (j := 0) (k := 30) (T := TX12) hx hb ht tb_iX12 hown hX hP.1 rfl rfl rfl (by decide) tb_1259 rfl dX12_weighs_74 ?_
            refine lv_icmp_gt (tgt := 81) hx hb dX12_weighs_77 (by decide) (fun c_25 => ?_) (fun c_25 => ?_)
            · have h := it c_25 h
              exact j81 m_bestHas m_bestCouples m_bestFondness x1 x2 _ _ hP hS ls (lv_sub hl [0, 1, 2] rfl) h
            · have h := ie c_25 h
              cases h
              subst hW1
              exact W.vret hx hb hr (fun _ ht9 _ => ⟨⟨(), rfl, trivial, hPt ht9 hP.1⟩, hS.F ht9⟩) hS.2.2 dX12_weighs_80
      · have h := ie c_22 h
        refine lv_aload_n hx hb dX12_weighs_14 rfl (lv_at hl 0 rfl) ?_
        refine xget (i := 0) (j := 0) (k := 26) (T := TX12) hx hb ht tb_iX12 hown hX hP.1 rfl rfl rfl (by decide) tb_1255 rfl dX12_weighs_15 ?_
        refine lv_iload_n hx hb dX12_weighs_18 rfl (lv_at hl 3 rfl) ?_
        obtain ⟨y_26, e_y_26, h⟩ := bi h
        refine xiald (i0 := 0) (j0 := 10) hx hb hX hP.1 rfl rfl e_y_26 dX12_weighs_19 ?_
        refine lv_bipush (v := 8) hx hb dX12_weighs_20 (by decide) ?_
        refine lv_icmp_ne (tgt := 28) hx hb dX12_weighs_22 (by decide) (fun c_27 => ?_) (fun c_27 => ?_)
        · have h := ie c_27 h
          obtain ⟨x1_28, e_x1_28⟩ : ∃ y : Int32, y = x1 + 1 := ⟨_, rfl⟩
          have h := bn e_x1_28 h
          refine lv_iinc (v := x1_28) (lv' := [(1, .int x1_28), (0, .ref (A_m 0)), (2, .int x2), (3, .int x3)]) hx hb dX12_weighs_28 hl (k := 1) rfl (by rw [e_x1_28]; rfl) (by decide) rfl (fun ls hl => ?_)
          refine lv_iload_n hx hb dX12_weighs_31 rfl (lv_at hl 2 rfl) ?_
          refine lv_aload_n hx hb dX12_weighs_32 rfl (lv_at hl 1 rfl) ?_
          refine lv_aload_n hx hb dX12_weighs_33 rfl (lv_at hl 1 rfl) ?_
          refine xget (i := 0) (j := 0) (k := 25) (T := TX12) hx hb ht tb_iX12 hown hX hP.1 rfl rfl rfl (by decide) tb_1254 rfl dX12_weighs_34 ?_
          refine lv_iload_n hx hb dX12_weighs_37 rfl (lv_at hl 3 rfl) ?_
          obtain ⟨y_29, e_y_29, h⟩ := bi h
          refine xiald (i0 := 0) (j0 := 9) hx hb hX hP.1 rfl rfl e_y_29 dX12_weighs_38 ?_
          refine lv_aload_n hx hb dX12_weighs_39 rfl (lv_at hl 1 rfl) ?_
          refine xget (i := 0) (j := 0) (k := 26) (T := TX12) hx hb ht tb_iX12 hown hX hP.1 rfl rfl rfl (by decide) tb_1255 rfl dX12_weighs_40 ?_
          refine lv_iload_n hx hb dX12_weighs_43 rfl (lv_at hl 3 rfl) ?_
          obtain ⟨y_30, e_y_30, h⟩ := bi h
          refine xiald (i0 := 0) (j0 := 10) hx hb hX hP.1 rfl rfl e_y_30 dX12_weighs_44 ?_
          obtain ⟨z_31, e_z_31, h⟩ := bi h
          refine roVi (rest := [.int x2]) ⟨hx, hb, hml, hown, ht⟩ (c_X12_fondOf l D cy fu A_m m_at m_names m_status m_top m_bottom m_sort m_trayMany m_trays m_tape m_text m_taped m_size m_token m_from m_end m_value m_faultKind m_faultPlace m_faults m_seen m_toldParts m_opened m_depth m_counted m_bestOrder m_standers m_has m_bestHas m_standerMany m_bestCouples m_bestFondness m_cameTo m_doesStandFirst m_stoodBy m_drawn m_ranSteps m_loops m_ran m_told1 m_isTold m_marks y_29 y_30 z_31 e_z_31) (cV ht mv_X12_fondOf tb_1814 rfl rfl ⟨Nat.le_of_ble_eq_true rfl, Nat.le_of_ble_eq_true rfl⟩) (P_sub hP.1 [0] rfl) hX rfl rfl rfl hl.1 rfl (Nat.le_of_ble_eq_true rfl) dX12_weighs_45 ⟨Nat.le_of_ble_eq_true rfl, Nat.le_of_ble_eq_true rfl⟩ ?_
          refine lv_iadd hx hb dX12_weighs_48 ?_
          refine lv_topi (fun x2_32 e_x2_32 => ?_)
          have h := bn e_x2_32 h
          refine lv_istore_n (lv' := [(2, .int x2_32), (1, .int x1_28), (0, .ref (A_m 0)), (3, .int x3)]) hx hb dX12_weighs_49 rfl hl (by decide) rfl (fun ls hl => ?_)
          obtain ⟨x3_33, e_x3_33⟩ : ∃ y : Int32, y = x3 + 1 := ⟨_, rfl⟩
          have h := bn e_x3_33 h
          refine lv_iinc (v := x3_33) (lv' := [(3, .int x3_33), (2, .int x2_32), (1, .int x1_28), (0, .ref (A_m 0))]) hx hb dX12_weighs_50 hl (k := 3) rfl (by rw [e_x3_33]; rfl) (by decide) rfl (fun ls hl => ?_)
          refine lv_goto (tgt := 6) hx hb dX12_weighs_53 (by decide) ?_
          exact ih6 m_bestHas m_bestCouples m_bestFondness x1_28 x2_32 x3_33 _ _ hP hS ls (lv_sub hl [3, 2, 1, 0] rfl) h
        · have h := it c_27 h
          refine lv_goto (tgt := 50) hx hb dX12_weighs_25 (by decide) ?_
          obtain ⟨x3_34, e_x3_34⟩ : ∃ y : Int32, y = x3 + 1 := ⟨_, rfl⟩
          have h := bn e_x3_34 h
          refine lv_iinc (v := x3_34) (lv' := [(3, .int x3_34), (0, .ref (A_m 0)), (1, .int x1), (2, .int x2)]) hx hb dX12_weighs_50 hl (k := 3) rfl (by rw [e_x3_34]; rfl) (by decide) rfl (fun ls hl => ?_)
          refine lv_goto (tgt := 6) hx hb dX12_weighs_53 (by decide) ?_
          exact ih6 m_bestHas m_bestCouples m_bestFondness x1 x2 x3_34 _ _ hP hS ls (lv_sub hl [1, 2, 3, 0] rfl) h
  unfold f_X12_weighs at h
  refine lv_iconst (v := 0) hx hb dX12_weighs_0 (by decide) ?_
  refine lv_istore_n (lv' := [(1, .int 0), (0, .ref (A_m 0))]) hx hb dX12_weighs_1 rfl hl (by decide) rfl (fun ls hl => ?_)
  refine lv_iconst (v := 0) hx hb dX12_weighs_2 (by decide) ?_
  refine lv_istore_n (lv' := [(2, .int 0), (1, .int 0), (0, .ref (A_m 0))]) hx hb dX12_weighs_3 rfl hl (by decide) rfl (fun ls hl => ?_)
  refine lv_iconst (v := 0) hx hb dX12_weighs_4 (by decide) ?_
  refine lv_istore_n (lv' := [(3, .int 0), (2, .int 0), (1, .int 0), (0, .ref (A_m 0))]) hx hb dX12_weighs_5 rfl hl (by decide) rfl (fun ls hl => ?_)
  exact l6 fu m_bestHas m_bestCouples m_bestFondness 0 0 0 _ _ hP hS ls (lv_sub hl [3, 2, 1, 0] rfl) h
theorem dX12_isFree_0 : decode cX12_isFree 0 = .ok (.iload_n 2, 1) := by decide +kernel
theorem dX12_isFree_1 : decode cX12_isFree 1 = .ok (.bipush 8, 2) := by decide +kernel
theorem dX12_isFree_3 : decode cX12_isFree 3 = .ok (.if_icmp .ne 5, 3) := by decide +kernel
theorem dX12_isFree_6 : decode cX12_isFree 6 = .ok (.iconst 1, 1) := by decide +kernel
theorem dX12_isFree_7 : decode cX12_isFree 7 = .ok (.ireturn, 1) := by decide +kernel
theorem dX12_isFree_8 : decode cX12_isFree 8 = .ok (.iconst 0, 1) := by decide +kernel
theorem dX12_isFree_9 : decode cX12_isFree 9 = .ok (.istore 4, 2) := by decide +kernel
theorem dX12_isFree_11 : decode cX12_isFree 11 = .ok (.iload 4, 2) := by decide +kernel
theorem dX12_isFree_13 : decode cX12_isFree 13 = .ok (.iload_n 1, 1) := by decide +kernel
theorem dX12_isFree_14 : decode cX12_isFree 14 = .ok (.if_icmp .ge 22, 3) := by decide +kernel
theorem dX12_isFree_17 : decode cX12_isFree 17 = .ok (.aload_n 0, 1) := by decide +kernel
theorem dX12_isFree_18 : decode cX12_isFree 18 = .ok (.getfield 50, 3) := by decide +kernel
theorem dX12_isFree_21 : decode cX12_isFree 21 = .ok (.iload 4, 2) := by decide +kernel
theorem dX12_isFree_23 : decode cX12_isFree 23 = .ok (.iaload, 1) := by decide +kernel
theorem dX12_isFree_24 : decode cX12_isFree 24 = .ok (.iload_n 2, 1) := by decide +kernel
theorem dX12_isFree_25 : decode cX12_isFree 25 = .ok (.if_icmp .ne 5, 3) := by decide +kernel
theorem dX12_isFree_28 : decode cX12_isFree 28 = .ok (.iconst 0, 1) := by decide +kernel
theorem dX12_isFree_29 : decode cX12_isFree 29 = .ok (.ireturn, 1) := by decide +kernel
theorem dX12_isFree_30 : decode cX12_isFree 30 = .ok (.iinc 4 1, 3) := by decide +kernel
theorem dX12_isFree_33 : decode cX12_isFree 33 = .ok (.goto (-22), 3) := by decide +kernel
theorem dX12_isFree_36 : decode cX12_isFree 36 = .ok (.aload_n 0, 1) := by decide +kernel
theorem dX12_isFree_37 : decode cX12_isFree 37 = .ok (.iload_n 3, 1) := by decide +kernel
theorem dX12_isFree_38 : decode cX12_isFree 38 = .ok (.iload_n 2, 1) := by decide +kernel
theorem dX12_isFree_39 : decode cX12_isFree 39 = .ok (.invokevirtual 274, 3) := by decide +kernel
theorem dX12_isFree_42 : decode cX12_isFree 42 = .ok (.ireturn, 1) := by decide +kernel
theorem mv_X12_isFree : MV yX12_isFree RX12 cX12_isFree 5 (some .boolean) 3 := ⟨tb_1821, tb_1820, ts_106, tb_16, by decide +kernel, by decide +kernel, by decide +kernel⟩
def f_X12_isFree_b11 (fu : Nat) (m_has : Nat → Int32) (x1 : Int32) (x2 : Int32) (x3 : Int32) (k11 : Int32 → Option (Int32)) (x4 : Int32) : Option (Int32) := (if x1 ≤ x4 then (f_X12_isIn fu x3 x2).bind fun z_9 => (bz z_9).bind fun _ => some (z_9) else (rdI m_has 8 x4).bind fun y_11 => (if y_11 = x2 then some (0) else bnd (x4 + 1) fun x4_13 => k11 x4_13))
def f_X12_isFree_l11 (fu : Nat) (m_has : Nat → Int32) (x1 : Int32) (x2 : Int32) (x3 : Int32) : Nat → Int32 → Option (Int32)
  | 0, _ => none
  | n + 1, x4 => f_X12_isFree_b11 fu m_has x1 x2 x3 (f_X12_isFree_l11 fu m_has x1 x2 x3 n) x4
def f_X12_isFree (fu : Nat) (m_has : Nat → Int32) (x1 : Int32) (x2 : Int32) (x3 : Int32) : Option (Int32) := (if x2 = 8 then some (1) else f_X12_isFree_l11 fu m_has x1 x2 x3 fu 0)
abbrev rm_X12_isFree : Room := { frames := 1, cells := 0, slots := 0, locals := 22 }
set_option maxHeartbeats 4000000 in
set_option maxRecDepth 100000 in
theorem c_X12_isFree (l : Launch) (D : va_G) (cy : Nat → ClassId) (fu : Nat) (A_m : Nat → Nat) (m_at : Nat → Int32) (m_names : Nat → Int64) (m_status : Int32) (m_top : Int64) (m_bottom : Int64) (m_sort : Nat → Int32) (m_trayMany : Nat → Int32) (m_trays : Nat → Int64) (m_tape : Nat → Int32) (m_text : Nat → Int32) (m_taped : Int32) (m_size : Int32) (m_token : Int32) (m_from : Int32) (m_end : Int32) (m_value : Int32) (m_faultKind : Int32) (m_faultPlace : Int32) (m_faults : Int32) (m_seen : Int32) (m_toldParts : Int32) (m_opened : Nat → Int32) (m_depth : Int32) (m_counted : Int32) (m_bestOrder : Int32) (m_standers : Nat → Int32) (m_has : Nat → Int32) (m_bestHas : Nat → Int32) (m_standerMany : Int32) (m_bestCouples : Int32) (m_bestFondness : Int32) (m_cameTo : Nat → Int32) (m_doesStandFirst : Int32) (m_stoodBy : Nat → Int64) (m_drawn : Int32) (m_ranSteps : Int32) (m_loops : Nat → Int32) (m_ran : Nat → Int32) (m_told1 : Nat → Int32) (m_isTold : Int32) (m_marks : Int32) (x1 : Int32) (x2 : Int32) (x3 : Int32) (res : Int32) (h : f_X12_isFree fu m_has x1 x2 x3 = some res) : Met l yX12_isFree (WW yX12_isFree cX12_isFree 5 (some .boolean)) rm_X12_isFree (Rd D cy [.ref (A_m 0), .int x1, .int x2, .int x3] [bl_X12 cy A_m m_at m_names m_status m_top m_bottom m_sort m_trayMany m_trays m_tape m_text m_taped m_size m_token m_from m_end m_value m_faultKind m_faultPlace m_faults m_seen m_toldParts m_opened m_depth m_counted m_bestOrder m_standers m_has m_bestHas m_standerMany m_bestCouples m_bestFondness m_cameTo m_doesStandFirst m_stoodBy m_drawn m_ranSteps m_loops m_ran m_told1 m_isTold m_marks]) (vp_Si (fun v => v = res)) 0 0 (fun _ => False) := by
  refine Met.ofW (cc := cX12_isFree) (maxL := 5) (ret := (some .boolean)) (by decide) rfl ?_
  intro p e s m args below meth c s₁ B hml hv
  obtain ⟨hargs, hP, hX⟩ := hv
  have hx := B.exec
  have hb := B.bytes
  have hr := B.returns
  have ht : ∀ w ∈ lw_gd, w.before args s = true := fun w hw => atoms_spec (ws := WW yX12_isFree cX12_isFree 5 (some .boolean)) B.pre w (List.mem_cons_of_mem _ hw)
  have hown : s.vm.findClass RX12 = some m.cls := findClass_of_methodNamed B.named
  have hlocks := B.notSynchronized
  have hP : PB D [bl_X12 cy A_m m_at m_names m_status m_top m_bottom m_sort m_trayMany m_trays m_tape m_text m_taped m_size m_token m_from m_end m_value m_faultKind m_faultPlace m_faults m_seen m_toldParts m_opened m_depth m_counted m_bestOrder m_standers m_has m_bestHas m_standerMany m_bestCouples m_bestFondness m_cameTo m_doesStandFirst m_stoodBy m_drawn m_ranSteps m_loops m_ran m_told1 m_isTold m_marks] s.heap := hP
  obtain ⟨ls, hl, hent⟩ := ent (m := m) (n := 5) hargs (Nat.le_of_ble_eq_true rfl) (lv := [(0, .ref (A_m 0)), (1, .int x1), (2, .int x2), (3, .int x3)]) rfl
  rw [hent]
  clear hent
  have l11 : ∀ (n11 : Nat) (x4 : Int32) (ls : Array Slot), lv_has ls 5 [(0, .ref (A_m 0)), (1, .int x1), (2, .int x2), (3, .int x3), (4, .int x4)] → f_X12_isFree_l11 fu m_has x1 x2 x3 n11 x4 = some res → W p l e (headSpec (WW yX12_isFree cX12_isFree 5 (some .boolean)) rm_X12_isFree).room s m args below meth c s.heap [] 0 0 (MQ below (vp_Si (fun v => v = res)) args s 0 0 (fun _ => False)) (F0 m 11 ls []) := by
    intro n11
    induction n11 with
    | zero => intro x4 ls hl h; cases h
    | succ n11 ih11 =>
      intro x4 ls hl h
      have h : f_X12_isFree_b11 fu m_has x1 x2 x3 (f_X12_isFree_l11 fu m_has x1 x2 x3 n11) x4 = some res := h
      unfold f_X12_isFree_b11 at h
      refine lv_iload hx hb dX12_isFree_11 (lv_at hl 4 rfl) ?_
      refine lv_iload_n hx hb dX12_isFree_13 rfl (lv_at hl 1 rfl) ?_
      refine lv_icmp_ge (tgt := 36) hx hb dX12_isFree_14 (by decide) (fun c_8 => ?_) (fun c_8 => ?_)
      · have h := it c_8 h
        refine lv_aload_n hx hb dX12_isFree_36 rfl (lv_at hl 0 rfl) ?_
        refine lv_iload_n hx hb dX12_isFree_37 rfl (lv_at hl 3 rfl) ?_
        refine lv_iload_n hx hb dX12_isFree_38 rfl (lv_at hl 2 rfl) ?_
        obtain ⟨z_9, e_z_9, h⟩ := bi h
        refine roVi (rest := []) ⟨hx, hb, hml, hown, ht⟩ (c_X12_isIn l D cy fu A_m m_at m_names m_status m_top m_bottom m_sort m_trayMany m_trays m_tape m_text m_taped m_size m_token m_from m_end m_value m_faultKind m_faultPlace m_faults m_seen m_toldParts m_opened m_depth m_counted m_bestOrder m_standers m_has m_bestHas m_standerMany m_bestCouples m_bestFondness m_cameTo m_doesStandFirst m_stoodBy m_drawn m_ranSteps m_loops m_ran m_told1 m_isTold m_marks x3 x2 z_9 e_z_9) (cV ht mv_X12_isIn tb_1598 rfl rfl ⟨Nat.le_of_ble_eq_true rfl, Nat.le_of_ble_eq_true rfl⟩) (P_sub hP [0] rfl) hX rfl rfl rfl hl.1 rfl (Nat.le_of_ble_eq_true rfl) dX12_isFree_39 ⟨Nat.le_of_ble_eq_true rfl, Nat.le_of_ble_eq_true rfl⟩ ?_
        obtain ⟨b_10, e_b_10, h⟩ := bi h
        obtain ⟨-, n_b_10, -⟩ := bz_ok e_b_10
        cases h
        exact W.zret hx hb hr n_b_10 (fun _ ht9 _ => ⟨_, rfl, rfl, ht9⟩) (fun _ hq => by cases hq) dX12_isFree_42
      · have h := ie c_8 h
        refine lv_aload_n hx hb dX12_isFree_17 rfl (lv_at hl 0 rfl) ?_
        refine xget (i := 0) (j := 0) (k := 26) (T := TX12) hx hb ht tb_iX12 hown hX hP rfl rfl rfl (by decide) tb_1255 rfl dX12_isFree_18 ?_
        refine lv_iload hx hb dX12_isFree_21 (lv_at hl 4 rfl) ?_
        obtain ⟨y_11, e_y_11, h⟩ := bi h
        refine xiald (i0 := 0) (j0 := 10) hx hb hX hP rfl rfl e_y_11 dX12_isFree_23 ?_
        refine lv_iload_n hx hb dX12_isFree_24 rfl (lv_at hl 2 rfl) ?_
        refine lv_icmp_ne (tgt := 30) hx hb dX12_isFree_25 (by decide) (fun c_12 => ?_) (fun c_12 => ?_)
        · have h := ie c_12 h
          obtain ⟨x4_13, e_x4_13⟩ : ∃ y : Int32, y = x4 + 1 := ⟨_, rfl⟩
          have h := bn e_x4_13 h
          refine lv_iinc (v := x4_13) (lv' := [(4, .int x4_13), (0, .ref (A_m 0)), (1, .int x1), (2, .int x2), (3, .int x3)]) hx hb dX12_isFree_30 hl (k := 4) rfl (by rw [e_x4_13]; rfl) (by decide) rfl (fun ls hl => ?_)
          refine lv_goto (tgt := 11) hx hb dX12_isFree_33 (by decide) ?_
          exact ih11 x4_13 ls (lv_sub hl [1, 2, 3, 4, 0] rfl) h
        · have h := it c_12 h
          refine lv_iconst (v := 0) hx hb dX12_isFree_28 (by decide) ?_
          cases h
          exact W.zret hx hb hr rfl (fun _ ht9 _ => ⟨_, rfl, rfl, ht9⟩) (fun _ hq => by cases hq) dX12_isFree_29
  unfold f_X12_isFree at h
  refine lv_iload_n hx hb dX12_isFree_0 rfl (lv_at hl 2 rfl) ?_
  refine lv_bipush (v := 8) hx hb dX12_isFree_1 (by decide) ?_
  refine lv_icmp_ne (tgt := 8) hx hb dX12_isFree_3 (by decide) (fun c_14 => ?_) (fun c_14 => ?_)
  · have h := ie c_14 h
    refine lv_iconst (v := 0) hx hb dX12_isFree_8 (by decide) ?_
    refine lv_istore (lv' := [(4, .int 0), (0, .ref (A_m 0)), (1, .int x1), (2, .int x2), (3, .int x3)]) hx hb dX12_isFree_9 hl (by decide) rfl (fun ls hl => ?_)
    exact l11 fu 0 ls (lv_sub hl [1, 2, 3, 4, 0] rfl) h
  · have h := it c_14 h
    refine lv_iconst (v := 1) hx hb dX12_isFree_6 (by decide) ?_
    cases h
    exact W.zret hx hb hr rfl (fun _ ht9 _ => ⟨_, rfl, rfl, ht9⟩) (fun _ hq => by cases hq) dX12_isFree_7
theorem dX12_pairing_0 : decode cX12_pairing 0 = .ok (.aload_n 0, 1) := by decide +kernel
theorem dX12_pairing_1 : decode cX12_pairing 1 = .ok (.iload_n 1, 1) := by decide +kernel
theorem dX12_pairing_2 : decode cX12_pairing 2 = .ok (.invokevirtual 315, 3) := by decide +kernel
theorem dX12_pairing_5 : decode cX12_pairing 5 = .ok (.istore_n 2, 1) := by decide +kernel
theorem dX12_pairing_6 : decode cX12_pairing 6 = .ok (.aload_n 0, 1) := by decide +kernel
theorem dX12_pairing_7 : decode cX12_pairing 7 = .ok (.invokevirtual 259, 3) := by decide +kernel
theorem dX12_pairing_10 : decode cX12_pairing 10 = .ok (.iload_n 2, 1) := by decide +kernel
theorem dX12_pairing_11 : decode cX12_pairing 11 = .ok (.iconst (-1), 1) := by decide +kernel
theorem dX12_pairing_12 : decode cX12_pairing 12 = .ok (.ixor, 1) := by decide +kernel
theorem dX12_pairing_13 : decode cX12_pairing 13 = .ok (.iand, 1) := by decide +kernel
theorem dX12_pairing_14 : decode cX12_pairing 14 = .ok (.istore_n 3, 1) := by decide +kernel
theorem dX12_pairing_15 : decode cX12_pairing 15 = .ok (.aload_n 0, 1) := by decide +kernel
theorem dX12_pairing_16 : decode cX12_pairing 16 = .ok (.iconst 0, 1) := by decide +kernel
theorem dX12_pairing_17 : decode cX12_pairing 17 = .ok (.putfield 383, 3) := by decide +kernel
theorem dX12_pairing_20 : decode cX12_pairing 20 = .ok (.iconst 0, 1) := by decide +kernel
theorem dX12_pairing_21 : decode cX12_pairing 21 = .ok (.istore 4, 2) := by decide +kernel
theorem dX12_pairing_23 : decode cX12_pairing 23 = .ok (.iload 4, 2) := by decide +kernel
theorem dX12_pairing_25 : decode cX12_pairing 25 = .ok (.aload_n 0, 1) := by decide +kernel
theorem dX12_pairing_26 : decode cX12_pairing 26 = .ok (.getfield 7, 3) := by decide +kernel
theorem dX12_pairing_29 : decode cX12_pairing 29 = .ok (.iconst 0, 1) := by decide +kernel
theorem dX12_pairing_30 : decode cX12_pairing 30 = .ok (.iaload, 1) := by decide +kernel
theorem dX12_pairing_31 : decode cX12_pairing 31 = .ok (.if_icmp .ge 43, 3) := by decide +kernel
theorem dX12_pairing_34 : decode cX12_pairing 34 = .ok (.aload_n 0, 1) := by decide +kernel
theorem dX12_pairing_35 : decode cX12_pairing 35 = .ok (.iload_n 2, 1) := by decide +kernel
theorem dX12_pairing_36 : decode cX12_pairing 36 = .ok (.iload 4, 2) := by decide +kernel
theorem dX12_pairing_38 : decode cX12_pairing 38 = .ok (.invokevirtual 274, 3) := by decide +kernel
theorem dX12_pairing_41 : decode cX12_pairing 41 = .ok (.ifCond .ne 6, 3) := by decide +kernel
theorem dX12_pairing_44 : decode cX12_pairing 44 = .ok (.goto 24, 3) := by decide +kernel
theorem dX12_pairing_47 : decode cX12_pairing 47 = .ok (.aload_n 0, 1) := by decide +kernel
theorem dX12_pairing_48 : decode cX12_pairing 48 = .ok (.getfield 47, 3) := by decide +kernel
theorem dX12_pairing_51 : decode cX12_pairing 51 = .ok (.aload_n 0, 1) := by decide +kernel
theorem dX12_pairing_52 : decode cX12_pairing 52 = .ok (.getfield 383, 3) := by decide +kernel
theorem dX12_pairing_55 : decode cX12_pairing 55 = .ok (.iload 4, 2) := by decide +kernel
theorem dX12_pairing_57 : decode cX12_pairing 57 = .ok (.iastore, 1) := by decide +kernel
theorem dX12_pairing_58 : decode cX12_pairing 58 = .ok (.aload_n 0, 1) := by decide +kernel
theorem dX12_pairing_59 : decode cX12_pairing 59 = .ok (.dup, 1) := by decide +kernel
theorem dX12_pairing_60 : decode cX12_pairing 60 = .ok (.getfield 383, 3) := by decide +kernel
theorem dX12_pairing_63 : decode cX12_pairing 63 = .ok (.iconst 1, 1) := by decide +kernel
theorem dX12_pairing_64 : decode cX12_pairing 64 = .ok (.iadd, 1) := by decide +kernel
theorem dX12_pairing_65 : decode cX12_pairing 65 = .ok (.putfield 383, 3) := by decide +kernel
theorem dX12_pairing_68 : decode cX12_pairing 68 = .ok (.iinc 4 1, 3) := by decide +kernel
theorem dX12_pairing_71 : decode cX12_pairing 71 = .ok (.goto (-48), 3) := by decide +kernel
theorem dX12_pairing_74 : decode cX12_pairing 74 = .ok (.aload_n 0, 1) := by decide +kernel
theorem dX12_pairing_75 : decode cX12_pairing 75 = .ok (.iconst (-1), 1) := by decide +kernel
theorem dX12_pairing_76 : decode cX12_pairing 76 = .ok (.putfield 389, 3) := by decide +kernel
theorem dX12_pairing_79 : decode cX12_pairing 79 = .ok (.aload_n 0, 1) := by decide +kernel
theorem dX12_pairing_80 : decode cX12_pairing 80 = .ok (.iconst (-1), 1) := by decide +kernel
theorem dX12_pairing_81 : decode cX12_pairing 81 = .ok (.putfield 392, 3) := by decide +kernel
theorem dX12_pairing_84 : decode cX12_pairing 84 = .ok (.aload_n 0, 1) := by decide +kernel
theorem dX12_pairing_85 : decode cX12_pairing 85 = .ok (.getfield 383, 3) := by decide +kernel
theorem dX12_pairing_88 : decode cX12_pairing 88 = .ok (.ifCond .ne 8, 3) := by decide +kernel
theorem dX12_pairing_91 : decode cX12_pairing 91 = .ok (.aload_n 0, 1) := by decide +kernel
theorem dX12_pairing_92 : decode cX12_pairing 92 = .ok (.invokevirtual 395, 3) := by decide +kernel
theorem dX12_pairing_95 : decode cX12_pairing 95 = .ok (.return_, 1) := by decide +kernel
theorem dX12_pairing_96 : decode cX12_pairing 96 = .ok (.iconst 0, 1) := by decide +kernel
theorem dX12_pairing_97 : decode cX12_pairing 97 = .ok (.istore 4, 2) := by decide +kernel
theorem dX12_pairing_99 : decode cX12_pairing 99 = .ok (.aload_n 0, 1) := by decide +kernel
theorem dX12_pairing_100 : decode cX12_pairing 100 = .ok (.getfield 50, 3) := by decide +kernel
theorem dX12_pairing_103 : decode cX12_pairing 103 = .ok (.iconst 0, 1) := by decide +kernel
theorem dX12_pairing_104 : decode cX12_pairing 104 = .ok (.iconst (-1), 1) := by decide +kernel
theorem dX12_pairing_105 : decode cX12_pairing 105 = .ok (.iastore, 1) := by decide +kernel
theorem dX12_pairing_106 : decode cX12_pairing 106 = .ok (.iload 4, 2) := by decide +kernel
theorem dX12_pairing_108 : decode cX12_pairing 108 = .ok (.ifCond .lt 84, 3) := by decide +kernel
theorem dX12_pairing_111 : decode cX12_pairing 111 = .ok (.aload_n 0, 1) := by decide +kernel
theorem dX12_pairing_112 : decode cX12_pairing 112 = .ok (.getfield 50, 3) := by decide +kernel
theorem dX12_pairing_115 : decode cX12_pairing 115 = .ok (.iload 4, 2) := by decide +kernel
theorem dX12_pairing_117 : decode cX12_pairing 117 = .ok (.dup2, 1) := by decide +kernel
theorem dX12_pairing_118 : decode cX12_pairing 118 = .ok (.iaload, 1) := by decide +kernel
theorem dX12_pairing_119 : decode cX12_pairing 119 = .ok (.iconst 1, 1) := by decide +kernel
theorem dX12_pairing_120 : decode cX12_pairing 120 = .ok (.iadd, 1) := by decide +kernel
theorem dX12_pairing_121 : decode cX12_pairing 121 = .ok (.iastore, 1) := by decide +kernel
theorem dX12_pairing_122 : decode cX12_pairing 122 = .ok (.aload_n 0, 1) := by decide +kernel
theorem dX12_pairing_123 : decode cX12_pairing 123 = .ok (.getfield 50, 3) := by decide +kernel
theorem dX12_pairing_126 : decode cX12_pairing 126 = .ok (.iload 4, 2) := by decide +kernel
theorem dX12_pairing_128 : decode cX12_pairing 128 = .ok (.iaload, 1) := by decide +kernel
theorem dX12_pairing_129 : decode cX12_pairing 129 = .ok (.bipush 8, 2) := by decide +kernel
theorem dX12_pairing_131 : decode cX12_pairing 131 = .ok (.if_icmp .le 9, 3) := by decide +kernel
theorem dX12_pairing_134 : decode cX12_pairing 134 = .ok (.iinc 4 (-1), 3) := by decide +kernel
theorem dX12_pairing_137 : decode cX12_pairing 137 = .ok (.goto (-31), 3) := by decide +kernel
theorem dX12_pairing_140 : decode cX12_pairing 140 = .ok (.aload_n 0, 1) := by decide +kernel
theorem dX12_pairing_141 : decode cX12_pairing 141 = .ok (.iload 4, 2) := by decide +kernel
theorem dX12_pairing_143 : decode cX12_pairing 143 = .ok (.aload_n 0, 1) := by decide +kernel
theorem dX12_pairing_144 : decode cX12_pairing 144 = .ok (.getfield 50, 3) := by decide +kernel
theorem dX12_pairing_147 : decode cX12_pairing 147 = .ok (.iload 4, 2) := by decide +kernel
theorem dX12_pairing_149 : decode cX12_pairing 149 = .ok (.iaload, 1) := by decide +kernel
theorem dX12_pairing_150 : decode cX12_pairing 150 = .ok (.iload_n 3, 1) := by decide +kernel
theorem dX12_pairing_151 : decode cX12_pairing 151 = .ok (.invokevirtual 398, 3) := by decide +kernel
theorem dX12_pairing_154 : decode cX12_pairing 154 = .ok (.ifCond .ne 6, 3) := by decide +kernel
theorem dX12_pairing_157 : decode cX12_pairing 157 = .ok (.goto (-51), 3) := by decide +kernel
theorem dX12_pairing_160 : decode cX12_pairing 160 = .ok (.iload 4, 2) := by decide +kernel
theorem dX12_pairing_162 : decode cX12_pairing 162 = .ok (.iconst 1, 1) := by decide +kernel
theorem dX12_pairing_163 : decode cX12_pairing 163 = .ok (.iadd, 1) := by decide +kernel
theorem dX12_pairing_164 : decode cX12_pairing 164 = .ok (.aload_n 0, 1) := by decide +kernel
theorem dX12_pairing_165 : decode cX12_pairing 165 = .ok (.getfield 383, 3) := by decide +kernel
theorem dX12_pairing_168 : decode cX12_pairing 168 = .ok (.if_icmp .ne 10, 3) := by decide +kernel
theorem dX12_pairing_171 : decode cX12_pairing 171 = .ok (.aload_n 0, 1) := by decide +kernel
theorem dX12_pairing_172 : decode cX12_pairing 172 = .ok (.invokevirtual 395, 3) := by decide +kernel
theorem dX12_pairing_175 : decode cX12_pairing 175 = .ok (.goto (-69), 3) := by decide +kernel
theorem dX12_pairing_178 : decode cX12_pairing 178 = .ok (.iinc 4 1, 3) := by decide +kernel
theorem dX12_pairing_181 : decode cX12_pairing 181 = .ok (.aload_n 0, 1) := by decide +kernel
theorem dX12_pairing_182 : decode cX12_pairing 182 = .ok (.getfield 50, 3) := by decide +kernel
theorem dX12_pairing_185 : decode cX12_pairing 185 = .ok (.iload 4, 2) := by decide +kernel
theorem dX12_pairing_187 : decode cX12_pairing 187 = .ok (.iconst (-1), 1) := by decide +kernel
theorem dX12_pairing_188 : decode cX12_pairing 188 = .ok (.iastore, 1) := by decide +kernel
theorem dX12_pairing_189 : decode cX12_pairing 189 = .ok (.goto (-83), 3) := by decide +kernel
theorem dX12_pairing_192 : decode cX12_pairing 192 = .ok (.return_, 1) := by decide +kernel
theorem mv_X12_pairing : MV yX12_pairing RX12 cX12_pairing 5 none 1 := ⟨tb_1809, tb_1808, ts_103, tb_16, by decide +kernel, by decide +kernel, by decide +kernel⟩
def f_X12_pairing_b106 (fu : Nat) (m_at : Nat → Int32) (x1 : Int32) (k106 : (Nat → Int32) → (Nat → Int32) → (Nat → Int32) → Int32 → Int32 → Int32 → Int32 → Int32 → (Option ((Nat → Int32) × (Nat → Int32) × (Nat → Int32) × Int32 × Int32 × Int32))) (m_standers : Nat → Int32) (m_has : Nat → Int32) (m_bestHas : Nat → Int32) (m_standerMany : Int32) (m_bestCouples : Int32) (m_bestFondness : Int32) (x3 : Int32) (x4 : Int32) : Option ((Nat → Int32) × (Nat → Int32) × (Nat → Int32) × Int32 × Int32 × Int32) := (if x4 < 0 then some (m_standers, m_has, m_bestHas, m_standerMany, m_bestCouples, m_bestFondness) else (rdI m_has 8 x4).bind fun y_29 => (wrI m_has 8 x4 (y_29 + 1)).bind fun m_has_30 => (rdI m_has_30 8 x4).bind fun y_31 => (if y_31 ≤ 8 then (rdI m_has_30 8 x4).bind fun y_33 => (f_X12_isFree fu m_has_30 x4 y_33 x3).bind fun z_34 => (if z_34 = 0 then k106 m_standers m_has_30 m_bestHas m_standerMany m_bestCouples m_bestFondness x3 x4 else (if (x4 + 1) = m_standerMany then (f_X12_weighs fu m_at m_standers m_has_30 m_bestHas m_standerMany m_bestCouples m_bestFondness).bind fun z_39 => k106 m_standers m_has_30 z_39.1 m_standerMany z_39.2.1 z_39.2.2 x3 x4 else bnd (x4 + 1) fun x4_37 => (wrI m_has_30 8 x4_37 (-1)).bind fun m_has_38 => k106 m_standers m_has_38 m_bestHas m_standerMany m_bestCouples m_bestFondness x3 x4_37)) else bnd (x4 + (-1)) fun x4_40 => k106 m_standers m_has_30 m_bestHas m_standerMany m_bestCouples m_bestFondness x3 x4_40))
def f_X12_pairing_l106 (fu : Nat) (m_at : Nat → Int32) (x1 : Int32) : Nat → (Nat → Int32) → (Nat → Int32) → (Nat → Int32) → Int32 → Int32 → Int32 → Int32 → Int32 → (Option ((Nat → Int32) × (Nat → Int32) × (Nat → Int32) × Int32 × Int32 × Int32))
  | 0, _, _, _, _, _, _, _, _ => none
  | n + 1, m_standers, m_has, m_bestHas, m_standerMany, m_bestCouples, m_bestFondness, x3, x4 => f_X12_pairing_b106 fu m_at x1 (f_X12_pairing_l106 fu m_at x1 n) m_standers m_has m_bestHas m_standerMany m_bestCouples m_bestFondness x3 x4
def f_X12_pairing_b23 (fu : Nat) (m_at : Nat → Int32) (x1 : Int32) (k23 : (Nat → Int32) → (Nat → Int32) → (Nat → Int32) → Int32 → Int32 → Int32 → Int32 → Int32 → Int32 → (Option ((Nat → Int32) × (Nat → Int32) × (Nat → Int32) × Int32 × Int32 × Int32))) (m_standers : Nat → Int32) (m_has : Nat → Int32) (m_bestHas : Nat → Int32) (m_standerMany : Int32) (m_bestCouples : Int32) (m_bestFondness : Int32) (x2 : Int32) (x3 : Int32) (x4 : Int32) : Option ((Nat → Int32) × (Nat → Int32) × (Nat → Int32) × Int32 × Int32 × Int32) := (rdI m_at 3648 0).bind fun y_41 => (if y_41 ≤ x4 then (if m_standerMany = 0 then (f_X12_weighs fu m_at m_standers m_has m_bestHas m_standerMany (-1) (-1)).bind fun z_45 => some (m_standers, m_has, z_45.1, m_standerMany, z_45.2.1, z_45.2.2) else (wrI m_has 8 0 (-1)).bind fun m_has_44 => f_X12_pairing_l106 fu m_at x1 fu m_standers m_has_44 m_bestHas m_standerMany (-1) (-1) x3 0) else (f_X12_isIn fu x2 x4).bind fun z_46 => (if z_46 = 0 then bnd (x4 + 1) fun x4_51 => k23 m_standers m_has m_bestHas m_standerMany m_bestCouples m_bestFondness x2 x3 x4_51 else (wrI m_standers 8 m_standerMany x4).bind fun m_standers_48 => bnd (m_standerMany + 1) fun m_standerMany_49 => bnd (x4 + 1) fun x4_50 => k23 m_standers_48 m_has m_bestHas m_standerMany_49 m_bestCouples m_bestFondness x2 x3 x4_50))
def f_X12_pairing_l23 (fu : Nat) (m_at : Nat → Int32) (x1 : Int32) : Nat → (Nat → Int32) → (Nat → Int32) → (Nat → Int32) → Int32 → Int32 → Int32 → Int32 → Int32 → Int32 → (Option ((Nat → Int32) × (Nat → Int32) × (Nat → Int32) × Int32 × Int32 × Int32))
  | 0, _, _, _, _, _, _, _, _, _ => none
  | n + 1, m_standers, m_has, m_bestHas, m_standerMany, m_bestCouples, m_bestFondness, x2, x3, x4 => f_X12_pairing_b23 fu m_at x1 (f_X12_pairing_l23 fu m_at x1 n) m_standers m_has m_bestHas m_standerMany m_bestCouples m_bestFondness x2 x3 x4
def f_X12_pairing (fu : Nat) (m_at : Nat → Int32) (m_standers : Nat → Int32) (m_has : Nat → Int32) (m_bestHas : Nat → Int32) (m_standerMany : Int32) (m_bestCouples : Int32) (m_bestFondness : Int32) (x1 : Int32) : Option ((Nat → Int32) × (Nat → Int32) × (Nat → Int32) × Int32 × Int32 × Int32) := (f_X12_standing fu m_at x1).bind fun z_52 => (f_X12_living fu m_at).bind fun z_53 => bnd (z_53 &&& (z_52 ^^^ (-1))) fun x3_54 => f_X12_pairing_l23 fu m_at x1 fu m_standers m_has m_bestHas 0 m_bestCouples m_bestFondness z_52 x3_54 0
abbrev rm_X12_pairing : Room := { frames := 5, cells := 0, slots := 0, locals := 109 }
set_option maxHeartbeats 4000000 in
set_option maxRecDepth 100000 in
theorem c_X12_pairing (l : Launch) (D : va_G) (cy : Nat → ClassId) (fu : Nat) (A_m : Nat → Nat) (m_at : Nat → Int32) (m_names : Nat → Int64) (m_status : Int32) (m_top : Int64) (m_bottom : Int64) (m_sort : Nat → Int32) (m_trayMany : Nat → Int32) (m_trays : Nat → Int64) (m_tape : Nat → Int32) (m_text : Nat → Int32) (m_taped : Int32) (m_size : Int32) (m_token : Int32) (m_from : Int32) (m_end : Int32) (m_value : Int32) (m_faultKind : Int32) (m_faultPlace : Int32) (m_faults : Int32) (m_seen : Int32) (m_toldParts : Int32) (m_opened : Nat → Int32) (m_depth : Int32) (m_counted : Int32) (m_bestOrder : Int32) (m_standers : Nat → Int32) (m_has : Nat → Int32) (m_bestHas : Nat → Int32) (m_standerMany : Int32) (m_bestCouples : Int32) (m_bestFondness : Int32) (m_cameTo : Nat → Int32) (m_doesStandFirst : Int32) (m_stoodBy : Nat → Int64) (m_drawn : Int32) (m_ranSteps : Int32) (m_loops : Nat → Int32) (m_ran : Nat → Int32) (m_told1 : Nat → Int32) (m_isTold : Int32) (m_marks : Int32) (x1 : Int32) (res : (Nat → Int32) × (Nat → Int32) × (Nat → Int32) × Int32 × Int32 × Int32) (h : f_X12_pairing fu m_at m_standers m_has m_bestHas m_standerMany m_bestCouples m_bestFondness x1 = some res) (A : Nat → Prop) (hA : A = adr [bl_X12 cy A_m m_at m_names m_status m_top m_bottom m_sort m_trayMany m_trays m_tape m_text m_taped m_size m_token m_from m_end m_value m_faultKind m_faultPlace m_faults m_seen m_toldParts m_opened m_depth m_counted m_bestOrder m_standers m_has m_bestHas m_standerMany m_bestCouples m_bestFondness m_cameTo m_doesStandFirst m_stoodBy m_drawn m_ranSteps m_loops m_ran m_told1 m_isTold m_marks]) (W1 : List va_W) (hW1 : W1 = [bl_X12 cy A_m m_at m_names m_status m_top m_bottom m_sort m_trayMany m_trays m_tape m_text m_taped m_size m_token m_from m_end m_value m_faultKind m_faultPlace m_faults m_seen m_toldParts m_opened m_depth m_counted m_bestOrder res.1 res.2.1 res.2.2.1 res.2.2.2.1 res.2.2.2.2.1 res.2.2.2.2.2 m_cameTo m_doesStandFirst m_stoodBy m_drawn m_ranSteps m_loops m_ran m_told1 m_isTold m_marks]) : Met l yX12_pairing (WW yX12_pairing cX12_pairing 5 none) rm_X12_pairing (Ed D cy [.ref (A_m 0), .int x1] [bl_X12 cy A_m m_at m_names m_status m_top m_bottom m_sort m_trayMany m_trays m_tape m_text m_taped m_size m_token m_from m_end m_value m_faultKind m_faultPlace m_faults m_seen m_toldParts m_opened m_depth m_counted m_bestOrder m_standers m_has m_bestHas m_standerMany m_bestCouples m_bestFondness m_cameTo m_doesStandFirst m_stoodBy m_drawn m_ranSteps m_loops m_ran m_told1 m_isTold m_marks]) (Qev D A W1) 0 0 A := by
  refine Met.ofW (cc := cX12_pairing) (maxL := 5) (ret := none) (by decide) rfl ?_
  intro p e s m args below meth c s₁ B hml hv
  obtain ⟨hargs, hP, hX, hD0⟩ := hv
  have hx := B.exec
  have hb := B.bytes
  have hr := B.returns
  have ht : ∀ w ∈ lw_gd, w.before args s = true := fun w hw => atoms_spec (ws := WW yX12_pairing cX12_pairing 5 none) B.pre w (List.mem_cons_of_mem _ hw)
  have hown : s.vm.findClass RX12 = some m.cls := findClass_of_methodNamed B.named
  have hlocks := B.notSynchronized
  have hP : PD D A [bl_X12 cy A_m m_at m_names m_status m_top m_bottom m_sort m_trayMany m_trays m_tape m_text m_taped m_size m_token m_from m_end m_value m_faultKind m_faultPlace m_faults m_seen m_toldParts m_opened m_depth m_counted m_bestOrder m_standers m_has m_bestHas m_standerMany m_bestCouples m_bestFondness m_cameTo m_doesStandFirst m_stoodBy m_drawn m_ranSteps m_loops m_ran m_told1 m_isTold m_marks] s.heap := ⟨hP, by rw [hA]; exact hD0.own⟩
  have hS : va_S A s.heap s.heap [] := va_S.rf
  obtain ⟨ls, hl, hent⟩ := ent (m := m) (n := 5) hargs (Nat.le_of_ble_eq_true rfl) (lv := [(0, .ref (A_m 0)), (1, .int x1)]) rfl
  rw [hent]
  clear hent
  have l106 : ∀ (n106 : Nat) (m_standers : Nat → Int32) (m_has : Nat → Int32) (m_bestHas : Nat → Int32) (m_standerMany : Int32) (m_bestCouples : Int32) (m_bestFondness : Int32) (x3 : Int32) (x4 : Int32) (H : Heap) (locs : List Loc) (_ : PD D A [bl_X12 cy A_m m_at m_names m_status m_top m_bottom m_sort m_trayMany m_trays m_tape m_text m_taped m_size m_token m_from m_end m_value m_faultKind m_faultPlace m_faults m_seen m_toldParts m_opened m_depth m_counted m_bestOrder m_standers m_has m_bestHas m_standerMany m_bestCouples m_bestFondness m_cameTo m_doesStandFirst m_stoodBy m_drawn m_ranSteps m_loops m_ran m_told1 m_isTold m_marks] H) (_ : va_S A s.heap H locs) (ls : Array Slot), lv_has ls 5 [(0, .ref (A_m 0)), (3, .int x3), (4, .int x4)] → f_X12_pairing_l106 fu m_at x1 n106 m_standers m_has m_bestHas m_standerMany m_bestCouples m_bestFondness x3 x4 = some res → W p l e (headSpec (WW yX12_pairing cX12_pairing 5 none) rm_X12_pairing).room s m args below meth c H locs 0 0 (MQ below (Qev D A W1) args s 0 0 A) (F0 m 106 ls []) := by
    intro n106
    induction n106 with
    | zero => intro m_standers m_has m_bestHas m_standerMany m_bestCouples m_bestFondness x3 x4 H locs hP hS ls hl h; cases h
    | succ n106 ih106 =>
      intro m_standers m_has m_bestHas m_standerMany m_bestCouples m_bestFondness x3 x4 H locs hP hS ls hl h
      have h : f_X12_pairing_b106 fu m_at x1 (f_X12_pairing_l106 fu m_at x1 n106) m_standers m_has m_bestHas m_standerMany m_bestCouples m_bestFondness x3 x4 = some res := h
      unfold f_X12_pairing_b106 at h
      refine lv_iload hx hb dX12_pairing_106 (lv_at hl 2 rfl) ?_
      refine lv_if_lt (tgt := 192) hx hb dX12_pairing_108 (by decide) (fun c_28 => ?_) (fun c_28 => ?_)
      · have h := it c_28 h
        cases h
        subst hW1
        exact W.vret hx hb hr (fun _ ht9 _ => ⟨⟨(), rfl, trivial, hPt ht9 hP.1⟩, hS.F ht9⟩) hS.2.2 dX12_pairing_192
      · have h := ie c_28 h
        refine lv_aload_n hx hb dX12_pairing_111 rfl (lv_at hl 0 rfl) ?_
        refine xget (i := 0) (j := 0) (k := 26) (T := TX12) hx hb ht tb_iX12 hown hX hP.1 rfl rfl rfl (by decide) tb_1255 rfl dX12_pairing_112 ?_
        refine lv_iload hx hb dX12_pairing_115 (lv_at hl 2 rfl) ?_
        refine lv_dup2_11 hx hb dX12_pairing_117 rfl rfl ?_
        obtain ⟨y_29, e_y_29, h⟩ := bi h
        refine xiald (i0 := 0) (j0 := 10) hx hb hX hP.1 rfl rfl e_y_29 dX12_pairing_118 ?_
        refine lv_iconst (v := 1) hx hb dX12_pairing_119 (by decide) ?_
        refine lv_iadd hx hb dX12_pairing_120 ?_
        obtain ⟨m_has_30, e_m_has_30, h⟩ := bi h
        refine xiast (i0 := 0) (j0 := 10) hx hb hX hP hS rfl rfl e_m_has_30 dX12_pairing_121 (fun H locs hP hS => ?_)
        have hP : PD D A [bl_X12 cy A_m m_at m_names m_status m_top m_bottom m_sort m_trayMany m_trays m_tape m_text m_taped m_size m_token m_from m_end m_value m_faultKind m_faultPlace m_faults m_seen m_toldParts m_opened m_depth m_counted m_bestOrder m_standers m_has_30 m_bestHas m_standerMany m_bestCouples m_bestFondness m_cameTo m_doesStandFirst m_stoodBy m_drawn m_ranSteps m_loops m_ran m_told1 m_isTold m_marks] H := hP
        refine lv_aload_n hx hb dX12_pairing_122 rfl (lv_at hl 0 rfl) ?_
        refine xget (i := 0) (j := 0) (k := 26) (T := TX12) hx hb ht tb_iX12 hown hX hP.1 rfl rfl rfl (by decide) tb_1255 rfl dX12_pairing_123 ?_
        refine lv_iload hx hb dX12_pairing_126 (lv_at hl 2 rfl) ?_
        obtain ⟨y_31, e_y_31, h⟩ := bi h
        refine xiald (i0 := 0) (j0 := 10) hx hb hX hP.1 rfl rfl e_y_31 dX12_pairing_128 ?_
        refine lv_bipush (v := 8) hx hb dX12_pairing_129 (by decide) ?_
        refine lv_icmp_le (tgt := 140) hx hb dX12_pairing_131 (by decide) (fun c_32 => ?_) (fun c_32 => ?_)
        · have h := it c_32 h
          refine lv_aload_n hx hb dX12_pairing_140 rfl (lv_at hl 0 rfl) ?_
          refine lv_iload hx hb dX12_pairing_141 (lv_at hl 2 rfl) ?_
          refine lv_aload_n hx hb dX12_pairing_143 rfl (lv_at hl 0 rfl) ?_
          refine xget (i := 0) (j := 0) (k := 26) (T := TX12) hx hb ht tb_iX12 hown hX hP.1 rfl rfl rfl (by decide) tb_1255 rfl dX12_pairing_144 ?_
          refine lv_iload hx hb dX12_pairing_147 (lv_at hl 2 rfl) ?_
          obtain ⟨y_33, e_y_33, h⟩ := bi h
          refine xiald (i0 := 0) (j0 := 10) hx hb hX hP.1 rfl rfl e_y_33 dX12_pairing_149 ?_
          refine lv_iload_n hx hb dX12_pairing_150 rfl (lv_at hl 1 rfl) ?_
          obtain ⟨z_34, e_z_34, h⟩ := bi h
          refine roVi (rest := []) ⟨hx, hb, hml, hown, ht⟩ (c_X12_isFree l D cy fu A_m m_at m_names m_status m_top m_bottom m_sort m_trayMany m_trays m_tape m_text m_taped m_size m_token m_from m_end m_value m_faultKind m_faultPlace m_faults m_seen m_toldParts m_opened m_depth m_counted m_bestOrder m_standers m_has_30 m_bestHas m_standerMany m_bestCouples m_bestFondness m_cameTo m_doesStandFirst m_stoodBy m_drawn m_ranSteps m_loops m_ran m_told1 m_isTold m_marks x4 y_33 x3 z_34 e_z_34) (cV ht mv_X12_isFree tb_1818 rfl rfl ⟨Nat.le_of_ble_eq_true rfl, Nat.le_of_ble_eq_true rfl⟩) (P_sub hP.1 [0] rfl) hX rfl rfl rfl hl.1 rfl (Nat.le_of_ble_eq_true rfl) dX12_pairing_151 ⟨Nat.le_of_ble_eq_true rfl, Nat.le_of_ble_eq_true rfl⟩ ?_
          refine lv_if_ne (tgt := 160) hx hb dX12_pairing_154 (by decide) (fun c_35 => ?_) (fun c_35 => ?_)
          · have h := ie c_35 h
            refine lv_iload hx hb dX12_pairing_160 (lv_at hl 2 rfl) ?_
            refine lv_iconst (v := 1) hx hb dX12_pairing_162 (by decide) ?_
            refine lv_iadd hx hb dX12_pairing_163 ?_
            refine lv_aload_n hx hb dX12_pairing_164 rfl (lv_at hl 0 rfl) ?_
            refine xget (i := 0) (j := 0) (k := 28) (T := TX12) hx hb ht tb_iX12 hown hX hP.1 rfl rfl rfl (by decide) tb_1257 rfl dX12_pairing_165 ?_
            refine lv_icmp_ne (tgt := 178) hx hb dX12_pairing_168 (by decide) (fun c_36 => ?_) (fun c_36 => ?_)
            · have h := ie c_36 h
              obtain ⟨x4_37, e_x4_37⟩ : ∃ y : Int32, y = x4 + 1 := ⟨_, rfl⟩
              have h := bn e_x4_37 h
              refine lv_iinc (v := x4_37) (lv' := [(4, .int x4_37), (0, .ref (A_m 0)), (3, .int x3)]) hx hb dX12_pairing_178 hl (k := 2) rfl (by rw [e_x4_37]; rfl) (by decide) rfl (fun ls hl => ?_)
              refine lv_aload_n hx hb dX12_pairing_181 rfl (lv_at hl 1 rfl) ?_
              refine xget (i := 0) (j := 0) (k := 26) (T := TX12) hx hb ht tb_iX12 hown hX hP.1 rfl rfl rfl (by decide) tb_1255 rfl dX12_pairing_182 ?_
              refine lv_iload hx hb dX12_pairing_185 (lv_at hl 0 rfl) ?_
              refine lv_iconst (v := (-1)) hx hb dX12_pairing_187 (by decide) ?_
              obtain ⟨m_has_38, e_m_has_38, h⟩ := bi h
              refine xiast (i0 := 0) (j0 := 10) hx hb hX hP hS rfl rfl e_m_has_38 dX12_pairing_188 (fun H locs hP hS => ?_)
              have hP : PD D A [bl_X12 cy A_m m_at m_names m_status m_top m_bottom m_sort m_trayMany m_trays m_tape m_text m_taped m_size m_token m_from m_end m_value m_faultKind m_faultPlace m_faults m_seen m_toldParts m_opened m_depth m_counted m_bestOrder m_standers m_has_38 m_bestHas m_standerMany m_bestCouples m_bestFondness m_cameTo m_doesStandFirst m_stoodBy m_drawn m_ranSteps m_loops m_ran m_told1 m_isTold m_marks] H := hP
              refine lv_goto (tgt := 106) hx hb dX12_pairing_189 (by decide) ?_
              exact ih106 m_standers m_has_38 m_bestHas m_standerMany m_bestCouples m_bestFondness x3 x4_37 _ _ hP hS ls (lv_sub hl [1, 2, 0] rfl) h
            · have h := it c_36 h
              refine lv_aload_n hx hb dX12_pairing_171 rfl (lv_at hl 0 rfl) ?_
              obtain ⟨z_39, e_z_39, h⟩ := bi h
              refine efVv (rest := []) ⟨hx, hb, hml, hown, ht⟩ (c_X12_weighs l D cy fu A_m m_at m_names m_status m_top m_bottom m_sort m_trayMany m_trays m_tape m_text m_taped m_size m_token m_from m_end m_value m_faultKind m_faultPlace m_faults m_seen m_toldParts m_opened m_depth m_counted m_bestOrder m_standers m_has_30 m_bestHas m_standerMany m_bestCouples m_bestFondness m_cameTo m_doesStandFirst m_stoodBy m_drawn m_ranSteps m_loops m_ran m_told1 m_isTold m_marks z_39 e_z_39 _ rfl _ rfl) (cV ht mv_X12_weighs tb_1810 rfl rfl ⟨Nat.le_of_ble_eq_true rfl, Nat.le_of_ble_eq_true rfl⟩) hP hS hX [0] rfl rfl rfl rfl rfl rfl hl.1 rfl (Nat.le_of_ble_eq_true rfl) dX12_pairing_172 ⟨Nat.le_of_ble_eq_true rfl, Nat.le_of_ble_eq_true rfl⟩ (fun H locs hP hS => ?_)
              have hP : PD D A [bl_X12 cy A_m m_at m_names m_status m_top m_bottom m_sort m_trayMany m_trays m_tape m_text m_taped m_size m_token m_from m_end m_value m_faultKind m_faultPlace m_faults m_seen m_toldParts m_opened m_depth m_counted m_bestOrder m_standers m_has_30 z_39.1 m_standerMany z_39.2.1 z_39.2.2 m_cameTo m_doesStandFirst m_stoodBy m_drawn m_ranSteps m_loops m_ran m_told1 m_isTold m_marks] H := hP
              refine lv_goto (tgt := 106) hx hb dX12_pairing_175 (by decide) ?_
              exact ih106 m_standers m_has_30 z_39.1 m_standerMany z_39.2.1 z_39.2.2 x3 x4 _ _ hP hS ls (lv_sub hl [0, 1, 2] rfl) h
          · have h := it c_35 h
            refine lv_goto (tgt := 106) hx hb dX12_pairing_157 (by decide) ?_
            exact ih106 m_standers m_has_30 m_bestHas m_standerMany m_bestCouples m_bestFondness x3 x4 _ _ hP hS ls (lv_sub hl [0, 1, 2] rfl) h
        · have h := ie c_32 h
          obtain ⟨x4_40, e_x4_40⟩ : ∃ y : Int32, y = x4 + (-1) := ⟨_, rfl⟩
          have h := bn e_x4_40 h
          refine lv_iinc (v := x4_40) (lv' := [(4, .int x4_40), (0, .ref (A_m 0)), (3, .int x3)]) hx hb dX12_pairing_134 hl (k := 2) rfl (by rw [e_x4_40]; rfl) (by decide) rfl (fun ls hl => ?_)
          refine lv_goto (tgt := 106) hx hb dX12_pairing_137 (by decide) ?_
          exact ih106 m_standers m_has_30 m_bestHas m_standerMany m_bestCouples m_bestFondness x3 x4_40 _ _ hP hS ls (lv_sub hl [1, 2, 0] rfl) h
  have l23 : ∀ (n23 : Nat) (m_standers : Nat → Int32) (m_has : Nat → Int32) (m_bestHas : Nat → Int32) (m_standerMany : Int32) (m_bestCouples : Int32) (m_bestFondness : Int32) (x2 : Int32) (x3 : Int32) (x4 : Int32) (H : Heap) (locs : List Loc) (_ : PD D A [bl_X12 cy A_m m_at m_names m_status m_top m_bottom m_sort m_trayMany m_trays m_tape m_text m_taped m_size m_token m_from m_end m_value m_faultKind m_faultPlace m_faults m_seen m_toldParts m_opened m_depth m_counted m_bestOrder m_standers m_has m_bestHas m_standerMany m_bestCouples m_bestFondness m_cameTo m_doesStandFirst m_stoodBy m_drawn m_ranSteps m_loops m_ran m_told1 m_isTold m_marks] H) (_ : va_S A s.heap H locs) (ls : Array Slot), lv_has ls 5 [(0, .ref (A_m 0)), (2, .int x2), (3, .int x3), (4, .int x4)] → f_X12_pairing_l23 fu m_at x1 n23 m_standers m_has m_bestHas m_standerMany m_bestCouples m_bestFondness x2 x3 x4 = some res → W p l e (headSpec (WW yX12_pairing cX12_pairing 5 none) rm_X12_pairing).room s m args below meth c H locs 0 0 (MQ below (Qev D A W1) args s 0 0 A) (F0 m 23 ls []) := by
    intro n23
    induction n23 with
    | zero => intro m_standers m_has m_bestHas m_standerMany m_bestCouples m_bestFondness x2 x3 x4 H locs hP hS ls hl h; cases h
    | succ n23 ih23 =>
      intro m_standers m_has m_bestHas m_standerMany m_bestCouples m_bestFondness x2 x3 x4 H locs hP hS ls hl h
      have h : f_X12_pairing_b23 fu m_at x1 (f_X12_pairing_l23 fu m_at x1 n23) m_standers m_has m_bestHas m_standerMany m_bestCouples m_bestFondness x2 x3 x4 = some res := h
      unfold f_X12_pairing_b23 at h
      refine lv_iload hx hb dX12_pairing_23 (lv_at hl 3 rfl) ?_
      refine lv_aload_n hx hb dX12_pairing_25 rfl (lv_at hl 0 rfl) ?_
      refine xget (i := 0) (j := 0) (k := 0) (T := TX12) hx hb ht tb_iX12 hown hX hP.1 rfl rfl rfl (by decide) tb_1229 rfl dX12_pairing_26 ?_
      refine lv_iconst (v := 0) hx hb dX12_pairing_29 (by decide) ?_
      obtain ⟨y_41, e_y_41, h⟩ := bi h
      refine xiald (i0 := 0) (j0 := 1) hx hb hX hP.1 rfl rfl e_y_41 dX12_pairing_30 ?_
      refine lv_icmp_ge (tgt := 74) hx hb dX12_pairing_31 (by decide) (fun c_42 => ?_) (fun c_42 => ?_)
      · have h := it c_42 h
        refine lv_aload_n hx hb dX12_pairing_74 rfl (lv_at hl 0 rfl) ?_
        refine lv_iconst (v := (-1)) hx hb dX12_pairing_75 (by decide) ?_
        refine xput (i := 0) (j := 0) (k := 29) (T := TX12) tyX12 tyX12_ok nmX12 hx hb ht tb_iX12 hown hX hP hS rfl rfl rfl (by decide) tb_1258 rfl rfl rfl (Nat.le_of_ble_eq_true rfl) dX12_pairing_76 (fun H locs hP hS => ?_)
        have hP : PD D A [bl_X12 cy A_m m_at m_names m_status m_top m_bottom m_sort m_trayMany m_trays m_tape m_text m_taped m_size m_token m_from m_end m_value m_faultKind m_faultPlace m_faults m_seen m_toldParts m_opened m_depth m_counted m_bestOrder m_standers m_has m_bestHas m_standerMany (-1) m_bestFondness m_cameTo m_doesStandFirst m_stoodBy m_drawn m_ranSteps m_loops m_ran m_told1 m_isTold m_marks] H := hP
        refine lv_aload_n hx hb dX12_pairing_79 rfl (lv_at hl 0 rfl) ?_
        refine lv_iconst (v := (-1)) hx hb dX12_pairing_80 (by decide) ?_
        refine xput (i := 0) (j := 0) (k := 30) (T := TX12) tyX12 tyX12_ok nmX12 hx hb ht tb_iX12 hown hX hP hS rfl rfl rfl (by decide) tb_1259 rfl rfl rfl (Nat.le_of_ble_eq_true rfl) dX12_pairing_81 (fun H locs hP hS => ?_)
        have hP : PD D A [bl_X12 cy A_m m_at m_names m_status m_top m_bottom m_sort m_trayMany m_trays m_tape m_text m_taped m_size m_token m_from m_end m_value m_faultKind m_faultPlace m_faults m_seen m_toldParts m_opened m_depth m_counted m_bestOrder m_standers m_has m_bestHas m_standerMany (-1) (-1) m_cameTo m_doesStandFirst m_stoodBy m_drawn m_ranSteps m_loops m_ran m_told1 m_isTold m_marks] H := hP
        refine lv_aload_n hx hb dX12_pairing_84 rfl (lv_at hl 0 rfl) ?_
        refine xget (i := 0) (j := 0) (k := 28) (T := TX12) hx hb ht tb_iX12 hown hX hP.1 rfl rfl rfl (by decide) tb_1257 rfl dX12_pairing_85 ?_
        refine lv_if_ne (tgt := 96) hx hb dX12_pairing_88 (by decide) (fun c_43 => ?_) (fun c_43 => ?_)
        · have h := ie c_43 h
          refine lv_iconst (v := 0) hx hb dX12_pairing_96 (by decide) ?_
          refine lv_istore (lv' := [(4, .int 0), (0, .ref (A_m 0)), (2, .int x2), (3, .int x3)]) hx hb dX12_pairing_97 hl (by decide) rfl (fun ls hl => ?_)
          refine lv_aload_n hx hb dX12_pairing_99 rfl (lv_at hl 1 rfl) ?_
          refine xget (i := 0) (j := 0) (k := 26) (T := TX12) hx hb ht tb_iX12 hown hX hP.1 rfl rfl rfl (by decide) tb_1255 rfl dX12_pairing_100 ?_
          refine lv_iconst (v := 0) hx hb dX12_pairing_103 (by decide) ?_
          refine lv_iconst (v := (-1)) hx hb dX12_pairing_104 (by decide) ?_
          obtain ⟨m_has_44, e_m_has_44, h⟩ := bi h
          refine xiast (i0 := 0) (j0 := 10) hx hb hX hP hS rfl rfl e_m_has_44 dX12_pairing_105 (fun H locs hP hS => ?_)
          have hP : PD D A [bl_X12 cy A_m m_at m_names m_status m_top m_bottom m_sort m_trayMany m_trays m_tape m_text m_taped m_size m_token m_from m_end m_value m_faultKind m_faultPlace m_faults m_seen m_toldParts m_opened m_depth m_counted m_bestOrder m_standers m_has_44 m_bestHas m_standerMany (-1) (-1) m_cameTo m_doesStandFirst m_stoodBy m_drawn m_ranSteps m_loops m_ran m_told1 m_isTold m_marks] H := hP
          exact l106 fu m_standers m_has_44 m_bestHas m_standerMany (-1) (-1) x3 0 _ _ hP hS ls (lv_sub hl [1, 3, 0] rfl) h
        · have h := it c_43 h
          refine lv_aload_n hx hb dX12_pairing_91 rfl (lv_at hl 0 rfl) ?_
          obtain ⟨z_45, e_z_45, h⟩ := bi h
          refine efVv (rest := []) ⟨hx, hb, hml, hown, ht⟩ (c_X12_weighs l D cy fu A_m m_at m_names m_status m_top m_bottom m_sort m_trayMany m_trays m_tape m_text m_taped m_size m_token m_from m_end m_value m_faultKind m_faultPlace m_faults m_seen m_toldParts m_opened m_depth m_counted m_bestOrder m_standers m_has m_bestHas m_standerMany (-1) (-1) m_cameTo m_doesStandFirst m_stoodBy m_drawn m_ranSteps m_loops m_ran m_told1 m_isTold m_marks z_45 e_z_45 _ rfl _ rfl) (cV ht mv_X12_weighs tb_1810 rfl rfl ⟨Nat.le_of_ble_eq_true rfl, Nat.le_of_ble_eq_true rfl⟩) hP hS hX [0] rfl rfl rfl rfl rfl rfl hl.1 rfl (Nat.le_of_ble_eq_true rfl) dX12_pairing_92 ⟨Nat.le_of_ble_eq_true rfl, Nat.le_of_ble_eq_true rfl⟩ (fun H locs hP hS => ?_)
          have hP : PD D A [bl_X12 cy A_m m_at m_names m_status m_top m_bottom m_sort m_trayMany m_trays m_tape m_text m_taped m_size m_token m_from m_end m_value m_faultKind m_faultPlace m_faults m_seen m_toldParts m_opened m_depth m_counted m_bestOrder m_standers m_has z_45.1 m_standerMany z_45.2.1 z_45.2.2 m_cameTo m_doesStandFirst m_stoodBy m_drawn m_ranSteps m_loops m_ran m_told1 m_isTold m_marks] H := hP
          cases h
          subst hW1
          exact W.vret hx hb hr (fun _ ht9 _ => ⟨⟨(), rfl, trivial, hPt ht9 hP.1⟩, hS.F ht9⟩) hS.2.2 dX12_pairing_95
      · have h := ie c_42 h
        refine lv_aload_n hx hb dX12_pairing_34 rfl (lv_at hl 0 rfl) ?_
        refine lv_iload_n hx hb dX12_pairing_35 rfl (lv_at hl 1 rfl) ?_
        refine lv_iload hx hb dX12_pairing_36 (lv_at hl 3 rfl) ?_
        obtain ⟨z_46, e_z_46, h⟩ := bi h
        refine roVi (rest := []) ⟨hx, hb, hml, hown, ht⟩ (c_X12_isIn l D cy fu A_m m_at m_names m_status m_top m_bottom m_sort m_trayMany m_trays m_tape m_text m_taped m_size m_token m_from m_end m_value m_faultKind m_faultPlace m_faults m_seen m_toldParts m_opened m_depth m_counted m_bestOrder m_standers m_has m_bestHas m_standerMany m_bestCouples m_bestFondness m_cameTo m_doesStandFirst m_stoodBy m_drawn m_ranSteps m_loops m_ran m_told1 m_isTold m_marks x2 x4 z_46 e_z_46) (cV ht mv_X12_isIn tb_1598 rfl rfl ⟨Nat.le_of_ble_eq_true rfl, Nat.le_of_ble_eq_true rfl⟩) (P_sub hP.1 [0] rfl) hX rfl rfl rfl hl.1 rfl (Nat.le_of_ble_eq_true rfl) dX12_pairing_38 ⟨Nat.le_of_ble_eq_true rfl, Nat.le_of_ble_eq_true rfl⟩ ?_
        refine lv_if_ne (tgt := 47) hx hb dX12_pairing_41 (by decide) (fun c_47 => ?_) (fun c_47 => ?_)
        · have h := ie c_47 h
          refine lv_aload_n hx hb dX12_pairing_47 rfl (lv_at hl 0 rfl) ?_
          refine xget (i := 0) (j := 0) (k := 25) (T := TX12) hx hb ht tb_iX12 hown hX hP.1 rfl rfl rfl (by decide) tb_1254 rfl dX12_pairing_48 ?_
          refine lv_aload_n hx hb dX12_pairing_51 rfl (lv_at hl 0 rfl) ?_
          refine xget (i := 0) (j := 0) (k := 28) (T := TX12) hx hb ht tb_iX12 hown hX hP.1 rfl rfl rfl (by decide) tb_1257 rfl dX12_pairing_52 ?_
          refine lv_iload hx hb dX12_pairing_55 (lv_at hl 3 rfl) ?_
          obtain ⟨m_standers_48, e_m_standers_48, h⟩ := bi h
          refine xiast (i0 := 0) (j0 := 9) hx hb hX hP hS rfl rfl e_m_standers_48 dX12_pairing_57 (fun H locs hP hS => ?_)
          have hP : PD D A [bl_X12 cy A_m m_at m_names m_status m_top m_bottom m_sort m_trayMany m_trays m_tape m_text m_taped m_size m_token m_from m_end m_value m_faultKind m_faultPlace m_faults m_seen m_toldParts m_opened m_depth m_counted m_bestOrder m_standers_48 m_has m_bestHas m_standerMany m_bestCouples m_bestFondness m_cameTo m_doesStandFirst m_stoodBy m_drawn m_ranSteps m_loops m_ran m_told1 m_isTold m_marks] H := hP
          refine lv_aload_n hx hb dX12_pairing_58 rfl (lv_at hl 0 rfl) ?_
          refine lv_dup hx hb dX12_pairing_59 rfl ?_
          refine xget (i := 0) (j := 0) (k := 28) (T := TX12) hx hb ht tb_iX12 hown hX hP.1 rfl rfl rfl (by decide) tb_1257 rfl dX12_pairing_60 ?_
          refine lv_iconst (v := 1) hx hb dX12_pairing_63 (by decide) ?_
          refine lv_iadd hx hb dX12_pairing_64 ?_
          refine lv_topi (fun m_standerMany_49 e_m_standerMany_49 => ?_)
          have h := bn e_m_standerMany_49 h
          refine xput (i := 0) (j := 0) (k := 28) (T := TX12) tyX12 tyX12_ok nmX12 hx hb ht tb_iX12 hown hX hP hS rfl rfl rfl (by decide) tb_1257 rfl rfl rfl (Nat.le_of_ble_eq_true rfl) dX12_pairing_65 (fun H locs hP hS => ?_)
          have hP : PD D A [bl_X12 cy A_m m_at m_names m_status m_top m_bottom m_sort m_trayMany m_trays m_tape m_text m_taped m_size m_token m_from m_end m_value m_faultKind m_faultPlace m_faults m_seen m_toldParts m_opened m_depth m_counted m_bestOrder m_standers_48 m_has m_bestHas m_standerMany_49 m_bestCouples m_bestFondness m_cameTo m_doesStandFirst m_stoodBy m_drawn m_ranSteps m_loops m_ran m_told1 m_isTold m_marks] H := hP
          obtain ⟨x4_50, e_x4_50⟩ : ∃ y : Int32, y = x4 + 1 := ⟨_, rfl⟩
          have h := bn e_x4_50 h
          refine lv_iinc (v := x4_50) (lv' := [(4, .int x4_50), (0, .ref (A_m 0)), (2, .int x2), (3, .int x3)]) hx hb dX12_pairing_68 hl (k := 3) rfl (by rw [e_x4_50]; rfl) (by decide) rfl (fun ls hl => ?_)
          refine lv_goto (tgt := 23) hx hb dX12_pairing_71 (by decide) ?_
          exact ih23 m_standers_48 m_has m_bestHas m_standerMany_49 m_bestCouples m_bestFondness x2 x3 x4_50 _ _ hP hS ls (lv_sub hl [1, 2, 3, 0] rfl) h
        · have h := it c_47 h
          refine lv_goto (tgt := 68) hx hb dX12_pairing_44 (by decide) ?_
          obtain ⟨x4_51, e_x4_51⟩ : ∃ y : Int32, y = x4 + 1 := ⟨_, rfl⟩
          have h := bn e_x4_51 h
          refine lv_iinc (v := x4_51) (lv' := [(4, .int x4_51), (0, .ref (A_m 0)), (2, .int x2), (3, .int x3)]) hx hb dX12_pairing_68 hl (k := 3) rfl (by rw [e_x4_51]; rfl) (by decide) rfl (fun ls hl => ?_)
          refine lv_goto (tgt := 23) hx hb dX12_pairing_71 (by decide) ?_
          exact ih23 m_standers m_has m_bestHas m_standerMany m_bestCouples m_bestFondness x2 x3 x4_51 _ _ hP hS ls (lv_sub hl [1, 2, 3, 0] rfl) h
  unfold f_X12_pairing at h
  refine lv_aload_n hx hb dX12_pairing_0 rfl (lv_at hl 0 rfl) ?_
  refine lv_iload_n hx hb dX12_pairing_1 rfl (lv_at hl 1 rfl) ?_
  obtain ⟨z_52, e_z_52, h⟩ := bi h
  refine roVi (rest := []) ⟨hx, hb, hml, hown, ht⟩ (c_X12_standing l D cy fu A_m m_at m_names m_status m_top m_bottom m_sort m_trayMany m_trays m_tape m_text m_taped m_size m_token m_from m_end m_value m_faultKind m_faultPlace m_faults m_seen m_toldParts m_opened m_depth m_counted m_bestOrder m_standers m_has m_bestHas m_standerMany m_bestCouples m_bestFondness m_cameTo m_doesStandFirst m_stoodBy m_drawn m_ranSteps m_loops m_ran m_told1 m_isTold m_marks x1 z_52 e_z_52) (cV ht mv_X12_standing tb_1663 rfl rfl ⟨Nat.le_of_ble_eq_true rfl, Nat.le_of_ble_eq_true rfl⟩) (P_sub hP.1 [0] rfl) hX rfl rfl rfl hl.1 rfl (Nat.le_of_ble_eq_true rfl) dX12_pairing_2 ⟨Nat.le_of_ble_eq_true rfl, Nat.le_of_ble_eq_true rfl⟩ ?_
  refine lv_istore_n (lv' := [(2, .int z_52), (0, .ref (A_m 0)), (1, .int x1)]) hx hb dX12_pairing_5 rfl hl (by decide) rfl (fun ls hl => ?_)
  refine lv_aload_n hx hb dX12_pairing_6 rfl (lv_at hl 1 rfl) ?_
  obtain ⟨z_53, e_z_53, h⟩ := bi h
  refine roVi (rest := []) ⟨hx, hb, hml, hown, ht⟩ (c_X12_living l D cy fu A_m m_at m_names m_status m_top m_bottom m_sort m_trayMany m_trays m_tape m_text m_taped m_size m_token m_from m_end m_value m_faultKind m_faultPlace m_faults m_seen m_toldParts m_opened m_depth m_counted m_bestOrder m_standers m_has m_bestHas m_standerMany m_bestCouples m_bestFondness m_cameTo m_doesStandFirst m_stoodBy m_drawn m_ranSteps m_loops m_ran m_told1 m_isTold m_marks z_53 e_z_53) (cV ht mv_X12_living tb_1527 rfl rfl ⟨Nat.le_of_ble_eq_true rfl, Nat.le_of_ble_eq_true rfl⟩) (P_sub hP.1 [0] rfl) hX rfl rfl rfl hl.1 rfl (Nat.le_of_ble_eq_true rfl) dX12_pairing_7 ⟨Nat.le_of_ble_eq_true rfl, Nat.le_of_ble_eq_true rfl⟩ ?_
  refine lv_iload_n hx hb dX12_pairing_10 rfl (lv_at hl 0 rfl) ?_
  refine lv_iconst (v := (-1)) hx hb dX12_pairing_11 (by decide) ?_
  refine lv_ixor hx hb dX12_pairing_12 ?_
  refine lv_iand hx hb dX12_pairing_13 ?_
  refine lv_topi (fun x3_54 e_x3_54 => ?_)
  have h := bn e_x3_54 h
  refine lv_istore_n (lv' := [(3, .int x3_54), (2, .int z_52), (0, .ref (A_m 0)), (1, .int x1)]) hx hb dX12_pairing_14 rfl hl (by decide) rfl (fun ls hl => ?_)
  refine lv_aload_n hx hb dX12_pairing_15 rfl (lv_at hl 2 rfl) ?_
  refine lv_iconst (v := 0) hx hb dX12_pairing_16 (by decide) ?_
  refine xput (i := 0) (j := 0) (k := 28) (T := TX12) tyX12 tyX12_ok nmX12 hx hb ht tb_iX12 hown hX hP hS rfl rfl rfl (by decide) tb_1257 rfl rfl rfl (Nat.le_of_ble_eq_true rfl) dX12_pairing_17 (fun H locs hP hS => ?_)
  have hP : PD D A [bl_X12 cy A_m m_at m_names m_status m_top m_bottom m_sort m_trayMany m_trays m_tape m_text m_taped m_size m_token m_from m_end m_value m_faultKind m_faultPlace m_faults m_seen m_toldParts m_opened m_depth m_counted m_bestOrder m_standers m_has m_bestHas 0 m_bestCouples m_bestFondness m_cameTo m_doesStandFirst m_stoodBy m_drawn m_ranSteps m_loops m_ran m_told1 m_isTold m_marks] H := hP
  refine lv_iconst (v := 0) hx hb dX12_pairing_20 (by decide) ?_
  refine lv_istore (lv' := [(4, .int 0), (3, .int x3_54), (2, .int z_52), (0, .ref (A_m 0)), (1, .int x1)]) hx hb dX12_pairing_21 hl (by decide) rfl (fun ls hl => ?_)
  exact l23 fu m_standers m_has m_bestHas 0 m_bestCouples m_bestFondness z_52 x3_54 0 _ _ hP hS ls (lv_sub hl [3, 2, 1, 0] rfl) h
theorem dX12_couples_0 : decode cX12_couples 0 = .ok (.iload_n 1, 1) := by decide +kernel
theorem dX12_couples_1 : decode cX12_couples 1 = .ok (.i2l, 1) := by decide +kernel
theorem dX12_couples_2 : decode cX12_couples 2 = .ok (.invokestatic 292, 3) := by decide +kernel
theorem dX12_couples_5 : decode cX12_couples 5 = .ok (.ifCond .ne 9, 3) := by decide +kernel
theorem dX12_couples_8 : decode cX12_couples 8 = .ok (.aload_n 0, 1) := by decide +kernel
theorem dX12_couples_9 : decode cX12_couples 9 = .ok (.iconst 1, 1) := by decide +kernel
theorem dX12_couples_10 : decode cX12_couples 10 = .ok (.invokevirtual 85, 3) := by decide +kernel
theorem dX12_couples_13 : decode cX12_couples 13 = .ok (.ireturn, 1) := by decide +kernel
theorem dX12_couples_14 : decode cX12_couples 14 = .ok (.aload_n 0, 1) := by decide +kernel
theorem dX12_couples_15 : decode cX12_couples 15 = .ok (.iload_n 1, 1) := by decide +kernel
theorem dX12_couples_16 : decode cX12_couples 16 = .ok (.invokevirtual 401, 3) := by decide +kernel
theorem dX12_couples_19 : decode cX12_couples 19 = .ok (.aload_n 0, 1) := by decide +kernel
theorem dX12_couples_20 : decode cX12_couples 20 = .ok (.aload_n 0, 1) := by decide +kernel
theorem dX12_couples_21 : decode cX12_couples 21 = .ok (.getfield 389, 3) := by decide +kernel
theorem dX12_couples_24 : decode cX12_couples 24 = .ok (.invokevirtual 88, 3) := by decide +kernel
theorem dX12_couples_27 : decode cX12_couples 27 = .ok (.ireturn, 1) := by decide +kernel
theorem mv_X12_couples : MV yX12_couples RX12 cX12_couples 2 (some .int) 1 := ⟨tb_1805, tb_1803, tb_1804, tb_16, by decide +kernel, by decide +kernel, by decide +kernel⟩
def f_X12_couples (fu : Nat) (m_at : Nat → Int32) (m_status : Int32) (m_standers : Nat → Int32) (m_has : Nat → Int32) (m_bestHas : Nat → Int32) (m_standerMany : Int32) (m_bestCouples : Int32) (m_bestFondness : Int32) (x1 : Int32) : Option (Int32 × Int32 × (Nat → Int32) × (Nat → Int32) × (Nat → Int32) × Int32 × Int32 × Int32) := (f_X12_isSize fu (Int32.toInt64 x1)).bind fun z_6 => (if z_6 = 0 then (f_X12_refuse fu m_status 1).bind fun z_10 => some (z_10.1, z_10.2, m_standers, m_has, m_bestHas, m_standerMany, m_bestCouples, m_bestFondness) else (f_X12_pairing fu m_at m_standers m_has m_bestHas m_standerMany m_bestCouples m_bestFondness x1).bind fun z_8 => (f_X12_gives fu m_status z_8.2.2.2.2.1).bind fun z_9 => some (z_9.1, z_9.2, z_8.1, z_8.2.1, z_8.2.2.1, z_8.2.2.2.1, z_8.2.2.2.2.1, z_8.2.2.2.2.2))
abbrev rm_X12_couples : Room := { frames := 6, cells := 0, slots := 0, locals := 133 }
set_option maxHeartbeats 4000000 in
set_option maxRecDepth 100000 in
theorem c_X12_couples (l : Launch) (D : va_G) (cy : Nat → ClassId) (fu : Nat) (A_m : Nat → Nat) (m_at : Nat → Int32) (m_names : Nat → Int64) (m_status : Int32) (m_top : Int64) (m_bottom : Int64) (m_sort : Nat → Int32) (m_trayMany : Nat → Int32) (m_trays : Nat → Int64) (m_tape : Nat → Int32) (m_text : Nat → Int32) (m_taped : Int32) (m_size : Int32) (m_token : Int32) (m_from : Int32) (m_end : Int32) (m_value : Int32) (m_faultKind : Int32) (m_faultPlace : Int32) (m_faults : Int32) (m_seen : Int32) (m_toldParts : Int32) (m_opened : Nat → Int32) (m_depth : Int32) (m_counted : Int32) (m_bestOrder : Int32) (m_standers : Nat → Int32) (m_has : Nat → Int32) (m_bestHas : Nat → Int32) (m_standerMany : Int32) (m_bestCouples : Int32) (m_bestFondness : Int32) (m_cameTo : Nat → Int32) (m_doesStandFirst : Int32) (m_stoodBy : Nat → Int64) (m_drawn : Int32) (m_ranSteps : Int32) (m_loops : Nat → Int32) (m_ran : Nat → Int32) (m_told1 : Nat → Int32) (m_isTold : Int32) (m_marks : Int32) (x1 : Int32) (res : Int32 × Int32 × (Nat → Int32) × (Nat → Int32) × (Nat → Int32) × Int32 × Int32 × Int32) (h : f_X12_couples fu m_at m_status m_standers m_has m_bestHas m_standerMany m_bestCouples m_bestFondness x1 = some res) (A : Nat → Prop) (hA : A = adr [bl_X12 cy A_m m_at m_names m_status m_top m_bottom m_sort m_trayMany m_trays m_tape m_text m_taped m_size m_token m_from m_end m_value m_faultKind m_faultPlace m_faults m_seen m_toldParts m_opened m_depth m_counted m_bestOrder m_standers m_has m_bestHas m_standerMany m_bestCouples m_bestFondness m_cameTo m_doesStandFirst m_stoodBy m_drawn m_ranSteps m_loops m_ran m_told1 m_isTold m_marks]) (W1 : List va_W) (hW1 : W1 = [bl_X12 cy A_m m_at m_names res.2.1 m_top m_bottom m_sort m_trayMany m_trays m_tape m_text m_taped m_size m_token m_from m_end m_value m_faultKind m_faultPlace m_faults m_seen m_toldParts m_opened m_depth m_counted m_bestOrder res.2.2.1 res.2.2.2.1 res.2.2.2.2.1 res.2.2.2.2.2.1 res.2.2.2.2.2.2.1 res.2.2.2.2.2.2.2 m_cameTo m_doesStandFirst m_stoodBy m_drawn m_ranSteps m_loops m_ran m_told1 m_isTold m_marks]) : Met l yX12_couples (WW yX12_couples cX12_couples 2 (some .int)) rm_X12_couples (Ed D cy [.ref (A_m 0), .int x1] [bl_X12 cy A_m m_at m_names m_status m_top m_bottom m_sort m_trayMany m_trays m_tape m_text m_taped m_size m_token m_from m_end m_value m_faultKind m_faultPlace m_faults m_seen m_toldParts m_opened m_depth m_counted m_bestOrder m_standers m_has m_bestHas m_standerMany m_bestCouples m_bestFondness m_cameTo m_doesStandFirst m_stoodBy m_drawn m_ranSteps m_loops m_ran m_told1 m_isTold m_marks]) (Qei D res.1 A W1) 0 0 A := by
  refine Met.ofW (cc := cX12_couples) (maxL := 2) (ret := (some .int)) (by decide) rfl ?_
  intro p e s m args below meth c s₁ B hml hv
  obtain ⟨hargs, hP, hX, hD0⟩ := hv
  have hx := B.exec
  have hb := B.bytes
  have hr := B.returns
  have ht : ∀ w ∈ lw_gd, w.before args s = true := fun w hw => atoms_spec (ws := WW yX12_couples cX12_couples 2 (some .int)) B.pre w (List.mem_cons_of_mem _ hw)
  have hown : s.vm.findClass RX12 = some m.cls := findClass_of_methodNamed B.named
  have hlocks := B.notSynchronized
  have hP : PD D A [bl_X12 cy A_m m_at m_names m_status m_top m_bottom m_sort m_trayMany m_trays m_tape m_text m_taped m_size m_token m_from m_end m_value m_faultKind m_faultPlace m_faults m_seen m_toldParts m_opened m_depth m_counted m_bestOrder m_standers m_has m_bestHas m_standerMany m_bestCouples m_bestFondness m_cameTo m_doesStandFirst m_stoodBy m_drawn m_ranSteps m_loops m_ran m_told1 m_isTold m_marks] s.heap := ⟨hP, by rw [hA]; exact hD0.own⟩
  have hS : va_S A s.heap s.heap [] := va_S.rf
  obtain ⟨ls, hl, hent⟩ := ent (m := m) (n := 2) hargs (Nat.le_of_ble_eq_true rfl) (lv := [(0, .ref (A_m 0)), (1, .int x1)]) rfl
  rw [hent]
  clear hent
  unfold f_X12_couples at h
  refine lv_iload_n hx hb dX12_couples_0 rfl (lv_at hl 1 rfl) ?_
  refine lv_i2l (v := Int32.toInt64 x1) hx hb dX12_couples_1 rfl ?_
  obtain ⟨z_6, e_z_6, h⟩ := bi h
  refine roSi (rest := []) ⟨hx, hb, hml, hown, ht⟩ (c_X12_isSize l D cy fu  (Int32.toInt64 x1) z_6 e_z_6) (cS ht ms_X12_isSize tb_1571 rfl rfl ⟨Nat.le_of_ble_eq_true rfl, Nat.le_of_ble_eq_true rfl⟩) (P_sub hP.1 [] rfl) hX rfl hl.1 rfl (Nat.le_of_ble_eq_true rfl) dX12_couples_2 ⟨Nat.le_of_ble_eq_true rfl, Nat.le_of_ble_eq_true rfl⟩ ?_
  refine lv_if_ne (tgt := 14) hx hb dX12_couples_5 (by decide) (fun c_7 => ?_) (fun c_7 => ?_)
  · have h := ie c_7 h
    refine lv_aload_n hx hb dX12_couples_14 rfl (lv_at hl 0 rfl) ?_
    refine lv_iload_n hx hb dX12_couples_15 rfl (lv_at hl 1 rfl) ?_
    obtain ⟨z_8, e_z_8, h⟩ := bi h
    refine efVv (rest := []) ⟨hx, hb, hml, hown, ht⟩ (c_X12_pairing l D cy fu A_m m_at m_names m_status m_top m_bottom m_sort m_trayMany m_trays m_tape m_text m_taped m_size m_token m_from m_end m_value m_faultKind m_faultPlace m_faults m_seen m_toldParts m_opened m_depth m_counted m_bestOrder m_standers m_has m_bestHas m_standerMany m_bestCouples m_bestFondness m_cameTo m_doesStandFirst m_stoodBy m_drawn m_ranSteps m_loops m_ran m_told1 m_isTold m_marks x1 z_8 e_z_8 _ rfl _ rfl) (cV ht mv_X12_pairing tb_1806 rfl rfl ⟨Nat.le_of_ble_eq_true rfl, Nat.le_of_ble_eq_true rfl⟩) hP hS hX [0] rfl rfl rfl rfl rfl rfl hl.1 rfl (Nat.le_of_ble_eq_true rfl) dX12_couples_16 ⟨Nat.le_of_ble_eq_true rfl, Nat.le_of_ble_eq_true rfl⟩ (fun H locs hP hS => ?_)
    have hP : PD D A [bl_X12 cy A_m m_at m_names m_status m_top m_bottom m_sort m_trayMany m_trays m_tape m_text m_taped m_size m_token m_from m_end m_value m_faultKind m_faultPlace m_faults m_seen m_toldParts m_opened m_depth m_counted m_bestOrder z_8.1 z_8.2.1 z_8.2.2.1 z_8.2.2.2.1 z_8.2.2.2.2.1 z_8.2.2.2.2.2 m_cameTo m_doesStandFirst m_stoodBy m_drawn m_ranSteps m_loops m_ran m_told1 m_isTold m_marks] H := hP
    refine lv_aload_n hx hb dX12_couples_19 rfl (lv_at hl 0 rfl) ?_
    refine lv_aload_n hx hb dX12_couples_20 rfl (lv_at hl 0 rfl) ?_
    refine xget (i := 0) (j := 0) (k := 29) (T := TX12) hx hb ht tb_iX12 hown hX hP.1 rfl rfl rfl (by decide) tb_1258 rfl dX12_couples_21 ?_
    obtain ⟨z_9, e_z_9, h⟩ := bi h
    refine efVi (rest := []) ⟨hx, hb, hml, hown, ht⟩ (c_X12_gives l D cy fu A_m m_at m_names m_status m_top m_bottom m_sort m_trayMany m_trays m_tape m_text m_taped m_size m_token m_from m_end m_value m_faultKind m_faultPlace m_faults m_seen m_toldParts m_opened m_depth m_counted m_bestOrder z_8.1 z_8.2.1 z_8.2.2.1 z_8.2.2.2.1 z_8.2.2.2.2.1 z_8.2.2.2.2.2 m_cameTo m_doesStandFirst m_stoodBy m_drawn m_ranSteps m_loops m_ran m_told1 m_isTold m_marks z_8.2.2.2.2.1 z_9 e_z_9 _ rfl _ rfl) (cV ht mv_X12_gives tb_1499 rfl rfl ⟨Nat.le_of_ble_eq_true rfl, Nat.le_of_ble_eq_true rfl⟩) hP hS hX [0] rfl rfl rfl rfl rfl rfl hl.1 rfl (Nat.le_of_ble_eq_true rfl) dX12_couples_24 ⟨Nat.le_of_ble_eq_true rfl, Nat.le_of_ble_eq_true rfl⟩ (fun H locs hP hS => ?_)
    have hP : PD D A [bl_X12 cy A_m m_at m_names z_9.2 m_top m_bottom m_sort m_trayMany m_trays m_tape m_text m_taped m_size m_token m_from m_end m_value m_faultKind m_faultPlace m_faults m_seen m_toldParts m_opened m_depth m_counted m_bestOrder z_8.1 z_8.2.1 z_8.2.2.1 z_8.2.2.2.1 z_8.2.2.2.2.1 z_8.2.2.2.2.2 m_cameTo m_doesStandFirst m_stoodBy m_drawn m_ranSteps m_loops m_ran m_told1 m_isTold m_marks] H := hP
    cases h
    subst hW1
    exact W.iret hx hb hr (fun _ ht9 _ => ⟨⟨_, (), rfl, rfl, hPt ht9 hP.1⟩, hS.F ht9⟩) hS.2.2 dX12_couples_27
  · have h := it c_7 h
    refine lv_aload_n hx hb dX12_couples_8 rfl (lv_at hl 0 rfl) ?_
    refine lv_iconst (v := 1) hx hb dX12_couples_9 (by decide) ?_
    obtain ⟨z_10, e_z_10, h⟩ := bi h
    refine efVi (rest := []) ⟨hx, hb, hml, hown, ht⟩ (c_X12_refuse l D cy fu A_m m_at m_names m_status m_top m_bottom m_sort m_trayMany m_trays m_tape m_text m_taped m_size m_token m_from m_end m_value m_faultKind m_faultPlace m_faults m_seen m_toldParts m_opened m_depth m_counted m_bestOrder m_standers m_has m_bestHas m_standerMany m_bestCouples m_bestFondness m_cameTo m_doesStandFirst m_stoodBy m_drawn m_ranSteps m_loops m_ran m_told1 m_isTold m_marks 1 z_10 e_z_10 _ rfl _ rfl) (cV ht mv_X12_refuse tb_1432 rfl rfl ⟨Nat.le_of_ble_eq_true rfl, Nat.le_of_ble_eq_true rfl⟩) hP hS hX [0] rfl rfl rfl rfl rfl rfl hl.1 rfl (Nat.le_of_ble_eq_true rfl) dX12_couples_10 ⟨Nat.le_of_ble_eq_true rfl, Nat.le_of_ble_eq_true rfl⟩ (fun H locs hP hS => ?_)
    have hP : PD D A [bl_X12 cy A_m m_at m_names z_10.2 m_top m_bottom m_sort m_trayMany m_trays m_tape m_text m_taped m_size m_token m_from m_end m_value m_faultKind m_faultPlace m_faults m_seen m_toldParts m_opened m_depth m_counted m_bestOrder m_standers m_has m_bestHas m_standerMany m_bestCouples m_bestFondness m_cameTo m_doesStandFirst m_stoodBy m_drawn m_ranSteps m_loops m_ran m_told1 m_isTold m_marks] H := hP
    cases h
    subst hW1
    exact W.iret hx hb hr (fun _ ht9 _ => ⟨⟨_, (), rfl, rfl, hPt ht9 hP.1⟩, hS.F ht9⟩) hS.2.2 dX12_couples_13
theorem dX12_fondness_0 : decode cX12_fondness 0 = .ok (.iload_n 1, 1) := by decide +kernel
theorem dX12_fondness_1 : decode cX12_fondness 1 = .ok (.i2l, 1) := by decide +kernel
theorem dX12_fondness_2 : decode cX12_fondness 2 = .ok (.invokestatic 292, 3) := by decide +kernel
theorem dX12_fondness_5 : decode cX12_fondness 5 = .ok (.ifCond .ne 9, 3) := by decide +kernel
theorem dX12_fondness_8 : decode cX12_fondness 8 = .ok (.aload_n 0, 1) := by decide +kernel
theorem dX12_fondness_9 : decode cX12_fondness 9 = .ok (.iconst 1, 1) := by decide +kernel
theorem dX12_fondness_10 : decode cX12_fondness 10 = .ok (.invokevirtual 85, 3) := by decide +kernel
theorem dX12_fondness_13 : decode cX12_fondness 13 = .ok (.ireturn, 1) := by decide +kernel
theorem dX12_fondness_14 : decode cX12_fondness 14 = .ok (.aload_n 0, 1) := by decide +kernel
theorem dX12_fondness_15 : decode cX12_fondness 15 = .ok (.iload_n 1, 1) := by decide +kernel
theorem dX12_fondness_16 : decode cX12_fondness 16 = .ok (.invokevirtual 401, 3) := by decide +kernel
theorem dX12_fondness_19 : decode cX12_fondness 19 = .ok (.aload_n 0, 1) := by decide +kernel
theorem dX12_fondness_20 : decode cX12_fondness 20 = .ok (.aload_n 0, 1) := by decide +kernel
theorem dX12_fondness_21 : decode cX12_fondness 21 = .ok (.getfield 392, 3) := by decide +kernel
theorem dX12_fondness_24 : decode cX12_fondness 24 = .ok (.invokevirtual 88, 3) := by decide +kernel
theorem dX12_fondness_27 : decode cX12_fondness 27 = .ok (.ireturn, 1) := by decide +kernel
theorem mv_X12_fondness : MV yX12_fondness RX12 cX12_fondness 2 (some .int) 1 := ⟨tb_1825, tb_1823, tb_1824, tb_16, by decide +kernel, by decide +kernel, by decide +kernel⟩
def f_X12_fondness (fu : Nat) (m_at : Nat → Int32) (m_status : Int32) (m_standers : Nat → Int32) (m_has : Nat → Int32) (m_bestHas : Nat → Int32) (m_standerMany : Int32) (m_bestCouples : Int32) (m_bestFondness : Int32) (x1 : Int32) : Option (Int32 × Int32 × (Nat → Int32) × (Nat → Int32) × (Nat → Int32) × Int32 × Int32 × Int32) := (f_X12_isSize fu (Int32.toInt64 x1)).bind fun z_6 => (if z_6 = 0 then (f_X12_refuse fu m_status 1).bind fun z_10 => some (z_10.1, z_10.2, m_standers, m_has, m_bestHas, m_standerMany, m_bestCouples, m_bestFondness) else (f_X12_pairing fu m_at m_standers m_has m_bestHas m_standerMany m_bestCouples m_bestFondness x1).bind fun z_8 => (f_X12_gives fu m_status z_8.2.2.2.2.2).bind fun z_9 => some (z_9.1, z_9.2, z_8.1, z_8.2.1, z_8.2.2.1, z_8.2.2.2.1, z_8.2.2.2.2.1, z_8.2.2.2.2.2))
abbrev rm_X12_fondness : Room := { frames := 6, cells := 0, slots := 0, locals := 133 }
set_option maxHeartbeats 4000000 in
set_option maxRecDepth 100000 in
theorem c_X12_fondness (l : Launch) (D : va_G) (cy : Nat → ClassId) (fu : Nat) (A_m : Nat → Nat) (m_at : Nat → Int32) (m_names : Nat → Int64) (m_status : Int32) (m_top : Int64) (m_bottom : Int64) (m_sort : Nat → Int32) (m_trayMany : Nat → Int32) (m_trays : Nat → Int64) (m_tape : Nat → Int32) (m_text : Nat → Int32) (m_taped : Int32) (m_size : Int32) (m_token : Int32) (m_from : Int32) (m_end : Int32) (m_value : Int32) (m_faultKind : Int32) (m_faultPlace : Int32) (m_faults : Int32) (m_seen : Int32) (m_toldParts : Int32) (m_opened : Nat → Int32) (m_depth : Int32) (m_counted : Int32) (m_bestOrder : Int32) (m_standers : Nat → Int32) (m_has : Nat → Int32) (m_bestHas : Nat → Int32) (m_standerMany : Int32) (m_bestCouples : Int32) (m_bestFondness : Int32) (m_cameTo : Nat → Int32) (m_doesStandFirst : Int32) (m_stoodBy : Nat → Int64) (m_drawn : Int32) (m_ranSteps : Int32) (m_loops : Nat → Int32) (m_ran : Nat → Int32) (m_told1 : Nat → Int32) (m_isTold : Int32) (m_marks : Int32) (x1 : Int32) (res : Int32 × Int32 × (Nat → Int32) × (Nat → Int32) × (Nat → Int32) × Int32 × Int32 × Int32) (h : f_X12_fondness fu m_at m_status m_standers m_has m_bestHas m_standerMany m_bestCouples m_bestFondness x1 = some res) (A : Nat → Prop) (hA : A = adr [bl_X12 cy A_m m_at m_names m_status m_top m_bottom m_sort m_trayMany m_trays m_tape m_text m_taped m_size m_token m_from m_end m_value m_faultKind m_faultPlace m_faults m_seen m_toldParts m_opened m_depth m_counted m_bestOrder m_standers m_has m_bestHas m_standerMany m_bestCouples m_bestFondness m_cameTo m_doesStandFirst m_stoodBy m_drawn m_ranSteps m_loops m_ran m_told1 m_isTold m_marks]) (W1 : List va_W) (hW1 : W1 = [bl_X12 cy A_m m_at m_names res.2.1 m_top m_bottom m_sort m_trayMany m_trays m_tape m_text m_taped m_size m_token m_from m_end m_value m_faultKind m_faultPlace m_faults m_seen m_toldParts m_opened m_depth m_counted m_bestOrder res.2.2.1 res.2.2.2.1 res.2.2.2.2.1 res.2.2.2.2.2.1 res.2.2.2.2.2.2.1 res.2.2.2.2.2.2.2 m_cameTo m_doesStandFirst m_stoodBy m_drawn m_ranSteps m_loops m_ran m_told1 m_isTold m_marks]) : Met l yX12_fondness (WW yX12_fondness cX12_fondness 2 (some .int)) rm_X12_fondness (Ed D cy [.ref (A_m 0), .int x1] [bl_X12 cy A_m m_at m_names m_status m_top m_bottom m_sort m_trayMany m_trays m_tape m_text m_taped m_size m_token m_from m_end m_value m_faultKind m_faultPlace m_faults m_seen m_toldParts m_opened m_depth m_counted m_bestOrder m_standers m_has m_bestHas m_standerMany m_bestCouples m_bestFondness m_cameTo m_doesStandFirst m_stoodBy m_drawn m_ranSteps m_loops m_ran m_told1 m_isTold m_marks]) (Qei D res.1 A W1) 0 0 A := by
  refine Met.ofW (cc := cX12_fondness) (maxL := 2) (ret := (some .int)) (by decide) rfl ?_
  intro p e s m args below meth c s₁ B hml hv
  obtain ⟨hargs, hP, hX, hD0⟩ := hv
  have hx := B.exec
  have hb := B.bytes
  have hr := B.returns
  have ht : ∀ w ∈ lw_gd, w.before args s = true := fun w hw => atoms_spec (ws := WW yX12_fondness cX12_fondness 2 (some .int)) B.pre w (List.mem_cons_of_mem _ hw)
  have hown : s.vm.findClass RX12 = some m.cls := findClass_of_methodNamed B.named
  have hlocks := B.notSynchronized
  have hP : PD D A [bl_X12 cy A_m m_at m_names m_status m_top m_bottom m_sort m_trayMany m_trays m_tape m_text m_taped m_size m_token m_from m_end m_value m_faultKind m_faultPlace m_faults m_seen m_toldParts m_opened m_depth m_counted m_bestOrder m_standers m_has m_bestHas m_standerMany m_bestCouples m_bestFondness m_cameTo m_doesStandFirst m_stoodBy m_drawn m_ranSteps m_loops m_ran m_told1 m_isTold m_marks] s.heap := ⟨hP, by rw [hA]; exact hD0.own⟩
  have hS : va_S A s.heap s.heap [] := va_S.rf
  obtain ⟨ls, hl, hent⟩ := ent (m := m) (n := 2) hargs (Nat.le_of_ble_eq_true rfl) (lv := [(0, .ref (A_m 0)), (1, .int x1)]) rfl
  rw [hent]
  clear hent
  unfold f_X12_fondness at h
  refine lv_iload_n hx hb dX12_fondness_0 rfl (lv_at hl 1 rfl) ?_
  refine lv_i2l (v := Int32.toInt64 x1) hx hb dX12_fondness_1 rfl ?_
  obtain ⟨z_6, e_z_6, h⟩ := bi h
  refine roSi (rest := []) ⟨hx, hb, hml, hown, ht⟩ (c_X12_isSize l D cy fu  (Int32.toInt64 x1) z_6 e_z_6) (cS ht ms_X12_isSize tb_1571 rfl rfl ⟨Nat.le_of_ble_eq_true rfl, Nat.le_of_ble_eq_true rfl⟩) (P_sub hP.1 [] rfl) hX rfl hl.1 rfl (Nat.le_of_ble_eq_true rfl) dX12_fondness_2 ⟨Nat.le_of_ble_eq_true rfl, Nat.le_of_ble_eq_true rfl⟩ ?_
  refine lv_if_ne (tgt := 14) hx hb dX12_fondness_5 (by decide) (fun c_7 => ?_) (fun c_7 => ?_)
  · have h := ie c_7 h
    refine lv_aload_n hx hb dX12_fondness_14 rfl (lv_at hl 0 rfl) ?_
    refine lv_iload_n hx hb dX12_fondness_15 rfl (lv_at hl 1 rfl) ?_
    obtain ⟨z_8, e_z_8, h⟩ := bi h
    refine efVv (rest := []) ⟨hx, hb, hml, hown, ht⟩ (c_X12_pairing l D cy fu A_m m_at m_names m_status m_top m_bottom m_sort m_trayMany m_trays m_tape m_text m_taped m_size m_token m_from m_end m_value m_faultKind m_faultPlace m_faults m_seen m_toldParts m_opened m_depth m_counted m_bestOrder m_standers m_has m_bestHas m_standerMany m_bestCouples m_bestFondness m_cameTo m_doesStandFirst m_stoodBy m_drawn m_ranSteps m_loops m_ran m_told1 m_isTold m_marks x1 z_8 e_z_8 _ rfl _ rfl) (cV ht mv_X12_pairing tb_1806 rfl rfl ⟨Nat.le_of_ble_eq_true rfl, Nat.le_of_ble_eq_true rfl⟩) hP hS hX [0] rfl rfl rfl rfl rfl rfl hl.1 rfl (Nat.le_of_ble_eq_true rfl) dX12_fondness_16 ⟨Nat.le_of_ble_eq_true rfl, Nat.le_of_ble_eq_true rfl⟩ (fun H locs hP hS => ?_)
    have hP : PD D A [bl_X12 cy A_m m_at m_names m_status m_top m_bottom m_sort m_trayMany m_trays m_tape m_text m_taped m_size m_token m_from m_end m_value m_faultKind m_faultPlace m_faults m_seen m_toldParts m_opened m_depth m_counted m_bestOrder z_8.1 z_8.2.1 z_8.2.2.1 z_8.2.2.2.1 z_8.2.2.2.2.1 z_8.2.2.2.2.2 m_cameTo m_doesStandFirst m_stoodBy m_drawn m_ranSteps m_loops m_ran m_told1 m_isTold m_marks] H := hP
    refine lv_aload_n hx hb dX12_fondness_19 rfl (lv_at hl 0 rfl) ?_
    refine lv_aload_n hx hb dX12_fondness_20 rfl (lv_at hl 0 rfl) ?_
    refine xget (i := 0) (j := 0) (k := 30) (T := TX12) hx hb ht tb_iX12 hown hX hP.1 rfl rfl rfl (by decide) tb_1259 rfl dX12_fondness_21 ?_
    obtain ⟨z_9, e_z_9, h⟩ := bi h
    refine efVi (rest := []) ⟨hx, hb, hml, hown, ht⟩ (c_X12_gives l D cy fu A_m m_at m_names m_status m_top m_bottom m_sort m_trayMany m_trays m_tape m_text m_taped m_size m_token m_from m_end m_value m_faultKind m_faultPlace m_faults m_seen m_toldParts m_opened m_depth m_counted m_bestOrder z_8.1 z_8.2.1 z_8.2.2.1 z_8.2.2.2.1 z_8.2.2.2.2.1 z_8.2.2.2.2.2 m_cameTo m_doesStandFirst m_stoodBy m_drawn m_ranSteps m_loops m_ran m_told1 m_isTold m_marks z_8.2.2.2.2.2 z_9 e_z_9 _ rfl _ rfl) (cV ht mv_X12_gives tb_1499 rfl rfl ⟨Nat.le_of_ble_eq_true rfl, Nat.le_of_ble_eq_true rfl⟩) hP hS hX [0] rfl rfl rfl rfl rfl rfl hl.1 rfl (Nat.le_of_ble_eq_true rfl) dX12_fondness_24 ⟨Nat.le_of_ble_eq_true rfl, Nat.le_of_ble_eq_true rfl⟩ (fun H locs hP hS => ?_)
    have hP : PD D A [bl_X12 cy A_m m_at m_names z_9.2 m_top m_bottom m_sort m_trayMany m_trays m_tape m_text m_taped m_size m_token m_from m_end m_value m_faultKind m_faultPlace m_faults m_seen m_toldParts m_opened m_depth m_counted m_bestOrder z_8.1 z_8.2.1 z_8.2.2.1 z_8.2.2.2.1 z_8.2.2.2.2.1 z_8.2.2.2.2.2 m_cameTo m_doesStandFirst m_stoodBy m_drawn m_ranSteps m_loops m_ran m_told1 m_isTold m_marks] H := hP
    cases h
    subst hW1
    exact W.iret hx hb hr (fun _ ht9 _ => ⟨⟨_, (), rfl, rfl, hPt ht9 hP.1⟩, hS.F ht9⟩) hS.2.2 dX12_fondness_27
  · have h := it c_7 h
    refine lv_aload_n hx hb dX12_fondness_8 rfl (lv_at hl 0 rfl) ?_
    refine lv_iconst (v := 1) hx hb dX12_fondness_9 (by decide) ?_
    obtain ⟨z_10, e_z_10, h⟩ := bi h
    refine efVi (rest := []) ⟨hx, hb, hml, hown, ht⟩ (c_X12_refuse l D cy fu A_m m_at m_names m_status m_top m_bottom m_sort m_trayMany m_trays m_tape m_text m_taped m_size m_token m_from m_end m_value m_faultKind m_faultPlace m_faults m_seen m_toldParts m_opened m_depth m_counted m_bestOrder m_standers m_has m_bestHas m_standerMany m_bestCouples m_bestFondness m_cameTo m_doesStandFirst m_stoodBy m_drawn m_ranSteps m_loops m_ran m_told1 m_isTold m_marks 1 z_10 e_z_10 _ rfl _ rfl) (cV ht mv_X12_refuse tb_1432 rfl rfl ⟨Nat.le_of_ble_eq_true rfl, Nat.le_of_ble_eq_true rfl⟩) hP hS hX [0] rfl rfl rfl rfl rfl rfl hl.1 rfl (Nat.le_of_ble_eq_true rfl) dX12_fondness_10 ⟨Nat.le_of_ble_eq_true rfl, Nat.le_of_ble_eq_true rfl⟩ (fun H locs hP hS => ?_)
    have hP : PD D A [bl_X12 cy A_m m_at m_names z_10.2 m_top m_bottom m_sort m_trayMany m_trays m_tape m_text m_taped m_size m_token m_from m_end m_value m_faultKind m_faultPlace m_faults m_seen m_toldParts m_opened m_depth m_counted m_bestOrder m_standers m_has m_bestHas m_standerMany m_bestCouples m_bestFondness m_cameTo m_doesStandFirst m_stoodBy m_drawn m_ranSteps m_loops m_ran m_told1 m_isTold m_marks] H := hP
    cases h
    subst hW1
    exact W.iret hx hb hr (fun _ ht9 _ => ⟨⟨_, (), rfl, rfl, hPt ht9 hP.1⟩, hS.F ht9⟩) hS.2.2 dX12_fondness_13
theorem dX12_partner_0 : decode cX12_partner 0 = .ok (.aload_n 0, 1) := by decide +kernel
theorem dX12_partner_1 : decode cX12_partner 1 = .ok (.iload_n 1, 1) := by decide +kernel
theorem dX12_partner_2 : decode cX12_partner 2 = .ok (.invokevirtual 241, 3) := by decide +kernel
theorem dX12_partner_5 : decode cX12_partner 5 = .ok (.ifCond .eq 11, 3) := by decide +kernel
theorem dX12_partner_8 : decode cX12_partner 8 = .ok (.iload_n 2, 1) := by decide +kernel
theorem dX12_partner_9 : decode cX12_partner 9 = .ok (.i2l, 1) := by decide +kernel
theorem dX12_partner_10 : decode cX12_partner 10 = .ok (.invokestatic 292, 3) := by decide +kernel
theorem dX12_partner_13 : decode cX12_partner 13 = .ok (.ifCond .ne 9, 3) := by decide +kernel
theorem dX12_partner_16 : decode cX12_partner 16 = .ok (.aload_n 0, 1) := by decide +kernel
theorem dX12_partner_17 : decode cX12_partner 17 = .ok (.iconst 1, 1) := by decide +kernel
theorem dX12_partner_18 : decode cX12_partner 18 = .ok (.invokevirtual 85, 3) := by decide +kernel
theorem dX12_partner_21 : decode cX12_partner 21 = .ok (.ireturn, 1) := by decide +kernel
theorem dX12_partner_22 : decode cX12_partner 22 = .ok (.aload_n 0, 1) := by decide +kernel
theorem dX12_partner_23 : decode cX12_partner 23 = .ok (.iload_n 2, 1) := by decide +kernel
theorem dX12_partner_24 : decode cX12_partner 24 = .ok (.invokevirtual 401, 3) := by decide +kernel
theorem dX12_partner_27 : decode cX12_partner 27 = .ok (.iconst 0, 1) := by decide +kernel
theorem dX12_partner_28 : decode cX12_partner 28 = .ok (.istore_n 3, 1) := by decide +kernel
theorem dX12_partner_29 : decode cX12_partner 29 = .ok (.iload_n 3, 1) := by decide +kernel
theorem dX12_partner_30 : decode cX12_partner 30 = .ok (.aload_n 0, 1) := by decide +kernel
theorem dX12_partner_31 : decode cX12_partner 31 = .ok (.getfield 383, 3) := by decide +kernel
theorem dX12_partner_34 : decode cX12_partner 34 = .ok (.if_icmp .ge 65, 3) := by decide +kernel
theorem dX12_partner_37 : decode cX12_partner 37 = .ok (.aload_n 0, 1) := by decide +kernel
theorem dX12_partner_38 : decode cX12_partner 38 = .ok (.getfield 53, 3) := by decide +kernel
theorem dX12_partner_41 : decode cX12_partner 41 = .ok (.iload_n 3, 1) := by decide +kernel
theorem dX12_partner_42 : decode cX12_partner 42 = .ok (.iaload, 1) := by decide +kernel
theorem dX12_partner_43 : decode cX12_partner 43 = .ok (.bipush 8, 2) := by decide +kernel
theorem dX12_partner_45 : decode cX12_partner 45 = .ok (.if_icmp .ne 6, 3) := by decide +kernel
theorem dX12_partner_48 : decode cX12_partner 48 = .ok (.goto 45, 3) := by decide +kernel
theorem dX12_partner_51 : decode cX12_partner 51 = .ok (.aload_n 0, 1) := by decide +kernel
theorem dX12_partner_52 : decode cX12_partner 52 = .ok (.getfield 47, 3) := by decide +kernel
theorem dX12_partner_55 : decode cX12_partner 55 = .ok (.iload_n 3, 1) := by decide +kernel
theorem dX12_partner_56 : decode cX12_partner 56 = .ok (.iaload, 1) := by decide +kernel
theorem dX12_partner_57 : decode cX12_partner 57 = .ok (.iload_n 1, 1) := by decide +kernel
theorem dX12_partner_58 : decode cX12_partner 58 = .ok (.if_icmp .ne 14, 3) := by decide +kernel
theorem dX12_partner_61 : decode cX12_partner 61 = .ok (.aload_n 0, 1) := by decide +kernel
theorem dX12_partner_62 : decode cX12_partner 62 = .ok (.aload_n 0, 1) := by decide +kernel
theorem dX12_partner_63 : decode cX12_partner 63 = .ok (.getfield 53, 3) := by decide +kernel
theorem dX12_partner_66 : decode cX12_partner 66 = .ok (.iload_n 3, 1) := by decide +kernel
theorem dX12_partner_67 : decode cX12_partner 67 = .ok (.iaload, 1) := by decide +kernel
theorem dX12_partner_68 : decode cX12_partner 68 = .ok (.invokevirtual 88, 3) := by decide +kernel
theorem dX12_partner_71 : decode cX12_partner 71 = .ok (.ireturn, 1) := by decide +kernel
theorem dX12_partner_72 : decode cX12_partner 72 = .ok (.aload_n 0, 1) := by decide +kernel
theorem dX12_partner_73 : decode cX12_partner 73 = .ok (.getfield 53, 3) := by decide +kernel
theorem dX12_partner_76 : decode cX12_partner 76 = .ok (.iload_n 3, 1) := by decide +kernel
theorem dX12_partner_77 : decode cX12_partner 77 = .ok (.iaload, 1) := by decide +kernel
theorem dX12_partner_78 : decode cX12_partner 78 = .ok (.iload_n 1, 1) := by decide +kernel
theorem dX12_partner_79 : decode cX12_partner 79 = .ok (.if_icmp .ne 14, 3) := by decide +kernel
theorem dX12_partner_82 : decode cX12_partner 82 = .ok (.aload_n 0, 1) := by decide +kernel
theorem dX12_partner_83 : decode cX12_partner 83 = .ok (.aload_n 0, 1) := by decide +kernel
theorem dX12_partner_84 : decode cX12_partner 84 = .ok (.getfield 47, 3) := by decide +kernel
theorem dX12_partner_87 : decode cX12_partner 87 = .ok (.iload_n 3, 1) := by decide +kernel
theorem dX12_partner_88 : decode cX12_partner 88 = .ok (.iaload, 1) := by decide +kernel
theorem dX12_partner_89 : decode cX12_partner 89 = .ok (.invokevirtual 88, 3) := by decide +kernel
theorem dX12_partner_92 : decode cX12_partner 92 = .ok (.ireturn, 1) := by decide +kernel
theorem dX12_partner_93 : decode cX12_partner 93 = .ok (.iinc 3 1, 3) := by decide +kernel
theorem dX12_partner_96 : decode cX12_partner 96 = .ok (.goto (-67), 3) := by decide +kernel
theorem dX12_partner_99 : decode cX12_partner 99 = .ok (.aload_n 0, 1) := by decide +kernel
theorem dX12_partner_100 : decode cX12_partner 100 = .ok (.bipush 6, 2) := by decide +kernel
theorem dX12_partner_102 : decode cX12_partner 102 = .ok (.invokevirtual 85, 3) := by decide +kernel
theorem dX12_partner_105 : decode cX12_partner 105 = .ok (.ireturn, 1) := by decide +kernel
theorem mv_X12_partner : MV yX12_partner RX12 cX12_partner 4 (some .int) 2 := ⟨tb_1829, tb_1827, tb_1828, tb_16, by decide +kernel, by decide +kernel, by decide +kernel⟩
def f_X12_partner_b29 (fu : Nat) (m_at : Nat → Int32) (x1 : Int32) (x2 : Int32) (k29 : Int32 → (Nat → Int32) → (Nat → Int32) → (Nat → Int32) → Int32 → Int32 → Int32 → Int32 → (Option (Int32 × Int32 × (Nat → Int32) × (Nat → Int32) × (Nat → Int32) × Int32 × Int32 × Int32))) (m_status : Int32) (m_standers : Nat → Int32) (m_has : Nat → Int32) (m_bestHas : Nat → Int32) (m_standerMany : Int32) (m_bestCouples : Int32) (m_bestFondness : Int32) (x3 : Int32) : Option (Int32 × Int32 × (Nat → Int32) × (Nat → Int32) × (Nat → Int32) × Int32 × Int32 × Int32) := (if m_standerMany ≤ x3 then (f_X12_refuse fu m_status 6).bind fun z_23 => some (z_23.1, z_23.2, m_standers, m_has, m_bestHas, m_standerMany, m_bestCouples, m_bestFondness) else (rdI m_bestHas 8 x3).bind fun y_24 => (if y_24 = 8 then bnd (x3 + 1) fun x3_35 => k29 m_status m_standers m_has m_bestHas m_standerMany m_bestCouples m_bestFondness x3_35 else (rdI m_standers 8 x3).bind fun y_26 => (if y_26 = x1 then (rdI m_bestHas 8 x3).bind fun y_33 => (f_X12_gives fu m_status y_33).bind fun z_34 => some (z_34.1, z_34.2, m_standers, m_has, m_bestHas, m_standerMany, m_bestCouples, m_bestFondness) else (rdI m_bestHas 8 x3).bind fun y_28 => (if y_28 = x1 then (rdI m_standers 8 x3).bind fun y_31 => (f_X12_gives fu m_status y_31).bind fun z_32 => some (z_32.1, z_32.2, m_standers, m_has, m_bestHas, m_standerMany, m_bestCouples, m_bestFondness) else bnd (x3 + 1) fun x3_30 => k29 m_status m_standers m_has m_bestHas m_standerMany m_bestCouples m_bestFondness x3_30))))
def f_X12_partner_l29 (fu : Nat) (m_at : Nat → Int32) (x1 : Int32) (x2 : Int32) : Nat → Int32 → (Nat → Int32) → (Nat → Int32) → (Nat → Int32) → Int32 → Int32 → Int32 → Int32 → (Option (Int32 × Int32 × (Nat → Int32) × (Nat → Int32) × (Nat → Int32) × Int32 × Int32 × Int32))
  | 0, _, _, _, _, _, _, _, _ => none
  | n + 1, m_status, m_standers, m_has, m_bestHas, m_standerMany, m_bestCouples, m_bestFondness, x3 => f_X12_partner_b29 fu m_at x1 x2 (f_X12_partner_l29 fu m_at x1 x2 n) m_status m_standers m_has m_bestHas m_standerMany m_bestCouples m_bestFondness x3
def f_X12_partner (fu : Nat) (m_at : Nat → Int32) (m_status : Int32) (m_standers : Nat → Int32) (m_has : Nat → Int32) (m_bestHas : Nat → Int32) (m_standerMany : Int32) (m_bestCouples : Int32) (m_bestFondness : Int32) (x1 : Int32) (x2 : Int32) : Option (Int32 × Int32 × (Nat → Int32) × (Nat → Int32) × (Nat → Int32) × Int32 × Int32 × Int32) := (f_X12_isMan fu m_at x1).bind fun z_36 => (if z_36 = 0 then (f_X12_refuse fu m_status 1).bind fun z_38 => some (z_38.1, z_38.2, m_standers, m_has, m_bestHas, m_standerMany, m_bestCouples, m_bestFondness) else (f_X12_isSize fu (Int32.toInt64 x2)).bind fun z_39 => (if z_39 = 0 then (f_X12_refuse fu m_status 1).bind fun z_42 => some (z_42.1, z_42.2, m_standers, m_has, m_bestHas, m_standerMany, m_bestCouples, m_bestFondness) else (f_X12_pairing fu m_at m_standers m_has m_bestHas m_standerMany m_bestCouples m_bestFondness x2).bind fun z_41 => f_X12_partner_l29 fu m_at x1 x2 fu m_status z_41.1 z_41.2.1 z_41.2.2.1 z_41.2.2.2.1 z_41.2.2.2.2.1 z_41.2.2.2.2.2 0))
abbrev rm_X12_partner : Room := { frames := 6, cells := 0, slots := 0, locals := 133 }
set_option maxHeartbeats 4000000 in
set_option maxRecDepth 100000 in
theorem c_X12_partner (l : Launch) (D : va_G) (cy : Nat → ClassId) (fu : Nat) (A_m : Nat → Nat) (m_at : Nat → Int32) (m_names : Nat → Int64) (m_status : Int32) (m_top : Int64) (m_bottom : Int64) (m_sort : Nat → Int32) (m_trayMany : Nat → Int32) (m_trays : Nat → Int64) (m_tape : Nat → Int32) (m_text : Nat → Int32) (m_taped : Int32) (m_size : Int32) (m_token : Int32) (m_from : Int32) (m_end : Int32) (m_value : Int32) (m_faultKind : Int32) (m_faultPlace : Int32) (m_faults : Int32) (m_seen : Int32) (m_toldParts : Int32) (m_opened : Nat → Int32) (m_depth : Int32) (m_counted : Int32) (m_bestOrder : Int32) (m_standers : Nat → Int32) (m_has : Nat → Int32) (m_bestHas : Nat → Int32) (m_standerMany : Int32) (m_bestCouples : Int32) (m_bestFondness : Int32) (m_cameTo : Nat → Int32) (m_doesStandFirst : Int32) (m_stoodBy : Nat → Int64) (m_drawn : Int32) (m_ranSteps : Int32) (m_loops : Nat → Int32) (m_ran : Nat → Int32) (m_told1 : Nat → Int32) (m_isTold : Int32) (m_marks : Int32) (x1 : Int32) (x2 : Int32) (res : Int32 × Int32 × (Nat → Int32) × (Nat → Int32) × (Nat → Int32) × Int32 × Int32 × Int32) (h : f_X12_partner fu m_at m_status m_standers m_has m_bestHas m_standerMany m_bestCouples m_bestFondness x1 x2 = some res) (A : Nat → Prop) (hA : A = adr [bl_X12 cy A_m m_at m_names m_status m_top m_bottom m_sort m_trayMany m_trays m_tape m_text m_taped m_size m_token m_from m_end m_value m_faultKind m_faultPlace m_faults m_seen m_toldParts m_opened m_depth m_counted m_bestOrder m_standers m_has m_bestHas m_standerMany m_bestCouples m_bestFondness m_cameTo m_doesStandFirst m_stoodBy m_drawn m_ranSteps m_loops m_ran m_told1 m_isTold m_marks]) (W1 : List va_W) (hW1 : W1 = [bl_X12 cy A_m m_at m_names res.2.1 m_top m_bottom m_sort m_trayMany m_trays m_tape m_text m_taped m_size m_token m_from m_end m_value m_faultKind m_faultPlace m_faults m_seen m_toldParts m_opened m_depth m_counted m_bestOrder res.2.2.1 res.2.2.2.1 res.2.2.2.2.1 res.2.2.2.2.2.1 res.2.2.2.2.2.2.1 res.2.2.2.2.2.2.2 m_cameTo m_doesStandFirst m_stoodBy m_drawn m_ranSteps m_loops m_ran m_told1 m_isTold m_marks]) : Met l yX12_partner (WW yX12_partner cX12_partner 4 (some .int)) rm_X12_partner (Ed D cy [.ref (A_m 0), .int x1, .int x2] [bl_X12 cy A_m m_at m_names m_status m_top m_bottom m_sort m_trayMany m_trays m_tape m_text m_taped m_size m_token m_from m_end m_value m_faultKind m_faultPlace m_faults m_seen m_toldParts m_opened m_depth m_counted m_bestOrder m_standers m_has m_bestHas m_standerMany m_bestCouples m_bestFondness m_cameTo m_doesStandFirst m_stoodBy m_drawn m_ranSteps m_loops m_ran m_told1 m_isTold m_marks]) (Qei D res.1 A W1) 0 0 A := by
  refine Met.ofW (cc := cX12_partner) (maxL := 4) (ret := (some .int)) (by decide) rfl ?_
  intro p e s m args below meth c s₁ B hml hv
  obtain ⟨hargs, hP, hX, hD0⟩ := hv
  have hx := B.exec
  have hb := B.bytes
  have hr := B.returns
  have ht : ∀ w ∈ lw_gd, w.before args s = true := fun w hw => atoms_spec (ws := WW yX12_partner cX12_partner 4 (some .int)) B.pre w (List.mem_cons_of_mem _ hw)
  have hown : s.vm.findClass RX12 = some m.cls := findClass_of_methodNamed B.named
  have hlocks := B.notSynchronized
  have hP : PD D A [bl_X12 cy A_m m_at m_names m_status m_top m_bottom m_sort m_trayMany m_trays m_tape m_text m_taped m_size m_token m_from m_end m_value m_faultKind m_faultPlace m_faults m_seen m_toldParts m_opened m_depth m_counted m_bestOrder m_standers m_has m_bestHas m_standerMany m_bestCouples m_bestFondness m_cameTo m_doesStandFirst m_stoodBy m_drawn m_ranSteps m_loops m_ran m_told1 m_isTold m_marks] s.heap := ⟨hP, by rw [hA]; exact hD0.own⟩
  have hS : va_S A s.heap s.heap [] := va_S.rf
  obtain ⟨ls, hl, hent⟩ := ent (m := m) (n := 4) hargs (Nat.le_of_ble_eq_true rfl) (lv := [(0, .ref (A_m 0)), (1, .int x1), (2, .int x2)]) rfl
  rw [hent]
  clear hent
  have l29 : ∀ (n29 : Nat) (m_status : Int32) (m_standers : Nat → Int32) (m_has : Nat → Int32) (m_bestHas : Nat → Int32) (m_standerMany : Int32) (m_bestCouples : Int32) (m_bestFondness : Int32) (x3 : Int32) (H : Heap) (locs : List Loc) (_ : PD D A [bl_X12 cy A_m m_at m_names m_status m_top m_bottom m_sort m_trayMany m_trays m_tape m_text m_taped m_size m_token m_from m_end m_value m_faultKind m_faultPlace m_faults m_seen m_toldParts m_opened m_depth m_counted m_bestOrder m_standers m_has m_bestHas m_standerMany m_bestCouples m_bestFondness m_cameTo m_doesStandFirst m_stoodBy m_drawn m_ranSteps m_loops m_ran m_told1 m_isTold m_marks] H) (_ : va_S A s.heap H locs) (ls : Array Slot), lv_has ls 4 [(0, .ref (A_m 0)), (1, .int x1), (3, .int x3)] → f_X12_partner_l29 fu m_at x1 x2 n29 m_status m_standers m_has m_bestHas m_standerMany m_bestCouples m_bestFondness x3 = some res → W p l e (headSpec (WW yX12_partner cX12_partner 4 (some .int)) rm_X12_partner).room s m args below meth c H locs 0 0 (MQ below (Qei D res.1 A W1) args s 0 0 A) (F0 m 29 ls []) := by
    intro n29
    induction n29 with
    | zero => intro m_status m_standers m_has m_bestHas m_standerMany m_bestCouples m_bestFondness x3 H locs hP hS ls hl h; cases h
    | succ n29 ih29 =>
      intro m_status m_standers m_has m_bestHas m_standerMany m_bestCouples m_bestFondness x3 H locs hP hS ls hl h
      have h : f_X12_partner_b29 fu m_at x1 x2 (f_X12_partner_l29 fu m_at x1 x2 n29) m_status m_standers m_has m_bestHas m_standerMany m_bestCouples m_bestFondness x3 = some res := h
      unfold f_X12_partner_b29 at h
      refine lv_iload_n hx hb dX12_partner_29 rfl (lv_at hl 2 rfl) ?_
      refine lv_aload_n hx hb dX12_partner_30 rfl (lv_at hl 0 rfl) ?_
      refine xget (i := 0) (j := 0) (k := 28) (T := TX12) hx hb ht tb_iX12 hown hX hP.1 rfl rfl rfl (by decide) tb_1257 rfl dX12_partner_31 ?_
      refine lv_icmp_ge (tgt := 99) hx hb dX12_partner_34 (by decide) (fun c_22 => ?_) (fun c_22 => ?_)
      · have h := it c_22 h
        refine lv_aload_n hx hb dX12_partner_99 rfl (lv_at hl 0 rfl) ?_
        refine lv_bipush (v := 6) hx hb dX12_partner_100 (by decide) ?_
        obtain ⟨z_23, e_z_23, h⟩ := bi h
        refine efVi (rest := []) ⟨hx, hb, hml, hown, ht⟩ (c_X12_refuse l D cy fu A_m m_at m_names m_status m_top m_bottom m_sort m_trayMany m_trays m_tape m_text m_taped m_size m_token m_from m_end m_value m_faultKind m_faultPlace m_faults m_seen m_toldParts m_opened m_depth m_counted m_bestOrder m_standers m_has m_bestHas m_standerMany m_bestCouples m_bestFondness m_cameTo m_doesStandFirst m_stoodBy m_drawn m_ranSteps m_loops m_ran m_told1 m_isTold m_marks 6 z_23 e_z_23 _ rfl _ rfl) (cV ht mv_X12_refuse tb_1432 rfl rfl ⟨Nat.le_of_ble_eq_true rfl, Nat.le_of_ble_eq_true rfl⟩) hP hS hX [0] rfl rfl rfl rfl rfl rfl hl.1 rfl (Nat.le_of_ble_eq_true rfl) dX12_partner_102 ⟨Nat.le_of_ble_eq_true rfl, Nat.le_of_ble_eq_true rfl⟩ (fun H locs hP hS => ?_)
        have hP : PD D A [bl_X12 cy A_m m_at m_names z_23.2 m_top m_bottom m_sort m_trayMany m_trays m_tape m_text m_taped m_size m_token m_from m_end m_value m_faultKind m_faultPlace m_faults m_seen m_toldParts m_opened m_depth m_counted m_bestOrder m_standers m_has m_bestHas m_standerMany m_bestCouples m_bestFondness m_cameTo m_doesStandFirst m_stoodBy m_drawn m_ranSteps m_loops m_ran m_told1 m_isTold m_marks] H := hP
        cases h
        subst hW1
        exact W.iret hx hb hr (fun _ ht9 _ => ⟨⟨_, (), rfl, rfl, hPt ht9 hP.1⟩, hS.F ht9⟩) hS.2.2 dX12_partner_105
      · have h := ie c_22 h
        refine lv_aload_n hx hb dX12_partner_37 rfl (lv_at hl 0 rfl) ?_
        refine xget (i := 0) (j := 0) (k := 27) (T := TX12) hx hb ht tb_iX12 hown hX hP.1 rfl rfl rfl (by decide) tb_1256 rfl dX12_partner_38 ?_
        refine lv_iload_n hx hb dX12_partner_41 rfl (lv_at hl 2 rfl) ?_
        obtain ⟨y_24, e_y_24, h⟩ := bi h
        refine xiald (i0 := 0) (j0 := 11) hx hb hX hP.1 rfl rfl e_y_24 dX12_partner_42 ?_
        refine lv_bipush (v := 8) hx hb dX12_partner_43 (by decide) ?_
        refine lv_icmp_ne (tgt := 51) hx hb dX12_partner_45 (by decide) (fun c_25 => ?_) (fun c_25 => ?_)
        · have h := ie c_25 h
          refine lv_aload_n hx hb dX12_partner_51 rfl (lv_at hl 0 rfl) ?_
          refine xget (i := 0) (j := 0) (k := 25) (T := TX12) hx hb ht tb_iX12 hown hX hP.1 rfl rfl rfl (by decide) tb_1254 rfl dX12_partner_52 ?_
          refine lv_iload_n hx hb dX12_partner_55 rfl (lv_at hl 2 rfl) ?_
          obtain ⟨y_26, e_y_26, h⟩ := bi h
          refine xiald (i0 := 0) (j0 := 9) hx hb hX hP.1 rfl rfl e_y_26 dX12_partner_56 ?_
          refine lv_iload_n hx hb dX12_partner_57 rfl (lv_at hl 1 rfl) ?_
          refine lv_icmp_ne (tgt := 72) hx hb dX12_partner_58 (by decide) (fun c_27 => ?_) (fun c_27 => ?_)
          · have h := ie c_27 h
            refine lv_aload_n hx hb dX12_partner_72 rfl (lv_at hl 0 rfl) ?_
            refine xget (i := 0) (j := 0) (k := 27) (T := TX12) hx hb ht tb_iX12 hown hX hP.1 rfl rfl rfl (by decide) tb_1256 rfl dX12_partner_73 ?_
            refine lv_iload_n hx hb dX12_partner_76 rfl (lv_at hl 2 rfl) ?_
            obtain ⟨y_28, e_y_28, h⟩ := bi h
            refine xiald (i0 := 0) (j0 := 11) hx hb hX hP.1 rfl rfl e_y_28 dX12_partner_77 ?_
            refine lv_iload_n hx hb dX12_partner_78 rfl (lv_at hl 1 rfl) ?_
            refine lv_icmp_ne (tgt := 93) hx hb dX12_partner_79 (by decide) (fun c_29 => ?_) (fun c_29 => ?_)
            · have h := ie c_29 h
              obtain ⟨x3_30, e_x3_30⟩ : ∃ y : Int32, y = x3 + 1 := ⟨_, rfl⟩
              have h := bn e_x3_30 h
              refine lv_iinc (v := x3_30) (lv' := [(3, .int x3_30), (0, .ref (A_m 0)), (1, .int x1)]) hx hb dX12_partner_93 hl (k := 2) rfl (by rw [e_x3_30]; rfl) (by decide) rfl (fun ls hl => ?_)
              refine lv_goto (tgt := 29) hx hb dX12_partner_96 (by decide) ?_
              exact ih29 m_status m_standers m_has m_bestHas m_standerMany m_bestCouples m_bestFondness x3_30 _ _ hP hS ls (lv_sub hl [1, 2, 0] rfl) h
            · have h := it c_29 h
              refine lv_aload_n hx hb dX12_partner_82 rfl (lv_at hl 0 rfl) ?_
              refine lv_aload_n hx hb dX12_partner_83 rfl (lv_at hl 0 rfl) ?_
              refine xget (i := 0) (j := 0) (k := 25) (T := TX12) hx hb ht tb_iX12 hown hX hP.1 rfl rfl rfl (by decide) tb_1254 rfl dX12_partner_84 ?_
              refine lv_iload_n hx hb dX12_partner_87 rfl (lv_at hl 2 rfl) ?_
              obtain ⟨y_31, e_y_31, h⟩ := bi h
              refine xiald (i0 := 0) (j0 := 9) hx hb hX hP.1 rfl rfl e_y_31 dX12_partner_88 ?_
              obtain ⟨z_32, e_z_32, h⟩ := bi h
              refine efVi (rest := []) ⟨hx, hb, hml, hown, ht⟩ (c_X12_gives l D cy fu A_m m_at m_names m_status m_top m_bottom m_sort m_trayMany m_trays m_tape m_text m_taped m_size m_token m_from m_end m_value m_faultKind m_faultPlace m_faults m_seen m_toldParts m_opened m_depth m_counted m_bestOrder m_standers m_has m_bestHas m_standerMany m_bestCouples m_bestFondness m_cameTo m_doesStandFirst m_stoodBy m_drawn m_ranSteps m_loops m_ran m_told1 m_isTold m_marks y_31 z_32 e_z_32 _ rfl _ rfl) (cV ht mv_X12_gives tb_1499 rfl rfl ⟨Nat.le_of_ble_eq_true rfl, Nat.le_of_ble_eq_true rfl⟩) hP hS hX [0] rfl rfl rfl rfl rfl rfl hl.1 rfl (Nat.le_of_ble_eq_true rfl) dX12_partner_89 ⟨Nat.le_of_ble_eq_true rfl, Nat.le_of_ble_eq_true rfl⟩ (fun H locs hP hS => ?_)
              have hP : PD D A [bl_X12 cy A_m m_at m_names z_32.2 m_top m_bottom m_sort m_trayMany m_trays m_tape m_text m_taped m_size m_token m_from m_end m_value m_faultKind m_faultPlace m_faults m_seen m_toldParts m_opened m_depth m_counted m_bestOrder m_standers m_has m_bestHas m_standerMany m_bestCouples m_bestFondness m_cameTo m_doesStandFirst m_stoodBy m_drawn m_ranSteps m_loops m_ran m_told1 m_isTold m_marks] H := hP
              cases h
              subst hW1
              exact W.iret hx hb hr (fun _ ht9 _ => ⟨⟨_, (), rfl, rfl, hPt ht9 hP.1⟩, hS.F ht9⟩) hS.2.2 dX12_partner_92
          · have h := it c_27 h
            refine lv_aload_n hx hb dX12_partner_61 rfl (lv_at hl 0 rfl) ?_
            refine lv_aload_n hx hb dX12_partner_62 rfl (lv_at hl 0 rfl) ?_
            refine xget (i := 0) (j := 0) (k := 27) (T := TX12) hx hb ht tb_iX12 hown hX hP.1 rfl rfl rfl (by decide) tb_1256 rfl dX12_partner_63 ?_
            refine lv_iload_n hx hb dX12_partner_66 rfl (lv_at hl 2 rfl) ?_
            obtain ⟨y_33, e_y_33, h⟩ := bi h
            refine xiald (i0 := 0) (j0 := 11) hx hb hX hP.1 rfl rfl e_y_33 dX12_partner_67 ?_
            obtain ⟨z_34, e_z_34, h⟩ := bi h
            refine efVi (rest := []) ⟨hx, hb, hml, hown, ht⟩ (c_X12_gives l D cy fu A_m m_at m_names m_status m_top m_bottom m_sort m_trayMany m_trays m_tape m_text m_taped m_size m_token m_from m_end m_value m_faultKind m_faultPlace m_faults m_seen m_toldParts m_opened m_depth m_counted m_bestOrder m_standers m_has m_bestHas m_standerMany m_bestCouples m_bestFondness m_cameTo m_doesStandFirst m_stoodBy m_drawn m_ranSteps m_loops m_ran m_told1 m_isTold m_marks y_33 z_34 e_z_34 _ rfl _ rfl) (cV ht mv_X12_gives tb_1499 rfl rfl ⟨Nat.le_of_ble_eq_true rfl, Nat.le_of_ble_eq_true rfl⟩) hP hS hX [0] rfl rfl rfl rfl rfl rfl hl.1 rfl (Nat.le_of_ble_eq_true rfl) dX12_partner_68 ⟨Nat.le_of_ble_eq_true rfl, Nat.le_of_ble_eq_true rfl⟩ (fun H locs hP hS => ?_)
            have hP : PD D A [bl_X12 cy A_m m_at m_names z_34.2 m_top m_bottom m_sort m_trayMany m_trays m_tape m_text m_taped m_size m_token m_from m_end m_value m_faultKind m_faultPlace m_faults m_seen m_toldParts m_opened m_depth m_counted m_bestOrder m_standers m_has m_bestHas m_standerMany m_bestCouples m_bestFondness m_cameTo m_doesStandFirst m_stoodBy m_drawn m_ranSteps m_loops m_ran m_told1 m_isTold m_marks] H := hP
            cases h
            subst hW1
            exact W.iret hx hb hr (fun _ ht9 _ => ⟨⟨_, (), rfl, rfl, hPt ht9 hP.1⟩, hS.F ht9⟩) hS.2.2 dX12_partner_71
        · have h := it c_25 h
          refine lv_goto (tgt := 93) hx hb dX12_partner_48 (by decide) ?_
          obtain ⟨x3_35, e_x3_35⟩ : ∃ y : Int32, y = x3 + 1 := ⟨_, rfl⟩
          have h := bn e_x3_35 h
          refine lv_iinc (v := x3_35) (lv' := [(3, .int x3_35), (0, .ref (A_m 0)), (1, .int x1)]) hx hb dX12_partner_93 hl (k := 2) rfl (by rw [e_x3_35]; rfl) (by decide) rfl (fun ls hl => ?_)
          refine lv_goto (tgt := 29) hx hb dX12_partner_96 (by decide) ?_
          exact ih29 m_status m_standers m_has m_bestHas m_standerMany m_bestCouples m_bestFondness x3_35 _ _ hP hS ls (lv_sub hl [1, 2, 0] rfl) h
  unfold f_X12_partner at h
  refine lv_aload_n hx hb dX12_partner_0 rfl (lv_at hl 0 rfl) ?_
  refine lv_iload_n hx hb dX12_partner_1 rfl (lv_at hl 1 rfl) ?_
  obtain ⟨z_36, e_z_36, h⟩ := bi h
  refine roVi (rest := []) ⟨hx, hb, hml, hown, ht⟩ (c_X12_isMan l D cy fu A_m m_at m_names m_status m_top m_bottom m_sort m_trayMany m_trays m_tape m_text m_taped m_size m_token m_from m_end m_value m_faultKind m_faultPlace m_faults m_seen m_toldParts m_opened m_depth m_counted m_bestOrder m_standers m_has m_bestHas m_standerMany m_bestCouples m_bestFondness m_cameTo m_doesStandFirst m_stoodBy m_drawn m_ranSteps m_loops m_ran m_told1 m_isTold m_marks x1 z_36 e_z_36) (cV ht mv_X12_isMan tb_1551 rfl rfl ⟨Nat.le_of_ble_eq_true rfl, Nat.le_of_ble_eq_true rfl⟩) (P_sub hP.1 [0] rfl) hX rfl rfl rfl hl.1 rfl (Nat.le_of_ble_eq_true rfl) dX12_partner_2 ⟨Nat.le_of_ble_eq_true rfl, Nat.le_of_ble_eq_true rfl⟩ ?_
  refine lv_if_eq (tgt := 16) hx hb dX12_partner_5 (by decide) (fun c_37 => ?_) (fun c_37 => ?_)
  · have h := it c_37 h
    refine lv_aload_n hx hb dX12_partner_16 rfl (lv_at hl 0 rfl) ?_
    refine lv_iconst (v := 1) hx hb dX12_partner_17 (by decide) ?_
    obtain ⟨z_38, e_z_38, h⟩ := bi h
    refine efVi (rest := []) ⟨hx, hb, hml, hown, ht⟩ (c_X12_refuse l D cy fu A_m m_at m_names m_status m_top m_bottom m_sort m_trayMany m_trays m_tape m_text m_taped m_size m_token m_from m_end m_value m_faultKind m_faultPlace m_faults m_seen m_toldParts m_opened m_depth m_counted m_bestOrder m_standers m_has m_bestHas m_standerMany m_bestCouples m_bestFondness m_cameTo m_doesStandFirst m_stoodBy m_drawn m_ranSteps m_loops m_ran m_told1 m_isTold m_marks 1 z_38 e_z_38 _ rfl _ rfl) (cV ht mv_X12_refuse tb_1432 rfl rfl ⟨Nat.le_of_ble_eq_true rfl, Nat.le_of_ble_eq_true rfl⟩) hP hS hX [0] rfl rfl rfl rfl rfl rfl hl.1 rfl (Nat.le_of_ble_eq_true rfl) dX12_partner_18 ⟨Nat.le_of_ble_eq_true rfl, Nat.le_of_ble_eq_true rfl⟩ (fun H locs hP hS => ?_)
    have hP : PD D A [bl_X12 cy A_m m_at m_names z_38.2 m_top m_bottom m_sort m_trayMany m_trays m_tape m_text m_taped m_size m_token m_from m_end m_value m_faultKind m_faultPlace m_faults m_seen m_toldParts m_opened m_depth m_counted m_bestOrder m_standers m_has m_bestHas m_standerMany m_bestCouples m_bestFondness m_cameTo m_doesStandFirst m_stoodBy m_drawn m_ranSteps m_loops m_ran m_told1 m_isTold m_marks] H := hP
    cases h
    subst hW1
    exact W.iret hx hb hr (fun _ ht9 _ => ⟨⟨_, (), rfl, rfl, hPt ht9 hP.1⟩, hS.F ht9⟩) hS.2.2 dX12_partner_21
  · have h := ie c_37 h
    refine lv_iload_n hx hb dX12_partner_8 rfl (lv_at hl 2 rfl) ?_
    refine lv_i2l (v := Int32.toInt64 x2) hx hb dX12_partner_9 rfl ?_
    obtain ⟨z_39, e_z_39, h⟩ := bi h
    refine roSi (rest := []) ⟨hx, hb, hml, hown, ht⟩ (c_X12_isSize l D cy fu  (Int32.toInt64 x2) z_39 e_z_39) (cS ht ms_X12_isSize tb_1571 rfl rfl ⟨Nat.le_of_ble_eq_true rfl, Nat.le_of_ble_eq_true rfl⟩) (P_sub hP.1 [] rfl) hX rfl hl.1 rfl (Nat.le_of_ble_eq_true rfl) dX12_partner_10 ⟨Nat.le_of_ble_eq_true rfl, Nat.le_of_ble_eq_true rfl⟩ ?_
    refine lv_if_ne (tgt := 22) hx hb dX12_partner_13 (by decide) (fun c_40 => ?_) (fun c_40 => ?_)
    · have h := ie c_40 h
      refine lv_aload_n hx hb dX12_partner_22 rfl (lv_at hl 0 rfl) ?_
      refine lv_iload_n hx hb dX12_partner_23 rfl (lv_at hl 2 rfl) ?_
      obtain ⟨z_41, e_z_41, h⟩ := bi h
      refine efVv (rest := []) ⟨hx, hb, hml, hown, ht⟩ (c_X12_pairing l D cy fu A_m m_at m_names m_status m_top m_bottom m_sort m_trayMany m_trays m_tape m_text m_taped m_size m_token m_from m_end m_value m_faultKind m_faultPlace m_faults m_seen m_toldParts m_opened m_depth m_counted m_bestOrder m_standers m_has m_bestHas m_standerMany m_bestCouples m_bestFondness m_cameTo m_doesStandFirst m_stoodBy m_drawn m_ranSteps m_loops m_ran m_told1 m_isTold m_marks x2 z_41 e_z_41 _ rfl _ rfl) (cV ht mv_X12_pairing tb_1806 rfl rfl ⟨Nat.le_of_ble_eq_true rfl, Nat.le_of_ble_eq_true rfl⟩) hP hS hX [0] rfl rfl rfl rfl rfl rfl hl.1 rfl (Nat.le_of_ble_eq_true rfl) dX12_partner_24 ⟨Nat.le_of_ble_eq_true rfl, Nat.le_of_ble_eq_true rfl⟩ (fun H locs hP hS => ?_)
      have hP : PD D A [bl_X12 cy A_m m_at m_names m_status m_top m_bottom m_sort m_trayMany m_trays m_tape m_text m_taped m_size m_token m_from m_end m_value m_faultKind m_faultPlace m_faults m_seen m_toldParts m_opened m_depth m_counted m_bestOrder z_41.1 z_41.2.1 z_41.2.2.1 z_41.2.2.2.1 z_41.2.2.2.2.1 z_41.2.2.2.2.2 m_cameTo m_doesStandFirst m_stoodBy m_drawn m_ranSteps m_loops m_ran m_told1 m_isTold m_marks] H := hP
      refine lv_iconst (v := 0) hx hb dX12_partner_27 (by decide) ?_
      refine lv_istore_n (lv' := [(3, .int 0), (0, .ref (A_m 0)), (1, .int x1), (2, .int x2)]) hx hb dX12_partner_28 rfl hl (by decide) rfl (fun ls hl => ?_)
      exact l29 fu m_status z_41.1 z_41.2.1 z_41.2.2.1 z_41.2.2.2.1 z_41.2.2.2.2.1 z_41.2.2.2.2.2 0 _ _ hP hS ls (lv_sub hl [1, 2, 0] rfl) h
    · have h := it c_40 h
      refine lv_aload_n hx hb dX12_partner_16 rfl (lv_at hl 0 rfl) ?_
      refine lv_iconst (v := 1) hx hb dX12_partner_17 (by decide) ?_
      obtain ⟨z_42, e_z_42, h⟩ := bi h
      refine efVi (rest := []) ⟨hx, hb, hml, hown, ht⟩ (c_X12_refuse l D cy fu A_m m_at m_names m_status m_top m_bottom m_sort m_trayMany m_trays m_tape m_text m_taped m_size m_token m_from m_end m_value m_faultKind m_faultPlace m_faults m_seen m_toldParts m_opened m_depth m_counted m_bestOrder m_standers m_has m_bestHas m_standerMany m_bestCouples m_bestFondness m_cameTo m_doesStandFirst m_stoodBy m_drawn m_ranSteps m_loops m_ran m_told1 m_isTold m_marks 1 z_42 e_z_42 _ rfl _ rfl) (cV ht mv_X12_refuse tb_1432 rfl rfl ⟨Nat.le_of_ble_eq_true rfl, Nat.le_of_ble_eq_true rfl⟩) hP hS hX [0] rfl rfl rfl rfl rfl rfl hl.1 rfl (Nat.le_of_ble_eq_true rfl) dX12_partner_18 ⟨Nat.le_of_ble_eq_true rfl, Nat.le_of_ble_eq_true rfl⟩ (fun H locs hP hS => ?_)
      have hP : PD D A [bl_X12 cy A_m m_at m_names z_42.2 m_top m_bottom m_sort m_trayMany m_trays m_tape m_text m_taped m_size m_token m_from m_end m_value m_faultKind m_faultPlace m_faults m_seen m_toldParts m_opened m_depth m_counted m_bestOrder m_standers m_has m_bestHas m_standerMany m_bestCouples m_bestFondness m_cameTo m_doesStandFirst m_stoodBy m_drawn m_ranSteps m_loops m_ran m_told1 m_isTold m_marks] H := hP
      cases h
      subst hW1
      exact W.iret hx hb hr (fun _ ht9 _ => ⟨⟨_, (), rfl, rfl, hPt ht9 hP.1⟩, hS.F ht9⟩) hS.2.2 dX12_partner_21
theorem dX12_playedBy_0 : decode cX12_playedBy 0 = .ok (.aload_n 0, 1) := by decide +kernel
theorem dX12_playedBy_1 : decode cX12_playedBy 1 = .ok (.sipush 2928, 3) := by decide +kernel
theorem dX12_playedBy_4 : decode cX12_playedBy 4 = .ok (.invokevirtual 342, 3) := by decide +kernel
theorem dX12_playedBy_7 : decode cX12_playedBy 7 = .ok (.iconst 0, 1) := by decide +kernel
theorem dX12_playedBy_8 : decode cX12_playedBy 8 = .ok (.istore 6, 2) := by decide +kernel
theorem dX12_playedBy_10 : decode cX12_playedBy 10 = .ok (.iload 6, 2) := by decide +kernel
theorem dX12_playedBy_12 : decode cX12_playedBy 12 = .ok (.iload 4, 2) := by decide +kernel
theorem dX12_playedBy_14 : decode cX12_playedBy 14 = .ok (.if_icmp .ge 73, 3) := by decide +kernel
theorem dX12_playedBy_17 : decode cX12_playedBy 17 = .ok (.iload 6, 2) := by decide +kernel
theorem dX12_playedBy_19 : decode cX12_playedBy 19 = .ok (.iconst 2, 1) := by decide +kernel
theorem dX12_playedBy_20 : decode cX12_playedBy 20 = .ok (.irem, 1) := by decide +kernel
theorem dX12_playedBy_21 : decode cX12_playedBy 21 = .ok (.ifCond .ne 7, 3) := by decide +kernel
theorem dX12_playedBy_24 : decode cX12_playedBy 24 = .ok (.iload_n 1, 1) := by decide +kernel
theorem dX12_playedBy_25 : decode cX12_playedBy 25 = .ok (.goto 4, 3) := by decide +kernel
theorem dX12_playedBy_28 : decode cX12_playedBy 28 = .ok (.iload_n 2, 1) := by decide +kernel
theorem dX12_playedBy_29 : decode cX12_playedBy 29 = .ok (.istore 7, 2) := by decide +kernel
theorem dX12_playedBy_31 : decode cX12_playedBy 31 = .ok (.aload_n 0, 1) := by decide +kernel
theorem dX12_playedBy_32 : decode cX12_playedBy 32 = .ok (.iload 7, 2) := by decide +kernel
theorem dX12_playedBy_34 : decode cX12_playedBy 34 = .ok (.aload_n 0, 1) := by decide +kernel
theorem dX12_playedBy_35 : decode cX12_playedBy 35 = .ok (.iload_n 3, 1) := by decide +kernel
theorem dX12_playedBy_36 : decode cX12_playedBy 36 = .ok (.iload 6, 2) := by decide +kernel
theorem dX12_playedBy_38 : decode cX12_playedBy 38 = .ok (.invokevirtual 346, 3) := by decide +kernel
theorem dX12_playedBy_41 : decode cX12_playedBy 41 = .ok (.invokevirtual 271, 3) := by decide +kernel
theorem dX12_playedBy_44 : decode cX12_playedBy 44 = .ok (.istore 8, 2) := by decide +kernel
theorem dX12_playedBy_46 : decode cX12_playedBy 46 = .ok (.iload 8, 2) := by decide +kernel
theorem dX12_playedBy_48 : decode cX12_playedBy 48 = .ok (.ifCond .eq 33, 3) := by decide +kernel
theorem dX12_playedBy_51 : decode cX12_playedBy 51 = .ok (.aload_n 0, 1) := by decide +kernel
theorem dX12_playedBy_52 : decode cX12_playedBy 52 = .ok (.iload 5, 2) := by decide +kernel
theorem dX12_playedBy_54 : decode cX12_playedBy 54 = .ok (.iload 4, 2) := by decide +kernel
theorem dX12_playedBy_56 : decode cX12_playedBy 56 = .ok (.iconst 1, 1) := by decide +kernel
theorem dX12_playedBy_57 : decode cX12_playedBy 57 = .ok (.isub, 1) := by decide +kernel
theorem dX12_playedBy_58 : decode cX12_playedBy 58 = .ok (.iload 6, 2) := by decide +kernel
theorem dX12_playedBy_60 : decode cX12_playedBy 60 = .ok (.isub, 1) := by decide +kernel
theorem dX12_playedBy_61 : decode cX12_playedBy 61 = .ok (.invokevirtual 274, 3) := by decide +kernel
theorem dX12_playedBy_64 : decode cX12_playedBy 64 = .ok (.ifCond .ne 17, 3) := by decide +kernel
theorem dX12_playedBy_67 : decode cX12_playedBy 67 = .ok (.aload_n 0, 1) := by decide +kernel
theorem dX12_playedBy_68 : decode cX12_playedBy 68 = .ok (.iload 7, 2) := by decide +kernel
theorem dX12_playedBy_70 : decode cX12_playedBy 70 = .ok (.aload_n 0, 1) := by decide +kernel
theorem dX12_playedBy_71 : decode cX12_playedBy 71 = .ok (.iload_n 3, 1) := by decide +kernel
theorem dX12_playedBy_72 : decode cX12_playedBy 72 = .ok (.iload 6, 2) := by decide +kernel
theorem dX12_playedBy_74 : decode cX12_playedBy 74 = .ok (.invokevirtual 346, 3) := by decide +kernel
theorem dX12_playedBy_77 : decode cX12_playedBy 77 = .ok (.invokevirtual 289, 3) := by decide +kernel
theorem dX12_playedBy_80 : decode cX12_playedBy 80 = .ok (.pop, 1) := by decide +kernel
theorem dX12_playedBy_81 : decode cX12_playedBy 81 = .ok (.iinc 6 1, 3) := by decide +kernel
theorem dX12_playedBy_84 : decode cX12_playedBy 84 = .ok (.goto (-74), 3) := by decide +kernel
theorem dX12_playedBy_87 : decode cX12_playedBy 87 = .ok (.aload_n 0, 1) := by decide +kernel
theorem dX12_playedBy_88 : decode cX12_playedBy 88 = .ok (.iload_n 1, 1) := by decide +kernel
theorem dX12_playedBy_89 : decode cX12_playedBy 89 = .ok (.iconst 2, 1) := by decide +kernel
theorem dX12_playedBy_90 : decode cX12_playedBy 90 = .ok (.invokevirtual 250, 3) := by decide +kernel
theorem dX12_playedBy_93 : decode cX12_playedBy 93 = .ok (.aload_n 0, 1) := by decide +kernel
theorem dX12_playedBy_94 : decode cX12_playedBy 94 = .ok (.iload_n 2, 1) := by decide +kernel
theorem dX12_playedBy_95 : decode cX12_playedBy 95 = .ok (.iconst 2, 1) := by decide +kernel
theorem dX12_playedBy_96 : decode cX12_playedBy 96 = .ok (.invokevirtual 250, 3) := by decide +kernel
theorem dX12_playedBy_99 : decode cX12_playedBy 99 = .ok (.isub, 1) := by decide +kernel
theorem dX12_playedBy_100 : decode cX12_playedBy 100 = .ok (.istore 6, 2) := by decide +kernel
theorem dX12_playedBy_102 : decode cX12_playedBy 102 = .ok (.aload_n 0, 1) := by decide +kernel
theorem dX12_playedBy_103 : decode cX12_playedBy 103 = .ok (.sipush 2928, 3) := by decide +kernel
theorem dX12_playedBy_106 : decode cX12_playedBy 106 = .ok (.invokevirtual 349, 3) := by decide +kernel
theorem dX12_playedBy_109 : decode cX12_playedBy 109 = .ok (.iload 6, 2) := by decide +kernel
theorem dX12_playedBy_111 : decode cX12_playedBy 111 = .ok (.ireturn, 1) := by decide +kernel
theorem mv_X12_playedBy : MV yX12_playedBy RX12 cX12_playedBy 9 (some .int) 5 := ⟨tb_1845, tb_1844, ts_109, tb_16, by decide +kernel, by decide +kernel, by decide +kernel⟩
def f_X12_playedBy_j29 (fu : Nat) (m_trays : Nat → Int64) (x1 : Int32) (x2 : Int32) (x3 : Int32) (x4 : Int32) (x5 : Int32) (k10 : (Nat → Int32) → Int32 → (Option (Int32 × (Nat → Int32)))) (m_at : Nat → Int32) (x6 : Int32) (s0 : Int32) : Option (Int32 × (Nat → Int32)) := (f_X12_sizeAt fu m_trays x3 x6).bind fun z_18 => (f_X12_stands fu m_at s0 z_18).bind fun z_19 => (if z_19 = 0 then bnd (x6 + 1) fun x6_21 => k10 m_at x6_21 else (f_X12_isIn fu x5 ((x4 - 1) - x6)).bind fun z_22 => (if z_22 = 0 then (f_X12_sizeAt fu m_trays x3 x6).bind fun z_25 => (f_X12_pins fu m_at s0 z_25).bind fun z_26 => bnd (x6 + 1) fun x6_27 => k10 z_26.2 x6_27 else bnd (x6 + 1) fun x6_24 => k10 m_at x6_24))
def f_X12_playedBy_b10 (fu : Nat) (m_trays : Nat → Int64) (x1 : Int32) (x2 : Int32) (x3 : Int32) (x4 : Int32) (x5 : Int32) (k10 : (Nat → Int32) → Int32 → (Option (Int32 × (Nat → Int32)))) (m_at : Nat → Int32) (x6 : Int32) : Option (Int32 × (Nat → Int32)) := (if x4 ≤ x6 then (f_X12_manOf fu m_at x1 2).bind fun z_29 => (f_X12_manOf fu m_at x2 2).bind fun z_30 => bnd (z_29 - z_30) fun x6_31 => (f_X12_restores fu m_at 2928).bind fun z_32 => some (x6_31, z_32) else (if (x6 - x6 / 2 * 2) = 0 then f_X12_playedBy_j29 fu m_trays x1 x2 x3 x4 x5 k10 m_at x6 x1 else f_X12_playedBy_j29 fu m_trays x1 x2 x3 x4 x5 k10 m_at x6 x2))
def f_X12_playedBy_l10 (fu : Nat) (m_trays : Nat → Int64) (x1 : Int32) (x2 : Int32) (x3 : Int32) (x4 : Int32) (x5 : Int32) : Nat → (Nat → Int32) → Int32 → (Option (Int32 × (Nat → Int32)))
  | 0, _, _ => none
  | n + 1, m_at, x6 => f_X12_playedBy_b10 fu m_trays x1 x2 x3 x4 x5 (f_X12_playedBy_l10 fu m_trays x1 x2 x3 x4 x5 n) m_at x6
def f_X12_playedBy (fu : Nat) (m_at : Nat → Int32) (m_trays : Nat → Int64) (x1 : Int32) (x2 : Int32) (x3 : Int32) (x4 : Int32) (x5 : Int32) : Option (Int32 × (Nat → Int32)) := (f_X12_keeps fu m_at 2928).bind fun z_34 => f_X12_playedBy_l10 fu m_trays x1 x2 x3 x4 x5 fu z_34 0
abbrev rm_X12_playedBy : Room := { frames := 7, cells := 0, slots := 0, locals := 163 }
set_option maxHeartbeats 4000000 in
set_option maxRecDepth 100000 in
theorem c_X12_playedBy (l : Launch) (D : va_G) (cy : Nat → ClassId) (fu : Nat) (A_m : Nat → Nat) (m_at : Nat → Int32) (m_names : Nat → Int64) (m_status : Int32) (m_top : Int64) (m_bottom : Int64) (m_sort : Nat → Int32) (m_trayMany : Nat → Int32) (m_trays : Nat → Int64) (m_tape : Nat → Int32) (m_text : Nat → Int32) (m_taped : Int32) (m_size : Int32) (m_token : Int32) (m_from : Int32) (m_end : Int32) (m_value : Int32) (m_faultKind : Int32) (m_faultPlace : Int32) (m_faults : Int32) (m_seen : Int32) (m_toldParts : Int32) (m_opened : Nat → Int32) (m_depth : Int32) (m_counted : Int32) (m_bestOrder : Int32) (m_standers : Nat → Int32) (m_has : Nat → Int32) (m_bestHas : Nat → Int32) (m_standerMany : Int32) (m_bestCouples : Int32) (m_bestFondness : Int32) (m_cameTo : Nat → Int32) (m_doesStandFirst : Int32) (m_stoodBy : Nat → Int64) (m_drawn : Int32) (m_ranSteps : Int32) (m_loops : Nat → Int32) (m_ran : Nat → Int32) (m_told1 : Nat → Int32) (m_isTold : Int32) (m_marks : Int32) (x1 : Int32) (x2 : Int32) (x3 : Int32) (x4 : Int32) (x5 : Int32) (res : Int32 × (Nat → Int32)) (h : f_X12_playedBy fu m_at m_trays x1 x2 x3 x4 x5 = some res) (A : Nat → Prop) (hA : A = adr [bl_X12 cy A_m m_at m_names m_status m_top m_bottom m_sort m_trayMany m_trays m_tape m_text m_taped m_size m_token m_from m_end m_value m_faultKind m_faultPlace m_faults m_seen m_toldParts m_opened m_depth m_counted m_bestOrder m_standers m_has m_bestHas m_standerMany m_bestCouples m_bestFondness m_cameTo m_doesStandFirst m_stoodBy m_drawn m_ranSteps m_loops m_ran m_told1 m_isTold m_marks]) (W1 : List va_W) (hW1 : W1 = [bl_X12 cy A_m res.2 m_names m_status m_top m_bottom m_sort m_trayMany m_trays m_tape m_text m_taped m_size m_token m_from m_end m_value m_faultKind m_faultPlace m_faults m_seen m_toldParts m_opened m_depth m_counted m_bestOrder m_standers m_has m_bestHas m_standerMany m_bestCouples m_bestFondness m_cameTo m_doesStandFirst m_stoodBy m_drawn m_ranSteps m_loops m_ran m_told1 m_isTold m_marks]) : Met l yX12_playedBy (WW yX12_playedBy cX12_playedBy 9 (some .int)) rm_X12_playedBy (Ed D cy [.ref (A_m 0), .int x1, .int x2, .int x3, .int x4, .int x5] [bl_X12 cy A_m m_at m_names m_status m_top m_bottom m_sort m_trayMany m_trays m_tape m_text m_taped m_size m_token m_from m_end m_value m_faultKind m_faultPlace m_faults m_seen m_toldParts m_opened m_depth m_counted m_bestOrder m_standers m_has m_bestHas m_standerMany m_bestCouples m_bestFondness m_cameTo m_doesStandFirst m_stoodBy m_drawn m_ranSteps m_loops m_ran m_told1 m_isTold m_marks]) (Qei D res.1 A W1) 0 0 A := by
  refine Met.ofW (cc := cX12_playedBy) (maxL := 9) (ret := (some .int)) (by decide) rfl ?_
  intro p e s m args below meth c s₁ B hml hv
  obtain ⟨hargs, hP, hX, hD0⟩ := hv
  have hx := B.exec
  have hb := B.bytes
  have hr := B.returns
  have ht : ∀ w ∈ lw_gd, w.before args s = true := fun w hw => atoms_spec (ws := WW yX12_playedBy cX12_playedBy 9 (some .int)) B.pre w (List.mem_cons_of_mem _ hw)
  have hown : s.vm.findClass RX12 = some m.cls := findClass_of_methodNamed B.named
  have hlocks := B.notSynchronized
  have hP : PD D A [bl_X12 cy A_m m_at m_names m_status m_top m_bottom m_sort m_trayMany m_trays m_tape m_text m_taped m_size m_token m_from m_end m_value m_faultKind m_faultPlace m_faults m_seen m_toldParts m_opened m_depth m_counted m_bestOrder m_standers m_has m_bestHas m_standerMany m_bestCouples m_bestFondness m_cameTo m_doesStandFirst m_stoodBy m_drawn m_ranSteps m_loops m_ran m_told1 m_isTold m_marks] s.heap := ⟨hP, by rw [hA]; exact hD0.own⟩
  have hS : va_S A s.heap s.heap [] := va_S.rf
  obtain ⟨ls, hl, hent⟩ := ent (m := m) (n := 9) hargs (Nat.le_of_ble_eq_true rfl) (lv := [(0, .ref (A_m 0)), (1, .int x1), (2, .int x2), (3, .int x3), (4, .int x4), (5, .int x5)]) rfl
  rw [hent]
  clear hent
  have l10 : ∀ (n10 : Nat) (m_at : Nat → Int32) (x6 : Int32) (H : Heap) (locs : List Loc) (_ : PD D A [bl_X12 cy A_m m_at m_names m_status m_top m_bottom m_sort m_trayMany m_trays m_tape m_text m_taped m_size m_token m_from m_end m_value m_faultKind m_faultPlace m_faults m_seen m_toldParts m_opened m_depth m_counted m_bestOrder m_standers m_has m_bestHas m_standerMany m_bestCouples m_bestFondness m_cameTo m_doesStandFirst m_stoodBy m_drawn m_ranSteps m_loops m_ran m_told1 m_isTold m_marks] H) (_ : va_S A s.heap H locs) (ls : Array Slot), lv_has ls 9 [(0, .ref (A_m 0)), (1, .int x1), (2, .int x2), (3, .int x3), (4, .int x4), (5, .int x5), (6, .int x6)] → f_X12_playedBy_l10 fu m_trays x1 x2 x3 x4 x5 n10 m_at x6 = some res → W p l e (headSpec (WW yX12_playedBy cX12_playedBy 9 (some .int)) rm_X12_playedBy).room s m args below meth c H locs 0 0 (MQ below (Qei D res.1 A W1) args s 0 0 A) (F0 m 10 ls []) := by
    intro n10
    induction n10 with
    | zero => intro m_at x6 H locs hP hS ls hl h; cases h
    | succ n10 ih10 =>
      have j29 : ∀ (m_at : Nat → Int32) (x6 : Int32) (s0 : Int32) (H : Heap) (locs : List Loc) (_ : PD D A [bl_X12 cy A_m m_at m_names m_status m_top m_bottom m_sort m_trayMany m_trays m_tape m_text m_taped m_size m_token m_from m_end m_value m_faultKind m_faultPlace m_faults m_seen m_toldParts m_opened m_depth m_counted m_bestOrder m_standers m_has m_bestHas m_standerMany m_bestCouples m_bestFondness m_cameTo m_doesStandFirst m_stoodBy m_drawn m_ranSteps m_loops m_ran m_told1 m_isTold m_marks] H) (_ : va_S A s.heap H locs) (ls : Array Slot), lv_has ls 9 [(0, .ref (A_m 0)), (1, .int x1), (2, .int x2), (3, .int x3), (4, .int x4), (5, .int x5), (6, .int x6)] → f_X12_playedBy_j29 fu m_trays x1 x2 x3 x4 x5 (f_X12_playedBy_l10 fu m_trays x1 x2 x3 x4 x5 n10) m_at x6 s0 = some res → W p l e (headSpec (WW yX12_playedBy cX12_playedBy 9 (some .int)) rm_X12_playedBy).room s m args below meth c H locs 0 0 (MQ below (Qei D res.1 A W1) args s 0 0 A) (F0 m 29 ls [.int s0]) := by
        intro m_at x6 s0 H locs hP hS ls hl h
        unfold f_X12_playedBy_j29 at h
        refine lv_istore (lv' := [(7, .int s0), (0, .ref (A_m 0)), (1, .int x1), (2, .int x2), (3, .int x3), (4, .int x4), (5, .int x5), (6, .int x6)]) hx hb dX12_playedBy_29 hl (by decide) rfl (fun ls hl => ?_)
        refine lv_aload_n hx hb dX12_playedBy_31 rfl (lv_at hl 1 rfl) ?_
        refine lv_iload hx hb dX12_playedBy_32 (lv_at hl 0 rfl) ?_
        refine lv_aload_n hx hb dX12_playedBy_34 rfl (lv_at hl 1 rfl) ?_
        refine lv_iload_n hx hb dX12_playedBy_35 rfl (lv_at hl 4 rfl) ?_
        refine lv_iload hx hb dX12_playedBy_36 (lv_at hl 7 rfl) ?_
        obtain ⟨z_18, e_z_18, h⟩ := bi h
        refine roVi (rest := [.int s0, .ref (A_m 0)]) ⟨hx, hb, hml, hown, ht⟩ (c_X12_sizeAt l D cy fu A_m m_at m_names m_status m_top m_bottom m_sort m_trayMany m_trays m_tape m_text m_taped m_size m_token m_from m_end m_value m_faultKind m_faultPlace m_faults m_seen m_toldParts m_opened m_depth m_counted m_bestOrder m_standers m_has m_bestHas m_standerMany m_bestCouples m_bestFondness m_cameTo m_doesStandFirst m_stoodBy m_drawn m_ranSteps m_loops m_ran m_told1 m_isTold m_marks x3 x6 z_18 e_z_18) (cV ht mv_X12_sizeAt tb_1760 rfl rfl ⟨Nat.le_of_ble_eq_true rfl, Nat.le_of_ble_eq_true rfl⟩) (P_sub hP.1 [0] rfl) hX rfl rfl rfl hl.1 rfl (Nat.le_of_ble_eq_true rfl) dX12_playedBy_38 ⟨Nat.le_of_ble_eq_true rfl, Nat.le_of_ble_eq_true rfl⟩ ?_
        obtain ⟨z_19, e_z_19, h⟩ := bi h
        refine roVi (rest := []) ⟨hx, hb, hml, hown, ht⟩ (c_X12_stands l D cy fu A_m m_at m_names m_status m_top m_bottom m_sort m_trayMany m_trays m_tape m_text m_taped m_size m_token m_from m_end m_value m_faultKind m_faultPlace m_faults m_seen m_toldParts m_opened m_depth m_counted m_bestOrder m_standers m_has m_bestHas m_standerMany m_bestCouples m_bestFondness m_cameTo m_doesStandFirst m_stoodBy m_drawn m_ranSteps m_loops m_ran m_told1 m_isTold m_marks s0 z_18 z_19 e_z_19) (cV ht mv_X12_stands tb_1582 rfl rfl ⟨Nat.le_of_ble_eq_true rfl, Nat.le_of_ble_eq_true rfl⟩) (P_sub hP.1 [0] rfl) hX rfl rfl rfl hl.1 rfl (Nat.le_of_ble_eq_true rfl) dX12_playedBy_41 ⟨Nat.le_of_ble_eq_true rfl, Nat.le_of_ble_eq_true rfl⟩ ?_
        refine lv_istore (lv' := [(8, .int z_19), (7, .int s0), (0, .ref (A_m 0)), (1, .int x1), (2, .int x2), (3, .int x3), (4, .int x4), (5, .int x5), (6, .int x6)]) hx hb dX12_playedBy_44 hl (by decide) rfl (fun ls hl => ?_)
        refine lv_iload hx hb dX12_playedBy_46 (lv_at hl 0 rfl) ?_
        refine lv_if_eq (tgt := 81) hx hb dX12_playedBy_48 (by decide) (fun c_20 => ?_) (fun c_20 => ?_)
        · have h := it c_20 h
          obtain ⟨x6_21, e_x6_21⟩ : ∃ y : Int32, y = x6 + 1 := ⟨_, rfl⟩
          have h := bn e_x6_21 h
          refine lv_iinc (v := x6_21) (lv' := [(6, .int x6_21), (8, .int z_19), (7, .int s0), (0, .ref (A_m 0)), (1, .int x1), (2, .int x2), (3, .int x3), (4, .int x4), (5, .int x5)]) hx hb dX12_playedBy_81 hl (k := 8) rfl (by rw [e_x6_21]; rfl) (by decide) rfl (fun ls hl => ?_)
          refine lv_goto (tgt := 10) hx hb dX12_playedBy_84 (by decide) ?_
          exact ih10 m_at x6_21 _ _ hP hS ls (lv_sub hl [3, 4, 5, 6, 7, 8, 0] rfl) h
        · have h := ie c_20 h
          refine lv_aload_n hx hb dX12_playedBy_51 rfl (lv_at hl 2 rfl) ?_
          refine lv_iload hx hb dX12_playedBy_52 (lv_at hl 7 rfl) ?_
          refine lv_iload hx hb dX12_playedBy_54 (lv_at hl 6 rfl) ?_
          refine lv_iconst (v := 1) hx hb dX12_playedBy_56 (by decide) ?_
          refine lv_isub hx hb dX12_playedBy_57 ?_
          refine lv_iload hx hb dX12_playedBy_58 (lv_at hl 8 rfl) ?_
          refine lv_isub hx hb dX12_playedBy_60 ?_
          obtain ⟨z_22, e_z_22, h⟩ := bi h
          refine roVi (rest := []) ⟨hx, hb, hml, hown, ht⟩ (c_X12_isIn l D cy fu A_m m_at m_names m_status m_top m_bottom m_sort m_trayMany m_trays m_tape m_text m_taped m_size m_token m_from m_end m_value m_faultKind m_faultPlace m_faults m_seen m_toldParts m_opened m_depth m_counted m_bestOrder m_standers m_has m_bestHas m_standerMany m_bestCouples m_bestFondness m_cameTo m_doesStandFirst m_stoodBy m_drawn m_ranSteps m_loops m_ran m_told1 m_isTold m_marks x5 ((x4 - 1) - x6) z_22 e_z_22) (cV ht mv_X12_isIn tb_1598 rfl rfl ⟨Nat.le_of_ble_eq_true rfl, Nat.le_of_ble_eq_true rfl⟩) (P_sub hP.1 [0] rfl) hX rfl rfl rfl hl.1 rfl (Nat.le_of_ble_eq_true rfl) dX12_playedBy_61 ⟨Nat.le_of_ble_eq_true rfl, Nat.le_of_ble_eq_true rfl⟩ ?_
          refine lv_if_ne (tgt := 81) hx hb dX12_playedBy_64 (by decide) (fun c_23 => ?_) (fun c_23 => ?_)
          · have h := ie c_23 h
            obtain ⟨x6_24, e_x6_24⟩ : ∃ y : Int32, y = x6 + 1 := ⟨_, rfl⟩
            have h := bn e_x6_24 h
            refine lv_iinc (v := x6_24) (lv' := [(6, .int x6_24), (8, .int z_19), (7, .int s0), (0, .ref (A_m 0)), (1, .int x1), (2, .int x2), (3, .int x3), (4, .int x4), (5, .int x5)]) hx hb dX12_playedBy_81 hl (k := 8) rfl (by rw [e_x6_24]; rfl) (by decide) rfl (fun ls hl => ?_)
            refine lv_goto (tgt := 10) hx hb dX12_playedBy_84 (by decide) ?_
            exact ih10 m_at x6_24 _ _ hP hS ls (lv_sub hl [3, 4, 5, 6, 7, 8, 0] rfl) h
          · have h := it c_23 h
            refine lv_aload_n hx hb dX12_playedBy_67 rfl (lv_at hl 2 rfl) ?_
            refine lv_iload hx hb dX12_playedBy_68 (lv_at hl 1 rfl) ?_
            refine lv_aload_n hx hb dX12_playedBy_70 rfl (lv_at hl 2 rfl) ?_
            refine lv_iload_n hx hb dX12_playedBy_71 rfl (lv_at hl 5 rfl) ?_
            refine lv_iload hx hb dX12_playedBy_72 (lv_at hl 8 rfl) ?_
            obtain ⟨z_25, e_z_25, h⟩ := bi h
            refine roVi (rest := [.int s0, .ref (A_m 0)]) ⟨hx, hb, hml, hown, ht⟩ (c_X12_sizeAt l D cy fu A_m m_at m_names m_status m_top m_bottom m_sort m_trayMany m_trays m_tape m_text m_taped m_size m_token m_from m_end m_value m_faultKind m_faultPlace m_faults m_seen m_toldParts m_opened m_depth m_counted m_bestOrder m_standers m_has m_bestHas m_standerMany m_bestCouples m_bestFondness m_cameTo m_doesStandFirst m_stoodBy m_drawn m_ranSteps m_loops m_ran m_told1 m_isTold m_marks x3 x6 z_25 e_z_25) (cV ht mv_X12_sizeAt tb_1760 rfl rfl ⟨Nat.le_of_ble_eq_true rfl, Nat.le_of_ble_eq_true rfl⟩) (P_sub hP.1 [0] rfl) hX rfl rfl rfl hl.1 rfl (Nat.le_of_ble_eq_true rfl) dX12_playedBy_74 ⟨Nat.le_of_ble_eq_true rfl, Nat.le_of_ble_eq_true rfl⟩ ?_
            obtain ⟨z_26, e_z_26, h⟩ := bi h
            refine efVi (rest := []) ⟨hx, hb, hml, hown, ht⟩ (c_X12_pins l D cy fu A_m m_at m_names m_status m_top m_bottom m_sort m_trayMany m_trays m_tape m_text m_taped m_size m_token m_from m_end m_value m_faultKind m_faultPlace m_faults m_seen m_toldParts m_opened m_depth m_counted m_bestOrder m_standers m_has m_bestHas m_standerMany m_bestCouples m_bestFondness m_cameTo m_doesStandFirst m_stoodBy m_drawn m_ranSteps m_loops m_ran m_told1 m_isTold m_marks s0 z_25 z_26 e_z_26 _ rfl _ rfl) (cV ht mv_X12_pins tb_1586 rfl rfl ⟨Nat.le_of_ble_eq_true rfl, Nat.le_of_ble_eq_true rfl⟩) hP hS hX [0] rfl rfl rfl rfl rfl rfl hl.1 rfl (Nat.le_of_ble_eq_true rfl) dX12_playedBy_77 ⟨Nat.le_of_ble_eq_true rfl, Nat.le_of_ble_eq_true rfl⟩ (fun H locs hP hS => ?_)
            have hP : PD D A [bl_X12 cy A_m z_26.2 m_names m_status m_top m_bottom m_sort m_trayMany m_trays m_tape m_text m_taped m_size m_token m_from m_end m_value m_faultKind m_faultPlace m_faults m_seen m_toldParts m_opened m_depth m_counted m_bestOrder m_standers m_has m_bestHas m_standerMany m_bestCouples m_bestFondness m_cameTo m_doesStandFirst m_stoodBy m_drawn m_ranSteps m_loops m_ran m_told1 m_isTold m_marks] H := hP
            refine lv_pop hx hb dX12_playedBy_80 rfl ?_
            obtain ⟨x6_27, e_x6_27⟩ : ∃ y : Int32, y = x6 + 1 := ⟨_, rfl⟩
            have h := bn e_x6_27 h
            refine lv_iinc (v := x6_27) (lv' := [(6, .int x6_27), (8, .int z_19), (7, .int s0), (0, .ref (A_m 0)), (1, .int x1), (2, .int x2), (3, .int x3), (4, .int x4), (5, .int x5)]) hx hb dX12_playedBy_81 hl (k := 8) rfl (by rw [e_x6_27]; rfl) (by decide) rfl (fun ls hl => ?_)
            refine lv_goto (tgt := 10) hx hb dX12_playedBy_84 (by decide) ?_
            exact ih10 z_26.2 x6_27 _ _ hP hS ls (lv_sub hl [3, 4, 5, 6, 7, 8, 0] rfl) h
      intro m_at x6 H locs hP hS ls hl h
      have h : f_X12_playedBy_b10 fu m_trays x1 x2 x3 x4 x5 (f_X12_playedBy_l10 fu m_trays x1 x2 x3 x4 x5 n10) m_at x6 = some res := h
      unfold f_X12_playedBy_b10 at h
      refine lv_iload hx hb dX12_playedBy_10 (lv_at hl 6 rfl) ?_
      refine lv_iload hx hb dX12_playedBy_12 (lv_at hl 4 rfl) ?_
      refine lv_icmp_ge (tgt := 87) hx hb dX12_playedBy_14 (by decide) (fun c_28 => ?_) (fun c_28 => ?_)
      · have h := it c_28 h
        refine lv_aload_n hx hb dX12_playedBy_87 rfl (lv_at hl 0 rfl) ?_
        refine lv_iload_n hx hb dX12_playedBy_88 rfl (lv_at hl 1 rfl) ?_
        refine lv_iconst (v := 2) hx hb dX12_playedBy_89 (by decide) ?_
        obtain ⟨z_29, e_z_29, h⟩ := bi h
        refine roVi (rest := []) ⟨hx, hb, hml, hown, ht⟩ (c_X12_manOf l D cy fu A_m m_at m_names m_status m_top m_bottom m_sort m_trayMany m_trays m_tape m_text m_taped m_size m_token m_from m_end m_value m_faultKind m_faultPlace m_faults m_seen m_toldParts m_opened m_depth m_counted m_bestOrder m_standers m_has m_bestHas m_standerMany m_bestCouples m_bestFondness m_cameTo m_doesStandFirst m_stoodBy m_drawn m_ranSteps m_loops m_ran m_told1 m_isTold m_marks x1 2 z_29 e_z_29) (cV ht mv_X12_manOf tb_1535 rfl rfl ⟨Nat.le_of_ble_eq_true rfl, Nat.le_of_ble_eq_true rfl⟩) (P_sub hP.1 [0] rfl) hX rfl rfl rfl hl.1 rfl (Nat.le_of_ble_eq_true rfl) dX12_playedBy_90 ⟨Nat.le_of_ble_eq_true rfl, Nat.le_of_ble_eq_true rfl⟩ ?_
        refine lv_aload_n hx hb dX12_playedBy_93 rfl (lv_at hl 0 rfl) ?_
        refine lv_iload_n hx hb dX12_playedBy_94 rfl (lv_at hl 2 rfl) ?_
        refine lv_iconst (v := 2) hx hb dX12_playedBy_95 (by decide) ?_
        obtain ⟨z_30, e_z_30, h⟩ := bi h
        refine roVi (rest := [.int z_29]) ⟨hx, hb, hml, hown, ht⟩ (c_X12_manOf l D cy fu A_m m_at m_names m_status m_top m_bottom m_sort m_trayMany m_trays m_tape m_text m_taped m_size m_token m_from m_end m_value m_faultKind m_faultPlace m_faults m_seen m_toldParts m_opened m_depth m_counted m_bestOrder m_standers m_has m_bestHas m_standerMany m_bestCouples m_bestFondness m_cameTo m_doesStandFirst m_stoodBy m_drawn m_ranSteps m_loops m_ran m_told1 m_isTold m_marks x2 2 z_30 e_z_30) (cV ht mv_X12_manOf tb_1535 rfl rfl ⟨Nat.le_of_ble_eq_true rfl, Nat.le_of_ble_eq_true rfl⟩) (P_sub hP.1 [0] rfl) hX rfl rfl rfl hl.1 rfl (Nat.le_of_ble_eq_true rfl) dX12_playedBy_96 ⟨Nat.le_of_ble_eq_true rfl, Nat.le_of_ble_eq_true rfl⟩ ?_
        refine lv_isub hx hb dX12_playedBy_99 ?_
        refine lv_topi (fun x6_31 e_x6_31 => ?_)
        have h := bn e_x6_31 h
        refine lv_istore (lv' := [(6, .int x6_31), (0, .ref (A_m 0)), (1, .int x1), (2, .int x2), (3, .int x3), (4, .int x4), (5, .int x5)]) hx hb dX12_playedBy_100 hl (by decide) rfl (fun ls hl => ?_)
        refine lv_aload_n hx hb dX12_playedBy_102 rfl (lv_at hl 1 rfl) ?_
        refine lv_sipush (v := 2928) hx hb dX12_playedBy_103 (by decide) ?_
        obtain ⟨z_32, e_z_32, h⟩ := bi h
        refine efVv (rest := []) ⟨hx, hb, hml, hown, ht⟩ (c_X12_restores l D cy fu A_m m_at m_names m_status m_top m_bottom m_sort m_trayMany m_trays m_tape m_text m_taped m_size m_token m_from m_end m_value m_faultKind m_faultPlace m_faults m_seen m_toldParts m_opened m_depth m_counted m_bestOrder m_standers m_has m_bestHas m_standerMany m_bestCouples m_bestFondness m_cameTo m_doesStandFirst m_stoodBy m_drawn m_ranSteps m_loops m_ran m_told1 m_isTold m_marks 2928 z_32 e_z_32 _ rfl _ rfl) (cV ht mv_X12_restores tb_1764 rfl rfl ⟨Nat.le_of_ble_eq_true rfl, Nat.le_of_ble_eq_true rfl⟩) hP hS hX [0] rfl rfl rfl rfl rfl rfl hl.1 rfl (Nat.le_of_ble_eq_true rfl) dX12_playedBy_106 ⟨Nat.le_of_ble_eq_true rfl, Nat.le_of_ble_eq_true rfl⟩ (fun H locs hP hS => ?_)
        have hP : PD D A [bl_X12 cy A_m z_32 m_names m_status m_top m_bottom m_sort m_trayMany m_trays m_tape m_text m_taped m_size m_token m_from m_end m_value m_faultKind m_faultPlace m_faults m_seen m_toldParts m_opened m_depth m_counted m_bestOrder m_standers m_has m_bestHas m_standerMany m_bestCouples m_bestFondness m_cameTo m_doesStandFirst m_stoodBy m_drawn m_ranSteps m_loops m_ran m_told1 m_isTold m_marks] H := hP
        refine lv_iload hx hb dX12_playedBy_109 (lv_at hl 0 rfl) ?_
        cases h
        subst hW1
        exact W.iret hx hb hr (fun _ ht9 _ => ⟨⟨_, (), rfl, rfl, hPt ht9 hP.1⟩, hS.F ht9⟩) hS.2.2 dX12_playedBy_111
      · have h := ie c_28 h
        refine lv_iload hx hb dX12_playedBy_17 (lv_at hl 6 rfl) ?_
        refine lv_iconst (v := 2) hx hb dX12_playedBy_19 (by decide) ?_
        refine lv_irem hx hb dX12_playedBy_20 (by decide) ?_
        refine lv_if_ne (tgt := 28) hx hb dX12_playedBy_21 (by decide) (fun c_33 => ?_) (fun c_33 => ?_)
        · have h := ie c_33 h
          refine lv_iload_n hx hb dX12_playedBy_28 rfl (lv_at hl 2 rfl) ?_
          exact j29 m_at x6 x2 _ _ hP hS ls (lv_sub hl [0, 1, 2, 3, 4, 5, 6] rfl) h
        · have h := it c_33 h
          refine lv_iload_n hx hb dX12_playedBy_24 rfl (lv_at hl 1 rfl) ?_
          refine lv_goto (tgt := 29) hx hb dX12_playedBy_25 (by decide) ?_
          exact j29 m_at x6 x1 _ _ hP hS ls (lv_sub hl [0, 1, 2, 3, 4, 5, 6] rfl) h
  unfold f_X12_playedBy at h
  refine lv_aload_n hx hb dX12_playedBy_0 rfl (lv_at hl 0 rfl) ?_
  refine lv_sipush (v := 2928) hx hb dX12_playedBy_1 (by decide) ?_
  obtain ⟨z_34, e_z_34, h⟩ := bi h
  refine efVv (rest := []) ⟨hx, hb, hml, hown, ht⟩ (c_X12_keeps l D cy fu A_m m_at m_names m_status m_top m_bottom m_sort m_trayMany m_trays m_tape m_text m_taped m_size m_token m_from m_end m_value m_faultKind m_faultPlace m_faults m_seen m_toldParts m_opened m_depth m_counted m_bestOrder m_standers m_has m_bestHas m_standerMany m_bestCouples m_bestFondness m_cameTo m_doesStandFirst m_stoodBy m_drawn m_ranSteps m_loops m_ran m_told1 m_isTold m_marks 2928 z_34 e_z_34 _ rfl _ rfl) (cV ht mv_X12_keeps tb_1756 rfl rfl ⟨Nat.le_of_ble_eq_true rfl, Nat.le_of_ble_eq_true rfl⟩) hP hS hX [0] rfl rfl rfl rfl rfl rfl hl.1 rfl (Nat.le_of_ble_eq_true rfl) dX12_playedBy_4 ⟨Nat.le_of_ble_eq_true rfl, Nat.le_of_ble_eq_true rfl⟩ (fun H locs hP hS => ?_)
  have hP : PD D A [bl_X12 cy A_m z_34 m_names m_status m_top m_bottom m_sort m_trayMany m_trays m_tape m_text m_taped m_size m_token m_from m_end m_value m_faultKind m_faultPlace m_faults m_seen m_toldParts m_opened m_depth m_counted m_bestOrder m_standers m_has m_bestHas m_standerMany m_bestCouples m_bestFondness m_cameTo m_doesStandFirst m_stoodBy m_drawn m_ranSteps m_loops m_ran m_told1 m_isTold m_marks] H := hP
  refine lv_iconst (v := 0) hx hb dX12_playedBy_7 (by decide) ?_
  refine lv_istore (lv' := [(6, .int 0), (0, .ref (A_m 0)), (1, .int x1), (2, .int x2), (3, .int x3), (4, .int x4), (5, .int x5)]) hx hb dX12_playedBy_8 hl (by decide) rfl (fun ls hl => ?_)
  exact l10 fu z_34 0 _ _ hP hS ls (lv_sub hl [1, 2, 3, 4, 5, 6, 0] rfl) h
theorem dX12_playing_0 : decode cX12_playing 0 = .ok (.iconst 0, 1) := by decide +kernel
theorem dX12_playing_1 : decode cX12_playing 1 = .ok (.istore 5, 2) := by decide +kernel
theorem dX12_playing_3 : decode cX12_playing 3 = .ok (.iload 5, 2) := by decide +kernel
theorem dX12_playing_5 : decode cX12_playing 5 = .ok (.iconst 1, 1) := by decide +kernel
theorem dX12_playing_6 : decode cX12_playing 6 = .ok (.iload 4, 2) := by decide +kernel
theorem dX12_playing_8 : decode cX12_playing 8 = .ok (.ishl, 1) := by decide +kernel
theorem dX12_playing_9 : decode cX12_playing 9 = .ok (.if_icmp .ge 27, 3) := by decide +kernel
theorem dX12_playing_12 : decode cX12_playing 12 = .ok (.aload_n 0, 1) := by decide +kernel
theorem dX12_playing_13 : decode cX12_playing 13 = .ok (.getfield 56, 3) := by decide +kernel
theorem dX12_playing_16 : decode cX12_playing 16 = .ok (.iload 5, 2) := by decide +kernel
theorem dX12_playing_18 : decode cX12_playing 18 = .ok (.aload_n 0, 1) := by decide +kernel
theorem dX12_playing_19 : decode cX12_playing 19 = .ok (.iload_n 1, 1) := by decide +kernel
theorem dX12_playing_20 : decode cX12_playing 20 = .ok (.iload_n 2, 1) := by decide +kernel
theorem dX12_playing_21 : decode cX12_playing 21 = .ok (.iload_n 3, 1) := by decide +kernel
theorem dX12_playing_22 : decode cX12_playing 22 = .ok (.iload 4, 2) := by decide +kernel
theorem dX12_playing_24 : decode cX12_playing 24 = .ok (.iload 5, 2) := by decide +kernel
theorem dX12_playing_26 : decode cX12_playing 26 = .ok (.invokevirtual 404, 3) := by decide +kernel
theorem dX12_playing_29 : decode cX12_playing 29 = .ok (.iastore, 1) := by decide +kernel
theorem dX12_playing_30 : decode cX12_playing 30 = .ok (.iinc 5 1, 3) := by decide +kernel
theorem dX12_playing_33 : decode cX12_playing 33 = .ok (.goto (-30), 3) := by decide +kernel
theorem dX12_playing_36 : decode cX12_playing 36 = .ok (.iload 4, 2) := by decide +kernel
theorem dX12_playing_38 : decode cX12_playing 38 = .ok (.iconst 1, 1) := by decide +kernel
theorem dX12_playing_39 : decode cX12_playing 39 = .ok (.isub, 1) := by decide +kernel
theorem dX12_playing_40 : decode cX12_playing 40 = .ok (.istore 5, 2) := by decide +kernel
theorem dX12_playing_42 : decode cX12_playing 42 = .ok (.iload 5, 2) := by decide +kernel
theorem dX12_playing_44 : decode cX12_playing 44 = .ok (.ifCond .lt 112, 3) := by decide +kernel
theorem dX12_playing_47 : decode cX12_playing 47 = .ok (.iconst 0, 1) := by decide +kernel
theorem dX12_playing_48 : decode cX12_playing 48 = .ok (.istore 6, 2) := by decide +kernel
theorem dX12_playing_50 : decode cX12_playing 50 = .ok (.iload 6, 2) := by decide +kernel
theorem dX12_playing_52 : decode cX12_playing 52 = .ok (.iconst 1, 1) := by decide +kernel
theorem dX12_playing_53 : decode cX12_playing 53 = .ok (.iload 5, 2) := by decide +kernel
theorem dX12_playing_55 : decode cX12_playing 55 = .ok (.ishl, 1) := by decide +kernel
theorem dX12_playing_56 : decode cX12_playing 56 = .ok (.if_icmp .ge 94, 3) := by decide +kernel
theorem dX12_playing_59 : decode cX12_playing 59 = .ok (.aload_n 0, 1) := by decide +kernel
theorem dX12_playing_60 : decode cX12_playing 60 = .ok (.getfield 56, 3) := by decide +kernel
theorem dX12_playing_63 : decode cX12_playing 63 = .ok (.iconst 2, 1) := by decide +kernel
theorem dX12_playing_64 : decode cX12_playing 64 = .ok (.iload 6, 2) := by decide +kernel
theorem dX12_playing_66 : decode cX12_playing 66 = .ok (.imul, 1) := by decide +kernel
theorem dX12_playing_67 : decode cX12_playing 67 = .ok (.iaload, 1) := by decide +kernel
theorem dX12_playing_68 : decode cX12_playing 68 = .ok (.istore 7, 2) := by decide +kernel
theorem dX12_playing_70 : decode cX12_playing 70 = .ok (.aload_n 0, 1) := by decide +kernel
theorem dX12_playing_71 : decode cX12_playing 71 = .ok (.getfield 56, 3) := by decide +kernel
theorem dX12_playing_74 : decode cX12_playing 74 = .ok (.iconst 2, 1) := by decide +kernel
theorem dX12_playing_75 : decode cX12_playing 75 = .ok (.iload 6, 2) := by decide +kernel
theorem dX12_playing_77 : decode cX12_playing 77 = .ok (.imul, 1) := by decide +kernel
theorem dX12_playing_78 : decode cX12_playing 78 = .ok (.iconst 1, 1) := by decide +kernel
theorem dX12_playing_79 : decode cX12_playing 79 = .ok (.iadd, 1) := by decide +kernel
theorem dX12_playing_80 : decode cX12_playing 80 = .ok (.iaload, 1) := by decide +kernel
theorem dX12_playing_81 : decode cX12_playing 81 = .ok (.istore 8, 2) := by decide +kernel
theorem dX12_playing_83 : decode cX12_playing 83 = .ok (.iload 5, 2) := by decide +kernel
theorem dX12_playing_85 : decode cX12_playing 85 = .ok (.iconst 2, 1) := by decide +kernel
theorem dX12_playing_86 : decode cX12_playing 86 = .ok (.irem, 1) := by decide +kernel
theorem dX12_playing_87 : decode cX12_playing 87 = .ok (.ifCond .ne 18, 3) := by decide +kernel
theorem dX12_playing_90 : decode cX12_playing 90 = .ok (.iload 7, 2) := by decide +kernel
theorem dX12_playing_92 : decode cX12_playing 92 = .ok (.iload 8, 2) := by decide +kernel
theorem dX12_playing_94 : decode cX12_playing 94 = .ok (.if_icmp .lt 7, 3) := by decide +kernel
theorem dX12_playing_97 : decode cX12_playing 97 = .ok (.iconst 1, 1) := by decide +kernel
theorem dX12_playing_98 : decode cX12_playing 98 = .ok (.goto 19, 3) := by decide +kernel
theorem dX12_playing_101 : decode cX12_playing 101 = .ok (.iconst 0, 1) := by decide +kernel
theorem dX12_playing_102 : decode cX12_playing 102 = .ok (.goto 15, 3) := by decide +kernel
theorem dX12_playing_105 : decode cX12_playing 105 = .ok (.iload 7, 2) := by decide +kernel
theorem dX12_playing_107 : decode cX12_playing 107 = .ok (.iload 8, 2) := by decide +kernel
theorem dX12_playing_109 : decode cX12_playing 109 = .ok (.if_icmp .gt 7, 3) := by decide +kernel
theorem dX12_playing_112 : decode cX12_playing 112 = .ok (.iconst 1, 1) := by decide +kernel
theorem dX12_playing_113 : decode cX12_playing 113 = .ok (.goto 4, 3) := by decide +kernel
theorem dX12_playing_116 : decode cX12_playing 116 = .ok (.iconst 0, 1) := by decide +kernel
theorem dX12_playing_117 : decode cX12_playing 117 = .ok (.istore 9, 2) := by decide +kernel
theorem dX12_playing_119 : decode cX12_playing 119 = .ok (.aload_n 0, 1) := by decide +kernel
theorem dX12_playing_120 : decode cX12_playing 120 = .ok (.getfield 56, 3) := by decide +kernel
theorem dX12_playing_123 : decode cX12_playing 123 = .ok (.iload 6, 2) := by decide +kernel
theorem dX12_playing_125 : decode cX12_playing 125 = .ok (.iload 9, 2) := by decide +kernel
theorem dX12_playing_127 : decode cX12_playing 127 = .ok (.ifCond .eq 8, 3) := by decide +kernel
theorem dX12_playing_130 : decode cX12_playing 130 = .ok (.iload 7, 2) := by decide +kernel
theorem dX12_playing_132 : decode cX12_playing 132 = .ok (.goto 5, 3) := by decide +kernel
theorem dX12_playing_135 : decode cX12_playing 135 = .ok (.iload 8, 2) := by decide +kernel
theorem dX12_playing_137 : decode cX12_playing 137 = .ok (.iastore, 1) := by decide +kernel
theorem dX12_playing_138 : decode cX12_playing 138 = .ok (.aload_n 0, 1) := by decide +kernel
theorem dX12_playing_139 : decode cX12_playing 139 = .ok (.iload 9, 2) := by decide +kernel
theorem dX12_playing_141 : decode cX12_playing 141 = .ok (.putfield 408, 3) := by decide +kernel
theorem dX12_playing_144 : decode cX12_playing 144 = .ok (.iinc 6 1, 3) := by decide +kernel
theorem dX12_playing_147 : decode cX12_playing 147 = .ok (.goto (-97), 3) := by decide +kernel
theorem dX12_playing_150 : decode cX12_playing 150 = .ok (.iinc 5 (-1), 3) := by decide +kernel
theorem dX12_playing_153 : decode cX12_playing 153 = .ok (.goto (-111), 3) := by decide +kernel
theorem dX12_playing_156 : decode cX12_playing 156 = .ok (.aload_n 0, 1) := by decide +kernel
theorem dX12_playing_157 : decode cX12_playing 157 = .ok (.getfield 56, 3) := by decide +kernel
theorem dX12_playing_160 : decode cX12_playing 160 = .ok (.iconst 0, 1) := by decide +kernel
theorem dX12_playing_161 : decode cX12_playing 161 = .ok (.iaload, 1) := by decide +kernel
theorem dX12_playing_162 : decode cX12_playing 162 = .ok (.ireturn, 1) := by decide +kernel
theorem mv_X12_playing : MV yX12_playing RX12 cX12_playing 10 (some .int) 4 := ⟨tb_1841, tb_1840, ts_108, tb_16, by decide +kernel, by decide +kernel, by decide +kernel⟩
def f_X12_playing_j117 (fu : Nat) (m_trays : Nat → Int64) (x1 : Int32) (x2 : Int32) (x3 : Int32) (x4 : Int32) (k42 : (Nat → Int32) → (Nat → Int32) → Int32 → Int32 → (Option (Int32 × (Nat → Int32) × (Nat → Int32) × Int32))) (k50 : (Nat → Int32) → (Nat → Int32) → Int32 → Int32 → Int32 → (Option (Int32 × (Nat → Int32) × (Nat → Int32) × Int32))) (m_at : Nat → Int32) (m_cameTo : Nat → Int32) (m_doesStandFirst : Int32) (x5 : Int32) (x6 : Int32) (x7 : Int32) (x8 : Int32) (s0 : Int32) : Option (Int32 × (Nat → Int32) × (Nat → Int32) × Int32) := (if s0 = 0 then (wrI m_cameTo 16 x6 x8).bind fun m_cameTo_23 => (bz s0).bind fun _ => bnd (x6 + 1) fun x6_25 => k50 m_at m_cameTo_23 s0 x5 x6_25 else (wrI m_cameTo 16 x6 x7).bind fun m_cameTo_26 => (bz s0).bind fun _ => bnd (x6 + 1) fun x6_28 => k50 m_at m_cameTo_26 s0 x5 x6_28)
def f_X12_playing_b50 (fu : Nat) (m_trays : Nat → Int64) (x1 : Int32) (x2 : Int32) (x3 : Int32) (x4 : Int32) (k42 : (Nat → Int32) → (Nat → Int32) → Int32 → Int32 → (Option (Int32 × (Nat → Int32) × (Nat → Int32) × Int32))) (k50 : (Nat → Int32) → (Nat → Int32) → Int32 → Int32 → Int32 → (Option (Int32 × (Nat → Int32) × (Nat → Int32) × Int32))) (m_at : Nat → Int32) (m_cameTo : Nat → Int32) (m_doesStandFirst : Int32) (x5 : Int32) (x6 : Int32) : Option (Int32 × (Nat → Int32) × (Nat → Int32) × Int32) := (if ((1 : Int32) <<< (x5 &&& 31)) ≤ x6 then bnd (x5 + (-1)) fun x5_30 => k42 m_at m_cameTo m_doesStandFirst x5_30 else (rdI m_cameTo 16 (2 * x6)).bind fun y_31 => (rdI m_cameTo 16 ((2 * x6) + 1)).bind fun y_32 => (if (x5 - x5 / 2 * 2) = 0 then (if y_31 < y_32 then f_X12_playing_j117 fu m_trays x1 x2 x3 x4 k42 k50 m_at m_cameTo m_doesStandFirst x5 x6 y_31 y_32 0 else f_X12_playing_j117 fu m_trays x1 x2 x3 x4 k42 k50 m_at m_cameTo m_doesStandFirst x5 x6 y_31 y_32 1) else (if y_32 < y_31 then f_X12_playing_j117 fu m_trays x1 x2 x3 x4 k42 k50 m_at m_cameTo m_doesStandFirst x5 x6 y_31 y_32 0 else f_X12_playing_j117 fu m_trays x1 x2 x3 x4 k42 k50 m_at m_cameTo m_doesStandFirst x5 x6 y_31 y_32 1)))
def f_X12_playing_l50 (fu : Nat) (m_trays : Nat → Int64) (x1 : Int32) (x2 : Int32) (x3 : Int32) (x4 : Int32) (k42 : (Nat → Int32) → (Nat → Int32) → Int32 → Int32 → (Option (Int32 × (Nat → Int32) × (Nat → Int32) × Int32))) : Nat → (Nat → Int32) → (Nat → Int32) → Int32 → Int32 → Int32 → (Option (Int32 × (Nat → Int32) × (Nat → Int32) × Int32))
  | 0, _, _, _, _, _ => none
  | n + 1, m_at, m_cameTo, m_doesStandFirst, x5, x6 => f_X12_playing_b50 fu m_trays x1 x2 x3 x4 k42 (f_X12_playing_l50 fu m_trays x1 x2 x3 x4 k42 n) m_at m_cameTo m_doesStandFirst x5 x6
def f_X12_playing_b42 (fu : Nat) (m_trays : Nat → Int64) (x1 : Int32) (x2 : Int32) (x3 : Int32) (x4 : Int32) (k42 : (Nat → Int32) → (Nat → Int32) → Int32 → Int32 → (Option (Int32 × (Nat → Int32) × (Nat → Int32) × Int32))) (m_at : Nat → Int32) (m_cameTo : Nat → Int32) (m_doesStandFirst : Int32) (x5 : Int32) : Option (Int32 × (Nat → Int32) × (Nat → Int32) × Int32) := (if x5 < 0 then (rdI m_cameTo 16 0).bind fun y_37 => some (y_37, m_at, m_cameTo, m_doesStandFirst) else f_X12_playing_l50 fu m_trays x1 x2 x3 x4 k42 fu m_at m_cameTo m_doesStandFirst x5 0)
def f_X12_playing_l42 (fu : Nat) (m_trays : Nat → Int64) (x1 : Int32) (x2 : Int32) (x3 : Int32) (x4 : Int32) : Nat → (Nat → Int32) → (Nat → Int32) → Int32 → Int32 → (Option (Int32 × (Nat → Int32) × (Nat → Int32) × Int32))
  | 0, _, _, _, _ => none
  | n + 1, m_at, m_cameTo, m_doesStandFirst, x5 => f_X12_playing_b42 fu m_trays x1 x2 x3 x4 (f_X12_playing_l42 fu m_trays x1 x2 x3 x4 n) m_at m_cameTo m_doesStandFirst x5
def f_X12_playing_b3 (fu : Nat) (m_trays : Nat → Int64) (x1 : Int32) (x2 : Int32) (x3 : Int32) (x4 : Int32) (k3 : (Nat → Int32) → (Nat → Int32) → Int32 → Int32 → (Option (Int32 × (Nat → Int32) × (Nat → Int32) × Int32))) (m_at : Nat → Int32) (m_cameTo : Nat → Int32) (m_doesStandFirst : Int32) (x5 : Int32) : Option (Int32 × (Nat → Int32) × (Nat → Int32) × Int32) := (if ((1 : Int32) <<< (x4 &&& 31)) ≤ x5 then bnd (x4 - 1) fun x5_39 => f_X12_playing_l42 fu m_trays x1 x2 x3 x4 fu m_at m_cameTo m_doesStandFirst x5_39 else (f_X12_playedBy fu m_at m_trays x1 x2 x3 x4 x5).bind fun z_40 => (wrI m_cameTo 16 x5 z_40.1).bind fun m_cameTo_41 => bnd (x5 + 1) fun x5_42 => k3 z_40.2 m_cameTo_41 m_doesStandFirst x5_42)
def f_X12_playing_l3 (fu : Nat) (m_trays : Nat → Int64) (x1 : Int32) (x2 : Int32) (x3 : Int32) (x4 : Int32) : Nat → (Nat → Int32) → (Nat → Int32) → Int32 → Int32 → (Option (Int32 × (Nat → Int32) × (Nat → Int32) × Int32))
  | 0, _, _, _, _ => none
  | n + 1, m_at, m_cameTo, m_doesStandFirst, x5 => f_X12_playing_b3 fu m_trays x1 x2 x3 x4 (f_X12_playing_l3 fu m_trays x1 x2 x3 x4 n) m_at m_cameTo m_doesStandFirst x5
def f_X12_playing (fu : Nat) (m_at : Nat → Int32) (m_trays : Nat → Int64) (m_cameTo : Nat → Int32) (m_doesStandFirst : Int32) (x1 : Int32) (x2 : Int32) (x3 : Int32) (x4 : Int32) : Option (Int32 × (Nat → Int32) × (Nat → Int32) × Int32) := f_X12_playing_l3 fu m_trays x1 x2 x3 x4 fu m_at m_cameTo m_doesStandFirst 0
abbrev rm_X12_playing : Room := { frames := 8, cells := 0, slots := 0, locals := 191 }
set_option maxHeartbeats 4000000 in
set_option maxRecDepth 100000 in
theorem c_X12_playing (l : Launch) (D : va_G) (cy : Nat → ClassId) (fu : Nat) (A_m : Nat → Nat) (m_at : Nat → Int32) (m_names : Nat → Int64) (m_status : Int32) (m_top : Int64) (m_bottom : Int64) (m_sort : Nat → Int32) (m_trayMany : Nat → Int32) (m_trays : Nat → Int64) (m_tape : Nat → Int32) (m_text : Nat → Int32) (m_taped : Int32) (m_size : Int32) (m_token : Int32) (m_from : Int32) (m_end : Int32) (m_value : Int32) (m_faultKind : Int32) (m_faultPlace : Int32) (m_faults : Int32) (m_seen : Int32) (m_toldParts : Int32) (m_opened : Nat → Int32) (m_depth : Int32) (m_counted : Int32) (m_bestOrder : Int32) (m_standers : Nat → Int32) (m_has : Nat → Int32) (m_bestHas : Nat → Int32) (m_standerMany : Int32) (m_bestCouples : Int32) (m_bestFondness : Int32) (m_cameTo : Nat → Int32) (m_doesStandFirst : Int32) (m_stoodBy : Nat → Int64) (m_drawn : Int32) (m_ranSteps : Int32) (m_loops : Nat → Int32) (m_ran : Nat → Int32) (m_told1 : Nat → Int32) (m_isTold : Int32) (m_marks : Int32) (x1 : Int32) (x2 : Int32) (x3 : Int32) (x4 : Int32) (res : Int32 × (Nat → Int32) × (Nat → Int32) × Int32) (h : f_X12_playing fu m_at m_trays m_cameTo m_doesStandFirst x1 x2 x3 x4 = some res) (A : Nat → Prop) (hA : A = adr [bl_X12 cy A_m m_at m_names m_status m_top m_bottom m_sort m_trayMany m_trays m_tape m_text m_taped m_size m_token m_from m_end m_value m_faultKind m_faultPlace m_faults m_seen m_toldParts m_opened m_depth m_counted m_bestOrder m_standers m_has m_bestHas m_standerMany m_bestCouples m_bestFondness m_cameTo m_doesStandFirst m_stoodBy m_drawn m_ranSteps m_loops m_ran m_told1 m_isTold m_marks]) (W1 : List va_W) (hW1 : W1 = [bl_X12 cy A_m res.2.1 m_names m_status m_top m_bottom m_sort m_trayMany m_trays m_tape m_text m_taped m_size m_token m_from m_end m_value m_faultKind m_faultPlace m_faults m_seen m_toldParts m_opened m_depth m_counted m_bestOrder m_standers m_has m_bestHas m_standerMany m_bestCouples m_bestFondness res.2.2.1 res.2.2.2 m_stoodBy m_drawn m_ranSteps m_loops m_ran m_told1 m_isTold m_marks]) : Met l yX12_playing (WW yX12_playing cX12_playing 10 (some .int)) rm_X12_playing (Ed D cy [.ref (A_m 0), .int x1, .int x2, .int x3, .int x4] [bl_X12 cy A_m m_at m_names m_status m_top m_bottom m_sort m_trayMany m_trays m_tape m_text m_taped m_size m_token m_from m_end m_value m_faultKind m_faultPlace m_faults m_seen m_toldParts m_opened m_depth m_counted m_bestOrder m_standers m_has m_bestHas m_standerMany m_bestCouples m_bestFondness m_cameTo m_doesStandFirst m_stoodBy m_drawn m_ranSteps m_loops m_ran m_told1 m_isTold m_marks]) (Qei D res.1 A W1) 0 0 A := by
  refine Met.ofW (cc := cX12_playing) (maxL := 10) (ret := (some .int)) (by decide) rfl ?_
  intro p e s m args below meth c s₁ B hml hv
  obtain ⟨hargs, hP, hX, hD0⟩ := hv
  have hx := B.exec
  have hb := B.bytes
  have hr := B.returns
  have ht : ∀ w ∈ lw_gd, w.before args s = true := fun w hw => atoms_spec (ws := WW yX12_playing cX12_playing 10 (some .int)) B.pre w (List.mem_cons_of_mem _ hw)
  have hown : s.vm.findClass RX12 = some m.cls := findClass_of_methodNamed B.named
  have hlocks := B.notSynchronized
  have hP : PD D A [bl_X12 cy A_m m_at m_names m_status m_top m_bottom m_sort m_trayMany m_trays m_tape m_text m_taped m_size m_token m_from m_end m_value m_faultKind m_faultPlace m_faults m_seen m_toldParts m_opened m_depth m_counted m_bestOrder m_standers m_has m_bestHas m_standerMany m_bestCouples m_bestFondness m_cameTo m_doesStandFirst m_stoodBy m_drawn m_ranSteps m_loops m_ran m_told1 m_isTold m_marks] s.heap := ⟨hP, by rw [hA]; exact hD0.own⟩
  have hS : va_S A s.heap s.heap [] := va_S.rf
  obtain ⟨ls, hl, hent⟩ := ent (m := m) (n := 10) hargs (Nat.le_of_ble_eq_true rfl) (lv := [(0, .ref (A_m 0)), (1, .int x1), (2, .int x2), (3, .int x3), (4, .int x4)]) rfl
  rw [hent]
  clear hent
  have l42 : ∀ (n42 : Nat) (m_at : Nat → Int32) (m_cameTo : Nat → Int32) (m_doesStandFirst : Int32) (x5 : Int32) (H : Heap) (locs : List Loc) (_ : PD D A [bl_X12 cy A_m m_at m_names m_status m_top m_bottom m_sort m_trayMany m_trays m_tape m_text m_taped m_size m_token m_from m_end m_value m_faultKind m_faultPlace m_faults m_seen m_toldParts m_opened m_depth m_counted m_bestOrder m_standers m_has m_bestHas m_standerMany m_bestCouples m_bestFondness m_cameTo m_doesStandFirst m_stoodBy m_drawn m_ranSteps m_loops m_ran m_told1 m_isTold m_marks] H) (_ : va_S A s.heap H locs) (ls : Array Slot), lv_has ls 10 [(0, .ref (A_m 0)), (5, .int x5)] → f_X12_playing_l42 fu m_trays x1 x2 x3 x4 n42 m_at m_cameTo m_doesStandFirst x5 = some res → W p l e (headSpec (WW yX12_playing cX12_playing 10 (some .int)) rm_X12_playing).room s m args below meth c H locs 0 0 (MQ below (Qei D res.1 A W1) args s 0 0 A) (F0 m 42 ls []) := by
    intro n42
    induction n42 with
    | zero => intro m_at m_cameTo m_doesStandFirst x5 H locs hP hS ls hl h; cases h
    | succ n42 ih42 =>
      have l50 : ∀ (n50 : Nat) (m_at : Nat → Int32) (m_cameTo : Nat → Int32) (m_doesStandFirst : Int32) (x5 : Int32) (x6 : Int32) (H : Heap) (locs : List Loc) (_ : PD D A [bl_X12 cy A_m m_at m_names m_status m_top m_bottom m_sort m_trayMany m_trays m_tape m_text m_taped m_size m_token m_from m_end m_value m_faultKind m_faultPlace m_faults m_seen m_toldParts m_opened m_depth m_counted m_bestOrder m_standers m_has m_bestHas m_standerMany m_bestCouples m_bestFondness m_cameTo m_doesStandFirst m_stoodBy m_drawn m_ranSteps m_loops m_ran m_told1 m_isTold m_marks] H) (_ : va_S A s.heap H locs) (ls : Array Slot), lv_has ls 10 [(0, .ref (A_m 0)), (5, .int x5), (6, .int x6)] → f_X12_playing_l50 fu m_trays x1 x2 x3 x4 (f_X12_playing_l42 fu m_trays x1 x2 x3 x4 n42) n50 m_at m_cameTo m_doesStandFirst x5 x6 = some res → W p l e (headSpec (WW yX12_playing cX12_playing 10 (some .int)) rm_X12_playing).room s m args below meth c H locs 0 0 (MQ below (Qei D res.1 A W1) args s 0 0 A) (F0 m 50 ls []) := by
        intro n50
        induction n50 with
        | zero => intro m_at m_cameTo m_doesStandFirst x5 x6 H locs hP hS ls hl h; cases h
        | succ n50 ih50 =>
          have j117 : ∀ (m_at : Nat → Int32) (m_cameTo : Nat → Int32) (m_doesStandFirst : Int32) (x5 : Int32) (x6 : Int32) (x7 : Int32) (x8 : Int32) (s0 : Int32) (H : Heap) (locs : List Loc) (_ : PD D A [bl_X12 cy A_m m_at m_names m_status m_top m_bottom m_sort m_trayMany m_trays m_tape m_text m_taped m_size m_token m_from m_end m_value m_faultKind m_faultPlace m_faults m_seen m_toldParts m_opened m_depth m_counted m_bestOrder m_standers m_has m_bestHas m_standerMany m_bestCouples m_bestFondness m_cameTo m_doesStandFirst m_stoodBy m_drawn m_ranSteps m_loops m_ran m_told1 m_isTold m_marks] H) (_ : va_S A s.heap H locs) (ls : Array Slot), lv_has ls 10 [(0, .ref (A_m 0)), (5, .int x5), (6, .int x6), (7, .int x7), (8, .int x8)] → f_X12_playing_j117 fu m_trays x1 x2 x3 x4 (f_X12_playing_l42 fu m_trays x1 x2 x3 x4 n42) (f_X12_playing_l50 fu m_trays x1 x2 x3 x4 (f_X12_playing_l42 fu m_trays x1 x2 x3 x4 n42) n50) m_at m_cameTo m_doesStandFirst x5 x6 x7 x8 s0 = some res → W p l e (headSpec (WW yX12_playing cX12_playing 10 (some .int)) rm_X12_playing).room s m args below meth c H locs 0 0 (MQ below (Qei D res.1 A W1) args s 0 0 A) (F0 m 117 ls [.int s0]) := by
            intro m_at m_cameTo m_doesStandFirst x5 x6 x7 x8 s0 H locs hP hS ls hl h
            unfold f_X12_playing_j117 at h
            refine lv_istore (lv' := [(9, .int s0), (0, .ref (A_m 0)), (5, .int x5), (6, .int x6), (7, .int x7), (8, .int x8)]) hx hb dX12_playing_117 hl (by decide) rfl (fun ls hl => ?_)
            refine lv_aload_n hx hb dX12_playing_119 rfl (lv_at hl 1 rfl) ?_
            refine xget (i := 0) (j := 0) (k := 31) (T := TX12) hx hb ht tb_iX12 hown hX hP.1 rfl rfl rfl (by decide) tb_1260 rfl dX12_playing_120 ?_
            refine lv_iload hx hb dX12_playing_123 (lv_at hl 3 rfl) ?_
            refine lv_iload hx hb dX12_playing_125 (lv_at hl 0 rfl) ?_
            refine lv_if_eq (tgt := 135) hx hb dX12_playing_127 (by decide) (fun c_22 => ?_) (fun c_22 => ?_)
            · have h := it c_22 h
              refine lv_iload hx hb dX12_playing_135 (lv_at hl 5 rfl) ?_
              obtain ⟨m_cameTo_23, e_m_cameTo_23, h⟩ := bi h
              refine xiast (i0 := 0) (j0 := 12) hx hb hX hP hS rfl rfl e_m_cameTo_23 dX12_playing_137 (fun H locs hP hS => ?_)
              have hP : PD D A [bl_X12 cy A_m m_at m_names m_status m_top m_bottom m_sort m_trayMany m_trays m_tape m_text m_taped m_size m_token m_from m_end m_value m_faultKind m_faultPlace m_faults m_seen m_toldParts m_opened m_depth m_counted m_bestOrder m_standers m_has m_bestHas m_standerMany m_bestCouples m_bestFondness m_cameTo_23 m_doesStandFirst m_stoodBy m_drawn m_ranSteps m_loops m_ran m_told1 m_isTold m_marks] H := hP
              refine lv_aload_n hx hb dX12_playing_138 rfl (lv_at hl 1 rfl) ?_
              refine lv_iload hx hb dX12_playing_139 (lv_at hl 0 rfl) ?_
              obtain ⟨b_24, e_b_24, h⟩ := bi h
              obtain ⟨-, n_b_24, f_b_24⟩ := bz_ok e_b_24
              refine xput (i := 0) (j := 0) (k := 32) (T := TX12) tyX12 tyX12_ok nmX12 hx hb ht tb_iX12 hown hX hP hS rfl rfl rfl (by decide) tb_1261 rfl n_b_24 f_b_24 (Nat.le_of_ble_eq_true rfl) dX12_playing_141 (fun H locs hP hS => ?_)
              have hP : PD D A [bl_X12 cy A_m m_at m_names m_status m_top m_bottom m_sort m_trayMany m_trays m_tape m_text m_taped m_size m_token m_from m_end m_value m_faultKind m_faultPlace m_faults m_seen m_toldParts m_opened m_depth m_counted m_bestOrder m_standers m_has m_bestHas m_standerMany m_bestCouples m_bestFondness m_cameTo_23 s0 m_stoodBy m_drawn m_ranSteps m_loops m_ran m_told1 m_isTold m_marks] H := hP
              obtain ⟨x6_25, e_x6_25⟩ : ∃ y : Int32, y = x6 + 1 := ⟨_, rfl⟩
              have h := bn e_x6_25 h
              refine lv_iinc (v := x6_25) (lv' := [(6, .int x6_25), (9, .int s0), (0, .ref (A_m 0)), (5, .int x5), (7, .int x7), (8, .int x8)]) hx hb dX12_playing_144 hl (k := 3) rfl (by rw [e_x6_25]; rfl) (by decide) rfl (fun ls hl => ?_)
              refine lv_goto (tgt := 50) hx hb dX12_playing_147 (by decide) ?_
              exact ih50 m_at m_cameTo_23 s0 x5 x6_25 _ _ hP hS ls (lv_sub hl [2, 3, 0] rfl) h
            · have h := ie c_22 h
              refine lv_iload hx hb dX12_playing_130 (lv_at hl 4 rfl) ?_
              refine lv_goto (tgt := 137) hx hb dX12_playing_132 (by decide) ?_
              obtain ⟨m_cameTo_26, e_m_cameTo_26, h⟩ := bi h
              refine xiast (i0 := 0) (j0 := 12) hx hb hX hP hS rfl rfl e_m_cameTo_26 dX12_playing_137 (fun H locs hP hS => ?_)
              have hP : PD D A [bl_X12 cy A_m m_at m_names m_status m_top m_bottom m_sort m_trayMany m_trays m_tape m_text m_taped m_size m_token m_from m_end m_value m_faultKind m_faultPlace m_faults m_seen m_toldParts m_opened m_depth m_counted m_bestOrder m_standers m_has m_bestHas m_standerMany m_bestCouples m_bestFondness m_cameTo_26 m_doesStandFirst m_stoodBy m_drawn m_ranSteps m_loops m_ran m_told1 m_isTold m_marks] H := hP
              refine lv_aload_n hx hb dX12_playing_138 rfl (lv_at hl 1 rfl) ?_
              refine lv_iload hx hb dX12_playing_139 (lv_at hl 0 rfl) ?_
              obtain ⟨b_27, e_b_27, h⟩ := bi h
              obtain ⟨-, n_b_27, f_b_27⟩ := bz_ok e_b_27
              refine xput (i := 0) (j := 0) (k := 32) (T := TX12) tyX12 tyX12_ok nmX12 hx hb ht tb_iX12 hown hX hP hS rfl rfl rfl (by decide) tb_1261 rfl n_b_27 f_b_27 (Nat.le_of_ble_eq_true rfl) dX12_playing_141 (fun H locs hP hS => ?_)
              have hP : PD D A [bl_X12 cy A_m m_at m_names m_status m_top m_bottom m_sort m_trayMany m_trays m_tape m_text m_taped m_size m_token m_from m_end m_value m_faultKind m_faultPlace m_faults m_seen m_toldParts m_opened m_depth m_counted m_bestOrder m_standers m_has m_bestHas m_standerMany m_bestCouples m_bestFondness m_cameTo_26 s0 m_stoodBy m_drawn m_ranSteps m_loops m_ran m_told1 m_isTold m_marks] H := hP
              obtain ⟨x6_28, e_x6_28⟩ : ∃ y : Int32, y = x6 + 1 := ⟨_, rfl⟩
              have h := bn e_x6_28 h
              refine lv_iinc (v := x6_28) (lv' := [(6, .int x6_28), (9, .int s0), (0, .ref (A_m 0)), (5, .int x5), (7, .int x7), (8, .int x8)]) hx hb dX12_playing_144 hl (k := 3) rfl (by rw [e_x6_28]; rfl) (by decide) rfl (fun ls hl => ?_)
              refine lv_goto (tgt := 50) hx hb dX12_playing_147 (by decide) ?_
              exact ih50 m_at m_cameTo_26 s0 x5 x6_28 _ _ hP hS ls (lv_sub hl [2, 3, 0] rfl) h
          intro m_at m_cameTo m_doesStandFirst x5 x6 H locs hP hS ls hl h
          have h : f_X12_playing_b50 fu m_trays x1 x2 x3 x4 (f_X12_playing_l42 fu m_trays x1 x2 x3 x4 n42) (f_X12_playing_l50 fu m_trays x1 x2 x3 x4 (f_X12_playing_l42 fu m_trays x1 x2 x3 x4 n42) n50) m_at m_cameTo m_doesStandFirst x5 x6 = some res := h
          unfold f_X12_playing_b50 at h
          refine lv_iload hx hb dX12_playing_50 (lv_at hl 2 rfl) ?_
          refine lv_iconst (v := 1) hx hb dX12_playing_52 (by decide) ?_
          refine lv_iload hx hb dX12_playing_53 (lv_at hl 1 rfl) ?_
          refine lv_ishl hx hb dX12_playing_55 ?_
          refine lv_icmp_ge (tgt := 150) hx hb dX12_playing_56 (by decide) (fun c_29 => ?_) (fun c_29 => ?_)
          · have h := it c_29 h
            obtain ⟨x5_30, e_x5_30⟩ : ∃ y : Int32, y = x5 + (-1) := ⟨_, rfl⟩
            have h := bn e_x5_30 h
            refine lv_iinc (v := x5_30) (lv' := [(5, .int x5_30), (0, .ref (A_m 0)), (6, .int x6)]) hx hb dX12_playing_150 hl (k := 1) rfl (by rw [e_x5_30]; rfl) (by decide) rfl (fun ls hl => ?_)
            refine lv_goto (tgt := 42) hx hb dX12_playing_153 (by decide) ?_
            exact ih42 m_at m_cameTo m_doesStandFirst x5_30 _ _ hP hS ls (lv_sub hl [1, 0] rfl) h
          · have h := ie c_29 h
            refine lv_aload_n hx hb dX12_playing_59 rfl (lv_at hl 0 rfl) ?_
            refine xget (i := 0) (j := 0) (k := 31) (T := TX12) hx hb ht tb_iX12 hown hX hP.1 rfl rfl rfl (by decide) tb_1260 rfl dX12_playing_60 ?_
            refine lv_iconst (v := 2) hx hb dX12_playing_63 (by decide) ?_
            refine lv_iload hx hb dX12_playing_64 (lv_at hl 2 rfl) ?_
            refine lv_imul hx hb dX12_playing_66 ?_
            obtain ⟨y_31, e_y_31, h⟩ := bi h
            refine xiald (i0 := 0) (j0 := 12) hx hb hX hP.1 rfl rfl e_y_31 dX12_playing_67 ?_
            refine lv_istore (lv' := [(7, .int y_31), (0, .ref (A_m 0)), (5, .int x5), (6, .int x6)]) hx hb dX12_playing_68 hl (by decide) rfl (fun ls hl => ?_)
            refine lv_aload_n hx hb dX12_playing_70 rfl (lv_at hl 1 rfl) ?_
            refine xget (i := 0) (j := 0) (k := 31) (T := TX12) hx hb ht tb_iX12 hown hX hP.1 rfl rfl rfl (by decide) tb_1260 rfl dX12_playing_71 ?_
            refine lv_iconst (v := 2) hx hb dX12_playing_74 (by decide) ?_
            refine lv_iload hx hb dX12_playing_75 (lv_at hl 3 rfl) ?_
            refine lv_imul hx hb dX12_playing_77 ?_
            refine lv_iconst (v := 1) hx hb dX12_playing_78 (by decide) ?_
            refine lv_iadd hx hb dX12_playing_79 ?_
            obtain ⟨y_32, e_y_32, h⟩ := bi h
            refine xiald (i0 := 0) (j0 := 12) hx hb hX hP.1 rfl rfl e_y_32 dX12_playing_80 ?_
            refine lv_istore (lv' := [(8, .int y_32), (7, .int y_31), (0, .ref (A_m 0)), (5, .int x5), (6, .int x6)]) hx hb dX12_playing_81 hl (by decide) rfl (fun ls hl => ?_)
            refine lv_iload hx hb dX12_playing_83 (lv_at hl 3 rfl) ?_
            refine lv_iconst (v := 2) hx hb dX12_playing_85 (by decide) ?_
            refine lv_irem hx hb dX12_playing_86 (by decide) ?_
            refine lv_if_ne (tgt := 105) hx hb dX12_playing_87 (by decide) (fun c_33 => ?_) (fun c_33 => ?_)
            · have h := ie c_33 h
              refine lv_iload hx hb dX12_playing_105 (lv_at hl 1 rfl) ?_
              refine lv_iload hx hb dX12_playing_107 (lv_at hl 0 rfl) ?_
              refine lv_icmp_gt (tgt := 116) hx hb dX12_playing_109 (by decide) (fun c_34 => ?_) (fun c_34 => ?_)
              · have h := it c_34 h
                refine lv_iconst (v := 0) hx hb dX12_playing_116 (by decide) ?_
                exact j117 m_at m_cameTo m_doesStandFirst x5 x6 y_31 y_32 0 _ _ hP hS ls (lv_sub hl [2, 3, 4, 1, 0] rfl) h
              · have h := ie c_34 h
                refine lv_iconst (v := 1) hx hb dX12_playing_112 (by decide) ?_
                refine lv_goto (tgt := 117) hx hb dX12_playing_113 (by decide) ?_
                exact j117 m_at m_cameTo m_doesStandFirst x5 x6 y_31 y_32 1 _ _ hP hS ls (lv_sub hl [2, 3, 4, 1, 0] rfl) h
            · have h := it c_33 h
              refine lv_iload hx hb dX12_playing_90 (lv_at hl 1 rfl) ?_
              refine lv_iload hx hb dX12_playing_92 (lv_at hl 0 rfl) ?_
              refine lv_icmp_lt (tgt := 101) hx hb dX12_playing_94 (by decide) (fun c_35 => ?_) (fun c_35 => ?_)
              · have h := it c_35 h
                refine lv_iconst (v := 0) hx hb dX12_playing_101 (by decide) ?_
                refine lv_goto (tgt := 117) hx hb dX12_playing_102 (by decide) ?_
                exact j117 m_at m_cameTo m_doesStandFirst x5 x6 y_31 y_32 0 _ _ hP hS ls (lv_sub hl [2, 3, 4, 1, 0] rfl) h
              · have h := ie c_35 h
                refine lv_iconst (v := 1) hx hb dX12_playing_97 (by decide) ?_
                refine lv_goto (tgt := 117) hx hb dX12_playing_98 (by decide) ?_
                exact j117 m_at m_cameTo m_doesStandFirst x5 x6 y_31 y_32 1 _ _ hP hS ls (lv_sub hl [2, 3, 4, 1, 0] rfl) h
      intro m_at m_cameTo m_doesStandFirst x5 H locs hP hS ls hl h
      have h : f_X12_playing_b42 fu m_trays x1 x2 x3 x4 (f_X12_playing_l42 fu m_trays x1 x2 x3 x4 n42) m_at m_cameTo m_doesStandFirst x5 = some res := h
      unfold f_X12_playing_b42 at h
      refine lv_iload hx hb dX12_playing_42 (lv_at hl 1 rfl) ?_
      refine lv_if_lt (tgt := 156) hx hb dX12_playing_44 (by decide) (fun c_36 => ?_) (fun c_36 => ?_)
      · have h := it c_36 h
        refine lv_aload_n hx hb dX12_playing_156 rfl (lv_at hl 0 rfl) ?_
        refine xget (i := 0) (j := 0) (k := 31) (T := TX12) hx hb ht tb_iX12 hown hX hP.1 rfl rfl rfl (by decide) tb_1260 rfl dX12_playing_157 ?_
        refine lv_iconst (v := 0) hx hb dX12_playing_160 (by decide) ?_
        obtain ⟨y_37, e_y_37, h⟩ := bi h
        refine xiald (i0 := 0) (j0 := 12) hx hb hX hP.1 rfl rfl e_y_37 dX12_playing_161 ?_
        cases h
        subst hW1
        exact W.iret hx hb hr (fun _ ht9 _ => ⟨⟨_, (), rfl, rfl, hPt ht9 hP.1⟩, hS.F ht9⟩) hS.2.2 dX12_playing_162
      · have h := ie c_36 h
        refine lv_iconst (v := 0) hx hb dX12_playing_47 (by decide) ?_
        refine lv_istore (lv' := [(6, .int 0), (0, .ref (A_m 0)), (5, .int x5)]) hx hb dX12_playing_48 hl (by decide) rfl (fun ls hl => ?_)
        exact l50 fu m_at m_cameTo m_doesStandFirst x5 0 _ _ hP hS ls (lv_sub hl [1, 2, 0] rfl) h
  have l3 : ∀ (n3 : Nat) (m_at : Nat → Int32) (m_cameTo : Nat → Int32) (m_doesStandFirst : Int32) (x5 : Int32) (H : Heap) (locs : List Loc) (_ : PD D A [bl_X12 cy A_m m_at m_names m_status m_top m_bottom m_sort m_trayMany m_trays m_tape m_text m_taped m_size m_token m_from m_end m_value m_faultKind m_faultPlace m_faults m_seen m_toldParts m_opened m_depth m_counted m_bestOrder m_standers m_has m_bestHas m_standerMany m_bestCouples m_bestFondness m_cameTo m_doesStandFirst m_stoodBy m_drawn m_ranSteps m_loops m_ran m_told1 m_isTold m_marks] H) (_ : va_S A s.heap H locs) (ls : Array Slot), lv_has ls 10 [(0, .ref (A_m 0)), (1, .int x1), (2, .int x2), (3, .int x3), (4, .int x4), (5, .int x5)] → f_X12_playing_l3 fu m_trays x1 x2 x3 x4 n3 m_at m_cameTo m_doesStandFirst x5 = some res → W p l e (headSpec (WW yX12_playing cX12_playing 10 (some .int)) rm_X12_playing).room s m args below meth c H locs 0 0 (MQ below (Qei D res.1 A W1) args s 0 0 A) (F0 m 3 ls []) := by
    intro n3
    induction n3 with
    | zero => intro m_at m_cameTo m_doesStandFirst x5 H locs hP hS ls hl h; cases h
    | succ n3 ih3 =>
      intro m_at m_cameTo m_doesStandFirst x5 H locs hP hS ls hl h
      have h : f_X12_playing_b3 fu m_trays x1 x2 x3 x4 (f_X12_playing_l3 fu m_trays x1 x2 x3 x4 n3) m_at m_cameTo m_doesStandFirst x5 = some res := h
      unfold f_X12_playing_b3 at h
      refine lv_iload hx hb dX12_playing_3 (lv_at hl 5 rfl) ?_
      refine lv_iconst (v := 1) hx hb dX12_playing_5 (by decide) ?_
      refine lv_iload hx hb dX12_playing_6 (lv_at hl 4 rfl) ?_
      refine lv_ishl hx hb dX12_playing_8 ?_
      refine lv_icmp_ge (tgt := 36) hx hb dX12_playing_9 (by decide) (fun c_38 => ?_) (fun c_38 => ?_)
      · have h := it c_38 h
        refine lv_iload hx hb dX12_playing_36 (lv_at hl 4 rfl) ?_
        refine lv_iconst (v := 1) hx hb dX12_playing_38 (by decide) ?_
        refine lv_isub hx hb dX12_playing_39 ?_
        refine lv_topi (fun x5_39 e_x5_39 => ?_)
        have h := bn e_x5_39 h
        refine lv_istore (lv' := [(5, .int x5_39), (0, .ref (A_m 0)), (1, .int x1), (2, .int x2), (3, .int x3), (4, .int x4)]) hx hb dX12_playing_40 hl (by decide) rfl (fun ls hl => ?_)
        exact l42 fu m_at m_cameTo m_doesStandFirst x5_39 _ _ hP hS ls (lv_sub hl [1, 0] rfl) h
      · have h := ie c_38 h
        refine lv_aload_n hx hb dX12_playing_12 rfl (lv_at hl 0 rfl) ?_
        refine xget (i := 0) (j := 0) (k := 31) (T := TX12) hx hb ht tb_iX12 hown hX hP.1 rfl rfl rfl (by decide) tb_1260 rfl dX12_playing_13 ?_
        refine lv_iload hx hb dX12_playing_16 (lv_at hl 5 rfl) ?_
        refine lv_aload_n hx hb dX12_playing_18 rfl (lv_at hl 0 rfl) ?_
        refine lv_iload_n hx hb dX12_playing_19 rfl (lv_at hl 1 rfl) ?_
        refine lv_iload_n hx hb dX12_playing_20 rfl (lv_at hl 2 rfl) ?_
        refine lv_iload_n hx hb dX12_playing_21 rfl (lv_at hl 3 rfl) ?_
        refine lv_iload hx hb dX12_playing_22 (lv_at hl 4 rfl) ?_
        refine lv_iload hx hb dX12_playing_24 (lv_at hl 5 rfl) ?_
        obtain ⟨z_40, e_z_40, h⟩ := bi h
        refine efVi (rest := [.int x5, .ref (A_m 12)]) ⟨hx, hb, hml, hown, ht⟩ (c_X12_playedBy l D cy fu A_m m_at m_names m_status m_top m_bottom m_sort m_trayMany m_trays m_tape m_text m_taped m_size m_token m_from m_end m_value m_faultKind m_faultPlace m_faults m_seen m_toldParts m_opened m_depth m_counted m_bestOrder m_standers m_has m_bestHas m_standerMany m_bestCouples m_bestFondness m_cameTo m_doesStandFirst m_stoodBy m_drawn m_ranSteps m_loops m_ran m_told1 m_isTold m_marks x1 x2 x3 x4 x5 z_40 e_z_40 _ rfl _ rfl) (cV ht mv_X12_playedBy tb_1842 rfl rfl ⟨Nat.le_of_ble_eq_true rfl, Nat.le_of_ble_eq_true rfl⟩) hP hS hX [0] rfl rfl rfl rfl rfl rfl hl.1 rfl (Nat.le_of_ble_eq_true rfl) dX12_playing_26 ⟨Nat.le_of_ble_eq_true rfl, Nat.le_of_ble_eq_true rfl⟩ (fun H locs hP hS => ?_)
        have hP : PD D A [bl_X12 cy A_m z_40.2 m_names m_status m_top m_bottom m_sort m_trayMany m_trays m_tape m_text m_taped m_size m_token m_from m_end m_value m_faultKind m_faultPlace m_faults m_seen m_toldParts m_opened m_depth m_counted m_bestOrder m_standers m_has m_bestHas m_standerMany m_bestCouples m_bestFondness m_cameTo m_doesStandFirst m_stoodBy m_drawn m_ranSteps m_loops m_ran m_told1 m_isTold m_marks] H := hP
        obtain ⟨m_cameTo_41, e_m_cameTo_41, h⟩ := bi h
        refine xiast (i0 := 0) (j0 := 12) hx hb hX hP hS rfl rfl e_m_cameTo_41 dX12_playing_29 (fun H locs hP hS => ?_)
        have hP : PD D A [bl_X12 cy A_m z_40.2 m_names m_status m_top m_bottom m_sort m_trayMany m_trays m_tape m_text m_taped m_size m_token m_from m_end m_value m_faultKind m_faultPlace m_faults m_seen m_toldParts m_opened m_depth m_counted m_bestOrder m_standers m_has m_bestHas m_standerMany m_bestCouples m_bestFondness m_cameTo_41 m_doesStandFirst m_stoodBy m_drawn m_ranSteps m_loops m_ran m_told1 m_isTold m_marks] H := hP
        obtain ⟨x5_42, e_x5_42⟩ : ∃ y : Int32, y = x5 + 1 := ⟨_, rfl⟩
        have h := bn e_x5_42 h
        refine lv_iinc (v := x5_42) (lv' := [(5, .int x5_42), (0, .ref (A_m 0)), (1, .int x1), (2, .int x2), (3, .int x3), (4, .int x4)]) hx hb dX12_playing_30 hl (k := 5) rfl (by rw [e_x5_42]; rfl) (by decide) rfl (fun ls hl => ?_)
        refine lv_goto (tgt := 3) hx hb dX12_playing_33 (by decide) ?_
        exact ih3 z_40.2 m_cameTo_41 m_doesStandFirst x5_42 _ _ hP hS ls (lv_sub hl [1, 2, 3, 4, 5, 0] rfl) h
  unfold f_X12_playing at h
  refine lv_iconst (v := 0) hx hb dX12_playing_0 (by decide) ?_
  refine lv_istore (lv' := [(5, .int 0), (0, .ref (A_m 0)), (1, .int x1), (2, .int x2), (3, .int x3), (4, .int x4)]) hx hb dX12_playing_1 hl (by decide) rfl (fun ls hl => ?_)
  exact l3 fu m_at m_cameTo m_doesStandFirst 0 _ _ hP hS ls (lv_sub hl [1, 2, 3, 4, 5, 0] rfl) h
