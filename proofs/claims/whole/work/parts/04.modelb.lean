theorem dX12_begins_0 : decode cX12_begins 0 = .ok (.iload_n 1, 1) := by decide +kernel
theorem dX12_begins_1 : decode cX12_begins 1 = .ok (.ifCond .lt 16, 3) := by decide +kernel
theorem dX12_begins_4 : decode cX12_begins 4 = .ok (.iload_n 1, 1) := by decide +kernel
theorem dX12_begins_5 : decode cX12_begins 5 = .ok (.aload_n 0, 1) := by decide +kernel
theorem dX12_begins_6 : decode cX12_begins 6 = .ok (.getfield 108, 3) := by decide +kernel
theorem dX12_begins_9 : decode cX12_begins 9 = .ok (.if_icmp .gt 8, 3) := by decide +kernel
theorem dX12_begins_12 : decode cX12_begins 12 = .ok (.iload_n 1, 1) := by decide +kernel
theorem dX12_begins_13 : decode cX12_begins 13 = .ok (.iload_n 2, 1) := by decide +kernel
theorem dX12_begins_14 : decode cX12_begins 14 = .ok (.if_icmp .le 5, 3) := by decide +kernel
theorem dX12_begins_17 : decode cX12_begins 17 = .ok (.iconst 0, 1) := by decide +kernel
theorem dX12_begins_18 : decode cX12_begins 18 = .ok (.ireturn, 1) := by decide +kernel
theorem dX12_begins_19 : decode cX12_begins 19 = .ok (.aload_n 0, 1) := by decide +kernel
theorem dX12_begins_20 : decode cX12_begins 20 = .ok (.iload_n 1, 1) := by decide +kernel
theorem dX12_begins_21 : decode cX12_begins 21 = .ok (.putfield 114, 3) := by decide +kernel
theorem dX12_begins_24 : decode cX12_begins 24 = .ok (.iconst 0, 1) := by decide +kernel
theorem dX12_begins_25 : decode cX12_begins 25 = .ok (.istore_n 3, 1) := by decide +kernel
theorem dX12_begins_26 : decode cX12_begins 26 = .ok (.iload_n 3, 1) := by decide +kernel
theorem dX12_begins_27 : decode cX12_begins 27 = .ok (.iload_n 1, 1) := by decide +kernel
theorem dX12_begins_28 : decode cX12_begins 28 = .ok (.if_icmp .ge 21, 3) := by decide +kernel
theorem dX12_begins_31 : decode cX12_begins 31 = .ok (.aload_n 0, 1) := by decide +kernel
theorem dX12_begins_32 : decode cX12_begins 32 = .ok (.getfield 34, 3) := by decide +kernel
theorem dX12_begins_35 : decode cX12_begins 35 = .ok (.iload_n 3, 1) := by decide +kernel
theorem dX12_begins_36 : decode cX12_begins 36 = .ok (.aload_n 0, 1) := by decide +kernel
theorem dX12_begins_37 : decode cX12_begins 37 = .ok (.getfield 30, 3) := by decide +kernel
theorem dX12_begins_40 : decode cX12_begins 40 = .ok (.iload_n 3, 1) := by decide +kernel
theorem dX12_begins_41 : decode cX12_begins 41 = .ok (.baload, 1) := by decide +kernel
theorem dX12_begins_42 : decode cX12_begins 42 = .ok (.bastore, 1) := by decide +kernel
theorem dX12_begins_43 : decode cX12_begins 43 = .ok (.iinc 3 1, 3) := by decide +kernel
theorem dX12_begins_46 : decode cX12_begins 46 = .ok (.goto (-20), 3) := by decide +kernel
theorem dX12_begins_49 : decode cX12_begins 49 = .ok (.aload_n 0, 1) := by decide +kernel
theorem dX12_begins_50 : decode cX12_begins 50 = .ok (.iconst 0, 1) := by decide +kernel
theorem dX12_begins_51 : decode cX12_begins 51 = .ok (.putfield 108, 3) := by decide +kernel
theorem dX12_begins_54 : decode cX12_begins 54 = .ok (.aload_n 0, 1) := by decide +kernel
theorem dX12_begins_55 : decode cX12_begins 55 = .ok (.iconst 0, 1) := by decide +kernel
theorem dX12_begins_56 : decode cX12_begins 56 = .ok (.putfield 154, 3) := by decide +kernel
theorem dX12_begins_59 : decode cX12_begins 59 = .ok (.aload_n 0, 1) := by decide +kernel
theorem dX12_begins_60 : decode cX12_begins 60 = .ok (.iconst (-1), 1) := by decide +kernel
theorem dX12_begins_61 : decode cX12_begins 61 = .ok (.putfield 41, 3) := by decide +kernel
theorem dX12_begins_64 : decode cX12_begins 64 = .ok (.aload_n 0, 1) := by decide +kernel
theorem dX12_begins_65 : decode cX12_begins 65 = .ok (.iconst 0, 1) := by decide +kernel
theorem dX12_begins_66 : decode cX12_begins 66 = .ok (.putfield 117, 3) := by decide +kernel
theorem dX12_begins_69 : decode cX12_begins 69 = .ok (.aload_n 0, 1) := by decide +kernel
theorem dX12_begins_70 : decode cX12_begins 70 = .ok (.iconst 0, 1) := by decide +kernel
theorem dX12_begins_71 : decode cX12_begins 71 = .ok (.putfield 157, 3) := by decide +kernel
theorem dX12_begins_74 : decode cX12_begins 74 = .ok (.aload_n 0, 1) := by decide +kernel
theorem dX12_begins_75 : decode cX12_begins 75 = .ok (.invokevirtual 160, 3) := by decide +kernel
theorem dX12_begins_78 : decode cX12_begins 78 = .ok (.iconst 1, 1) := by decide +kernel
theorem dX12_begins_79 : decode cX12_begins 79 = .ok (.ireturn, 1) := by decide +kernel
theorem mv_X12_begins : MV yX12_begins RX12 cX12_begins 4 (some .boolean) 2 := ⟨tb_1415, tb_1414, ts_43, tb_16, by decide +kernel, by decide +kernel, by decide +kernel⟩
def f_X12_begins_b26 (fu : Nat) (m_tape : Nat → Int32) (x1 : Int32) (x2 : Int32) (k26 : (Nat → Int32) → Int32 → Int32 → Int32 → Int32 → Int32 → Int32 → Int32 → Int32 → Int32 → Int32 → (Option (Int32 × (Nat → Int32) × Int32 × Int32 × Int32 × Int32 × Int32 × Int32 × Int32 × Int32 × Int32))) (m_text : Nat → Int32) (m_taped : Int32) (m_size : Int32) (m_token : Int32) (m_from : Int32) (m_end : Int32) (m_value : Int32) (m_faultPlace : Int32) (m_faults : Int32) (m_seen : Int32) (x3 : Int32) : Option (Int32 × (Nat → Int32) × Int32 × Int32 × Int32 × Int32 × Int32 × Int32 × Int32 × Int32 × Int32) := (if x1 ≤ x3 then (f_X12_ahead fu m_text m_size m_token m_from 0 m_value).bind fun z_10 => some (1, m_text, 0, m_size, z_10.1, z_10.2.1, z_10.2.2.1, z_10.2.2.2, (-1), 0, 0) else (rdI m_tape 900 x3).bind fun y_11 => (wrI m_text 900 x3 (vp_nar .byte y_11)).bind fun m_text_12 => bnd (x3 + 1) fun x3_13 => k26 m_text_12 m_taped m_size m_token m_from m_end m_value m_faultPlace m_faults m_seen x3_13)
def f_X12_begins_l26 (fu : Nat) (m_tape : Nat → Int32) (x1 : Int32) (x2 : Int32) : Nat → (Nat → Int32) → Int32 → Int32 → Int32 → Int32 → Int32 → Int32 → Int32 → Int32 → Int32 → Int32 → (Option (Int32 × (Nat → Int32) × Int32 × Int32 × Int32 × Int32 × Int32 × Int32 × Int32 × Int32 × Int32))
  | 0, _, _, _, _, _, _, _, _, _, _, _ => none
  | n + 1, m_text, m_taped, m_size, m_token, m_from, m_end, m_value, m_faultPlace, m_faults, m_seen, x3 => f_X12_begins_b26 fu m_tape x1 x2 (f_X12_begins_l26 fu m_tape x1 x2 n) m_text m_taped m_size m_token m_from m_end m_value m_faultPlace m_faults m_seen x3
def f_X12_begins (fu : Nat) (m_tape : Nat → Int32) (m_text : Nat → Int32) (m_taped : Int32) (m_size : Int32) (m_token : Int32) (m_from : Int32) (m_end : Int32) (m_value : Int32) (m_faultPlace : Int32) (m_faults : Int32) (m_seen : Int32) (x1 : Int32) (x2 : Int32) : Option (Int32 × (Nat → Int32) × Int32 × Int32 × Int32 × Int32 × Int32 × Int32 × Int32 × Int32 × Int32) := (if x1 < 0 then some (0, m_text, m_taped, m_size, m_token, m_from, m_end, m_value, m_faultPlace, m_faults, m_seen) else (if m_taped < x1 then some (0, m_text, m_taped, m_size, m_token, m_from, m_end, m_value, m_faultPlace, m_faults, m_seen) else (if x1 ≤ x2 then f_X12_begins_l26 fu m_tape x1 x2 fu m_text m_taped x1 m_token m_from m_end m_value m_faultPlace m_faults m_seen 0 else some (0, m_text, m_taped, m_size, m_token, m_from, m_end, m_value, m_faultPlace, m_faults, m_seen))))
abbrev rm_X12_begins : Room := { frames := 2, cells := 0, slots := 0, locals := 61 }
set_option maxHeartbeats 4000000 in
set_option maxRecDepth 100000 in
theorem c_X12_begins (l : Launch) (D : va_G) (cy : Nat → ClassId) (fu : Nat) (A_m : Nat → Nat) (m_at : Nat → Int32) (m_names : Nat → Int64) (m_status : Int32) (m_top : Int64) (m_bottom : Int64) (m_sort : Nat → Int32) (m_trayMany : Nat → Int32) (m_trays : Nat → Int64) (m_tape : Nat → Int32) (m_text : Nat → Int32) (m_taped : Int32) (m_size : Int32) (m_token : Int32) (m_from : Int32) (m_end : Int32) (m_value : Int32) (m_faultKind : Int32) (m_faultPlace : Int32) (m_faults : Int32) (m_seen : Int32) (m_toldParts : Int32) (m_opened : Nat → Int32) (m_depth : Int32) (m_counted : Int32) (m_bestOrder : Int32) (m_standers : Nat → Int32) (m_has : Nat → Int32) (m_bestHas : Nat → Int32) (m_standerMany : Int32) (m_bestCouples : Int32) (m_bestFondness : Int32) (m_cameTo : Nat → Int32) (m_doesStandFirst : Int32) (m_stoodBy : Nat → Int64) (m_drawn : Int32) (m_ranSteps : Int32) (m_loops : Nat → Int32) (m_ran : Nat → Int32) (m_told1 : Nat → Int32) (m_isTold : Int32) (m_marks : Int32) (x1 : Int32) (x2 : Int32) (res : Int32 × (Nat → Int32) × Int32 × Int32 × Int32 × Int32 × Int32 × Int32 × Int32 × Int32 × Int32) (h : f_X12_begins fu m_tape m_text m_taped m_size m_token m_from m_end m_value m_faultPlace m_faults m_seen x1 x2 = some res) (A : Nat → Prop) (hA : A = adr [bl_X12 cy A_m m_at m_names m_status m_top m_bottom m_sort m_trayMany m_trays m_tape m_text m_taped m_size m_token m_from m_end m_value m_faultKind m_faultPlace m_faults m_seen m_toldParts m_opened m_depth m_counted m_bestOrder m_standers m_has m_bestHas m_standerMany m_bestCouples m_bestFondness m_cameTo m_doesStandFirst m_stoodBy m_drawn m_ranSteps m_loops m_ran m_told1 m_isTold m_marks]) (W1 : List va_W) (hW1 : W1 = [bl_X12 cy A_m m_at m_names m_status m_top m_bottom m_sort m_trayMany m_trays m_tape res.2.1 res.2.2.1 res.2.2.2.1 res.2.2.2.2.1 res.2.2.2.2.2.1 res.2.2.2.2.2.2.1 res.2.2.2.2.2.2.2.1 m_faultKind res.2.2.2.2.2.2.2.2.1 res.2.2.2.2.2.2.2.2.2.1 res.2.2.2.2.2.2.2.2.2.2 m_toldParts m_opened m_depth m_counted m_bestOrder m_standers m_has m_bestHas m_standerMany m_bestCouples m_bestFondness m_cameTo m_doesStandFirst m_stoodBy m_drawn m_ranSteps m_loops m_ran m_told1 m_isTold m_marks]) : Met l yX12_begins (WW yX12_begins cX12_begins 4 (some .boolean)) rm_X12_begins (Ed D cy [.ref (A_m 0), .int x1, .int x2] [bl_X12 cy A_m m_at m_names m_status m_top m_bottom m_sort m_trayMany m_trays m_tape m_text m_taped m_size m_token m_from m_end m_value m_faultKind m_faultPlace m_faults m_seen m_toldParts m_opened m_depth m_counted m_bestOrder m_standers m_has m_bestHas m_standerMany m_bestCouples m_bestFondness m_cameTo m_doesStandFirst m_stoodBy m_drawn m_ranSteps m_loops m_ran m_told1 m_isTold m_marks]) (Qei D res.1 A W1) 0 0 A := by
  refine Met.ofW (cc := cX12_begins) (maxL := 4) (ret := (some .boolean)) (by decide) rfl ?_
  intro p e s m args below meth c s₁ B hml hv
  obtain ⟨hargs, hP, hX, hD0⟩ := hv
  have hx := B.exec
  have hb := B.bytes
  have hr := B.returns
  have ht : ∀ w ∈ lw_gd, w.before args s = true := fun w hw => atoms_spec (ws := WW yX12_begins cX12_begins 4 (some .boolean)) B.pre w (List.mem_cons_of_mem _ hw)
  have hown : s.vm.findClass RX12 = some m.cls := findClass_of_methodNamed B.named
  have hlocks := B.notSynchronized
  have hP : PD D A [bl_X12 cy A_m m_at m_names m_status m_top m_bottom m_sort m_trayMany m_trays m_tape m_text m_taped m_size m_token m_from m_end m_value m_faultKind m_faultPlace m_faults m_seen m_toldParts m_opened m_depth m_counted m_bestOrder m_standers m_has m_bestHas m_standerMany m_bestCouples m_bestFondness m_cameTo m_doesStandFirst m_stoodBy m_drawn m_ranSteps m_loops m_ran m_told1 m_isTold m_marks] s.heap := ⟨hP, by rw [hA]; exact hD0.own⟩
  have hS : va_S A s.heap s.heap [] := va_S.rf
  obtain ⟨ls, hl, hent⟩ := ent (m := m) (n := 4) hargs (Nat.le_of_ble_eq_true rfl) (lv := [(0, .ref (A_m 0)), (1, .int x1), (2, .int x2)]) rfl
  rw [hent]
  clear hent
  have l26 : ∀ (n26 : Nat) (m_text : Nat → Int32) (m_taped : Int32) (m_size : Int32) (m_token : Int32) (m_from : Int32) (m_end : Int32) (m_value : Int32) (m_faultPlace : Int32) (m_faults : Int32) (m_seen : Int32) (x3 : Int32) (H : Heap) (locs : List Loc) (_ : PD D A [bl_X12 cy A_m m_at m_names m_status m_top m_bottom m_sort m_trayMany m_trays m_tape m_text m_taped m_size m_token m_from m_end m_value m_faultKind m_faultPlace m_faults m_seen m_toldParts m_opened m_depth m_counted m_bestOrder m_standers m_has m_bestHas m_standerMany m_bestCouples m_bestFondness m_cameTo m_doesStandFirst m_stoodBy m_drawn m_ranSteps m_loops m_ran m_told1 m_isTold m_marks] H) (_ : va_S A s.heap H locs) (ls : Array Slot), lv_has ls 4 [(0, .ref (A_m 0)), (1, .int x1), (3, .int x3)] → f_X12_begins_l26 fu m_tape x1 x2 n26 m_text m_taped m_size m_token m_from m_end m_value m_faultPlace m_faults m_seen x3 = some res → W p l e (headSpec (WW yX12_begins cX12_begins 4 (some .boolean)) rm_X12_begins).room s m args below meth c H locs 0 0 (MQ below (Qei D res.1 A W1) args s 0 0 A) (F0 m 26 ls []) := by
    intro n26
    induction n26 with
    | zero => intro m_text m_taped m_size m_token m_from m_end m_value m_faultPlace m_faults m_seen x3 H locs hP hS ls hl h; cases h
    | succ n26 ih26 =>
      intro m_text m_taped m_size m_token m_from m_end m_value m_faultPlace m_faults m_seen x3 H locs hP hS ls hl h
      have h : f_X12_begins_b26 fu m_tape x1 x2 (f_X12_begins_l26 fu m_tape x1 x2 n26) m_text m_taped m_size m_token m_from m_end m_value m_faultPlace m_faults m_seen x3 = some res := h
      unfold f_X12_begins_b26 at h
      refine lv_iload_n hx hb dX12_begins_26 rfl (lv_at hl 2 rfl) ?_
      refine lv_iload_n hx hb dX12_begins_27 rfl (lv_at hl 1 rfl) ?_
      refine lv_icmp_ge (tgt := 49) hx hb dX12_begins_28 (by decide) (fun c_9 => ?_) (fun c_9 => ?_)
      · have h := it c_9 h
        refine lv_aload_n hx hb dX12_begins_49 rfl (lv_at hl 0 rfl) ?_
        refine lv_iconst (v := 0) hx hb dX12_begins_50 (by decide) ?_
        refine xput (i := 0) (j := 0) (k := 10) (T := TX12) tyX12 tyX12_ok nmX12 hx hb ht tb_iX12 hown hX hP hS rfl rfl rfl (by decide) tb_1239 rfl rfl rfl (Nat.le_of_ble_eq_true rfl) dX12_begins_51 (fun H locs hP hS => ?_)
        have hP : PD D A [bl_X12 cy A_m m_at m_names m_status m_top m_bottom m_sort m_trayMany m_trays m_tape m_text 0 m_size m_token m_from m_end m_value m_faultKind m_faultPlace m_faults m_seen m_toldParts m_opened m_depth m_counted m_bestOrder m_standers m_has m_bestHas m_standerMany m_bestCouples m_bestFondness m_cameTo m_doesStandFirst m_stoodBy m_drawn m_ranSteps m_loops m_ran m_told1 m_isTold m_marks] H := hP
        refine lv_aload_n hx hb dX12_begins_54 rfl (lv_at hl 0 rfl) ?_
        refine lv_iconst (v := 0) hx hb dX12_begins_55 (by decide) ?_
        refine xput (i := 0) (j := 0) (k := 18) (T := TX12) tyX12 tyX12_ok nmX12 hx hb ht tb_iX12 hown hX hP hS rfl rfl rfl (by decide) tb_1247 rfl rfl rfl (Nat.le_of_ble_eq_true rfl) dX12_begins_56 (fun H locs hP hS => ?_)
        have hP : PD D A [bl_X12 cy A_m m_at m_names m_status m_top m_bottom m_sort m_trayMany m_trays m_tape m_text 0 m_size m_token m_from m_end m_value m_faultKind m_faultPlace 0 m_seen m_toldParts m_opened m_depth m_counted m_bestOrder m_standers m_has m_bestHas m_standerMany m_bestCouples m_bestFondness m_cameTo m_doesStandFirst m_stoodBy m_drawn m_ranSteps m_loops m_ran m_told1 m_isTold m_marks] H := hP
        refine lv_aload_n hx hb dX12_begins_59 rfl (lv_at hl 0 rfl) ?_
        refine lv_iconst (v := (-1)) hx hb dX12_begins_60 (by decide) ?_
        refine xput (i := 0) (j := 0) (k := 17) (T := TX12) tyX12 tyX12_ok nmX12 hx hb ht tb_iX12 hown hX hP hS rfl rfl rfl (by decide) tb_1246 rfl rfl rfl (Nat.le_of_ble_eq_true rfl) dX12_begins_61 (fun H locs hP hS => ?_)
        have hP : PD D A [bl_X12 cy A_m m_at m_names m_status m_top m_bottom m_sort m_trayMany m_trays m_tape m_text 0 m_size m_token m_from m_end m_value m_faultKind (-1) 0 m_seen m_toldParts m_opened m_depth m_counted m_bestOrder m_standers m_has m_bestHas m_standerMany m_bestCouples m_bestFondness m_cameTo m_doesStandFirst m_stoodBy m_drawn m_ranSteps m_loops m_ran m_told1 m_isTold m_marks] H := hP
        refine lv_aload_n hx hb dX12_begins_64 rfl (lv_at hl 0 rfl) ?_
        refine lv_iconst (v := 0) hx hb dX12_begins_65 (by decide) ?_
        refine xput (i := 0) (j := 0) (k := 14) (T := TX12) tyX12 tyX12_ok nmX12 hx hb ht tb_iX12 hown hX hP hS rfl rfl rfl (by decide) tb_1243 rfl rfl rfl (Nat.le_of_ble_eq_true rfl) dX12_begins_66 (fun H locs hP hS => ?_)
        have hP : PD D A [bl_X12 cy A_m m_at m_names m_status m_top m_bottom m_sort m_trayMany m_trays m_tape m_text 0 m_size m_token m_from 0 m_value m_faultKind (-1) 0 m_seen m_toldParts m_opened m_depth m_counted m_bestOrder m_standers m_has m_bestHas m_standerMany m_bestCouples m_bestFondness m_cameTo m_doesStandFirst m_stoodBy m_drawn m_ranSteps m_loops m_ran m_told1 m_isTold m_marks] H := hP
        refine lv_aload_n hx hb dX12_begins_69 rfl (lv_at hl 0 rfl) ?_
        refine lv_iconst (v := 0) hx hb dX12_begins_70 (by decide) ?_
        refine xput (i := 0) (j := 0) (k := 19) (T := TX12) tyX12 tyX12_ok nmX12 hx hb ht tb_iX12 hown hX hP hS rfl rfl rfl (by decide) tb_1248 rfl rfl rfl (Nat.le_of_ble_eq_true rfl) dX12_begins_71 (fun H locs hP hS => ?_)
        have hP : PD D A [bl_X12 cy A_m m_at m_names m_status m_top m_bottom m_sort m_trayMany m_trays m_tape m_text 0 m_size m_token m_from 0 m_value m_faultKind (-1) 0 0 m_toldParts m_opened m_depth m_counted m_bestOrder m_standers m_has m_bestHas m_standerMany m_bestCouples m_bestFondness m_cameTo m_doesStandFirst m_stoodBy m_drawn m_ranSteps m_loops m_ran m_told1 m_isTold m_marks] H := hP
        refine lv_aload_n hx hb dX12_begins_74 rfl (lv_at hl 0 rfl) ?_
        obtain ⟨z_10, e_z_10, h⟩ := bi h
        refine efVv (rest := []) ⟨hx, hb, hml, hown, ht⟩ (c_X12_ahead l D cy fu A_m m_at m_names m_status m_top m_bottom m_sort m_trayMany m_trays m_tape m_text 0 m_size m_token m_from 0 m_value m_faultKind (-1) 0 0 m_toldParts m_opened m_depth m_counted m_bestOrder m_standers m_has m_bestHas m_standerMany m_bestCouples m_bestFondness m_cameTo m_doesStandFirst m_stoodBy m_drawn m_ranSteps m_loops m_ran m_told1 m_isTold m_marks z_10 e_z_10 _ rfl _ rfl) (cV ht mv_X12_ahead tb_1416 rfl rfl ⟨Nat.le_of_ble_eq_true rfl, Nat.le_of_ble_eq_true rfl⟩) hP hS hX [0] rfl rfl rfl rfl rfl rfl hl.1 rfl (Nat.le_of_ble_eq_true rfl) dX12_begins_75 ⟨Nat.le_of_ble_eq_true rfl, Nat.le_of_ble_eq_true rfl⟩ (fun H locs hP hS => ?_)
        have hP : PD D A [bl_X12 cy A_m m_at m_names m_status m_top m_bottom m_sort m_trayMany m_trays m_tape m_text 0 m_size z_10.1 z_10.2.1 z_10.2.2.1 z_10.2.2.2 m_faultKind (-1) 0 0 m_toldParts m_opened m_depth m_counted m_bestOrder m_standers m_has m_bestHas m_standerMany m_bestCouples m_bestFondness m_cameTo m_doesStandFirst m_stoodBy m_drawn m_ranSteps m_loops m_ran m_told1 m_isTold m_marks] H := hP
        refine lv_iconst (v := 1) hx hb dX12_begins_78 (by decide) ?_
        cases h
        subst hW1
        exact W.zret hx hb hr rfl (fun _ ht9 _ => ⟨⟨_, (), rfl, rfl, hPt ht9 hP.1⟩, hS.F ht9⟩) hS.2.2 dX12_begins_79
      · have h := ie c_9 h
        refine lv_aload_n hx hb dX12_begins_31 rfl (lv_at hl 0 rfl) ?_
        refine xget (i := 0) (j := 0) (k := 9) (T := TX12) hx hb ht tb_iX12 hown hX hP.1 rfl rfl rfl (by decide) tb_1238 rfl dX12_begins_32 ?_
        refine lv_iload_n hx hb dX12_begins_35 rfl (lv_at hl 2 rfl) ?_
        refine lv_aload_n hx hb dX12_begins_36 rfl (lv_at hl 0 rfl) ?_
        refine xget (i := 0) (j := 0) (k := 8) (T := TX12) hx hb ht tb_iX12 hown hX hP.1 rfl rfl rfl (by decide) tb_1237 rfl dX12_begins_37 ?_
        refine lv_iload_n hx hb dX12_begins_40 rfl (lv_at hl 2 rfl) ?_
        obtain ⟨y_11, e_y_11, h⟩ := bi h
        refine xbald (i0 := 0) (j0 := 6) hx hb hX hP.1 rfl rfl e_y_11 dX12_begins_41 ?_
        obtain ⟨m_text_12, e_m_text_12, h⟩ := bi h
        refine xbast (i0 := 0) (j0 := 7) hx hb hX hP hS rfl rfl e_m_text_12 dX12_begins_42 (fun H locs hP hS => ?_)
        have hP : PD D A [bl_X12 cy A_m m_at m_names m_status m_top m_bottom m_sort m_trayMany m_trays m_tape m_text_12 m_taped m_size m_token m_from m_end m_value m_faultKind m_faultPlace m_faults m_seen m_toldParts m_opened m_depth m_counted m_bestOrder m_standers m_has m_bestHas m_standerMany m_bestCouples m_bestFondness m_cameTo m_doesStandFirst m_stoodBy m_drawn m_ranSteps m_loops m_ran m_told1 m_isTold m_marks] H := hP
        obtain ⟨x3_13, e_x3_13⟩ : ∃ y : Int32, y = x3 + 1 := ⟨_, rfl⟩
        have h := bn e_x3_13 h
        refine lv_iinc (v := x3_13) (lv' := [(3, .int x3_13), (0, .ref (A_m 0)), (1, .int x1)]) hx hb dX12_begins_43 hl (k := 2) rfl (by rw [e_x3_13]; rfl) (by decide) rfl (fun ls hl => ?_)
        refine lv_goto (tgt := 26) hx hb dX12_begins_46 (by decide) ?_
        exact ih26 m_text_12 m_taped m_size m_token m_from m_end m_value m_faultPlace m_faults m_seen x3_13 _ _ hP hS ls (lv_sub hl [1, 2, 0] rfl) h
  unfold f_X12_begins at h
  refine lv_iload_n hx hb dX12_begins_0 rfl (lv_at hl 1 rfl) ?_
  refine lv_if_lt (tgt := 17) hx hb dX12_begins_1 (by decide) (fun c_14 => ?_) (fun c_14 => ?_)
  · have h := it c_14 h
    refine lv_iconst (v := 0) hx hb dX12_begins_17 (by decide) ?_
    cases h
    subst hW1
    exact W.zret hx hb hr rfl (fun _ ht9 _ => ⟨⟨_, (), rfl, rfl, hPt ht9 hP.1⟩, hS.F ht9⟩) hS.2.2 dX12_begins_18
  · have h := ie c_14 h
    refine lv_iload_n hx hb dX12_begins_4 rfl (lv_at hl 1 rfl) ?_
    refine lv_aload_n hx hb dX12_begins_5 rfl (lv_at hl 0 rfl) ?_
    refine xget (i := 0) (j := 0) (k := 10) (T := TX12) hx hb ht tb_iX12 hown hX hP.1 rfl rfl rfl (by decide) tb_1239 rfl dX12_begins_6 ?_
    refine lv_icmp_gt (tgt := 17) hx hb dX12_begins_9 (by decide) (fun c_15 => ?_) (fun c_15 => ?_)
    · have h := it c_15 h
      refine lv_iconst (v := 0) hx hb dX12_begins_17 (by decide) ?_
      cases h
      subst hW1
      exact W.zret hx hb hr rfl (fun _ ht9 _ => ⟨⟨_, (), rfl, rfl, hPt ht9 hP.1⟩, hS.F ht9⟩) hS.2.2 dX12_begins_18
    · have h := ie c_15 h
      refine lv_iload_n hx hb dX12_begins_12 rfl (lv_at hl 1 rfl) ?_
      refine lv_iload_n hx hb dX12_begins_13 rfl (lv_at hl 2 rfl) ?_
      refine lv_icmp_le (tgt := 19) hx hb dX12_begins_14 (by decide) (fun c_16 => ?_) (fun c_16 => ?_)
      · have h := it c_16 h
        refine lv_aload_n hx hb dX12_begins_19 rfl (lv_at hl 0 rfl) ?_
        refine lv_iload_n hx hb dX12_begins_20 rfl (lv_at hl 1 rfl) ?_
        refine xput (i := 0) (j := 0) (k := 11) (T := TX12) tyX12 tyX12_ok nmX12 hx hb ht tb_iX12 hown hX hP hS rfl rfl rfl (by decide) tb_1240 rfl rfl rfl (Nat.le_of_ble_eq_true rfl) dX12_begins_21 (fun H locs hP hS => ?_)
        have hP : PD D A [bl_X12 cy A_m m_at m_names m_status m_top m_bottom m_sort m_trayMany m_trays m_tape m_text m_taped x1 m_token m_from m_end m_value m_faultKind m_faultPlace m_faults m_seen m_toldParts m_opened m_depth m_counted m_bestOrder m_standers m_has m_bestHas m_standerMany m_bestCouples m_bestFondness m_cameTo m_doesStandFirst m_stoodBy m_drawn m_ranSteps m_loops m_ran m_told1 m_isTold m_marks] H := hP
        refine lv_iconst (v := 0) hx hb dX12_begins_24 (by decide) ?_
        refine lv_istore_n (lv' := [(3, .int 0), (0, .ref (A_m 0)), (1, .int x1), (2, .int x2)]) hx hb dX12_begins_25 rfl hl (by decide) rfl (fun ls hl => ?_)
        exact l26 fu m_text m_taped x1 m_token m_from m_end m_value m_faultPlace m_faults m_seen 0 _ _ hP hS ls (lv_sub hl [1, 2, 0] rfl) h
      · have h := ie c_16 h
        refine lv_iconst (v := 0) hx hb dX12_begins_17 (by decide) ?_
        cases h
        subst hW1
        exact W.zret hx hb hr rfl (fun _ ht9 _ => ⟨⟨_, (), rfl, rfl, hPt ht9 hP.1⟩, hS.F ht9⟩) hS.2.2 dX12_begins_18
theorem dX12_wantSign_0 : decode cX12_wantSign 0 = .ok (.aload_n 0, 1) := by decide +kernel
theorem dX12_wantSign_1 : decode cX12_wantSign 1 = .ok (.iload_n 1, 1) := by decide +kernel
theorem dX12_wantSign_2 : decode cX12_wantSign 2 = .ok (.invokevirtual 163, 3) := by decide +kernel
theorem dX12_wantSign_5 : decode cX12_wantSign 5 = .ok (.ifCond .ne 9, 3) := by decide +kernel
theorem dX12_wantSign_8 : decode cX12_wantSign 8 = .ok (.aload_n 0, 1) := by decide +kernel
theorem dX12_wantSign_9 : decode cX12_wantSign 9 = .ok (.iconst 2, 1) := by decide +kernel
theorem dX12_wantSign_10 : decode cX12_wantSign 10 = .ok (.invokevirtual 166, 3) := by decide +kernel
theorem dX12_wantSign_13 : decode cX12_wantSign 13 = .ok (.ireturn, 1) := by decide +kernel
theorem dX12_wantSign_14 : decode cX12_wantSign 14 = .ok (.aload_n 0, 1) := by decide +kernel
theorem dX12_wantSign_15 : decode cX12_wantSign 15 = .ok (.invokevirtual 160, 3) := by decide +kernel
theorem dX12_wantSign_18 : decode cX12_wantSign 18 = .ok (.iconst 1, 1) := by decide +kernel
theorem dX12_wantSign_19 : decode cX12_wantSign 19 = .ok (.ireturn, 1) := by decide +kernel
theorem mv_X12_wantSign : MV yX12_wantSign RX12 cX12_wantSign 2 (some .boolean) 1 := ⟨tb_1490, tb_1489, ts_59, tb_16, by decide +kernel, by decide +kernel, by decide +kernel⟩
def f_X12_wantSign (fu : Nat) (m_text : Nat → Int32) (m_size : Int32) (m_token : Int32) (m_from : Int32) (m_end : Int32) (m_value : Int32) (m_faultPlace : Int32) (m_faults : Int32) (x1 : Int32) : Option (Int32 × Int32 × Int32 × Int32 × Int32 × Int32 × Int32) := (f_X12_isSign fu m_token m_value x1).bind fun z_6 => (if z_6 = 0 then (f_X12_fails fu m_token m_from m_faultPlace m_faults 2).bind fun z_9 => (bz z_9.1).bind fun _ => some (z_9.1, m_token, m_from, m_end, m_value, z_9.2.1, z_9.2.2) else (f_X12_ahead fu m_text m_size m_token m_from m_end m_value).bind fun z_8 => some (1, z_8.1, z_8.2.1, z_8.2.2.1, z_8.2.2.2, m_faultPlace, m_faults))
abbrev rm_X12_wantSign : Room := { frames := 2, cells := 0, slots := 0, locals := 61 }
set_option maxHeartbeats 4000000 in
set_option maxRecDepth 100000 in
theorem c_X12_wantSign (l : Launch) (D : va_G) (cy : Nat → ClassId) (fu : Nat) (A_m : Nat → Nat) (m_at : Nat → Int32) (m_names : Nat → Int64) (m_status : Int32) (m_top : Int64) (m_bottom : Int64) (m_sort : Nat → Int32) (m_trayMany : Nat → Int32) (m_trays : Nat → Int64) (m_tape : Nat → Int32) (m_text : Nat → Int32) (m_taped : Int32) (m_size : Int32) (m_token : Int32) (m_from : Int32) (m_end : Int32) (m_value : Int32) (m_faultKind : Int32) (m_faultPlace : Int32) (m_faults : Int32) (m_seen : Int32) (m_toldParts : Int32) (m_opened : Nat → Int32) (m_depth : Int32) (m_counted : Int32) (m_bestOrder : Int32) (m_standers : Nat → Int32) (m_has : Nat → Int32) (m_bestHas : Nat → Int32) (m_standerMany : Int32) (m_bestCouples : Int32) (m_bestFondness : Int32) (m_cameTo : Nat → Int32) (m_doesStandFirst : Int32) (m_stoodBy : Nat → Int64) (m_drawn : Int32) (m_ranSteps : Int32) (m_loops : Nat → Int32) (m_ran : Nat → Int32) (m_told1 : Nat → Int32) (m_isTold : Int32) (m_marks : Int32) (x1 : Int32) (res : Int32 × Int32 × Int32 × Int32 × Int32 × Int32 × Int32) (h : f_X12_wantSign fu m_text m_size m_token m_from m_end m_value m_faultPlace m_faults x1 = some res) (A : Nat → Prop) (hA : A = adr [bl_X12 cy A_m m_at m_names m_status m_top m_bottom m_sort m_trayMany m_trays m_tape m_text m_taped m_size m_token m_from m_end m_value m_faultKind m_faultPlace m_faults m_seen m_toldParts m_opened m_depth m_counted m_bestOrder m_standers m_has m_bestHas m_standerMany m_bestCouples m_bestFondness m_cameTo m_doesStandFirst m_stoodBy m_drawn m_ranSteps m_loops m_ran m_told1 m_isTold m_marks]) (W1 : List va_W) (hW1 : W1 = [bl_X12 cy A_m m_at m_names m_status m_top m_bottom m_sort m_trayMany m_trays m_tape m_text m_taped m_size res.2.1 res.2.2.1 res.2.2.2.1 res.2.2.2.2.1 m_faultKind res.2.2.2.2.2.1 res.2.2.2.2.2.2 m_seen m_toldParts m_opened m_depth m_counted m_bestOrder m_standers m_has m_bestHas m_standerMany m_bestCouples m_bestFondness m_cameTo m_doesStandFirst m_stoodBy m_drawn m_ranSteps m_loops m_ran m_told1 m_isTold m_marks]) : Met l yX12_wantSign (WW yX12_wantSign cX12_wantSign 2 (some .boolean)) rm_X12_wantSign (Ed D cy [.ref (A_m 0), .int x1] [bl_X12 cy A_m m_at m_names m_status m_top m_bottom m_sort m_trayMany m_trays m_tape m_text m_taped m_size m_token m_from m_end m_value m_faultKind m_faultPlace m_faults m_seen m_toldParts m_opened m_depth m_counted m_bestOrder m_standers m_has m_bestHas m_standerMany m_bestCouples m_bestFondness m_cameTo m_doesStandFirst m_stoodBy m_drawn m_ranSteps m_loops m_ran m_told1 m_isTold m_marks]) (Qei D res.1 A W1) 0 0 A := by
  refine Met.ofW (cc := cX12_wantSign) (maxL := 2) (ret := (some .boolean)) (by decide) rfl ?_
  intro p e s m args below meth c s₁ B hml hv
  obtain ⟨hargs, hP, hX, hD0⟩ := hv
  have hx := B.exec
  have hb := B.bytes
  have hr := B.returns
  have ht : ∀ w ∈ lw_gd, w.before args s = true := fun w hw => atoms_spec (ws := WW yX12_wantSign cX12_wantSign 2 (some .boolean)) B.pre w (List.mem_cons_of_mem _ hw)
  have hown : s.vm.findClass RX12 = some m.cls := findClass_of_methodNamed B.named
  have hlocks := B.notSynchronized
  have hP : PD D A [bl_X12 cy A_m m_at m_names m_status m_top m_bottom m_sort m_trayMany m_trays m_tape m_text m_taped m_size m_token m_from m_end m_value m_faultKind m_faultPlace m_faults m_seen m_toldParts m_opened m_depth m_counted m_bestOrder m_standers m_has m_bestHas m_standerMany m_bestCouples m_bestFondness m_cameTo m_doesStandFirst m_stoodBy m_drawn m_ranSteps m_loops m_ran m_told1 m_isTold m_marks] s.heap := ⟨hP, by rw [hA]; exact hD0.own⟩
  have hS : va_S A s.heap s.heap [] := va_S.rf
  obtain ⟨ls, hl, hent⟩ := ent (m := m) (n := 2) hargs (Nat.le_of_ble_eq_true rfl) (lv := [(0, .ref (A_m 0)), (1, .int x1)]) rfl
  rw [hent]
  clear hent
  unfold f_X12_wantSign at h
  refine lv_aload_n hx hb dX12_wantSign_0 rfl (lv_at hl 0 rfl) ?_
  refine lv_iload_n hx hb dX12_wantSign_1 rfl (lv_at hl 1 rfl) ?_
  obtain ⟨z_6, e_z_6, h⟩ := bi h
  refine roVi (rest := []) ⟨hx, hb, hml, hown, ht⟩ (c_X12_isSign l D cy fu A_m m_at m_names m_status m_top m_bottom m_sort m_trayMany m_trays m_tape m_text m_taped m_size m_token m_from m_end m_value m_faultKind m_faultPlace m_faults m_seen m_toldParts m_opened m_depth m_counted m_bestOrder m_standers m_has m_bestHas m_standerMany m_bestCouples m_bestFondness m_cameTo m_doesStandFirst m_stoodBy m_drawn m_ranSteps m_loops m_ran m_told1 m_isTold m_marks x1 z_6 e_z_6) (cV ht mv_X12_isSign tb_1491 rfl rfl ⟨Nat.le_of_ble_eq_true rfl, Nat.le_of_ble_eq_true rfl⟩) (P_sub hP.1 [0] rfl) hX rfl rfl rfl hl.1 rfl (Nat.le_of_ble_eq_true rfl) dX12_wantSign_2 ⟨Nat.le_of_ble_eq_true rfl, Nat.le_of_ble_eq_true rfl⟩ ?_
  refine lv_if_ne (tgt := 14) hx hb dX12_wantSign_5 (by decide) (fun c_7 => ?_) (fun c_7 => ?_)
  · have h := ie c_7 h
    refine lv_aload_n hx hb dX12_wantSign_14 rfl (lv_at hl 0 rfl) ?_
    obtain ⟨z_8, e_z_8, h⟩ := bi h
    refine efVv (rest := []) ⟨hx, hb, hml, hown, ht⟩ (c_X12_ahead l D cy fu A_m m_at m_names m_status m_top m_bottom m_sort m_trayMany m_trays m_tape m_text m_taped m_size m_token m_from m_end m_value m_faultKind m_faultPlace m_faults m_seen m_toldParts m_opened m_depth m_counted m_bestOrder m_standers m_has m_bestHas m_standerMany m_bestCouples m_bestFondness m_cameTo m_doesStandFirst m_stoodBy m_drawn m_ranSteps m_loops m_ran m_told1 m_isTold m_marks z_8 e_z_8 _ rfl _ rfl) (cV ht mv_X12_ahead tb_1416 rfl rfl ⟨Nat.le_of_ble_eq_true rfl, Nat.le_of_ble_eq_true rfl⟩) hP hS hX [0] rfl rfl rfl rfl rfl rfl hl.1 rfl (Nat.le_of_ble_eq_true rfl) dX12_wantSign_15 ⟨Nat.le_of_ble_eq_true rfl, Nat.le_of_ble_eq_true rfl⟩ (fun H locs hP hS => ?_)
    have hP : PD D A [bl_X12 cy A_m m_at m_names m_status m_top m_bottom m_sort m_trayMany m_trays m_tape m_text m_taped m_size z_8.1 z_8.2.1 z_8.2.2.1 z_8.2.2.2 m_faultKind m_faultPlace m_faults m_seen m_toldParts m_opened m_depth m_counted m_bestOrder m_standers m_has m_bestHas m_standerMany m_bestCouples m_bestFondness m_cameTo m_doesStandFirst m_stoodBy m_drawn m_ranSteps m_loops m_ran m_told1 m_isTold m_marks] H := hP
    refine lv_iconst (v := 1) hx hb dX12_wantSign_18 (by decide) ?_
    cases h
    subst hW1
    exact W.zret hx hb hr rfl (fun _ ht9 _ => ⟨⟨_, (), rfl, rfl, hPt ht9 hP.1⟩, hS.F ht9⟩) hS.2.2 dX12_wantSign_19
  · have h := it c_7 h
    refine lv_aload_n hx hb dX12_wantSign_8 rfl (lv_at hl 0 rfl) ?_
    refine lv_iconst (v := 2) hx hb dX12_wantSign_9 (by decide) ?_
    obtain ⟨z_9, e_z_9, h⟩ := bi h
    refine efVi (rest := []) ⟨hx, hb, hml, hown, ht⟩ (c_X12_fails l D cy fu A_m m_at m_names m_status m_top m_bottom m_sort m_trayMany m_trays m_tape m_text m_taped m_size m_token m_from m_end m_value m_faultKind m_faultPlace m_faults m_seen m_toldParts m_opened m_depth m_counted m_bestOrder m_standers m_has m_bestHas m_standerMany m_bestCouples m_bestFondness m_cameTo m_doesStandFirst m_stoodBy m_drawn m_ranSteps m_loops m_ran m_told1 m_isTold m_marks 2 z_9 e_z_9 _ rfl _ rfl) (cV ht mv_X12_fails tb_1447 rfl rfl ⟨Nat.le_of_ble_eq_true rfl, Nat.le_of_ble_eq_true rfl⟩) hP hS hX [0] rfl rfl rfl rfl rfl rfl hl.1 rfl (Nat.le_of_ble_eq_true rfl) dX12_wantSign_10 ⟨Nat.le_of_ble_eq_true rfl, Nat.le_of_ble_eq_true rfl⟩ (fun H locs hP hS => ?_)
    have hP : PD D A [bl_X12 cy A_m m_at m_names m_status m_top m_bottom m_sort m_trayMany m_trays m_tape m_text m_taped m_size m_token m_from m_end m_value m_faultKind z_9.2.1 z_9.2.2 m_seen m_toldParts m_opened m_depth m_counted m_bestOrder m_standers m_has m_bestHas m_standerMany m_bestCouples m_bestFondness m_cameTo m_doesStandFirst m_stoodBy m_drawn m_ranSteps m_loops m_ran m_told1 m_isTold m_marks] H := hP
    obtain ⟨b_10, e_b_10, h⟩ := bi h
    obtain ⟨-, n_b_10, -⟩ := bz_ok e_b_10
    cases h
    subst hW1
    exact W.zret hx hb hr n_b_10 (fun _ ht9 _ => ⟨⟨_, (), rfl, rfl, hPt ht9 hP.1⟩, hS.F ht9⟩) hS.2.2 dX12_wantSign_13
theorem dX12_number_0 : decode cX12_number 0 = .ok (.aload_n 0, 1) := by decide +kernel
theorem dX12_number_1 : decode cX12_number 1 = .ok (.getfield 129, 3) := by decide +kernel
theorem dX12_number_4 : decode cX12_number 4 = .ok (.iconst 3, 1) := by decide +kernel
theorem dX12_number_5 : decode cX12_number 5 = .ok (.if_icmp .eq 9, 3) := by decide +kernel
theorem dX12_number_8 : decode cX12_number 8 = .ok (.aload_n 0, 1) := by decide +kernel
theorem dX12_number_9 : decode cX12_number 9 = .ok (.iconst 2, 1) := by decide +kernel
theorem dX12_number_10 : decode cX12_number 10 = .ok (.invokevirtual 166, 3) := by decide +kernel
theorem dX12_number_13 : decode cX12_number 13 = .ok (.ireturn, 1) := by decide +kernel
theorem dX12_number_14 : decode cX12_number 14 = .ok (.aload_n 0, 1) := by decide +kernel
theorem dX12_number_15 : decode cX12_number 15 = .ok (.getfield 126, 3) := by decide +kernel
theorem dX12_number_18 : decode cX12_number 18 = .ok (.iload_n 2, 1) := by decide +kernel
theorem dX12_number_19 : decode cX12_number 19 = .ok (.if_icmp .lt 11, 3) := by decide +kernel
theorem dX12_number_22 : decode cX12_number 22 = .ok (.aload_n 0, 1) := by decide +kernel
theorem dX12_number_23 : decode cX12_number 23 = .ok (.getfield 126, 3) := by decide +kernel
theorem dX12_number_26 : decode cX12_number 26 = .ok (.iload_n 3, 1) := by decide +kernel
theorem dX12_number_27 : decode cX12_number 27 = .ok (.if_icmp .le 9, 3) := by decide +kernel
theorem dX12_number_30 : decode cX12_number 30 = .ok (.aload_n 0, 1) := by decide +kernel
theorem dX12_number_31 : decode cX12_number 31 = .ok (.iconst 4, 1) := by decide +kernel
theorem dX12_number_32 : decode cX12_number 32 = .ok (.invokevirtual 166, 3) := by decide +kernel
theorem dX12_number_35 : decode cX12_number 35 = .ok (.ireturn, 1) := by decide +kernel
theorem dX12_number_36 : decode cX12_number 36 = .ok (.aload_n 0, 1) := by decide +kernel
theorem dX12_number_37 : decode cX12_number 37 = .ok (.getfield 7, 3) := by decide +kernel
theorem dX12_number_40 : decode cX12_number 40 = .ok (.iload_n 1, 1) := by decide +kernel
theorem dX12_number_41 : decode cX12_number 41 = .ok (.aload_n 0, 1) := by decide +kernel
theorem dX12_number_42 : decode cX12_number 42 = .ok (.getfield 126, 3) := by decide +kernel
theorem dX12_number_45 : decode cX12_number 45 = .ok (.iastore, 1) := by decide +kernel
theorem dX12_number_46 : decode cX12_number 46 = .ok (.aload_n 0, 1) := by decide +kernel
theorem dX12_number_47 : decode cX12_number 47 = .ok (.invokevirtual 160, 3) := by decide +kernel
theorem dX12_number_50 : decode cX12_number 50 = .ok (.iconst 1, 1) := by decide +kernel
theorem dX12_number_51 : decode cX12_number 51 = .ok (.ireturn, 1) := by decide +kernel
theorem mv_X12_number : MV yX12_number RX12 cX12_number 4 (some .boolean) 3 := ⟨tb_1454, tb_1453, ts_50, tb_16, by decide +kernel, by decide +kernel, by decide +kernel⟩
def f_X12_number (fu : Nat) (m_at : Nat → Int32) (m_text : Nat → Int32) (m_size : Int32) (m_token : Int32) (m_from : Int32) (m_end : Int32) (m_value : Int32) (m_faultPlace : Int32) (m_faults : Int32) (x1 : Int32) (x2 : Int32) (x3 : Int32) : Option (Int32 × (Nat → Int32) × Int32 × Int32 × Int32 × Int32 × Int32 × Int32) := (if m_token = 3 then (if m_value < x2 then (f_X12_fails fu m_token m_from m_faultPlace m_faults 4).bind fun z_14 => (bz z_14.1).bind fun _ => some (z_14.1, m_at, m_token, m_from, m_end, m_value, z_14.2.1, z_14.2.2) else (if m_value ≤ x3 then (wrI m_at 3648 x1 m_value).bind fun m_at_17 => (f_X12_ahead fu m_text m_size m_token m_from m_end m_value).bind fun z_18 => some (1, m_at_17, z_18.1, z_18.2.1, z_18.2.2.1, z_18.2.2.2, m_faultPlace, m_faults) else (f_X12_fails fu m_token m_from m_faultPlace m_faults 4).bind fun z_19 => (bz z_19.1).bind fun _ => some (z_19.1, m_at, m_token, m_from, m_end, m_value, z_19.2.1, z_19.2.2))) else (f_X12_fails fu m_token m_from m_faultPlace m_faults 2).bind fun z_21 => (bz z_21.1).bind fun _ => some (z_21.1, m_at, m_token, m_from, m_end, m_value, z_21.2.1, z_21.2.2))
abbrev rm_X12_number : Room := { frames := 2, cells := 0, slots := 0, locals := 61 }
set_option maxHeartbeats 4000000 in
set_option maxRecDepth 100000 in
theorem c_X12_number (l : Launch) (D : va_G) (cy : Nat → ClassId) (fu : Nat) (A_m : Nat → Nat) (m_at : Nat → Int32) (m_names : Nat → Int64) (m_status : Int32) (m_top : Int64) (m_bottom : Int64) (m_sort : Nat → Int32) (m_trayMany : Nat → Int32) (m_trays : Nat → Int64) (m_tape : Nat → Int32) (m_text : Nat → Int32) (m_taped : Int32) (m_size : Int32) (m_token : Int32) (m_from : Int32) (m_end : Int32) (m_value : Int32) (m_faultKind : Int32) (m_faultPlace : Int32) (m_faults : Int32) (m_seen : Int32) (m_toldParts : Int32) (m_opened : Nat → Int32) (m_depth : Int32) (m_counted : Int32) (m_bestOrder : Int32) (m_standers : Nat → Int32) (m_has : Nat → Int32) (m_bestHas : Nat → Int32) (m_standerMany : Int32) (m_bestCouples : Int32) (m_bestFondness : Int32) (m_cameTo : Nat → Int32) (m_doesStandFirst : Int32) (m_stoodBy : Nat → Int64) (m_drawn : Int32) (m_ranSteps : Int32) (m_loops : Nat → Int32) (m_ran : Nat → Int32) (m_told1 : Nat → Int32) (m_isTold : Int32) (m_marks : Int32) (x1 : Int32) (x2 : Int32) (x3 : Int32) (res : Int32 × (Nat → Int32) × Int32 × Int32 × Int32 × Int32 × Int32 × Int32) (h : f_X12_number fu m_at m_text m_size m_token m_from m_end m_value m_faultPlace m_faults x1 x2 x3 = some res) (A : Nat → Prop) (hA : A = adr [bl_X12 cy A_m m_at m_names m_status m_top m_bottom m_sort m_trayMany m_trays m_tape m_text m_taped m_size m_token m_from m_end m_value m_faultKind m_faultPlace m_faults m_seen m_toldParts m_opened m_depth m_counted m_bestOrder m_standers m_has m_bestHas m_standerMany m_bestCouples m_bestFondness m_cameTo m_doesStandFirst m_stoodBy m_drawn m_ranSteps m_loops m_ran m_told1 m_isTold m_marks]) (W1 : List va_W) (hW1 : W1 = [bl_X12 cy A_m res.2.1 m_names m_status m_top m_bottom m_sort m_trayMany m_trays m_tape m_text m_taped m_size res.2.2.1 res.2.2.2.1 res.2.2.2.2.1 res.2.2.2.2.2.1 m_faultKind res.2.2.2.2.2.2.1 res.2.2.2.2.2.2.2 m_seen m_toldParts m_opened m_depth m_counted m_bestOrder m_standers m_has m_bestHas m_standerMany m_bestCouples m_bestFondness m_cameTo m_doesStandFirst m_stoodBy m_drawn m_ranSteps m_loops m_ran m_told1 m_isTold m_marks]) : Met l yX12_number (WW yX12_number cX12_number 4 (some .boolean)) rm_X12_number (Ed D cy [.ref (A_m 0), .int x1, .int x2, .int x3] [bl_X12 cy A_m m_at m_names m_status m_top m_bottom m_sort m_trayMany m_trays m_tape m_text m_taped m_size m_token m_from m_end m_value m_faultKind m_faultPlace m_faults m_seen m_toldParts m_opened m_depth m_counted m_bestOrder m_standers m_has m_bestHas m_standerMany m_bestCouples m_bestFondness m_cameTo m_doesStandFirst m_stoodBy m_drawn m_ranSteps m_loops m_ran m_told1 m_isTold m_marks]) (Qei D res.1 A W1) 0 0 A := by
  refine Met.ofW (cc := cX12_number) (maxL := 4) (ret := (some .boolean)) (by decide) rfl ?_
  intro p e s m args below meth c s₁ B hml hv
  obtain ⟨hargs, hP, hX, hD0⟩ := hv
  have hx := B.exec
  have hb := B.bytes
  have hr := B.returns
  have ht : ∀ w ∈ lw_gd, w.before args s = true := fun w hw => atoms_spec (ws := WW yX12_number cX12_number 4 (some .boolean)) B.pre w (List.mem_cons_of_mem _ hw)
  have hown : s.vm.findClass RX12 = some m.cls := findClass_of_methodNamed B.named
  have hlocks := B.notSynchronized
  have hP : PD D A [bl_X12 cy A_m m_at m_names m_status m_top m_bottom m_sort m_trayMany m_trays m_tape m_text m_taped m_size m_token m_from m_end m_value m_faultKind m_faultPlace m_faults m_seen m_toldParts m_opened m_depth m_counted m_bestOrder m_standers m_has m_bestHas m_standerMany m_bestCouples m_bestFondness m_cameTo m_doesStandFirst m_stoodBy m_drawn m_ranSteps m_loops m_ran m_told1 m_isTold m_marks] s.heap := ⟨hP, by rw [hA]; exact hD0.own⟩
  have hS : va_S A s.heap s.heap [] := va_S.rf
  obtain ⟨ls, hl, hent⟩ := ent (m := m) (n := 4) hargs (Nat.le_of_ble_eq_true rfl) (lv := [(0, .ref (A_m 0)), (1, .int x1), (2, .int x2), (3, .int x3)]) rfl
  rw [hent]
  clear hent
  unfold f_X12_number at h
  refine lv_aload_n hx hb dX12_number_0 rfl (lv_at hl 0 rfl) ?_
  refine xget (i := 0) (j := 0) (k := 12) (T := TX12) hx hb ht tb_iX12 hown hX hP.1 rfl rfl rfl (by decide) tb_1241 rfl dX12_number_1 ?_
  refine lv_iconst (v := 3) hx hb dX12_number_4 (by decide) ?_
  refine lv_icmp_eq (tgt := 14) hx hb dX12_number_5 (by decide) (fun c_12 => ?_) (fun c_12 => ?_)
  · have h := it c_12 h
    refine lv_aload_n hx hb dX12_number_14 rfl (lv_at hl 0 rfl) ?_
    refine xget (i := 0) (j := 0) (k := 15) (T := TX12) hx hb ht tb_iX12 hown hX hP.1 rfl rfl rfl (by decide) tb_1244 rfl dX12_number_15 ?_
    refine lv_iload_n hx hb dX12_number_18 rfl (lv_at hl 2 rfl) ?_
    refine lv_icmp_lt (tgt := 30) hx hb dX12_number_19 (by decide) (fun c_13 => ?_) (fun c_13 => ?_)
    · have h := it c_13 h
      refine lv_aload_n hx hb dX12_number_30 rfl (lv_at hl 0 rfl) ?_
      refine lv_iconst (v := 4) hx hb dX12_number_31 (by decide) ?_
      obtain ⟨z_14, e_z_14, h⟩ := bi h
      refine efVi (rest := []) ⟨hx, hb, hml, hown, ht⟩ (c_X12_fails l D cy fu A_m m_at m_names m_status m_top m_bottom m_sort m_trayMany m_trays m_tape m_text m_taped m_size m_token m_from m_end m_value m_faultKind m_faultPlace m_faults m_seen m_toldParts m_opened m_depth m_counted m_bestOrder m_standers m_has m_bestHas m_standerMany m_bestCouples m_bestFondness m_cameTo m_doesStandFirst m_stoodBy m_drawn m_ranSteps m_loops m_ran m_told1 m_isTold m_marks 4 z_14 e_z_14 _ rfl _ rfl) (cV ht mv_X12_fails tb_1447 rfl rfl ⟨Nat.le_of_ble_eq_true rfl, Nat.le_of_ble_eq_true rfl⟩) hP hS hX [0] rfl rfl rfl rfl rfl rfl hl.1 rfl (Nat.le_of_ble_eq_true rfl) dX12_number_32 ⟨Nat.le_of_ble_eq_true rfl, Nat.le_of_ble_eq_true rfl⟩ (fun H locs hP hS => ?_)
      have hP : PD D A [bl_X12 cy A_m m_at m_names m_status m_top m_bottom m_sort m_trayMany m_trays m_tape m_text m_taped m_size m_token m_from m_end m_value m_faultKind z_14.2.1 z_14.2.2 m_seen m_toldParts m_opened m_depth m_counted m_bestOrder m_standers m_has m_bestHas m_standerMany m_bestCouples m_bestFondness m_cameTo m_doesStandFirst m_stoodBy m_drawn m_ranSteps m_loops m_ran m_told1 m_isTold m_marks] H := hP
      obtain ⟨b_15, e_b_15, h⟩ := bi h
      obtain ⟨-, n_b_15, -⟩ := bz_ok e_b_15
      cases h
      subst hW1
      exact W.zret hx hb hr n_b_15 (fun _ ht9 _ => ⟨⟨_, (), rfl, rfl, hPt ht9 hP.1⟩, hS.F ht9⟩) hS.2.2 dX12_number_35
    · have h := ie c_13 h
      refine lv_aload_n hx hb dX12_number_22 rfl (lv_at hl 0 rfl) ?_
      refine xget (i := 0) (j := 0) (k := 15) (T := TX12) hx hb ht tb_iX12 hown hX hP.1 rfl rfl rfl (by decide) tb_1244 rfl dX12_number_23 ?_
      refine lv_iload_n hx hb dX12_number_26 rfl (lv_at hl 3 rfl) ?_
      refine lv_icmp_le (tgt := 36) hx hb dX12_number_27 (by decide) (fun c_16 => ?_) (fun c_16 => ?_)
      · have h := it c_16 h
        refine lv_aload_n hx hb dX12_number_36 rfl (lv_at hl 0 rfl) ?_
        refine xget (i := 0) (j := 0) (k := 0) (T := TX12) hx hb ht tb_iX12 hown hX hP.1 rfl rfl rfl (by decide) tb_1229 rfl dX12_number_37 ?_
        refine lv_iload_n hx hb dX12_number_40 rfl (lv_at hl 1 rfl) ?_
        refine lv_aload_n hx hb dX12_number_41 rfl (lv_at hl 0 rfl) ?_
        refine xget (i := 0) (j := 0) (k := 15) (T := TX12) hx hb ht tb_iX12 hown hX hP.1 rfl rfl rfl (by decide) tb_1244 rfl dX12_number_42 ?_
        obtain ⟨m_at_17, e_m_at_17, h⟩ := bi h
        refine xiast (i0 := 0) (j0 := 1) hx hb hX hP hS rfl rfl e_m_at_17 dX12_number_45 (fun H locs hP hS => ?_)
        have hP : PD D A [bl_X12 cy A_m m_at_17 m_names m_status m_top m_bottom m_sort m_trayMany m_trays m_tape m_text m_taped m_size m_token m_from m_end m_value m_faultKind m_faultPlace m_faults m_seen m_toldParts m_opened m_depth m_counted m_bestOrder m_standers m_has m_bestHas m_standerMany m_bestCouples m_bestFondness m_cameTo m_doesStandFirst m_stoodBy m_drawn m_ranSteps m_loops m_ran m_told1 m_isTold m_marks] H := hP
        refine lv_aload_n hx hb dX12_number_46 rfl (lv_at hl 0 rfl) ?_
        obtain ⟨z_18, e_z_18, h⟩ := bi h
        refine efVv (rest := []) ⟨hx, hb, hml, hown, ht⟩ (c_X12_ahead l D cy fu A_m m_at_17 m_names m_status m_top m_bottom m_sort m_trayMany m_trays m_tape m_text m_taped m_size m_token m_from m_end m_value m_faultKind m_faultPlace m_faults m_seen m_toldParts m_opened m_depth m_counted m_bestOrder m_standers m_has m_bestHas m_standerMany m_bestCouples m_bestFondness m_cameTo m_doesStandFirst m_stoodBy m_drawn m_ranSteps m_loops m_ran m_told1 m_isTold m_marks z_18 e_z_18 _ rfl _ rfl) (cV ht mv_X12_ahead tb_1416 rfl rfl ⟨Nat.le_of_ble_eq_true rfl, Nat.le_of_ble_eq_true rfl⟩) hP hS hX [0] rfl rfl rfl rfl rfl rfl hl.1 rfl (Nat.le_of_ble_eq_true rfl) dX12_number_47 ⟨Nat.le_of_ble_eq_true rfl, Nat.le_of_ble_eq_true rfl⟩ (fun H locs hP hS => ?_)
        have hP : PD D A [bl_X12 cy A_m m_at_17 m_names m_status m_top m_bottom m_sort m_trayMany m_trays m_tape m_text m_taped m_size z_18.1 z_18.2.1 z_18.2.2.1 z_18.2.2.2 m_faultKind m_faultPlace m_faults m_seen m_toldParts m_opened m_depth m_counted m_bestOrder m_standers m_has m_bestHas m_standerMany m_bestCouples m_bestFondness m_cameTo m_doesStandFirst m_stoodBy m_drawn m_ranSteps m_loops m_ran m_told1 m_isTold m_marks] H := hP
        refine lv_iconst (v := 1) hx hb dX12_number_50 (by decide) ?_
        cases h
        subst hW1
        exact W.zret hx hb hr rfl (fun _ ht9 _ => ⟨⟨_, (), rfl, rfl, hPt ht9 hP.1⟩, hS.F ht9⟩) hS.2.2 dX12_number_51
      · have h := ie c_16 h
        refine lv_aload_n hx hb dX12_number_30 rfl (lv_at hl 0 rfl) ?_
        refine lv_iconst (v := 4) hx hb dX12_number_31 (by decide) ?_
        obtain ⟨z_19, e_z_19, h⟩ := bi h
        refine efVi (rest := []) ⟨hx, hb, hml, hown, ht⟩ (c_X12_fails l D cy fu A_m m_at m_names m_status m_top m_bottom m_sort m_trayMany m_trays m_tape m_text m_taped m_size m_token m_from m_end m_value m_faultKind m_faultPlace m_faults m_seen m_toldParts m_opened m_depth m_counted m_bestOrder m_standers m_has m_bestHas m_standerMany m_bestCouples m_bestFondness m_cameTo m_doesStandFirst m_stoodBy m_drawn m_ranSteps m_loops m_ran m_told1 m_isTold m_marks 4 z_19 e_z_19 _ rfl _ rfl) (cV ht mv_X12_fails tb_1447 rfl rfl ⟨Nat.le_of_ble_eq_true rfl, Nat.le_of_ble_eq_true rfl⟩) hP hS hX [0] rfl rfl rfl rfl rfl rfl hl.1 rfl (Nat.le_of_ble_eq_true rfl) dX12_number_32 ⟨Nat.le_of_ble_eq_true rfl, Nat.le_of_ble_eq_true rfl⟩ (fun H locs hP hS => ?_)
        have hP : PD D A [bl_X12 cy A_m m_at m_names m_status m_top m_bottom m_sort m_trayMany m_trays m_tape m_text m_taped m_size m_token m_from m_end m_value m_faultKind z_19.2.1 z_19.2.2 m_seen m_toldParts m_opened m_depth m_counted m_bestOrder m_standers m_has m_bestHas m_standerMany m_bestCouples m_bestFondness m_cameTo m_doesStandFirst m_stoodBy m_drawn m_ranSteps m_loops m_ran m_told1 m_isTold m_marks] H := hP
        obtain ⟨b_20, e_b_20, h⟩ := bi h
        obtain ⟨-, n_b_20, -⟩ := bz_ok e_b_20
        cases h
        subst hW1
        exact W.zret hx hb hr n_b_20 (fun _ ht9 _ => ⟨⟨_, (), rfl, rfl, hPt ht9 hP.1⟩, hS.F ht9⟩) hS.2.2 dX12_number_35
  · have h := ie c_12 h
    refine lv_aload_n hx hb dX12_number_8 rfl (lv_at hl 0 rfl) ?_
    refine lv_iconst (v := 2) hx hb dX12_number_9 (by decide) ?_
    obtain ⟨z_21, e_z_21, h⟩ := bi h
    refine efVi (rest := []) ⟨hx, hb, hml, hown, ht⟩ (c_X12_fails l D cy fu A_m m_at m_names m_status m_top m_bottom m_sort m_trayMany m_trays m_tape m_text m_taped m_size m_token m_from m_end m_value m_faultKind m_faultPlace m_faults m_seen m_toldParts m_opened m_depth m_counted m_bestOrder m_standers m_has m_bestHas m_standerMany m_bestCouples m_bestFondness m_cameTo m_doesStandFirst m_stoodBy m_drawn m_ranSteps m_loops m_ran m_told1 m_isTold m_marks 2 z_21 e_z_21 _ rfl _ rfl) (cV ht mv_X12_fails tb_1447 rfl rfl ⟨Nat.le_of_ble_eq_true rfl, Nat.le_of_ble_eq_true rfl⟩) hP hS hX [0] rfl rfl rfl rfl rfl rfl hl.1 rfl (Nat.le_of_ble_eq_true rfl) dX12_number_10 ⟨Nat.le_of_ble_eq_true rfl, Nat.le_of_ble_eq_true rfl⟩ (fun H locs hP hS => ?_)
    have hP : PD D A [bl_X12 cy A_m m_at m_names m_status m_top m_bottom m_sort m_trayMany m_trays m_tape m_text m_taped m_size m_token m_from m_end m_value m_faultKind z_21.2.1 z_21.2.2 m_seen m_toldParts m_opened m_depth m_counted m_bestOrder m_standers m_has m_bestHas m_standerMany m_bestCouples m_bestFondness m_cameTo m_doesStandFirst m_stoodBy m_drawn m_ranSteps m_loops m_ran m_told1 m_isTold m_marks] H := hP
    obtain ⟨b_22, e_b_22, h⟩ := bi h
    obtain ⟨-, n_b_22, -⟩ := bz_ok e_b_22
    cases h
    subst hW1
    exact W.zret hx hb hr n_b_22 (fun _ ht9 _ => ⟨⟨_, (), rfl, rfl, hPt ht9 hP.1⟩, hS.F ht9⟩) hS.2.2 dX12_number_13
theorem dX12_nameHere_0 : decode cX12_nameHere 0 = .ok (.lconst 0, 1) := by decide +kernel
theorem dX12_nameHere_1 : decode cX12_nameHere 1 = .ok (.lstore_n 1, 1) := by decide +kernel
theorem dX12_nameHere_2 : decode cX12_nameHere 2 = .ok (.aload_n 0, 1) := by decide +kernel
theorem dX12_nameHere_3 : decode cX12_nameHere 3 = .ok (.getfield 123, 3) := by decide +kernel
theorem dX12_nameHere_6 : decode cX12_nameHere 6 = .ok (.istore_n 3, 1) := by decide +kernel
theorem dX12_nameHere_7 : decode cX12_nameHere 7 = .ok (.iload_n 3, 1) := by decide +kernel
theorem dX12_nameHere_8 : decode cX12_nameHere 8 = .ok (.aload_n 0, 1) := by decide +kernel
theorem dX12_nameHere_9 : decode cX12_nameHere 9 = .ok (.getfield 117, 3) := by decide +kernel
theorem dX12_nameHere_12 : decode cX12_nameHere 12 = .ok (.if_icmp .ge 21, 3) := by decide +kernel
theorem dX12_nameHere_15 : decode cX12_nameHere 15 = .ok (.lload_n 1, 1) := by decide +kernel
theorem dX12_nameHere_16 : decode cX12_nameHere 16 = .ok (.bipush 8, 2) := by decide +kernel
theorem dX12_nameHere_18 : decode cX12_nameHere 18 = .ok (.lshl, 1) := by decide +kernel
theorem dX12_nameHere_19 : decode cX12_nameHere 19 = .ok (.aload_n 0, 1) := by decide +kernel
theorem dX12_nameHere_20 : decode cX12_nameHere 20 = .ok (.iload_n 3, 1) := by decide +kernel
theorem dX12_nameHere_21 : decode cX12_nameHere 21 = .ok (.invokevirtual 120, 3) := by decide +kernel
theorem dX12_nameHere_24 : decode cX12_nameHere 24 = .ok (.i2l, 1) := by decide +kernel
theorem dX12_nameHere_25 : decode cX12_nameHere 25 = .ok (.lor, 1) := by decide +kernel
theorem dX12_nameHere_26 : decode cX12_nameHere 26 = .ok (.lstore_n 1, 1) := by decide +kernel
theorem dX12_nameHere_27 : decode cX12_nameHere 27 = .ok (.iinc 3 1, 3) := by decide +kernel
theorem dX12_nameHere_30 : decode cX12_nameHere 30 = .ok (.goto (-23), 3) := by decide +kernel
theorem dX12_nameHere_33 : decode cX12_nameHere 33 = .ok (.lload_n 1, 1) := by decide +kernel
theorem dX12_nameHere_34 : decode cX12_nameHere 34 = .ok (.lreturn, 1) := by decide +kernel
theorem mv_X12_nameHere : MV yX12_nameHere RX12 cX12_nameHere 4 (some .long) 0 := ⟨tb_1470, tb_1469, ts_54, tb_16, by decide +kernel, by decide +kernel, by decide +kernel⟩
def f_X12_nameHere_b7 (fu : Nat) (m_text : Nat → Int32) (m_size : Int32) (m_from : Int32) (m_end : Int32) (k7 : Int64 → Int32 → Option (Int64)) (x1 : Int64) (x3 : Int32) : Option (Int64) := (if m_end ≤ x3 then some (x1) else (f_X12_byteAt fu m_text m_size x3).bind fun z_6 => bnd ((x1 <<< (Int32.toInt64 8 &&& 63)) ||| (Int32.toInt64 z_6)) fun x1_7 => bnd (x3 + 1) fun x3_8 => k7 x1_7 x3_8)
def f_X12_nameHere_l7 (fu : Nat) (m_text : Nat → Int32) (m_size : Int32) (m_from : Int32) (m_end : Int32) : Nat → Int64 → Int32 → Option (Int64)
  | 0, _, _ => none
  | n + 1, x1, x3 => f_X12_nameHere_b7 fu m_text m_size m_from m_end (f_X12_nameHere_l7 fu m_text m_size m_from m_end n) x1 x3
def f_X12_nameHere (fu : Nat) (m_text : Nat → Int32) (m_size : Int32) (m_from : Int32) (m_end : Int32) : Option (Int64) := f_X12_nameHere_l7 fu m_text m_size m_from m_end fu 0 m_from
abbrev rm_X12_nameHere : Room := { frames := 1, cells := 0, slots := 0, locals := 21 }
set_option maxHeartbeats 4000000 in
set_option maxRecDepth 100000 in
theorem c_X12_nameHere (l : Launch) (D : va_G) (cy : Nat → ClassId) (fu : Nat) (A_m : Nat → Nat) (m_at : Nat → Int32) (m_names : Nat → Int64) (m_status : Int32) (m_top : Int64) (m_bottom : Int64) (m_sort : Nat → Int32) (m_trayMany : Nat → Int32) (m_trays : Nat → Int64) (m_tape : Nat → Int32) (m_text : Nat → Int32) (m_taped : Int32) (m_size : Int32) (m_token : Int32) (m_from : Int32) (m_end : Int32) (m_value : Int32) (m_faultKind : Int32) (m_faultPlace : Int32) (m_faults : Int32) (m_seen : Int32) (m_toldParts : Int32) (m_opened : Nat → Int32) (m_depth : Int32) (m_counted : Int32) (m_bestOrder : Int32) (m_standers : Nat → Int32) (m_has : Nat → Int32) (m_bestHas : Nat → Int32) (m_standerMany : Int32) (m_bestCouples : Int32) (m_bestFondness : Int32) (m_cameTo : Nat → Int32) (m_doesStandFirst : Int32) (m_stoodBy : Nat → Int64) (m_drawn : Int32) (m_ranSteps : Int32) (m_loops : Nat → Int32) (m_ran : Nat → Int32) (m_told1 : Nat → Int32) (m_isTold : Int32) (m_marks : Int32) (res : Int64) (h : f_X12_nameHere fu m_text m_size m_from m_end = some res) : Met l yX12_nameHere (WW yX12_nameHere cX12_nameHere 4 (some .long)) rm_X12_nameHere (Rd D cy [.ref (A_m 0)] [bl_X12 cy A_m m_at m_names m_status m_top m_bottom m_sort m_trayMany m_trays m_tape m_text m_taped m_size m_token m_from m_end m_value m_faultKind m_faultPlace m_faults m_seen m_toldParts m_opened m_depth m_counted m_bestOrder m_standers m_has m_bestHas m_standerMany m_bestCouples m_bestFondness m_cameTo m_doesStandFirst m_stoodBy m_drawn m_ranSteps m_loops m_ran m_told1 m_isTold m_marks]) (vp_Sl (fun v => v = res)) 0 0 (fun _ => False) := by
  refine Met.ofW (cc := cX12_nameHere) (maxL := 4) (ret := (some .long)) (by decide) rfl ?_
  intro p e s m args below meth c s₁ B hml hv
  obtain ⟨hargs, hP, hX⟩ := hv
  have hx := B.exec
  have hb := B.bytes
  have hr := B.returns
  have ht : ∀ w ∈ lw_gd, w.before args s = true := fun w hw => atoms_spec (ws := WW yX12_nameHere cX12_nameHere 4 (some .long)) B.pre w (List.mem_cons_of_mem _ hw)
  have hown : s.vm.findClass RX12 = some m.cls := findClass_of_methodNamed B.named
  have hlocks := B.notSynchronized
  have hP : PB D [bl_X12 cy A_m m_at m_names m_status m_top m_bottom m_sort m_trayMany m_trays m_tape m_text m_taped m_size m_token m_from m_end m_value m_faultKind m_faultPlace m_faults m_seen m_toldParts m_opened m_depth m_counted m_bestOrder m_standers m_has m_bestHas m_standerMany m_bestCouples m_bestFondness m_cameTo m_doesStandFirst m_stoodBy m_drawn m_ranSteps m_loops m_ran m_told1 m_isTold m_marks] s.heap := hP
  obtain ⟨ls, hl, hent⟩ := ent (m := m) (n := 4) hargs (Nat.le_of_ble_eq_true rfl) (lv := [(0, .ref (A_m 0))]) rfl
  rw [hent]
  clear hent
  have l7 : ∀ (n7 : Nat) (x1 : Int64) (x3 : Int32) (ls : Array Slot), lv_has ls 4 [(0, .ref (A_m 0)), (1, .long x1), (3, .int x3)] → f_X12_nameHere_l7 fu m_text m_size m_from m_end n7 x1 x3 = some res → W p l e (headSpec (WW yX12_nameHere cX12_nameHere 4 (some .long)) rm_X12_nameHere).room s m args below meth c s.heap [] 0 0 (MQ below (vp_Sl (fun v => v = res)) args s 0 0 (fun _ => False)) (F0 m 7 ls []) := by
    intro n7
    induction n7 with
    | zero => intro x1 x3 ls hl h; cases h
    | succ n7 ih7 =>
      intro x1 x3 ls hl h
      have h : f_X12_nameHere_b7 fu m_text m_size m_from m_end (f_X12_nameHere_l7 fu m_text m_size m_from m_end n7) x1 x3 = some res := h
      unfold f_X12_nameHere_b7 at h
      refine lv_iload_n hx hb dX12_nameHere_7 rfl (lv_at hl 2 rfl) ?_
      refine lv_aload_n hx hb dX12_nameHere_8 rfl (lv_at hl 0 rfl) ?_
      refine xget (i := 0) (j := 0) (k := 14) (T := TX12) hx hb ht tb_iX12 hown hX hP rfl rfl rfl (by decide) tb_1243 rfl dX12_nameHere_9 ?_
      refine lv_icmp_ge (tgt := 33) hx hb dX12_nameHere_12 (by decide) (fun c_5 => ?_) (fun c_5 => ?_)
      · have h := it c_5 h
        refine lv_lload_n hx hb dX12_nameHere_33 rfl (lv_at hl 1 rfl) ?_
        cases h
        exact W.lret hx hb hr (fun _ ht9 _ => ⟨_, rfl, rfl, ht9⟩) (fun _ hq => by cases hq) dX12_nameHere_34
      · have h := ie c_5 h
        refine lv_lload_n hx hb dX12_nameHere_15 rfl (lv_at hl 1 rfl) ?_
        refine lv_bipush (v := 8) hx hb dX12_nameHere_16 (by decide) ?_
        refine lv_lshl (v := x1 <<< (Int32.toInt64 8 &&& 63)) hx hb dX12_nameHere_18 rfl ?_
        refine lv_aload_n hx hb dX12_nameHere_19 rfl (lv_at hl 0 rfl) ?_
        refine lv_iload_n hx hb dX12_nameHere_20 rfl (lv_at hl 2 rfl) ?_
        obtain ⟨z_6, e_z_6, h⟩ := bi h
        refine roVi (rest := [.long (x1 <<< (Int32.toInt64 8 &&& 63))]) ⟨hx, hb, hml, hown, ht⟩ (c_X12_byteAt l D cy fu A_m m_at m_names m_status m_top m_bottom m_sort m_trayMany m_trays m_tape m_text m_taped m_size m_token m_from m_end m_value m_faultKind m_faultPlace m_faults m_seen m_toldParts m_opened m_depth m_counted m_bestOrder m_standers m_has m_bestHas m_standerMany m_bestCouples m_bestFondness m_cameTo m_doesStandFirst m_stoodBy m_drawn m_ranSteps m_loops m_ran m_told1 m_isTold m_marks x3 z_6 e_z_6) (cV ht mv_X12_byteAt tb_1420 rfl rfl ⟨Nat.le_of_ble_eq_true rfl, Nat.le_of_ble_eq_true rfl⟩) (P_sub hP [0] rfl) hX rfl rfl rfl hl.1 rfl (Nat.le_of_ble_eq_true rfl) dX12_nameHere_21 ⟨Nat.le_of_ble_eq_true rfl, Nat.le_of_ble_eq_true rfl⟩ ?_
        refine lv_i2l (v := Int32.toInt64 z_6) hx hb dX12_nameHere_24 rfl ?_
        refine lv_lor hx hb dX12_nameHere_25 ?_
        refine lv_topl (fun x1_7 e_x1_7 => ?_)
        have h := bn e_x1_7 h
        refine lv_lstore_n (lv' := [(1, .long x1_7), (0, .ref (A_m 0)), (3, .int x3)]) hx hb dX12_nameHere_26 rfl hl (by decide) rfl (fun ls hl => ?_)
        obtain ⟨x3_8, e_x3_8⟩ : ∃ y : Int32, y = x3 + 1 := ⟨_, rfl⟩
        have h := bn e_x3_8 h
        refine lv_iinc (v := x3_8) (lv' := [(3, .int x3_8), (1, .long x1_7), (0, .ref (A_m 0))]) hx hb dX12_nameHere_27 hl (k := 2) rfl (by rw [e_x3_8]; rfl) (by decide) rfl (fun ls hl => ?_)
        refine lv_goto (tgt := 7) hx hb dX12_nameHere_30 (by decide) ?_
        exact ih7 x1_7 x3_8 ls (lv_sub hl [2, 1, 0] rfl) h
  unfold f_X12_nameHere at h
  refine lv_lconst (v := 0) hx hb dX12_nameHere_0 (by decide) ?_
  refine lv_lstore_n (lv' := [(1, .long 0), (0, .ref (A_m 0))]) hx hb dX12_nameHere_1 rfl hl (by decide) rfl (fun ls hl => ?_)
  refine lv_aload_n hx hb dX12_nameHere_2 rfl (lv_at hl 1 rfl) ?_
  refine xget (i := 0) (j := 0) (k := 13) (T := TX12) hx hb ht tb_iX12 hown hX hP rfl rfl rfl (by decide) tb_1242 rfl dX12_nameHere_3 ?_
  refine lv_istore_n (lv' := [(3, .int m_from), (1, .long 0), (0, .ref (A_m 0))]) hx hb dX12_nameHere_6 rfl hl (by decide) rfl (fun ls hl => ?_)
  exact l7 fu 0 m_from ls (lv_sub hl [2, 1, 0] rfl) h
theorem dX12_findHere_0 : decode cX12_findHere 0 = .ok (.iconst 0, 1) := by decide +kernel
theorem dX12_findHere_1 : decode cX12_findHere 1 = .ok (.istore_n 3, 1) := by decide +kernel
theorem dX12_findHere_2 : decode cX12_findHere 2 = .ok (.iload_n 3, 1) := by decide +kernel
theorem dX12_findHere_3 : decode cX12_findHere 3 = .ok (.iload_n 2, 1) := by decide +kernel
theorem dX12_findHere_4 : decode cX12_findHere 4 = .ok (.if_icmp .ge 27, 3) := by decide +kernel
theorem dX12_findHere_7 : decode cX12_findHere 7 = .ok (.aload_n 0, 1) := by decide +kernel
theorem dX12_findHere_8 : decode cX12_findHere 8 = .ok (.getfield 13, 3) := by decide +kernel
theorem dX12_findHere_11 : decode cX12_findHere 11 = .ok (.iload_n 1, 1) := by decide +kernel
theorem dX12_findHere_12 : decode cX12_findHere 12 = .ok (.iload_n 3, 1) := by decide +kernel
theorem dX12_findHere_13 : decode cX12_findHere 13 = .ok (.iadd, 1) := by decide +kernel
theorem dX12_findHere_14 : decode cX12_findHere 14 = .ok (.laload, 1) := by decide +kernel
theorem dX12_findHere_15 : decode cX12_findHere 15 = .ok (.aload_n 0, 1) := by decide +kernel
theorem dX12_findHere_16 : decode cX12_findHere 16 = .ok (.invokevirtual 173, 3) := by decide +kernel
theorem dX12_findHere_19 : decode cX12_findHere 19 = .ok (.lcmp, 1) := by decide +kernel
theorem dX12_findHere_20 : decode cX12_findHere 20 = .ok (.ifCond .ne 5, 3) := by decide +kernel
theorem dX12_findHere_23 : decode cX12_findHere 23 = .ok (.iload_n 3, 1) := by decide +kernel
theorem dX12_findHere_24 : decode cX12_findHere 24 = .ok (.ireturn, 1) := by decide +kernel
theorem dX12_findHere_25 : decode cX12_findHere 25 = .ok (.iinc 3 1, 3) := by decide +kernel
theorem dX12_findHere_28 : decode cX12_findHere 28 = .ok (.goto (-26), 3) := by decide +kernel
theorem dX12_findHere_31 : decode cX12_findHere 31 = .ok (.iconst (-1), 1) := by decide +kernel
theorem dX12_findHere_32 : decode cX12_findHere 32 = .ok (.ireturn, 1) := by decide +kernel
theorem mv_X12_findHere : MV yX12_findHere RX12 cX12_findHere 4 (some .int) 2 := ⟨tb_1466, tb_1465, ts_53, tb_16, by decide +kernel, by decide +kernel, by decide +kernel⟩
def f_X12_findHere_b2 (fu : Nat) (m_names : Nat → Int64) (m_text : Nat → Int32) (m_size : Int32) (m_from : Int32) (m_end : Int32) (x1 : Int32) (x2 : Int32) (k2 : Int32 → Option (Int32)) (x3 : Int32) : Option (Int32) := (if x2 ≤ x3 then some ((-1)) else (rdJ m_names 48 (x1 + x3)).bind fun y_7 => (f_X12_nameHere fu m_text m_size m_from m_end).bind fun z_8 => (if (lg_cmp y_7 z_8) = 0 then some (x3) else bnd (x3 + 1) fun x3_10 => k2 x3_10))
def f_X12_findHere_l2 (fu : Nat) (m_names : Nat → Int64) (m_text : Nat → Int32) (m_size : Int32) (m_from : Int32) (m_end : Int32) (x1 : Int32) (x2 : Int32) : Nat → Int32 → Option (Int32)
  | 0, _ => none
  | n + 1, x3 => f_X12_findHere_b2 fu m_names m_text m_size m_from m_end x1 x2 (f_X12_findHere_l2 fu m_names m_text m_size m_from m_end x1 x2 n) x3
def f_X12_findHere (fu : Nat) (m_names : Nat → Int64) (m_text : Nat → Int32) (m_size : Int32) (m_from : Int32) (m_end : Int32) (x1 : Int32) (x2 : Int32) : Option (Int32) := f_X12_findHere_l2 fu m_names m_text m_size m_from m_end x1 x2 fu 0
abbrev rm_X12_findHere : Room := { frames := 2, cells := 0, slots := 0, locals := 44 }
set_option maxHeartbeats 4000000 in
set_option maxRecDepth 100000 in
theorem c_X12_findHere (l : Launch) (D : va_G) (cy : Nat → ClassId) (fu : Nat) (A_m : Nat → Nat) (m_at : Nat → Int32) (m_names : Nat → Int64) (m_status : Int32) (m_top : Int64) (m_bottom : Int64) (m_sort : Nat → Int32) (m_trayMany : Nat → Int32) (m_trays : Nat → Int64) (m_tape : Nat → Int32) (m_text : Nat → Int32) (m_taped : Int32) (m_size : Int32) (m_token : Int32) (m_from : Int32) (m_end : Int32) (m_value : Int32) (m_faultKind : Int32) (m_faultPlace : Int32) (m_faults : Int32) (m_seen : Int32) (m_toldParts : Int32) (m_opened : Nat → Int32) (m_depth : Int32) (m_counted : Int32) (m_bestOrder : Int32) (m_standers : Nat → Int32) (m_has : Nat → Int32) (m_bestHas : Nat → Int32) (m_standerMany : Int32) (m_bestCouples : Int32) (m_bestFondness : Int32) (m_cameTo : Nat → Int32) (m_doesStandFirst : Int32) (m_stoodBy : Nat → Int64) (m_drawn : Int32) (m_ranSteps : Int32) (m_loops : Nat → Int32) (m_ran : Nat → Int32) (m_told1 : Nat → Int32) (m_isTold : Int32) (m_marks : Int32) (x1 : Int32) (x2 : Int32) (res : Int32) (h : f_X12_findHere fu m_names m_text m_size m_from m_end x1 x2 = some res) : Met l yX12_findHere (WW yX12_findHere cX12_findHere 4 (some .int)) rm_X12_findHere (Rd D cy [.ref (A_m 0), .int x1, .int x2] [bl_X12 cy A_m m_at m_names m_status m_top m_bottom m_sort m_trayMany m_trays m_tape m_text m_taped m_size m_token m_from m_end m_value m_faultKind m_faultPlace m_faults m_seen m_toldParts m_opened m_depth m_counted m_bestOrder m_standers m_has m_bestHas m_standerMany m_bestCouples m_bestFondness m_cameTo m_doesStandFirst m_stoodBy m_drawn m_ranSteps m_loops m_ran m_told1 m_isTold m_marks]) (vp_Si (fun v => v = res)) 0 0 (fun _ => False) := by
  refine Met.ofW (cc := cX12_findHere) (maxL := 4) (ret := (some .int)) (by decide) rfl ?_
  intro p e s m args below meth c s₁ B hml hv
  obtain ⟨hargs, hP, hX⟩ := hv
  have hx := B.exec
  have hb := B.bytes
  have hr := B.returns
  have ht : ∀ w ∈ lw_gd, w.before args s = true := fun w hw => atoms_spec (ws := WW yX12_findHere cX12_findHere 4 (some .int)) B.pre w (List.mem_cons_of_mem _ hw)
  have hown : s.vm.findClass RX12 = some m.cls := findClass_of_methodNamed B.named
  have hlocks := B.notSynchronized
  have hP : PB D [bl_X12 cy A_m m_at m_names m_status m_top m_bottom m_sort m_trayMany m_trays m_tape m_text m_taped m_size m_token m_from m_end m_value m_faultKind m_faultPlace m_faults m_seen m_toldParts m_opened m_depth m_counted m_bestOrder m_standers m_has m_bestHas m_standerMany m_bestCouples m_bestFondness m_cameTo m_doesStandFirst m_stoodBy m_drawn m_ranSteps m_loops m_ran m_told1 m_isTold m_marks] s.heap := hP
  obtain ⟨ls, hl, hent⟩ := ent (m := m) (n := 4) hargs (Nat.le_of_ble_eq_true rfl) (lv := [(0, .ref (A_m 0)), (1, .int x1), (2, .int x2)]) rfl
  rw [hent]
  clear hent
  have l2 : ∀ (n2 : Nat) (x3 : Int32) (ls : Array Slot), lv_has ls 4 [(0, .ref (A_m 0)), (1, .int x1), (2, .int x2), (3, .int x3)] → f_X12_findHere_l2 fu m_names m_text m_size m_from m_end x1 x2 n2 x3 = some res → W p l e (headSpec (WW yX12_findHere cX12_findHere 4 (some .int)) rm_X12_findHere).room s m args below meth c s.heap [] 0 0 (MQ below (vp_Si (fun v => v = res)) args s 0 0 (fun _ => False)) (F0 m 2 ls []) := by
    intro n2
    induction n2 with
    | zero => intro x3 ls hl h; cases h
    | succ n2 ih2 =>
      intro x3 ls hl h
      have h : f_X12_findHere_b2 fu m_names m_text m_size m_from m_end x1 x2 (f_X12_findHere_l2 fu m_names m_text m_size m_from m_end x1 x2 n2) x3 = some res := h
      unfold f_X12_findHere_b2 at h
      refine lv_iload_n hx hb dX12_findHere_2 rfl (lv_at hl 3 rfl) ?_
      refine lv_iload_n hx hb dX12_findHere_3 rfl (lv_at hl 2 rfl) ?_
      refine lv_icmp_ge (tgt := 31) hx hb dX12_findHere_4 (by decide) (fun c_6 => ?_) (fun c_6 => ?_)
      · have h := it c_6 h
        refine lv_iconst (v := (-1)) hx hb dX12_findHere_31 (by decide) ?_
        cases h
        exact W.iret hx hb hr (fun _ ht9 _ => ⟨_, rfl, rfl, ht9⟩) (fun _ hq => by cases hq) dX12_findHere_32
      · have h := ie c_6 h
        refine lv_aload_n hx hb dX12_findHere_7 rfl (lv_at hl 0 rfl) ?_
        refine xget (i := 0) (j := 0) (k := 1) (T := TX12) hx hb ht tb_iX12 hown hX hP rfl rfl rfl (by decide) tb_1230 rfl dX12_findHere_8 ?_
        refine lv_iload_n hx hb dX12_findHere_11 rfl (lv_at hl 1 rfl) ?_
        refine lv_iload_n hx hb dX12_findHere_12 rfl (lv_at hl 3 rfl) ?_
        refine lv_iadd hx hb dX12_findHere_13 ?_
        obtain ⟨y_7, e_y_7, h⟩ := bi h
        refine xlald (i0 := 0) (j0 := 2) hx hb hX hP rfl rfl e_y_7 dX12_findHere_14 ?_
        refine lv_aload_n hx hb dX12_findHere_15 rfl (lv_at hl 0 rfl) ?_
        obtain ⟨z_8, e_z_8, h⟩ := bi h
        refine roVl (rest := [.long y_7]) ⟨hx, hb, hml, hown, ht⟩ (c_X12_nameHere l D cy fu A_m m_at m_names m_status m_top m_bottom m_sort m_trayMany m_trays m_tape m_text m_taped m_size m_token m_from m_end m_value m_faultKind m_faultPlace m_faults m_seen m_toldParts m_opened m_depth m_counted m_bestOrder m_standers m_has m_bestHas m_standerMany m_bestCouples m_bestFondness m_cameTo m_doesStandFirst m_stoodBy m_drawn m_ranSteps m_loops m_ran m_told1 m_isTold m_marks z_8 e_z_8) (cV ht mv_X12_nameHere tb_1467 rfl rfl ⟨Nat.le_of_ble_eq_true rfl, Nat.le_of_ble_eq_true rfl⟩) (P_sub hP [0] rfl) hX rfl rfl rfl hl.1 rfl (Nat.le_of_ble_eq_true rfl) dX12_findHere_16 ⟨Nat.le_of_ble_eq_true rfl, Nat.le_of_ble_eq_true rfl⟩ ?_
        refine W.lcmp hx hb dX12_findHere_19 ?_
        refine lv_if_ne (tgt := 25) hx hb dX12_findHere_20 (by decide) (fun c_9 => ?_) (fun c_9 => ?_)
        · have h := ie c_9 h
          obtain ⟨x3_10, e_x3_10⟩ : ∃ y : Int32, y = x3 + 1 := ⟨_, rfl⟩
          have h := bn e_x3_10 h
          refine lv_iinc (v := x3_10) (lv' := [(3, .int x3_10), (0, .ref (A_m 0)), (1, .int x1), (2, .int x2)]) hx hb dX12_findHere_25 hl (k := 3) rfl (by rw [e_x3_10]; rfl) (by decide) rfl (fun ls hl => ?_)
          refine lv_goto (tgt := 2) hx hb dX12_findHere_28 (by decide) ?_
          exact ih2 x3_10 ls (lv_sub hl [1, 2, 3, 0] rfl) h
        · have h := it c_9 h
          refine lv_iload_n hx hb dX12_findHere_23 rfl (lv_at hl 3 rfl) ?_
          cases h
          exact W.iret hx hb hr (fun _ ht9 _ => ⟨_, rfl, rfl, ht9⟩) (fun _ hq => by cases hq) dX12_findHere_24
  unfold f_X12_findHere at h
  refine lv_iconst (v := 0) hx hb dX12_findHere_0 (by decide) ?_
  refine lv_istore_n (lv' := [(3, .int 0), (0, .ref (A_m 0)), (1, .int x1), (2, .int x2)]) hx hb dX12_findHere_1 rfl hl (by decide) rfl (fun ls hl => ?_)
  exact l2 fu 0 ls (lv_sub hl [1, 2, 3, 0] rfl) h
theorem dX12_fault_0 : decode cX12_fault 0 = .ok (.iload_n 1, 1) := by decide +kernel
theorem dX12_fault_1 : decode cX12_fault 1 = .ok (.ifCond .ne 10, 3) := by decide +kernel
theorem dX12_fault_4 : decode cX12_fault 4 = .ok (.aload_n 0, 1) := by decide +kernel
theorem dX12_fault_5 : decode cX12_fault 5 = .ok (.getfield 37, 3) := by decide +kernel
theorem dX12_fault_8 : decode cX12_fault 8 = .ok (.goto 16, 3) := by decide +kernel
theorem dX12_fault_11 : decode cX12_fault 11 = .ok (.iload_n 1, 1) := by decide +kernel
theorem dX12_fault_12 : decode cX12_fault 12 = .ok (.iconst 1, 1) := by decide +kernel
theorem dX12_fault_13 : decode cX12_fault 13 = .ok (.if_icmp .ne 10, 3) := by decide +kernel
theorem dX12_fault_16 : decode cX12_fault 16 = .ok (.aload_n 0, 1) := by decide +kernel
theorem dX12_fault_17 : decode cX12_fault 17 = .ok (.getfield 41, 3) := by decide +kernel
theorem dX12_fault_20 : decode cX12_fault 20 = .ok (.goto 4, 3) := by decide +kernel
theorem dX12_fault_23 : decode cX12_fault 23 = .ok (.iconst (-1), 1) := by decide +kernel
theorem dX12_fault_24 : decode cX12_fault 24 = .ok (.ireturn, 1) := by decide +kernel
theorem mv_X12_fault : MV yX12_fault RX12 cX12_fault 2 (some .int) 1 := ⟨tb_1407, tb_1405, tb_1406, tb_16, by decide +kernel, by decide +kernel, by decide +kernel⟩
def f_X12_fault (fu : Nat) (m_faultKind : Int32) (m_faultPlace : Int32) (x1 : Int32) : Option (Int32) := (if x1 = 0 then some (m_faultKind) else (if x1 = 1 then some (m_faultPlace) else some ((-1))))
abbrev rm_X12_fault : Room := { frames := 0, cells := 0, slots := 0, locals := 0 }
set_option maxHeartbeats 4000000 in
set_option maxRecDepth 100000 in
theorem c_X12_fault (l : Launch) (D : va_G) (cy : Nat → ClassId) (fu : Nat) (A_m : Nat → Nat) (m_at : Nat → Int32) (m_names : Nat → Int64) (m_status : Int32) (m_top : Int64) (m_bottom : Int64) (m_sort : Nat → Int32) (m_trayMany : Nat → Int32) (m_trays : Nat → Int64) (m_tape : Nat → Int32) (m_text : Nat → Int32) (m_taped : Int32) (m_size : Int32) (m_token : Int32) (m_from : Int32) (m_end : Int32) (m_value : Int32) (m_faultKind : Int32) (m_faultPlace : Int32) (m_faults : Int32) (m_seen : Int32) (m_toldParts : Int32) (m_opened : Nat → Int32) (m_depth : Int32) (m_counted : Int32) (m_bestOrder : Int32) (m_standers : Nat → Int32) (m_has : Nat → Int32) (m_bestHas : Nat → Int32) (m_standerMany : Int32) (m_bestCouples : Int32) (m_bestFondness : Int32) (m_cameTo : Nat → Int32) (m_doesStandFirst : Int32) (m_stoodBy : Nat → Int64) (m_drawn : Int32) (m_ranSteps : Int32) (m_loops : Nat → Int32) (m_ran : Nat → Int32) (m_told1 : Nat → Int32) (m_isTold : Int32) (m_marks : Int32) (x1 : Int32) (res : Int32) (h : f_X12_fault fu m_faultKind m_faultPlace x1 = some res) : Met l yX12_fault (WW yX12_fault cX12_fault 2 (some .int)) rm_X12_fault (Rd D cy [.ref (A_m 0), .int x1] [bl_X12 cy A_m m_at m_names m_status m_top m_bottom m_sort m_trayMany m_trays m_tape m_text m_taped m_size m_token m_from m_end m_value m_faultKind m_faultPlace m_faults m_seen m_toldParts m_opened m_depth m_counted m_bestOrder m_standers m_has m_bestHas m_standerMany m_bestCouples m_bestFondness m_cameTo m_doesStandFirst m_stoodBy m_drawn m_ranSteps m_loops m_ran m_told1 m_isTold m_marks]) (vp_Si (fun v => v = res)) 0 0 (fun _ => False) := by
  refine Met.ofW (cc := cX12_fault) (maxL := 2) (ret := (some .int)) (by decide) rfl ?_
  intro p e s m args below meth c s₁ B hml hv
  obtain ⟨hargs, hP, hX⟩ := hv
  have hx := B.exec
  have hb := B.bytes
  have hr := B.returns
  have ht : ∀ w ∈ lw_gd, w.before args s = true := fun w hw => atoms_spec (ws := WW yX12_fault cX12_fault 2 (some .int)) B.pre w (List.mem_cons_of_mem _ hw)
  have hown : s.vm.findClass RX12 = some m.cls := findClass_of_methodNamed B.named
  have hlocks := B.notSynchronized
  have hP : PB D [bl_X12 cy A_m m_at m_names m_status m_top m_bottom m_sort m_trayMany m_trays m_tape m_text m_taped m_size m_token m_from m_end m_value m_faultKind m_faultPlace m_faults m_seen m_toldParts m_opened m_depth m_counted m_bestOrder m_standers m_has m_bestHas m_standerMany m_bestCouples m_bestFondness m_cameTo m_doesStandFirst m_stoodBy m_drawn m_ranSteps m_loops m_ran m_told1 m_isTold m_marks] s.heap := hP
  obtain ⟨ls, hl, hent⟩ := ent (m := m) (n := 2) hargs (Nat.le_of_ble_eq_true rfl) (lv := [(0, .ref (A_m 0)), (1, .int x1)]) rfl
  rw [hent]
  clear hent
  unfold f_X12_fault at h
  refine lv_iload_n hx hb dX12_fault_0 rfl (lv_at hl 1 rfl) ?_
  refine lv_if_ne (tgt := 11) hx hb dX12_fault_1 (by decide) (fun c_3 => ?_) (fun c_3 => ?_)
  · have h := ie c_3 h
    refine lv_iload_n hx hb dX12_fault_11 rfl (lv_at hl 1 rfl) ?_
    refine lv_iconst (v := 1) hx hb dX12_fault_12 (by decide) ?_
    refine lv_icmp_ne (tgt := 23) hx hb dX12_fault_13 (by decide) (fun c_4 => ?_) (fun c_4 => ?_)
    · have h := ie c_4 h
      refine lv_iconst (v := (-1)) hx hb dX12_fault_23 (by decide) ?_
      cases h
      exact W.iret hx hb hr (fun _ ht9 _ => ⟨_, rfl, rfl, ht9⟩) (fun _ hq => by cases hq) dX12_fault_24
    · have h := it c_4 h
      refine lv_aload_n hx hb dX12_fault_16 rfl (lv_at hl 0 rfl) ?_
      refine xget (i := 0) (j := 0) (k := 17) (T := TX12) hx hb ht tb_iX12 hown hX hP rfl rfl rfl (by decide) tb_1246 rfl dX12_fault_17 ?_
      refine lv_goto (tgt := 24) hx hb dX12_fault_20 (by decide) ?_
      cases h
      exact W.iret hx hb hr (fun _ ht9 _ => ⟨_, rfl, rfl, ht9⟩) (fun _ hq => by cases hq) dX12_fault_24
  · have h := it c_3 h
    refine lv_aload_n hx hb dX12_fault_4 rfl (lv_at hl 0 rfl) ?_
    refine xget (i := 0) (j := 0) (k := 16) (T := TX12) hx hb ht tb_iX12 hown hX hP rfl rfl rfl (by decide) tb_1245 rfl dX12_fault_5 ?_
    refine lv_goto (tgt := 24) hx hb dX12_fault_8 (by decide) ?_
    cases h
    exact W.iret hx hb hr (fun _ ht9 _ => ⟨_, rfl, rfl, ht9⟩) (fun _ hq => by cases hq) dX12_fault_24
theorem dX12_taken_0 : decode cX12_taken 0 = .ok (.aload_n 0, 1) := by decide +kernel
theorem dX12_taken_1 : decode cX12_taken 1 = .ok (.aload_n 0, 1) := by decide +kernel
theorem dX12_taken_2 : decode cX12_taken 2 = .ok (.getfield 154, 3) := by decide +kernel
theorem dX12_taken_5 : decode cX12_taken 5 = .ok (.putfield 37, 3) := by decide +kernel
theorem dX12_taken_8 : decode cX12_taken 8 = .ok (.aload_n 0, 1) := by decide +kernel
theorem dX12_taken_9 : decode cX12_taken 9 = .ok (.getfield 154, 3) := by decide +kernel
theorem dX12_taken_12 : decode cX12_taken 12 = .ok (.ifCond .le 12, 3) := by decide +kernel
theorem dX12_taken_15 : decode cX12_taken 15 = .ok (.aload_n 0, 1) := by decide +kernel
theorem dX12_taken_16 : decode cX12_taken 16 = .ok (.bipush 9, 2) := by decide +kernel
theorem dX12_taken_18 : decode cX12_taken 18 = .ok (.invokevirtual 85, 3) := by decide +kernel
theorem dX12_taken_21 : decode cX12_taken 21 = .ok (.goto 8, 3) := by decide +kernel
theorem dX12_taken_24 : decode cX12_taken 24 = .ok (.aload_n 0, 1) := by decide +kernel
theorem dX12_taken_25 : decode cX12_taken 25 = .ok (.iload_n 1, 1) := by decide +kernel
theorem dX12_taken_26 : decode cX12_taken 26 = .ok (.invokevirtual 88, 3) := by decide +kernel
theorem dX12_taken_29 : decode cX12_taken 29 = .ok (.ireturn, 1) := by decide +kernel
theorem mv_X12_taken : MV yX12_taken RX12 cX12_taken 2 (some .int) 1 := ⟨tb_1498, tb_1497, ts_61, tb_16, by decide +kernel, by decide +kernel, by decide +kernel⟩
def f_X12_taken (fu : Nat) (m_status : Int32) (m_faultKind : Int32) (m_faults : Int32) (x1 : Int32) : Option (Int32 × Int32 × Int32) := (if m_faults ≤ 0 then (f_X12_gives fu m_status x1).bind fun z_5 => some (z_5.1, z_5.2, m_faults) else (f_X12_refuse fu m_status 9).bind fun z_6 => some (z_6.1, z_6.2, m_faults))
abbrev rm_X12_taken : Room := { frames := 1, cells := 0, slots := 0, locals := 21 }
set_option maxHeartbeats 4000000 in
set_option maxRecDepth 100000 in
theorem c_X12_taken (l : Launch) (D : va_G) (cy : Nat → ClassId) (fu : Nat) (A_m : Nat → Nat) (m_at : Nat → Int32) (m_names : Nat → Int64) (m_status : Int32) (m_top : Int64) (m_bottom : Int64) (m_sort : Nat → Int32) (m_trayMany : Nat → Int32) (m_trays : Nat → Int64) (m_tape : Nat → Int32) (m_text : Nat → Int32) (m_taped : Int32) (m_size : Int32) (m_token : Int32) (m_from : Int32) (m_end : Int32) (m_value : Int32) (m_faultKind : Int32) (m_faultPlace : Int32) (m_faults : Int32) (m_seen : Int32) (m_toldParts : Int32) (m_opened : Nat → Int32) (m_depth : Int32) (m_counted : Int32) (m_bestOrder : Int32) (m_standers : Nat → Int32) (m_has : Nat → Int32) (m_bestHas : Nat → Int32) (m_standerMany : Int32) (m_bestCouples : Int32) (m_bestFondness : Int32) (m_cameTo : Nat → Int32) (m_doesStandFirst : Int32) (m_stoodBy : Nat → Int64) (m_drawn : Int32) (m_ranSteps : Int32) (m_loops : Nat → Int32) (m_ran : Nat → Int32) (m_told1 : Nat → Int32) (m_isTold : Int32) (m_marks : Int32) (x1 : Int32) (res : Int32 × Int32 × Int32) (h : f_X12_taken fu m_status m_faultKind m_faults x1 = some res) (A : Nat → Prop) (hA : A = adr [bl_X12 cy A_m m_at m_names m_status m_top m_bottom m_sort m_trayMany m_trays m_tape m_text m_taped m_size m_token m_from m_end m_value m_faultKind m_faultPlace m_faults m_seen m_toldParts m_opened m_depth m_counted m_bestOrder m_standers m_has m_bestHas m_standerMany m_bestCouples m_bestFondness m_cameTo m_doesStandFirst m_stoodBy m_drawn m_ranSteps m_loops m_ran m_told1 m_isTold m_marks]) (W1 : List va_W) (hW1 : W1 = [bl_X12 cy A_m m_at m_names res.2.1 m_top m_bottom m_sort m_trayMany m_trays m_tape m_text m_taped m_size m_token m_from m_end m_value res.2.2 m_faultPlace m_faults m_seen m_toldParts m_opened m_depth m_counted m_bestOrder m_standers m_has m_bestHas m_standerMany m_bestCouples m_bestFondness m_cameTo m_doesStandFirst m_stoodBy m_drawn m_ranSteps m_loops m_ran m_told1 m_isTold m_marks]) : Met l yX12_taken (WW yX12_taken cX12_taken 2 (some .int)) rm_X12_taken (Ed D cy [.ref (A_m 0), .int x1] [bl_X12 cy A_m m_at m_names m_status m_top m_bottom m_sort m_trayMany m_trays m_tape m_text m_taped m_size m_token m_from m_end m_value m_faultKind m_faultPlace m_faults m_seen m_toldParts m_opened m_depth m_counted m_bestOrder m_standers m_has m_bestHas m_standerMany m_bestCouples m_bestFondness m_cameTo m_doesStandFirst m_stoodBy m_drawn m_ranSteps m_loops m_ran m_told1 m_isTold m_marks]) (Qei D res.1 A W1) 0 0 A := by
  refine Met.ofW (cc := cX12_taken) (maxL := 2) (ret := (some .int)) (by decide) rfl ?_
  intro p e s m args below meth c s₁ B hml hv
  obtain ⟨hargs, hP, hX, hD0⟩ := hv
  have hx := B.exec
  have hb := B.bytes
  have hr := B.returns
  have ht : ∀ w ∈ lw_gd, w.before args s = true := fun w hw => atoms_spec (ws := WW yX12_taken cX12_taken 2 (some .int)) B.pre w (List.mem_cons_of_mem _ hw)
  have hown : s.vm.findClass RX12 = some m.cls := findClass_of_methodNamed B.named
  have hlocks := B.notSynchronized
  have hP : PD D A [bl_X12 cy A_m m_at m_names m_status m_top m_bottom m_sort m_trayMany m_trays m_tape m_text m_taped m_size m_token m_from m_end m_value m_faultKind m_faultPlace m_faults m_seen m_toldParts m_opened m_depth m_counted m_bestOrder m_standers m_has m_bestHas m_standerMany m_bestCouples m_bestFondness m_cameTo m_doesStandFirst m_stoodBy m_drawn m_ranSteps m_loops m_ran m_told1 m_isTold m_marks] s.heap := ⟨hP, by rw [hA]; exact hD0.own⟩
  have hS : va_S A s.heap s.heap [] := va_S.rf
  obtain ⟨ls, hl, hent⟩ := ent (m := m) (n := 2) hargs (Nat.le_of_ble_eq_true rfl) (lv := [(0, .ref (A_m 0)), (1, .int x1)]) rfl
  rw [hent]
  clear hent
  unfold f_X12_taken at h
  refine lv_aload_n hx hb dX12_taken_0 rfl (lv_at hl 0 rfl) ?_
  refine lv_aload_n hx hb dX12_taken_1 rfl (lv_at hl 0 rfl) ?_
  refine xget (i := 0) (j := 0) (k := 18) (T := TX12) hx hb ht tb_iX12 hown hX hP.1 rfl rfl rfl (by decide) tb_1247 rfl dX12_taken_2 ?_
  refine xput (i := 0) (j := 0) (k := 16) (T := TX12) tyX12 tyX12_ok nmX12 hx hb ht tb_iX12 hown hX hP hS rfl rfl rfl (by decide) tb_1245 rfl rfl rfl (Nat.le_of_ble_eq_true rfl) dX12_taken_5 (fun H locs hP hS => ?_)
  have hP : PD D A [bl_X12 cy A_m m_at m_names m_status m_top m_bottom m_sort m_trayMany m_trays m_tape m_text m_taped m_size m_token m_from m_end m_value m_faults m_faultPlace m_faults m_seen m_toldParts m_opened m_depth m_counted m_bestOrder m_standers m_has m_bestHas m_standerMany m_bestCouples m_bestFondness m_cameTo m_doesStandFirst m_stoodBy m_drawn m_ranSteps m_loops m_ran m_told1 m_isTold m_marks] H := hP
  refine lv_aload_n hx hb dX12_taken_8 rfl (lv_at hl 0 rfl) ?_
  refine xget (i := 0) (j := 0) (k := 18) (T := TX12) hx hb ht tb_iX12 hown hX hP.1 rfl rfl rfl (by decide) tb_1247 rfl dX12_taken_9 ?_
  refine lv_if_le (tgt := 24) hx hb dX12_taken_12 (by decide) (fun c_4 => ?_) (fun c_4 => ?_)
  · have h := it c_4 h
    refine lv_aload_n hx hb dX12_taken_24 rfl (lv_at hl 0 rfl) ?_
    refine lv_iload_n hx hb dX12_taken_25 rfl (lv_at hl 1 rfl) ?_
    obtain ⟨z_5, e_z_5, h⟩ := bi h
    refine efVi (rest := []) ⟨hx, hb, hml, hown, ht⟩ (c_X12_gives l D cy fu A_m m_at m_names m_status m_top m_bottom m_sort m_trayMany m_trays m_tape m_text m_taped m_size m_token m_from m_end m_value m_faults m_faultPlace m_faults m_seen m_toldParts m_opened m_depth m_counted m_bestOrder m_standers m_has m_bestHas m_standerMany m_bestCouples m_bestFondness m_cameTo m_doesStandFirst m_stoodBy m_drawn m_ranSteps m_loops m_ran m_told1 m_isTold m_marks x1 z_5 e_z_5 _ rfl _ rfl) (cV ht mv_X12_gives tb_1499 rfl rfl ⟨Nat.le_of_ble_eq_true rfl, Nat.le_of_ble_eq_true rfl⟩) hP hS hX [0] rfl rfl rfl rfl rfl rfl hl.1 rfl (Nat.le_of_ble_eq_true rfl) dX12_taken_26 ⟨Nat.le_of_ble_eq_true rfl, Nat.le_of_ble_eq_true rfl⟩ (fun H locs hP hS => ?_)
    have hP : PD D A [bl_X12 cy A_m m_at m_names z_5.2 m_top m_bottom m_sort m_trayMany m_trays m_tape m_text m_taped m_size m_token m_from m_end m_value m_faults m_faultPlace m_faults m_seen m_toldParts m_opened m_depth m_counted m_bestOrder m_standers m_has m_bestHas m_standerMany m_bestCouples m_bestFondness m_cameTo m_doesStandFirst m_stoodBy m_drawn m_ranSteps m_loops m_ran m_told1 m_isTold m_marks] H := hP
    cases h
    subst hW1
    exact W.iret hx hb hr (fun _ ht9 _ => ⟨⟨_, (), rfl, rfl, hPt ht9 hP.1⟩, hS.F ht9⟩) hS.2.2 dX12_taken_29
  · have h := ie c_4 h
    refine lv_aload_n hx hb dX12_taken_15 rfl (lv_at hl 0 rfl) ?_
    refine lv_bipush (v := 9) hx hb dX12_taken_16 (by decide) ?_
    obtain ⟨z_6, e_z_6, h⟩ := bi h
    refine efVi (rest := []) ⟨hx, hb, hml, hown, ht⟩ (c_X12_refuse l D cy fu A_m m_at m_names m_status m_top m_bottom m_sort m_trayMany m_trays m_tape m_text m_taped m_size m_token m_from m_end m_value m_faults m_faultPlace m_faults m_seen m_toldParts m_opened m_depth m_counted m_bestOrder m_standers m_has m_bestHas m_standerMany m_bestCouples m_bestFondness m_cameTo m_doesStandFirst m_stoodBy m_drawn m_ranSteps m_loops m_ran m_told1 m_isTold m_marks 9 z_6 e_z_6 _ rfl _ rfl) (cV ht mv_X12_refuse tb_1432 rfl rfl ⟨Nat.le_of_ble_eq_true rfl, Nat.le_of_ble_eq_true rfl⟩) hP hS hX [0] rfl rfl rfl rfl rfl rfl hl.1 rfl (Nat.le_of_ble_eq_true rfl) dX12_taken_18 ⟨Nat.le_of_ble_eq_true rfl, Nat.le_of_ble_eq_true rfl⟩ (fun H locs hP hS => ?_)
    have hP : PD D A [bl_X12 cy A_m m_at m_names z_6.2 m_top m_bottom m_sort m_trayMany m_trays m_tape m_text m_taped m_size m_token m_from m_end m_value m_faults m_faultPlace m_faults m_seen m_toldParts m_opened m_depth m_counted m_bestOrder m_standers m_has m_bestHas m_standerMany m_bestCouples m_bestFondness m_cameTo m_doesStandFirst m_stoodBy m_drawn m_ranSteps m_loops m_ran m_told1 m_isTold m_marks] H := hP
    refine lv_goto (tgt := 29) hx hb dX12_taken_21 (by decide) ?_
    cases h
    subst hW1
    exact W.iret hx hb hr (fun _ ht9 _ => ⟨⟨_, (), rfl, rfl, hPt ht9 hP.1⟩, hS.F ht9⟩) hS.2.2 dX12_taken_29
theorem dX12_isMan_0 : decode cX12_isMan 0 = .ok (.iload_n 1, 1) := by decide +kernel
theorem dX12_isMan_1 : decode cX12_isMan 1 = .ok (.ifCond .lt 17, 3) := by decide +kernel
theorem dX12_isMan_4 : decode cX12_isMan 4 = .ok (.iload_n 1, 1) := by decide +kernel
theorem dX12_isMan_5 : decode cX12_isMan 5 = .ok (.aload_n 0, 1) := by decide +kernel
theorem dX12_isMan_6 : decode cX12_isMan 6 = .ok (.getfield 7, 3) := by decide +kernel
theorem dX12_isMan_9 : decode cX12_isMan 9 = .ok (.iconst 0, 1) := by decide +kernel
theorem dX12_isMan_10 : decode cX12_isMan 10 = .ok (.iaload, 1) := by decide +kernel
theorem dX12_isMan_11 : decode cX12_isMan 11 = .ok (.if_icmp .ge 7, 3) := by decide +kernel
theorem dX12_isMan_14 : decode cX12_isMan 14 = .ok (.iconst 1, 1) := by decide +kernel
theorem dX12_isMan_15 : decode cX12_isMan 15 = .ok (.goto 4, 3) := by decide +kernel
theorem dX12_isMan_18 : decode cX12_isMan 18 = .ok (.iconst 0, 1) := by decide +kernel
theorem dX12_isMan_19 : decode cX12_isMan 19 = .ok (.ireturn, 1) := by decide +kernel
theorem mv_X12_isMan : MV yX12_isMan RX12 cX12_isMan 2 (some .boolean) 1 := ⟨tb_1554, tb_1553, ts_72, tb_16, by decide +kernel, by decide +kernel, by decide +kernel⟩
def f_X12_isMan (fu : Nat) (m_at : Nat → Int32) (x1 : Int32) : Option (Int32) := (if x1 < 0 then some (0) else (rdI m_at 3648 0).bind fun y_5 => (if y_5 ≤ x1 then some (0) else some (1)))
abbrev rm_X12_isMan : Room := { frames := 0, cells := 0, slots := 0, locals := 0 }
set_option maxHeartbeats 4000000 in
set_option maxRecDepth 100000 in
theorem c_X12_isMan (l : Launch) (D : va_G) (cy : Nat → ClassId) (fu : Nat) (A_m : Nat → Nat) (m_at : Nat → Int32) (m_names : Nat → Int64) (m_status : Int32) (m_top : Int64) (m_bottom : Int64) (m_sort : Nat → Int32) (m_trayMany : Nat → Int32) (m_trays : Nat → Int64) (m_tape : Nat → Int32) (m_text : Nat → Int32) (m_taped : Int32) (m_size : Int32) (m_token : Int32) (m_from : Int32) (m_end : Int32) (m_value : Int32) (m_faultKind : Int32) (m_faultPlace : Int32) (m_faults : Int32) (m_seen : Int32) (m_toldParts : Int32) (m_opened : Nat → Int32) (m_depth : Int32) (m_counted : Int32) (m_bestOrder : Int32) (m_standers : Nat → Int32) (m_has : Nat → Int32) (m_bestHas : Nat → Int32) (m_standerMany : Int32) (m_bestCouples : Int32) (m_bestFondness : Int32) (m_cameTo : Nat → Int32) (m_doesStandFirst : Int32) (m_stoodBy : Nat → Int64) (m_drawn : Int32) (m_ranSteps : Int32) (m_loops : Nat → Int32) (m_ran : Nat → Int32) (m_told1 : Nat → Int32) (m_isTold : Int32) (m_marks : Int32) (x1 : Int32) (res : Int32) (h : f_X12_isMan fu m_at x1 = some res) : Met l yX12_isMan (WW yX12_isMan cX12_isMan 2 (some .boolean)) rm_X12_isMan (Rd D cy [.ref (A_m 0), .int x1] [bl_X12 cy A_m m_at m_names m_status m_top m_bottom m_sort m_trayMany m_trays m_tape m_text m_taped m_size m_token m_from m_end m_value m_faultKind m_faultPlace m_faults m_seen m_toldParts m_opened m_depth m_counted m_bestOrder m_standers m_has m_bestHas m_standerMany m_bestCouples m_bestFondness m_cameTo m_doesStandFirst m_stoodBy m_drawn m_ranSteps m_loops m_ran m_told1 m_isTold m_marks]) (vp_Si (fun v => v = res)) 0 0 (fun _ => False) := by
  refine Met.ofW (cc := cX12_isMan) (maxL := 2) (ret := (some .boolean)) (by decide) rfl ?_
  intro p e s m args below meth c s₁ B hml hv
  obtain ⟨hargs, hP, hX⟩ := hv
  have hx := B.exec
  have hb := B.bytes
  have hr := B.returns
  have ht : ∀ w ∈ lw_gd, w.before args s = true := fun w hw => atoms_spec (ws := WW yX12_isMan cX12_isMan 2 (some .boolean)) B.pre w (List.mem_cons_of_mem _ hw)
  have hown : s.vm.findClass RX12 = some m.cls := findClass_of_methodNamed B.named
  have hlocks := B.notSynchronized
  have hP : PB D [bl_X12 cy A_m m_at m_names m_status m_top m_bottom m_sort m_trayMany m_trays m_tape m_text m_taped m_size m_token m_from m_end m_value m_faultKind m_faultPlace m_faults m_seen m_toldParts m_opened m_depth m_counted m_bestOrder m_standers m_has m_bestHas m_standerMany m_bestCouples m_bestFondness m_cameTo m_doesStandFirst m_stoodBy m_drawn m_ranSteps m_loops m_ran m_told1 m_isTold m_marks] s.heap := hP
  obtain ⟨ls, hl, hent⟩ := ent (m := m) (n := 2) hargs (Nat.le_of_ble_eq_true rfl) (lv := [(0, .ref (A_m 0)), (1, .int x1)]) rfl
  rw [hent]
  clear hent
  unfold f_X12_isMan at h
  refine lv_iload_n hx hb dX12_isMan_0 rfl (lv_at hl 1 rfl) ?_
  refine lv_if_lt (tgt := 18) hx hb dX12_isMan_1 (by decide) (fun c_4 => ?_) (fun c_4 => ?_)
  · have h := it c_4 h
    refine lv_iconst (v := 0) hx hb dX12_isMan_18 (by decide) ?_
    cases h
    exact W.zret hx hb hr rfl (fun _ ht9 _ => ⟨_, rfl, rfl, ht9⟩) (fun _ hq => by cases hq) dX12_isMan_19
  · have h := ie c_4 h
    refine lv_iload_n hx hb dX12_isMan_4 rfl (lv_at hl 1 rfl) ?_
    refine lv_aload_n hx hb dX12_isMan_5 rfl (lv_at hl 0 rfl) ?_
    refine xget (i := 0) (j := 0) (k := 0) (T := TX12) hx hb ht tb_iX12 hown hX hP rfl rfl rfl (by decide) tb_1229 rfl dX12_isMan_6 ?_
    refine lv_iconst (v := 0) hx hb dX12_isMan_9 (by decide) ?_
    obtain ⟨y_5, e_y_5, h⟩ := bi h
    refine xiald (i0 := 0) (j0 := 1) hx hb hX hP rfl rfl e_y_5 dX12_isMan_10 ?_
    refine lv_icmp_ge (tgt := 18) hx hb dX12_isMan_11 (by decide) (fun c_6 => ?_) (fun c_6 => ?_)
    · have h := it c_6 h
      refine lv_iconst (v := 0) hx hb dX12_isMan_18 (by decide) ?_
      cases h
      exact W.zret hx hb hr rfl (fun _ ht9 _ => ⟨_, rfl, rfl, ht9⟩) (fun _ hq => by cases hq) dX12_isMan_19
    · have h := ie c_6 h
      refine lv_iconst (v := 1) hx hb dX12_isMan_14 (by decide) ?_
      refine lv_goto (tgt := 19) hx hb dX12_isMan_15 (by decide) ?_
      cases h
      exact W.zret hx hb hr rfl (fun _ ht9 _ => ⟨_, rfl, rfl, ht9⟩) (fun _ hq => by cases hq) dX12_isMan_19
theorem dX12_areTwo_0 : decode cX12_areTwo 0 = .ok (.aload_n 0, 1) := by decide +kernel
theorem dX12_areTwo_1 : decode cX12_areTwo 1 = .ok (.iload_n 1, 1) := by decide +kernel
theorem dX12_areTwo_2 : decode cX12_areTwo 2 = .ok (.invokevirtual 241, 3) := by decide +kernel
theorem dX12_areTwo_5 : decode cX12_areTwo 5 = .ok (.ifCond .eq 20, 3) := by decide +kernel
theorem dX12_areTwo_8 : decode cX12_areTwo 8 = .ok (.aload_n 0, 1) := by decide +kernel
theorem dX12_areTwo_9 : decode cX12_areTwo 9 = .ok (.iload_n 2, 1) := by decide +kernel
theorem dX12_areTwo_10 : decode cX12_areTwo 10 = .ok (.invokevirtual 241, 3) := by decide +kernel
theorem dX12_areTwo_13 : decode cX12_areTwo 13 = .ok (.ifCond .eq 12, 3) := by decide +kernel
theorem dX12_areTwo_16 : decode cX12_areTwo 16 = .ok (.iload_n 1, 1) := by decide +kernel
theorem dX12_areTwo_17 : decode cX12_areTwo 17 = .ok (.iload_n 2, 1) := by decide +kernel
theorem dX12_areTwo_18 : decode cX12_areTwo 18 = .ok (.if_icmp .eq 7, 3) := by decide +kernel
theorem dX12_areTwo_21 : decode cX12_areTwo 21 = .ok (.iconst 1, 1) := by decide +kernel
theorem dX12_areTwo_22 : decode cX12_areTwo 22 = .ok (.goto 4, 3) := by decide +kernel
theorem dX12_areTwo_25 : decode cX12_areTwo 25 = .ok (.iconst 0, 1) := by decide +kernel
theorem dX12_areTwo_26 : decode cX12_areTwo 26 = .ok (.ireturn, 1) := by decide +kernel
theorem mv_X12_areTwo : MV yX12_areTwo RX12 cX12_areTwo 3 (some .boolean) 2 := ⟨tb_1837, tb_1836, ts_107, tb_16, by decide +kernel, by decide +kernel, by decide +kernel⟩
def f_X12_areTwo (fu : Nat) (m_at : Nat → Int32) (x1 : Int32) (x2 : Int32) : Option (Int32) := (f_X12_isMan fu m_at x1).bind fun z_6 => (if z_6 = 0 then some (0) else (f_X12_isMan fu m_at x2).bind fun z_8 => (if z_8 = 0 then some (0) else (if x1 = x2 then some (0) else some (1))))
abbrev rm_X12_areTwo : Room := { frames := 1, cells := 0, slots := 0, locals := 21 }
set_option maxHeartbeats 4000000 in
set_option maxRecDepth 100000 in
theorem c_X12_areTwo (l : Launch) (D : va_G) (cy : Nat → ClassId) (fu : Nat) (A_m : Nat → Nat) (m_at : Nat → Int32) (m_names : Nat → Int64) (m_status : Int32) (m_top : Int64) (m_bottom : Int64) (m_sort : Nat → Int32) (m_trayMany : Nat → Int32) (m_trays : Nat → Int64) (m_tape : Nat → Int32) (m_text : Nat → Int32) (m_taped : Int32) (m_size : Int32) (m_token : Int32) (m_from : Int32) (m_end : Int32) (m_value : Int32) (m_faultKind : Int32) (m_faultPlace : Int32) (m_faults : Int32) (m_seen : Int32) (m_toldParts : Int32) (m_opened : Nat → Int32) (m_depth : Int32) (m_counted : Int32) (m_bestOrder : Int32) (m_standers : Nat → Int32) (m_has : Nat → Int32) (m_bestHas : Nat → Int32) (m_standerMany : Int32) (m_bestCouples : Int32) (m_bestFondness : Int32) (m_cameTo : Nat → Int32) (m_doesStandFirst : Int32) (m_stoodBy : Nat → Int64) (m_drawn : Int32) (m_ranSteps : Int32) (m_loops : Nat → Int32) (m_ran : Nat → Int32) (m_told1 : Nat → Int32) (m_isTold : Int32) (m_marks : Int32) (x1 : Int32) (x2 : Int32) (res : Int32) (h : f_X12_areTwo fu m_at x1 x2 = some res) : Met l yX12_areTwo (WW yX12_areTwo cX12_areTwo 3 (some .boolean)) rm_X12_areTwo (Rd D cy [.ref (A_m 0), .int x1, .int x2] [bl_X12 cy A_m m_at m_names m_status m_top m_bottom m_sort m_trayMany m_trays m_tape m_text m_taped m_size m_token m_from m_end m_value m_faultKind m_faultPlace m_faults m_seen m_toldParts m_opened m_depth m_counted m_bestOrder m_standers m_has m_bestHas m_standerMany m_bestCouples m_bestFondness m_cameTo m_doesStandFirst m_stoodBy m_drawn m_ranSteps m_loops m_ran m_told1 m_isTold m_marks]) (vp_Si (fun v => v = res)) 0 0 (fun _ => False) := by
  refine Met.ofW (cc := cX12_areTwo) (maxL := 3) (ret := (some .boolean)) (by decide) rfl ?_
  intro p e s m args below meth c s₁ B hml hv
  obtain ⟨hargs, hP, hX⟩ := hv
  have hx := B.exec
  have hb := B.bytes
  have hr := B.returns
  have ht : ∀ w ∈ lw_gd, w.before args s = true := fun w hw => atoms_spec (ws := WW yX12_areTwo cX12_areTwo 3 (some .boolean)) B.pre w (List.mem_cons_of_mem _ hw)
  have hown : s.vm.findClass RX12 = some m.cls := findClass_of_methodNamed B.named
  have hlocks := B.notSynchronized
  have hP : PB D [bl_X12 cy A_m m_at m_names m_status m_top m_bottom m_sort m_trayMany m_trays m_tape m_text m_taped m_size m_token m_from m_end m_value m_faultKind m_faultPlace m_faults m_seen m_toldParts m_opened m_depth m_counted m_bestOrder m_standers m_has m_bestHas m_standerMany m_bestCouples m_bestFondness m_cameTo m_doesStandFirst m_stoodBy m_drawn m_ranSteps m_loops m_ran m_told1 m_isTold m_marks] s.heap := hP
  obtain ⟨ls, hl, hent⟩ := ent (m := m) (n := 3) hargs (Nat.le_of_ble_eq_true rfl) (lv := [(0, .ref (A_m 0)), (1, .int x1), (2, .int x2)]) rfl
  rw [hent]
  clear hent
  unfold f_X12_areTwo at h
  refine lv_aload_n hx hb dX12_areTwo_0 rfl (lv_at hl 0 rfl) ?_
  refine lv_iload_n hx hb dX12_areTwo_1 rfl (lv_at hl 1 rfl) ?_
  obtain ⟨z_6, e_z_6, h⟩ := bi h
  refine roVi (rest := []) ⟨hx, hb, hml, hown, ht⟩ (c_X12_isMan l D cy fu A_m m_at m_names m_status m_top m_bottom m_sort m_trayMany m_trays m_tape m_text m_taped m_size m_token m_from m_end m_value m_faultKind m_faultPlace m_faults m_seen m_toldParts m_opened m_depth m_counted m_bestOrder m_standers m_has m_bestHas m_standerMany m_bestCouples m_bestFondness m_cameTo m_doesStandFirst m_stoodBy m_drawn m_ranSteps m_loops m_ran m_told1 m_isTold m_marks x1 z_6 e_z_6) (cV ht mv_X12_isMan tb_1551 rfl rfl ⟨Nat.le_of_ble_eq_true rfl, Nat.le_of_ble_eq_true rfl⟩) (P_sub hP [0] rfl) hX rfl rfl rfl hl.1 rfl (Nat.le_of_ble_eq_true rfl) dX12_areTwo_2 ⟨Nat.le_of_ble_eq_true rfl, Nat.le_of_ble_eq_true rfl⟩ ?_
  refine lv_if_eq (tgt := 25) hx hb dX12_areTwo_5 (by decide) (fun c_7 => ?_) (fun c_7 => ?_)
  · have h := it c_7 h
    refine lv_iconst (v := 0) hx hb dX12_areTwo_25 (by decide) ?_
    cases h
    exact W.zret hx hb hr rfl (fun _ ht9 _ => ⟨_, rfl, rfl, ht9⟩) (fun _ hq => by cases hq) dX12_areTwo_26
  · have h := ie c_7 h
    refine lv_aload_n hx hb dX12_areTwo_8 rfl (lv_at hl 0 rfl) ?_
    refine lv_iload_n hx hb dX12_areTwo_9 rfl (lv_at hl 2 rfl) ?_
    obtain ⟨z_8, e_z_8, h⟩ := bi h
    refine roVi (rest := []) ⟨hx, hb, hml, hown, ht⟩ (c_X12_isMan l D cy fu A_m m_at m_names m_status m_top m_bottom m_sort m_trayMany m_trays m_tape m_text m_taped m_size m_token m_from m_end m_value m_faultKind m_faultPlace m_faults m_seen m_toldParts m_opened m_depth m_counted m_bestOrder m_standers m_has m_bestHas m_standerMany m_bestCouples m_bestFondness m_cameTo m_doesStandFirst m_stoodBy m_drawn m_ranSteps m_loops m_ran m_told1 m_isTold m_marks x2 z_8 e_z_8) (cV ht mv_X12_isMan tb_1551 rfl rfl ⟨Nat.le_of_ble_eq_true rfl, Nat.le_of_ble_eq_true rfl⟩) (P_sub hP [0] rfl) hX rfl rfl rfl hl.1 rfl (Nat.le_of_ble_eq_true rfl) dX12_areTwo_10 ⟨Nat.le_of_ble_eq_true rfl, Nat.le_of_ble_eq_true rfl⟩ ?_
    refine lv_if_eq (tgt := 25) hx hb dX12_areTwo_13 (by decide) (fun c_9 => ?_) (fun c_9 => ?_)
    · have h := it c_9 h
      refine lv_iconst (v := 0) hx hb dX12_areTwo_25 (by decide) ?_
      cases h
      exact W.zret hx hb hr rfl (fun _ ht9 _ => ⟨_, rfl, rfl, ht9⟩) (fun _ hq => by cases hq) dX12_areTwo_26
    · have h := ie c_9 h
      refine lv_iload_n hx hb dX12_areTwo_16 rfl (lv_at hl 1 rfl) ?_
      refine lv_iload_n hx hb dX12_areTwo_17 rfl (lv_at hl 2 rfl) ?_
      refine lv_icmp_eq (tgt := 25) hx hb dX12_areTwo_18 (by decide) (fun c_10 => ?_) (fun c_10 => ?_)
      · have h := it c_10 h
        refine lv_iconst (v := 0) hx hb dX12_areTwo_25 (by decide) ?_
        cases h
        exact W.zret hx hb hr rfl (fun _ ht9 _ => ⟨_, rfl, rfl, ht9⟩) (fun _ hq => by cases hq) dX12_areTwo_26
      · have h := ie c_10 h
        refine lv_iconst (v := 1) hx hb dX12_areTwo_21 (by decide) ?_
        refine lv_goto (tgt := 26) hx hb dX12_areTwo_22 (by decide) ?_
        cases h
        exact W.zret hx hb hr rfl (fun _ ht9 _ => ⟨_, rfl, rfl, ht9⟩) (fun _ hq => by cases hq) dX12_areTwo_26
theorem dX12_isIn_0 : decode cX12_isIn 0 = .ok (.iload_n 1, 1) := by decide +kernel
theorem dX12_isIn_1 : decode cX12_isIn 1 = .ok (.iload_n 2, 1) := by decide +kernel
theorem dX12_isIn_2 : decode cX12_isIn 2 = .ok (.ishr, 1) := by decide +kernel
theorem dX12_isIn_3 : decode cX12_isIn 3 = .ok (.iconst 1, 1) := by decide +kernel
theorem dX12_isIn_4 : decode cX12_isIn 4 = .ok (.iand, 1) := by decide +kernel
theorem dX12_isIn_5 : decode cX12_isIn 5 = .ok (.iconst 1, 1) := by decide +kernel
theorem dX12_isIn_6 : decode cX12_isIn 6 = .ok (.if_icmp .ne 7, 3) := by decide +kernel
theorem dX12_isIn_9 : decode cX12_isIn 9 = .ok (.iconst 1, 1) := by decide +kernel
theorem dX12_isIn_10 : decode cX12_isIn 10 = .ok (.goto 4, 3) := by decide +kernel
theorem dX12_isIn_13 : decode cX12_isIn 13 = .ok (.iconst 0, 1) := by decide +kernel
theorem dX12_isIn_14 : decode cX12_isIn 14 = .ok (.ireturn, 1) := by decide +kernel
theorem mv_X12_isIn : MV yX12_isIn RX12 cX12_isIn 3 (some .boolean) 2 := ⟨tb_1601, tb_1600, ts_80, tb_16, by decide +kernel, by decide +kernel, by decide +kernel⟩
def f_X12_isIn (fu : Nat) (x1 : Int32) (x2 : Int32) : Option (Int32) := (if ((x1 >>> (x2 &&& 31)) &&& 1) = 1 then some (1) else some (0))
abbrev rm_X12_isIn : Room := { frames := 0, cells := 0, slots := 0, locals := 0 }
set_option maxHeartbeats 4000000 in
set_option maxRecDepth 100000 in
theorem c_X12_isIn (l : Launch) (D : va_G) (cy : Nat → ClassId) (fu : Nat) (A_m : Nat → Nat) (m_at : Nat → Int32) (m_names : Nat → Int64) (m_status : Int32) (m_top : Int64) (m_bottom : Int64) (m_sort : Nat → Int32) (m_trayMany : Nat → Int32) (m_trays : Nat → Int64) (m_tape : Nat → Int32) (m_text : Nat → Int32) (m_taped : Int32) (m_size : Int32) (m_token : Int32) (m_from : Int32) (m_end : Int32) (m_value : Int32) (m_faultKind : Int32) (m_faultPlace : Int32) (m_faults : Int32) (m_seen : Int32) (m_toldParts : Int32) (m_opened : Nat → Int32) (m_depth : Int32) (m_counted : Int32) (m_bestOrder : Int32) (m_standers : Nat → Int32) (m_has : Nat → Int32) (m_bestHas : Nat → Int32) (m_standerMany : Int32) (m_bestCouples : Int32) (m_bestFondness : Int32) (m_cameTo : Nat → Int32) (m_doesStandFirst : Int32) (m_stoodBy : Nat → Int64) (m_drawn : Int32) (m_ranSteps : Int32) (m_loops : Nat → Int32) (m_ran : Nat → Int32) (m_told1 : Nat → Int32) (m_isTold : Int32) (m_marks : Int32) (x1 : Int32) (x2 : Int32) (res : Int32) (h : f_X12_isIn fu x1 x2 = some res) : Met l yX12_isIn (WW yX12_isIn cX12_isIn 3 (some .boolean)) rm_X12_isIn (Rd D cy [.ref (A_m 0), .int x1, .int x2] [bl_X12 cy A_m m_at m_names m_status m_top m_bottom m_sort m_trayMany m_trays m_tape m_text m_taped m_size m_token m_from m_end m_value m_faultKind m_faultPlace m_faults m_seen m_toldParts m_opened m_depth m_counted m_bestOrder m_standers m_has m_bestHas m_standerMany m_bestCouples m_bestFondness m_cameTo m_doesStandFirst m_stoodBy m_drawn m_ranSteps m_loops m_ran m_told1 m_isTold m_marks]) (vp_Si (fun v => v = res)) 0 0 (fun _ => False) := by
  refine Met.ofW (cc := cX12_isIn) (maxL := 3) (ret := (some .boolean)) (by decide) rfl ?_
  intro p e s m args below meth c s₁ B hml hv
  obtain ⟨hargs, hP, hX⟩ := hv
  have hx := B.exec
  have hb := B.bytes
  have hr := B.returns
  have ht : ∀ w ∈ lw_gd, w.before args s = true := fun w hw => atoms_spec (ws := WW yX12_isIn cX12_isIn 3 (some .boolean)) B.pre w (List.mem_cons_of_mem _ hw)
  have hown : s.vm.findClass RX12 = some m.cls := findClass_of_methodNamed B.named
  have hlocks := B.notSynchronized
  have hP : PB D [bl_X12 cy A_m m_at m_names m_status m_top m_bottom m_sort m_trayMany m_trays m_tape m_text m_taped m_size m_token m_from m_end m_value m_faultKind m_faultPlace m_faults m_seen m_toldParts m_opened m_depth m_counted m_bestOrder m_standers m_has m_bestHas m_standerMany m_bestCouples m_bestFondness m_cameTo m_doesStandFirst m_stoodBy m_drawn m_ranSteps m_loops m_ran m_told1 m_isTold m_marks] s.heap := hP
  obtain ⟨ls, hl, hent⟩ := ent (m := m) (n := 3) hargs (Nat.le_of_ble_eq_true rfl) (lv := [(0, .ref (A_m 0)), (1, .int x1), (2, .int x2)]) rfl
  rw [hent]
  clear hent
  unfold f_X12_isIn at h
  refine lv_iload_n hx hb dX12_isIn_0 rfl (lv_at hl 1 rfl) ?_
  refine lv_iload_n hx hb dX12_isIn_1 rfl (lv_at hl 2 rfl) ?_
  refine lv_ishr hx hb dX12_isIn_2 ?_
  refine lv_iconst (v := 1) hx hb dX12_isIn_3 (by decide) ?_
  refine lv_iand hx hb dX12_isIn_4 ?_
  refine lv_iconst (v := 1) hx hb dX12_isIn_5 (by decide) ?_
  refine lv_icmp_ne (tgt := 13) hx hb dX12_isIn_6 (by decide) (fun c_2 => ?_) (fun c_2 => ?_)
  · have h := ie c_2 h
    refine lv_iconst (v := 0) hx hb dX12_isIn_13 (by decide) ?_
    cases h
    exact W.zret hx hb hr rfl (fun _ ht9 _ => ⟨_, rfl, rfl, ht9⟩) (fun _ hq => by cases hq) dX12_isIn_14
  · have h := it c_2 h
    refine lv_iconst (v := 1) hx hb dX12_isIn_9 (by decide) ?_
    refine lv_goto (tgt := 14) hx hb dX12_isIn_10 (by decide) ?_
    cases h
    exact W.zret hx hb hr rfl (fun _ ht9 _ => ⟨_, rfl, rfl, ht9⟩) (fun _ hq => by cases hq) dX12_isIn_14
theorem dX12_bits_0 : decode cX12_bits 0 = .ok (.iconst 0, 1) := by decide +kernel
theorem dX12_bits_1 : decode cX12_bits 1 = .ok (.istore_n 1, 1) := by decide +kernel
theorem dX12_bits_2 : decode cX12_bits 2 = .ok (.iload_n 0, 1) := by decide +kernel
theorem dX12_bits_3 : decode cX12_bits 3 = .ok (.istore_n 2, 1) := by decide +kernel
theorem dX12_bits_4 : decode cX12_bits 4 = .ok (.iload_n 2, 1) := by decide +kernel
theorem dX12_bits_5 : decode cX12_bits 5 = .ok (.ifCond .eq 15, 3) := by decide +kernel
theorem dX12_bits_8 : decode cX12_bits 8 = .ok (.iinc 1 1, 3) := by decide +kernel
theorem dX12_bits_11 : decode cX12_bits 11 = .ok (.iload_n 2, 1) := by decide +kernel
theorem dX12_bits_12 : decode cX12_bits 12 = .ok (.iload_n 2, 1) := by decide +kernel
theorem dX12_bits_13 : decode cX12_bits 13 = .ok (.iconst 1, 1) := by decide +kernel
theorem dX12_bits_14 : decode cX12_bits 14 = .ok (.isub, 1) := by decide +kernel
theorem dX12_bits_15 : decode cX12_bits 15 = .ok (.iand, 1) := by decide +kernel
theorem dX12_bits_16 : decode cX12_bits 16 = .ok (.istore_n 2, 1) := by decide +kernel
theorem dX12_bits_17 : decode cX12_bits 17 = .ok (.goto (-13), 3) := by decide +kernel
theorem dX12_bits_20 : decode cX12_bits 20 = .ok (.iload_n 1, 1) := by decide +kernel
theorem dX12_bits_21 : decode cX12_bits 21 = .ok (.ireturn, 1) := by decide +kernel
theorem ms_X12_bits : MS yX12_bits cX12_bits 3 (some .int) 1 := ⟨tb_1636, tb_1635, tb_16, by decide +kernel, by decide +kernel, by decide +kernel⟩
def f_X12_bits_b4 (fu : Nat) (x0 : Int32) (k4 : Int32 → Int32 → Option (Int32)) (x1 : Int32) (x2 : Int32) : Option (Int32) := (if x2 = 0 then some (x1) else bnd (x1 + 1) fun x1_5 => bnd (x2 &&& (x2 - 1)) fun x2_6 => k4 x1_5 x2_6)
def f_X12_bits_l4 (fu : Nat) (x0 : Int32) : Nat → Int32 → Int32 → Option (Int32)
  | 0, _, _ => none
  | n + 1, x1, x2 => f_X12_bits_b4 fu x0 (f_X12_bits_l4 fu x0 n) x1 x2
def f_X12_bits (fu : Nat) (x0 : Int32) : Option (Int32) := f_X12_bits_l4 fu x0 fu 0 x0
abbrev rm_X12_bits : Room := { frames := 0, cells := 0, slots := 0, locals := 0 }
set_option maxHeartbeats 4000000 in
set_option maxRecDepth 100000 in
theorem c_X12_bits (l : Launch) (D : va_G) (cy : Nat → ClassId) (fu : Nat) (x0 : Int32) (res : Int32) (h : f_X12_bits fu x0 = some res) : Met l yX12_bits (WW yX12_bits cX12_bits 3 (some .int)) rm_X12_bits (Rd D cy [.int x0] []) (vp_Si (fun v => v = res)) 0 0 (fun _ => False) := by
  refine Met.ofW (cc := cX12_bits) (maxL := 3) (ret := (some .int)) (by decide) rfl ?_
  intro p e s m args below meth c s₁ B hml hv
  obtain ⟨hargs, hP, hX⟩ := hv
  have hx := B.exec
  have hb := B.bytes
  have hr := B.returns
  have ht : ∀ w ∈ lw_gd, w.before args s = true := fun w hw => atoms_spec (ws := WW yX12_bits cX12_bits 3 (some .int)) B.pre w (List.mem_cons_of_mem _ hw)
  have hown : s.vm.findClass RX12 = some m.cls := findClass_of_methodNamed B.named
  have hlocks := B.notSynchronized
  have hP : PB D [] s.heap := hP
  obtain ⟨ls, hl, hent⟩ := ent (m := m) (n := 3) hargs (Nat.le_of_ble_eq_true rfl) (lv := [(0, .int x0)]) rfl
  rw [hent]
  clear hent
  have l4 : ∀ (n4 : Nat) (x1 : Int32) (x2 : Int32) (ls : Array Slot), lv_has ls 3 [(1, .int x1), (2, .int x2)] → f_X12_bits_l4 fu x0 n4 x1 x2 = some res → W p l e (headSpec (WW yX12_bits cX12_bits 3 (some .int)) rm_X12_bits).room s m args below meth c s.heap [] 0 0 (MQ below (vp_Si (fun v => v = res)) args s 0 0 (fun _ => False)) (F0 m 4 ls []) := by
    intro n4
    induction n4 with
    | zero => intro x1 x2 ls hl h; cases h
    | succ n4 ih4 =>
      intro x1 x2 ls hl h
      have h : f_X12_bits_b4 fu x0 (f_X12_bits_l4 fu x0 n4) x1 x2 = some res := h
      unfold f_X12_bits_b4 at h
      refine lv_iload_n hx hb dX12_bits_4 rfl (lv_at hl 1 rfl) ?_
      refine lv_if_eq (tgt := 20) hx hb dX12_bits_5 (by decide) (fun c_4 => ?_) (fun c_4 => ?_)
      · have h := it c_4 h
        refine lv_iload_n hx hb dX12_bits_20 rfl (lv_at hl 0 rfl) ?_
        cases h
        exact W.iret hx hb hr (fun _ ht9 _ => ⟨_, rfl, rfl, ht9⟩) (fun _ hq => by cases hq) dX12_bits_21
      · have h := ie c_4 h
        obtain ⟨x1_5, e_x1_5⟩ : ∃ y : Int32, y = x1 + 1 := ⟨_, rfl⟩
        have h := bn e_x1_5 h
        refine lv_iinc (v := x1_5) (lv' := [(1, .int x1_5), (2, .int x2)]) hx hb dX12_bits_8 hl (k := 0) rfl (by rw [e_x1_5]; rfl) (by decide) rfl (fun ls hl => ?_)
        refine lv_iload_n hx hb dX12_bits_11 rfl (lv_at hl 1 rfl) ?_
        refine lv_iload_n hx hb dX12_bits_12 rfl (lv_at hl 1 rfl) ?_
        refine lv_iconst (v := 1) hx hb dX12_bits_13 (by decide) ?_
        refine lv_isub hx hb dX12_bits_14 ?_
        refine lv_iand hx hb dX12_bits_15 ?_
        refine lv_topi (fun x2_6 e_x2_6 => ?_)
        have h := bn e_x2_6 h
        refine lv_istore_n (lv' := [(2, .int x2_6), (1, .int x1_5)]) hx hb dX12_bits_16 rfl hl (by decide) rfl (fun ls hl => ?_)
        refine lv_goto (tgt := 4) hx hb dX12_bits_17 (by decide) ?_
        exact ih4 x1_5 x2_6 ls (lv_sub hl [1, 0] rfl) h
  unfold f_X12_bits at h
  refine lv_iconst (v := 0) hx hb dX12_bits_0 (by decide) ?_
  refine lv_istore_n (lv' := [(1, .int 0), (0, .int x0)]) hx hb dX12_bits_1 rfl hl (by decide) rfl (fun ls hl => ?_)
  refine lv_iload_n hx hb dX12_bits_2 rfl (lv_at hl 1 rfl) ?_
  refine lv_istore_n (lv' := [(2, .int x0), (1, .int 0), (0, .int x0)]) hx hb dX12_bits_3 rfl hl (by decide) rfl (fun ls hl => ?_)
  exact l4 fu 0 x0 ls (lv_sub hl [1, 0] rfl) h
theorem dX12_isSize_0 : decode cX12_isSize 0 = .ok (.lload_n 0, 1) := by decide +kernel
theorem dX12_isSize_1 : decode cX12_isSize 1 = .ok (.lconst 1, 1) := by decide +kernel
theorem dX12_isSize_2 : decode cX12_isSize 2 = .ok (.ldc2_w 244, 3) := by decide +kernel
theorem dX12_isSize_5 : decode cX12_isSize 5 = .ok (.invokestatic 246, 3) := by decide +kernel
theorem dX12_isSize_8 : decode cX12_isSize 8 = .ok (.ireturn, 1) := by decide +kernel
theorem ms_X12_isSize : MS yX12_isSize cX12_isSize 2 (some .boolean) 1 := ⟨tb_1573, tb_1572, tb_16, by decide +kernel, by decide +kernel, by decide +kernel⟩
def f_X12_isSize (fu : Nat) (x0 : Int64) : Option (Int32) := (f_X12_isFrom fu x0 1 99).bind fun z_3 => (bz z_3).bind fun _ => some (z_3)
abbrev rm_X12_isSize : Room := { frames := 1, cells := 0, slots := 0, locals := 25 }
set_option maxHeartbeats 4000000 in
set_option maxRecDepth 100000 in
theorem c_X12_isSize (l : Launch) (D : va_G) (cy : Nat → ClassId) (fu : Nat) (x0 : Int64) (res : Int32) (h : f_X12_isSize fu x0 = some res) : Met l yX12_isSize (WW yX12_isSize cX12_isSize 2 (some .boolean)) rm_X12_isSize (Rd D cy [.long x0] []) (vp_Si (fun v => v = res)) 0 0 (fun _ => False) := by
  refine Met.ofW (cc := cX12_isSize) (maxL := 2) (ret := (some .boolean)) (by decide) rfl ?_
  intro p e s m args below meth c s₁ B hml hv
  obtain ⟨hargs, hP, hX⟩ := hv
  have hx := B.exec
  have hb := B.bytes
  have hr := B.returns
  have ht : ∀ w ∈ lw_gd, w.before args s = true := fun w hw => atoms_spec (ws := WW yX12_isSize cX12_isSize 2 (some .boolean)) B.pre w (List.mem_cons_of_mem _ hw)
  have hown : s.vm.findClass RX12 = some m.cls := findClass_of_methodNamed B.named
  have hlocks := B.notSynchronized
  have hP : PB D [] s.heap := hP
  obtain ⟨ls, hl, hent⟩ := ent (m := m) (n := 2) hargs (Nat.le_of_ble_eq_true rfl) (lv := [(0, .long x0)]) rfl
  rw [hent]
  clear hent
  unfold f_X12_isSize at h
  refine lv_lload_n hx hb dX12_isSize_0 rfl (lv_at hl 0 rfl) ?_
  refine lv_lconst (v := 1) hx hb dX12_isSize_1 (by decide) ?_
  refine lv_ldc2 (v := 99) hx hb hown (ht _ tb_1574) dX12_isSize_2 ?_
  obtain ⟨z_3, e_z_3, h⟩ := bi h
  refine roSi (rest := []) ⟨hx, hb, hml, hown, ht⟩ (c_X12_isFrom l D cy fu  x0 1 99 z_3 e_z_3) (cS ht ms_X12_isFrom tb_1575 rfl rfl ⟨Nat.le_of_ble_eq_true rfl, Nat.le_of_ble_eq_true rfl⟩) (P_sub hP [] rfl) hX rfl hl.1 rfl (Nat.le_of_ble_eq_true rfl) dX12_isSize_5 ⟨Nat.le_of_ble_eq_true rfl, Nat.le_of_ble_eq_true rfl⟩ ?_
  obtain ⟨b_4, e_b_4, h⟩ := bi h
  obtain ⟨-, n_b_4, -⟩ := bz_ok e_b_4
  cases h
  exact W.zret hx hb hr n_b_4 (fun _ ht9 _ => ⟨_, rfl, rfl, ht9⟩) (fun _ hq => by cases hq) dX12_isSize_8
theorem dX12_manOf_0 : decode cX12_manOf 0 = .ok (.aload_n 0, 1) := by decide +kernel
theorem dX12_manOf_1 : decode cX12_manOf 1 = .ok (.getfield 7, 3) := by decide +kernel
theorem dX12_manOf_4 : decode cX12_manOf 4 = .ok (.iload_n 1, 1) := by decide +kernel
theorem dX12_manOf_5 : decode cX12_manOf 5 = .ok (.invokestatic 75, 3) := by decide +kernel
theorem dX12_manOf_8 : decode cX12_manOf 8 = .ok (.iload_n 2, 1) := by decide +kernel
theorem dX12_manOf_9 : decode cX12_manOf 9 = .ok (.iadd, 1) := by decide +kernel
theorem dX12_manOf_10 : decode cX12_manOf 10 = .ok (.iaload, 1) := by decide +kernel
theorem dX12_manOf_11 : decode cX12_manOf 11 = .ok (.ireturn, 1) := by decide +kernel
theorem mv_X12_manOf : MV yX12_manOf RX12 cX12_manOf 3 (some .int) 2 := ⟨tb_1538, tb_1537, ts_69, tb_16, by decide +kernel, by decide +kernel, by decide +kernel⟩
def f_X12_manOf (fu : Nat) (m_at : Nat → Int32) (x1 : Int32) (x2 : Int32) : Option (Int32) := (f_X12_manRow fu x1).bind fun z_3 => (rdI m_at 3648 (z_3 + x2)).bind fun y_4 => some (y_4)
abbrev rm_X12_manOf : Room := { frames := 1, cells := 0, slots := 0, locals := 20 }
set_option maxHeartbeats 4000000 in
set_option maxRecDepth 100000 in
theorem c_X12_manOf (l : Launch) (D : va_G) (cy : Nat → ClassId) (fu : Nat) (A_m : Nat → Nat) (m_at : Nat → Int32) (m_names : Nat → Int64) (m_status : Int32) (m_top : Int64) (m_bottom : Int64) (m_sort : Nat → Int32) (m_trayMany : Nat → Int32) (m_trays : Nat → Int64) (m_tape : Nat → Int32) (m_text : Nat → Int32) (m_taped : Int32) (m_size : Int32) (m_token : Int32) (m_from : Int32) (m_end : Int32) (m_value : Int32) (m_faultKind : Int32) (m_faultPlace : Int32) (m_faults : Int32) (m_seen : Int32) (m_toldParts : Int32) (m_opened : Nat → Int32) (m_depth : Int32) (m_counted : Int32) (m_bestOrder : Int32) (m_standers : Nat → Int32) (m_has : Nat → Int32) (m_bestHas : Nat → Int32) (m_standerMany : Int32) (m_bestCouples : Int32) (m_bestFondness : Int32) (m_cameTo : Nat → Int32) (m_doesStandFirst : Int32) (m_stoodBy : Nat → Int64) (m_drawn : Int32) (m_ranSteps : Int32) (m_loops : Nat → Int32) (m_ran : Nat → Int32) (m_told1 : Nat → Int32) (m_isTold : Int32) (m_marks : Int32) (x1 : Int32) (x2 : Int32) (res : Int32) (h : f_X12_manOf fu m_at x1 x2 = some res) : Met l yX12_manOf (WW yX12_manOf cX12_manOf 3 (some .int)) rm_X12_manOf (Rd D cy [.ref (A_m 0), .int x1, .int x2] [bl_X12 cy A_m m_at m_names m_status m_top m_bottom m_sort m_trayMany m_trays m_tape m_text m_taped m_size m_token m_from m_end m_value m_faultKind m_faultPlace m_faults m_seen m_toldParts m_opened m_depth m_counted m_bestOrder m_standers m_has m_bestHas m_standerMany m_bestCouples m_bestFondness m_cameTo m_doesStandFirst m_stoodBy m_drawn m_ranSteps m_loops m_ran m_told1 m_isTold m_marks]) (vp_Si (fun v => v = res)) 0 0 (fun _ => False) := by
  refine Met.ofW (cc := cX12_manOf) (maxL := 3) (ret := (some .int)) (by decide) rfl ?_
  intro p e s m args below meth c s₁ B hml hv
  obtain ⟨hargs, hP, hX⟩ := hv
  have hx := B.exec
  have hb := B.bytes
  have hr := B.returns
  have ht : ∀ w ∈ lw_gd, w.before args s = true := fun w hw => atoms_spec (ws := WW yX12_manOf cX12_manOf 3 (some .int)) B.pre w (List.mem_cons_of_mem _ hw)
  have hown : s.vm.findClass RX12 = some m.cls := findClass_of_methodNamed B.named
  have hlocks := B.notSynchronized
  have hP : PB D [bl_X12 cy A_m m_at m_names m_status m_top m_bottom m_sort m_trayMany m_trays m_tape m_text m_taped m_size m_token m_from m_end m_value m_faultKind m_faultPlace m_faults m_seen m_toldParts m_opened m_depth m_counted m_bestOrder m_standers m_has m_bestHas m_standerMany m_bestCouples m_bestFondness m_cameTo m_doesStandFirst m_stoodBy m_drawn m_ranSteps m_loops m_ran m_told1 m_isTold m_marks] s.heap := hP
  obtain ⟨ls, hl, hent⟩ := ent (m := m) (n := 3) hargs (Nat.le_of_ble_eq_true rfl) (lv := [(0, .ref (A_m 0)), (1, .int x1), (2, .int x2)]) rfl
  rw [hent]
  clear hent
  unfold f_X12_manOf at h
  refine lv_aload_n hx hb dX12_manOf_0 rfl (lv_at hl 0 rfl) ?_
  refine xget (i := 0) (j := 0) (k := 0) (T := TX12) hx hb ht tb_iX12 hown hX hP rfl rfl rfl (by decide) tb_1229 rfl dX12_manOf_1 ?_
  refine lv_iload_n hx hb dX12_manOf_4 rfl (lv_at hl 1 rfl) ?_
  obtain ⟨z_3, e_z_3, h⟩ := bi h
  refine roSi (rest := [.ref (A_m 1)]) ⟨hx, hb, hml, hown, ht⟩ (c_X12_manRow l D cy fu  x1 z_3 e_z_3) (cS ht ms_X12_manRow tb_1226 rfl rfl ⟨Nat.le_of_ble_eq_true rfl, Nat.le_of_ble_eq_true rfl⟩) (P_sub hP [] rfl) hX rfl hl.1 rfl (Nat.le_of_ble_eq_true rfl) dX12_manOf_5 ⟨Nat.le_of_ble_eq_true rfl, Nat.le_of_ble_eq_true rfl⟩ ?_
  refine lv_iload_n hx hb dX12_manOf_8 rfl (lv_at hl 2 rfl) ?_
  refine lv_iadd hx hb dX12_manOf_9 ?_
  obtain ⟨y_4, e_y_4, h⟩ := bi h
  refine xiald (i0 := 0) (j0 := 1) hx hb hX hP rfl rfl e_y_4 dX12_manOf_10 ?_
  cases h
  exact W.iret hx hb hr (fun _ ht9 _ => ⟨_, rfl, rfl, ht9⟩) (fun _ hq => by cases hq) dX12_manOf_11
theorem dX12_isAlive_0 : decode cX12_isAlive 0 = .ok (.aload_n 0, 1) := by decide +kernel
theorem dX12_isAlive_1 : decode cX12_isAlive 1 = .ok (.iload_n 1, 1) := by decide +kernel
theorem dX12_isAlive_2 : decode cX12_isAlive 2 = .ok (.iconst 5, 1) := by decide +kernel
theorem dX12_isAlive_3 : decode cX12_isAlive 3 = .ok (.invokevirtual 250, 3) := by decide +kernel
theorem dX12_isAlive_6 : decode cX12_isAlive 6 = .ok (.ifCond .ne 7, 3) := by decide +kernel
theorem dX12_isAlive_9 : decode cX12_isAlive 9 = .ok (.iconst 1, 1) := by decide +kernel
theorem dX12_isAlive_10 : decode cX12_isAlive 10 = .ok (.goto 4, 3) := by decide +kernel
theorem dX12_isAlive_13 : decode cX12_isAlive 13 = .ok (.iconst 0, 1) := by decide +kernel
theorem dX12_isAlive_14 : decode cX12_isAlive 14 = .ok (.ireturn, 1) := by decide +kernel
theorem mv_X12_isAlive : MV yX12_isAlive RX12 cX12_isAlive 2 (some .boolean) 1 := ⟨tb_1534, tb_1533, ts_68, tb_16, by decide +kernel, by decide +kernel, by decide +kernel⟩
def f_X12_isAlive (fu : Nat) (m_at : Nat → Int32) (x1 : Int32) : Option (Int32) := (f_X12_manOf fu m_at x1 5).bind fun z_3 => (if z_3 = 0 then some (1) else some (0))
abbrev rm_X12_isAlive : Room := { frames := 2, cells := 0, slots := 0, locals := 42 }
set_option maxHeartbeats 4000000 in
set_option maxRecDepth 100000 in
theorem c_X12_isAlive (l : Launch) (D : va_G) (cy : Nat → ClassId) (fu : Nat) (A_m : Nat → Nat) (m_at : Nat → Int32) (m_names : Nat → Int64) (m_status : Int32) (m_top : Int64) (m_bottom : Int64) (m_sort : Nat → Int32) (m_trayMany : Nat → Int32) (m_trays : Nat → Int64) (m_tape : Nat → Int32) (m_text : Nat → Int32) (m_taped : Int32) (m_size : Int32) (m_token : Int32) (m_from : Int32) (m_end : Int32) (m_value : Int32) (m_faultKind : Int32) (m_faultPlace : Int32) (m_faults : Int32) (m_seen : Int32) (m_toldParts : Int32) (m_opened : Nat → Int32) (m_depth : Int32) (m_counted : Int32) (m_bestOrder : Int32) (m_standers : Nat → Int32) (m_has : Nat → Int32) (m_bestHas : Nat → Int32) (m_standerMany : Int32) (m_bestCouples : Int32) (m_bestFondness : Int32) (m_cameTo : Nat → Int32) (m_doesStandFirst : Int32) (m_stoodBy : Nat → Int64) (m_drawn : Int32) (m_ranSteps : Int32) (m_loops : Nat → Int32) (m_ran : Nat → Int32) (m_told1 : Nat → Int32) (m_isTold : Int32) (m_marks : Int32) (x1 : Int32) (res : Int32) (h : f_X12_isAlive fu m_at x1 = some res) : Met l yX12_isAlive (WW yX12_isAlive cX12_isAlive 2 (some .boolean)) rm_X12_isAlive (Rd D cy [.ref (A_m 0), .int x1] [bl_X12 cy A_m m_at m_names m_status m_top m_bottom m_sort m_trayMany m_trays m_tape m_text m_taped m_size m_token m_from m_end m_value m_faultKind m_faultPlace m_faults m_seen m_toldParts m_opened m_depth m_counted m_bestOrder m_standers m_has m_bestHas m_standerMany m_bestCouples m_bestFondness m_cameTo m_doesStandFirst m_stoodBy m_drawn m_ranSteps m_loops m_ran m_told1 m_isTold m_marks]) (vp_Si (fun v => v = res)) 0 0 (fun _ => False) := by
  refine Met.ofW (cc := cX12_isAlive) (maxL := 2) (ret := (some .boolean)) (by decide) rfl ?_
  intro p e s m args below meth c s₁ B hml hv
  obtain ⟨hargs, hP, hX⟩ := hv
  have hx := B.exec
  have hb := B.bytes
  have hr := B.returns
  have ht : ∀ w ∈ lw_gd, w.before args s = true := fun w hw => atoms_spec (ws := WW yX12_isAlive cX12_isAlive 2 (some .boolean)) B.pre w (List.mem_cons_of_mem _ hw)
  have hown : s.vm.findClass RX12 = some m.cls := findClass_of_methodNamed B.named
  have hlocks := B.notSynchronized
  have hP : PB D [bl_X12 cy A_m m_at m_names m_status m_top m_bottom m_sort m_trayMany m_trays m_tape m_text m_taped m_size m_token m_from m_end m_value m_faultKind m_faultPlace m_faults m_seen m_toldParts m_opened m_depth m_counted m_bestOrder m_standers m_has m_bestHas m_standerMany m_bestCouples m_bestFondness m_cameTo m_doesStandFirst m_stoodBy m_drawn m_ranSteps m_loops m_ran m_told1 m_isTold m_marks] s.heap := hP
  obtain ⟨ls, hl, hent⟩ := ent (m := m) (n := 2) hargs (Nat.le_of_ble_eq_true rfl) (lv := [(0, .ref (A_m 0)), (1, .int x1)]) rfl
  rw [hent]
  clear hent
  unfold f_X12_isAlive at h
  refine lv_aload_n hx hb dX12_isAlive_0 rfl (lv_at hl 0 rfl) ?_
  refine lv_iload_n hx hb dX12_isAlive_1 rfl (lv_at hl 1 rfl) ?_
  refine lv_iconst (v := 5) hx hb dX12_isAlive_2 (by decide) ?_
  obtain ⟨z_3, e_z_3, h⟩ := bi h
  refine roVi (rest := []) ⟨hx, hb, hml, hown, ht⟩ (c_X12_manOf l D cy fu A_m m_at m_names m_status m_top m_bottom m_sort m_trayMany m_trays m_tape m_text m_taped m_size m_token m_from m_end m_value m_faultKind m_faultPlace m_faults m_seen m_toldParts m_opened m_depth m_counted m_bestOrder m_standers m_has m_bestHas m_standerMany m_bestCouples m_bestFondness m_cameTo m_doesStandFirst m_stoodBy m_drawn m_ranSteps m_loops m_ran m_told1 m_isTold m_marks x1 5 z_3 e_z_3) (cV ht mv_X12_manOf tb_1535 rfl rfl ⟨Nat.le_of_ble_eq_true rfl, Nat.le_of_ble_eq_true rfl⟩) (P_sub hP [0] rfl) hX rfl rfl rfl hl.1 rfl (Nat.le_of_ble_eq_true rfl) dX12_isAlive_3 ⟨Nat.le_of_ble_eq_true rfl, Nat.le_of_ble_eq_true rfl⟩ ?_
  refine lv_if_ne (tgt := 13) hx hb dX12_isAlive_6 (by decide) (fun c_4 => ?_) (fun c_4 => ?_)
  · have h := ie c_4 h
    refine lv_iconst (v := 0) hx hb dX12_isAlive_13 (by decide) ?_
    cases h
    exact W.zret hx hb hr rfl (fun _ ht9 _ => ⟨_, rfl, rfl, ht9⟩) (fun _ hq => by cases hq) dX12_isAlive_14
  · have h := it c_4 h
    refine lv_iconst (v := 1) hx hb dX12_isAlive_9 (by decide) ?_
    refine lv_goto (tgt := 14) hx hb dX12_isAlive_10 (by decide) ?_
    cases h
    exact W.zret hx hb hr rfl (fun _ ht9 _ => ⟨_, rfl, rfl, ht9⟩) (fun _ hq => by cases hq) dX12_isAlive_14
theorem dX12_living_0 : decode cX12_living 0 = .ok (.iconst 0, 1) := by decide +kernel
theorem dX12_living_1 : decode cX12_living 1 = .ok (.istore_n 1, 1) := by decide +kernel
theorem dX12_living_2 : decode cX12_living 2 = .ok (.iconst 0, 1) := by decide +kernel
theorem dX12_living_3 : decode cX12_living 3 = .ok (.istore_n 2, 1) := by decide +kernel
theorem dX12_living_4 : decode cX12_living 4 = .ok (.iload_n 2, 1) := by decide +kernel
theorem dX12_living_5 : decode cX12_living 5 = .ok (.aload_n 0, 1) := by decide +kernel
theorem dX12_living_6 : decode cX12_living 6 = .ok (.getfield 7, 3) := by decide +kernel
theorem dX12_living_9 : decode cX12_living 9 = .ok (.iconst 0, 1) := by decide +kernel
theorem dX12_living_10 : decode cX12_living 10 = .ok (.iaload, 1) := by decide +kernel
theorem dX12_living_11 : decode cX12_living 11 = .ok (.if_icmp .ge 27, 3) := by decide +kernel
theorem dX12_living_14 : decode cX12_living 14 = .ok (.iload_n 1, 1) := by decide +kernel
theorem dX12_living_15 : decode cX12_living 15 = .ok (.aload_n 0, 1) := by decide +kernel
theorem dX12_living_16 : decode cX12_living 16 = .ok (.iload_n 2, 1) := by decide +kernel
theorem dX12_living_17 : decode cX12_living 17 = .ok (.invokevirtual 253, 3) := by decide +kernel
theorem dX12_living_20 : decode cX12_living 20 = .ok (.ifCond .eq 9, 3) := by decide +kernel
theorem dX12_living_23 : decode cX12_living 23 = .ok (.iconst 1, 1) := by decide +kernel
theorem dX12_living_24 : decode cX12_living 24 = .ok (.iload_n 2, 1) := by decide +kernel
theorem dX12_living_25 : decode cX12_living 25 = .ok (.ishl, 1) := by decide +kernel
theorem dX12_living_26 : decode cX12_living 26 = .ok (.goto 4, 3) := by decide +kernel
theorem dX12_living_29 : decode cX12_living 29 = .ok (.iconst 0, 1) := by decide +kernel
theorem dX12_living_30 : decode cX12_living 30 = .ok (.ior, 1) := by decide +kernel
theorem dX12_living_31 : decode cX12_living 31 = .ok (.istore_n 1, 1) := by decide +kernel
theorem dX12_living_32 : decode cX12_living 32 = .ok (.iinc 2 1, 3) := by decide +kernel
theorem dX12_living_35 : decode cX12_living 35 = .ok (.goto (-31), 3) := by decide +kernel
theorem dX12_living_38 : decode cX12_living 38 = .ok (.iload_n 1, 1) := by decide +kernel
theorem dX12_living_39 : decode cX12_living 39 = .ok (.ireturn, 1) := by decide +kernel
theorem mv_X12_living : MV yX12_living RX12 cX12_living 3 (some .int) 0 := ⟨tb_1530, tb_1529, ts_67, tb_16, by decide +kernel, by decide +kernel, by decide +kernel⟩
def f_X12_living_b4 (fu : Nat) (m_at : Nat → Int32) (k4 : Int32 → Int32 → Option (Int32)) (x1 : Int32) (x2 : Int32) : Option (Int32) := (rdI m_at 3648 0).bind fun y_9 => (if y_9 ≤ x2 then some (x1) else (f_X12_isAlive fu m_at x2).bind fun z_11 => (if z_11 = 0 then bnd (x1 ||| 0) fun x1_13 => bnd (x2 + 1) fun x2_14 => k4 x1_13 x2_14 else bnd (x1 ||| ((1 : Int32) <<< (x2 &&& 31))) fun x1_15 => bnd (x2 + 1) fun x2_16 => k4 x1_15 x2_16))
def f_X12_living_l4 (fu : Nat) (m_at : Nat → Int32) : Nat → Int32 → Int32 → Option (Int32)
  | 0, _, _ => none
  | n + 1, x1, x2 => f_X12_living_b4 fu m_at (f_X12_living_l4 fu m_at n) x1 x2
def f_X12_living (fu : Nat) (m_at : Nat → Int32) : Option (Int32) := f_X12_living_l4 fu m_at fu 0 0
abbrev rm_X12_living : Room := { frames := 3, cells := 0, slots := 0, locals := 63 }
set_option maxHeartbeats 4000000 in
set_option maxRecDepth 100000 in
theorem c_X12_living (l : Launch) (D : va_G) (cy : Nat → ClassId) (fu : Nat) (A_m : Nat → Nat) (m_at : Nat → Int32) (m_names : Nat → Int64) (m_status : Int32) (m_top : Int64) (m_bottom : Int64) (m_sort : Nat → Int32) (m_trayMany : Nat → Int32) (m_trays : Nat → Int64) (m_tape : Nat → Int32) (m_text : Nat → Int32) (m_taped : Int32) (m_size : Int32) (m_token : Int32) (m_from : Int32) (m_end : Int32) (m_value : Int32) (m_faultKind : Int32) (m_faultPlace : Int32) (m_faults : Int32) (m_seen : Int32) (m_toldParts : Int32) (m_opened : Nat → Int32) (m_depth : Int32) (m_counted : Int32) (m_bestOrder : Int32) (m_standers : Nat → Int32) (m_has : Nat → Int32) (m_bestHas : Nat → Int32) (m_standerMany : Int32) (m_bestCouples : Int32) (m_bestFondness : Int32) (m_cameTo : Nat → Int32) (m_doesStandFirst : Int32) (m_stoodBy : Nat → Int64) (m_drawn : Int32) (m_ranSteps : Int32) (m_loops : Nat → Int32) (m_ran : Nat → Int32) (m_told1 : Nat → Int32) (m_isTold : Int32) (m_marks : Int32) (res : Int32) (h : f_X12_living fu m_at = some res) : Met l yX12_living (WW yX12_living cX12_living 3 (some .int)) rm_X12_living (Rd D cy [.ref (A_m 0)] [bl_X12 cy A_m m_at m_names m_status m_top m_bottom m_sort m_trayMany m_trays m_tape m_text m_taped m_size m_token m_from m_end m_value m_faultKind m_faultPlace m_faults m_seen m_toldParts m_opened m_depth m_counted m_bestOrder m_standers m_has m_bestHas m_standerMany m_bestCouples m_bestFondness m_cameTo m_doesStandFirst m_stoodBy m_drawn m_ranSteps m_loops m_ran m_told1 m_isTold m_marks]) (vp_Si (fun v => v = res)) 0 0 (fun _ => False) := by
  refine Met.ofW (cc := cX12_living) (maxL := 3) (ret := (some .int)) (by decide) rfl ?_
  intro p e s m args below meth c s₁ B hml hv
  obtain ⟨hargs, hP, hX⟩ := hv
  have hx := B.exec
  have hb := B.bytes
  have hr := B.returns
  have ht : ∀ w ∈ lw_gd, w.before args s = true := fun w hw => atoms_spec (ws := WW yX12_living cX12_living 3 (some .int)) B.pre w (List.mem_cons_of_mem _ hw)
  have hown : s.vm.findClass RX12 = some m.cls := findClass_of_methodNamed B.named
  have hlocks := B.notSynchronized
  have hP : PB D [bl_X12 cy A_m m_at m_names m_status m_top m_bottom m_sort m_trayMany m_trays m_tape m_text m_taped m_size m_token m_from m_end m_value m_faultKind m_faultPlace m_faults m_seen m_toldParts m_opened m_depth m_counted m_bestOrder m_standers m_has m_bestHas m_standerMany m_bestCouples m_bestFondness m_cameTo m_doesStandFirst m_stoodBy m_drawn m_ranSteps m_loops m_ran m_told1 m_isTold m_marks] s.heap := hP
  obtain ⟨ls, hl, hent⟩ := ent (m := m) (n := 3) hargs (Nat.le_of_ble_eq_true rfl) (lv := [(0, .ref (A_m 0))]) rfl
  rw [hent]
  clear hent
  have l4 : ∀ (n4 : Nat) (x1 : Int32) (x2 : Int32) (ls : Array Slot), lv_has ls 3 [(0, .ref (A_m 0)), (1, .int x1), (2, .int x2)] → f_X12_living_l4 fu m_at n4 x1 x2 = some res → W p l e (headSpec (WW yX12_living cX12_living 3 (some .int)) rm_X12_living).room s m args below meth c s.heap [] 0 0 (MQ below (vp_Si (fun v => v = res)) args s 0 0 (fun _ => False)) (F0 m 4 ls []) := by
    intro n4
    induction n4 with
    | zero => intro x1 x2 ls hl h; cases h
    | succ n4 ih4 =>
      intro x1 x2 ls hl h
      have h : f_X12_living_b4 fu m_at (f_X12_living_l4 fu m_at n4) x1 x2 = some res := h
      unfold f_X12_living_b4 at h
      refine lv_iload_n hx hb dX12_living_4 rfl (lv_at hl 2 rfl) ?_
      refine lv_aload_n hx hb dX12_living_5 rfl (lv_at hl 0 rfl) ?_
      refine xget (i := 0) (j := 0) (k := 0) (T := TX12) hx hb ht tb_iX12 hown hX hP rfl rfl rfl (by decide) tb_1229 rfl dX12_living_6 ?_
      refine lv_iconst (v := 0) hx hb dX12_living_9 (by decide) ?_
      obtain ⟨y_9, e_y_9, h⟩ := bi h
      refine xiald (i0 := 0) (j0 := 1) hx hb hX hP rfl rfl e_y_9 dX12_living_10 ?_
      refine lv_icmp_ge (tgt := 38) hx hb dX12_living_11 (by decide) (fun c_10 => ?_) (fun c_10 => ?_)
      · have h := it c_10 h
        refine lv_iload_n hx hb dX12_living_38 rfl (lv_at hl 1 rfl) ?_
        cases h
        exact W.iret hx hb hr (fun _ ht9 _ => ⟨_, rfl, rfl, ht9⟩) (fun _ hq => by cases hq) dX12_living_39
      · have h := ie c_10 h
        refine lv_iload_n hx hb dX12_living_14 rfl (lv_at hl 1 rfl) ?_
        refine lv_aload_n hx hb dX12_living_15 rfl (lv_at hl 0 rfl) ?_
        refine lv_iload_n hx hb dX12_living_16 rfl (lv_at hl 2 rfl) ?_
        obtain ⟨z_11, e_z_11, h⟩ := bi h
        refine roVi (rest := [.int x1]) ⟨hx, hb, hml, hown, ht⟩ (c_X12_isAlive l D cy fu A_m m_at m_names m_status m_top m_bottom m_sort m_trayMany m_trays m_tape m_text m_taped m_size m_token m_from m_end m_value m_faultKind m_faultPlace m_faults m_seen m_toldParts m_opened m_depth m_counted m_bestOrder m_standers m_has m_bestHas m_standerMany m_bestCouples m_bestFondness m_cameTo m_doesStandFirst m_stoodBy m_drawn m_ranSteps m_loops m_ran m_told1 m_isTold m_marks x2 z_11 e_z_11) (cV ht mv_X12_isAlive tb_1531 rfl rfl ⟨Nat.le_of_ble_eq_true rfl, Nat.le_of_ble_eq_true rfl⟩) (P_sub hP [0] rfl) hX rfl rfl rfl hl.1 rfl (Nat.le_of_ble_eq_true rfl) dX12_living_17 ⟨Nat.le_of_ble_eq_true rfl, Nat.le_of_ble_eq_true rfl⟩ ?_
        refine lv_if_eq (tgt := 29) hx hb dX12_living_20 (by decide) (fun c_12 => ?_) (fun c_12 => ?_)
        · have h := it c_12 h
          refine lv_iconst (v := 0) hx hb dX12_living_29 (by decide) ?_
          refine lv_ior hx hb dX12_living_30 ?_
          refine lv_topi (fun x1_13 e_x1_13 => ?_)
          have h := bn e_x1_13 h
          refine lv_istore_n (lv' := [(1, .int x1_13), (0, .ref (A_m 0)), (2, .int x2)]) hx hb dX12_living_31 rfl hl (by decide) rfl (fun ls hl => ?_)
          obtain ⟨x2_14, e_x2_14⟩ : ∃ y : Int32, y = x2 + 1 := ⟨_, rfl⟩
          have h := bn e_x2_14 h
          refine lv_iinc (v := x2_14) (lv' := [(2, .int x2_14), (1, .int x1_13), (0, .ref (A_m 0))]) hx hb dX12_living_32 hl (k := 2) rfl (by rw [e_x2_14]; rfl) (by decide) rfl (fun ls hl => ?_)
          refine lv_goto (tgt := 4) hx hb dX12_living_35 (by decide) ?_
          exact ih4 x1_13 x2_14 ls (lv_sub hl [2, 1, 0] rfl) h
        · have h := ie c_12 h
          refine lv_iconst (v := 1) hx hb dX12_living_23 (by decide) ?_
          refine lv_iload_n hx hb dX12_living_24 rfl (lv_at hl 2 rfl) ?_
          refine lv_ishl hx hb dX12_living_25 ?_
          refine lv_goto (tgt := 30) hx hb dX12_living_26 (by decide) ?_
          refine lv_ior hx hb dX12_living_30 ?_
          refine lv_topi (fun x1_15 e_x1_15 => ?_)
          have h := bn e_x1_15 h
          refine lv_istore_n (lv' := [(1, .int x1_15), (0, .ref (A_m 0)), (2, .int x2)]) hx hb dX12_living_31 rfl hl (by decide) rfl (fun ls hl => ?_)
          obtain ⟨x2_16, e_x2_16⟩ : ∃ y : Int32, y = x2 + 1 := ⟨_, rfl⟩
          have h := bn e_x2_16 h
          refine lv_iinc (v := x2_16) (lv' := [(2, .int x2_16), (1, .int x1_15), (0, .ref (A_m 0))]) hx hb dX12_living_32 hl (k := 2) rfl (by rw [e_x2_16]; rfl) (by decide) rfl (fun ls hl => ?_)
          refine lv_goto (tgt := 4) hx hb dX12_living_35 (by decide) ?_
          exact ih4 x1_15 x2_16 ls (lv_sub hl [2, 1, 0] rfl) h
  unfold f_X12_living at h
  refine lv_iconst (v := 0) hx hb dX12_living_0 (by decide) ?_
  refine lv_istore_n (lv' := [(1, .int 0), (0, .ref (A_m 0))]) hx hb dX12_living_1 rfl hl (by decide) rfl (fun ls hl => ?_)
  refine lv_iconst (v := 0) hx hb dX12_living_2 (by decide) ?_
  refine lv_istore_n (lv' := [(2, .int 0), (1, .int 0), (0, .ref (A_m 0))]) hx hb dX12_living_3 rfl hl (by decide) rfl (fun ls hl => ?_)
  exact l4 fu 0 0 ls (lv_sub hl [2, 1, 0] rfl) h
theorem dX12_likesOf_0 : decode cX12_likesOf 0 = .ok (.aload_n 0, 1) := by decide +kernel
theorem dX12_likesOf_1 : decode cX12_likesOf 1 = .ok (.iload_n 1, 1) := by decide +kernel
theorem dX12_likesOf_2 : decode cX12_likesOf 2 = .ok (.bipush 6, 2) := by decide +kernel
theorem dX12_likesOf_4 : decode cX12_likesOf 4 = .ok (.iload_n 2, 1) := by decide +kernel
theorem dX12_likesOf_5 : decode cX12_likesOf 5 = .ok (.iadd, 1) := by decide +kernel
theorem dX12_likesOf_6 : decode cX12_likesOf 6 = .ok (.invokevirtual 250, 3) := by decide +kernel
theorem dX12_likesOf_9 : decode cX12_likesOf 9 = .ok (.ireturn, 1) := by decide +kernel
theorem mv_X12_likesOf : MV yX12_likesOf RX12 cX12_likesOf 3 (some .int) 2 := ⟨tb_1566, tb_1565, ts_74, tb_16, by decide +kernel, by decide +kernel, by decide +kernel⟩
def f_X12_likesOf (fu : Nat) (m_at : Nat → Int32) (x1 : Int32) (x2 : Int32) : Option (Int32) := (f_X12_manOf fu m_at x1 (6 + x2)).bind fun z_2 => some (z_2)
abbrev rm_X12_likesOf : Room := { frames := 2, cells := 0, slots := 0, locals := 42 }
set_option maxHeartbeats 4000000 in
set_option maxRecDepth 100000 in
theorem c_X12_likesOf (l : Launch) (D : va_G) (cy : Nat → ClassId) (fu : Nat) (A_m : Nat → Nat) (m_at : Nat → Int32) (m_names : Nat → Int64) (m_status : Int32) (m_top : Int64) (m_bottom : Int64) (m_sort : Nat → Int32) (m_trayMany : Nat → Int32) (m_trays : Nat → Int64) (m_tape : Nat → Int32) (m_text : Nat → Int32) (m_taped : Int32) (m_size : Int32) (m_token : Int32) (m_from : Int32) (m_end : Int32) (m_value : Int32) (m_faultKind : Int32) (m_faultPlace : Int32) (m_faults : Int32) (m_seen : Int32) (m_toldParts : Int32) (m_opened : Nat → Int32) (m_depth : Int32) (m_counted : Int32) (m_bestOrder : Int32) (m_standers : Nat → Int32) (m_has : Nat → Int32) (m_bestHas : Nat → Int32) (m_standerMany : Int32) (m_bestCouples : Int32) (m_bestFondness : Int32) (m_cameTo : Nat → Int32) (m_doesStandFirst : Int32) (m_stoodBy : Nat → Int64) (m_drawn : Int32) (m_ranSteps : Int32) (m_loops : Nat → Int32) (m_ran : Nat → Int32) (m_told1 : Nat → Int32) (m_isTold : Int32) (m_marks : Int32) (x1 : Int32) (x2 : Int32) (res : Int32) (h : f_X12_likesOf fu m_at x1 x2 = some res) : Met l yX12_likesOf (WW yX12_likesOf cX12_likesOf 3 (some .int)) rm_X12_likesOf (Rd D cy [.ref (A_m 0), .int x1, .int x2] [bl_X12 cy A_m m_at m_names m_status m_top m_bottom m_sort m_trayMany m_trays m_tape m_text m_taped m_size m_token m_from m_end m_value m_faultKind m_faultPlace m_faults m_seen m_toldParts m_opened m_depth m_counted m_bestOrder m_standers m_has m_bestHas m_standerMany m_bestCouples m_bestFondness m_cameTo m_doesStandFirst m_stoodBy m_drawn m_ranSteps m_loops m_ran m_told1 m_isTold m_marks]) (vp_Si (fun v => v = res)) 0 0 (fun _ => False) := by
  refine Met.ofW (cc := cX12_likesOf) (maxL := 3) (ret := (some .int)) (by decide) rfl ?_
  intro p e s m args below meth c s₁ B hml hv
  obtain ⟨hargs, hP, hX⟩ := hv
  have hx := B.exec
  have hb := B.bytes
  have hr := B.returns
  have ht : ∀ w ∈ lw_gd, w.before args s = true := fun w hw => atoms_spec (ws := WW yX12_likesOf cX12_likesOf 3 (some .int)) B.pre w (List.mem_cons_of_mem _ hw)
  have hown : s.vm.findClass RX12 = some m.cls := findClass_of_methodNamed B.named
  have hlocks := B.notSynchronized
  have hP : PB D [bl_X12 cy A_m m_at m_names m_status m_top m_bottom m_sort m_trayMany m_trays m_tape m_text m_taped m_size m_token m_from m_end m_value m_faultKind m_faultPlace m_faults m_seen m_toldParts m_opened m_depth m_counted m_bestOrder m_standers m_has m_bestHas m_standerMany m_bestCouples m_bestFondness m_cameTo m_doesStandFirst m_stoodBy m_drawn m_ranSteps m_loops m_ran m_told1 m_isTold m_marks] s.heap := hP
  obtain ⟨ls, hl, hent⟩ := ent (m := m) (n := 3) hargs (Nat.le_of_ble_eq_true rfl) (lv := [(0, .ref (A_m 0)), (1, .int x1), (2, .int x2)]) rfl
  rw [hent]
  clear hent
  unfold f_X12_likesOf at h
  refine lv_aload_n hx hb dX12_likesOf_0 rfl (lv_at hl 0 rfl) ?_
  refine lv_iload_n hx hb dX12_likesOf_1 rfl (lv_at hl 1 rfl) ?_
  refine lv_bipush (v := 6) hx hb dX12_likesOf_2 (by decide) ?_
  refine lv_iload_n hx hb dX12_likesOf_4 rfl (lv_at hl 2 rfl) ?_
  refine lv_iadd hx hb dX12_likesOf_5 ?_
  obtain ⟨z_2, e_z_2, h⟩ := bi h
  refine roVi (rest := []) ⟨hx, hb, hml, hown, ht⟩ (c_X12_manOf l D cy fu A_m m_at m_names m_status m_top m_bottom m_sort m_trayMany m_trays m_tape m_text m_taped m_size m_token m_from m_end m_value m_faultKind m_faultPlace m_faults m_seen m_toldParts m_opened m_depth m_counted m_bestOrder m_standers m_has m_bestHas m_standerMany m_bestCouples m_bestFondness m_cameTo m_doesStandFirst m_stoodBy m_drawn m_ranSteps m_loops m_ran m_told1 m_isTold m_marks x1 (6 + x2) z_2 e_z_2) (cV ht mv_X12_manOf tb_1535 rfl rfl ⟨Nat.le_of_ble_eq_true rfl, Nat.le_of_ble_eq_true rfl⟩) (P_sub hP [0] rfl) hX rfl rfl rfl hl.1 rfl (Nat.le_of_ble_eq_true rfl) dX12_likesOf_6 ⟨Nat.le_of_ble_eq_true rfl, Nat.le_of_ble_eq_true rfl⟩ ?_
  cases h
  exact W.iret hx hb hr (fun _ ht9 _ => ⟨_, rfl, rfl, ht9⟩) (fun _ hq => by cases hq) dX12_likesOf_9
theorem dX12_braveOf_0 : decode cX12_braveOf 0 = .ok (.bipush 99, 2) := by decide +kernel
theorem dX12_braveOf_2 : decode cX12_braveOf 2 = .ok (.aload_n 0, 1) := by decide +kernel
theorem dX12_braveOf_3 : decode cX12_braveOf 3 = .ok (.iload_n 1, 1) := by decide +kernel
theorem dX12_braveOf_4 : decode cX12_braveOf 4 = .ok (.iconst 0, 1) := by decide +kernel
theorem dX12_braveOf_5 : decode cX12_braveOf 5 = .ok (.invokevirtual 250, 3) := by decide +kernel
theorem dX12_braveOf_8 : decode cX12_braveOf 8 = .ok (.aload_n 0, 1) := by decide +kernel
theorem dX12_braveOf_9 : decode cX12_braveOf 9 = .ok (.getfield 7, 3) := by decide +kernel
theorem dX12_braveOf_12 : decode cX12_braveOf 12 = .ok (.iconst 1, 1) := by decide +kernel
theorem dX12_braveOf_13 : decode cX12_braveOf 13 = .ok (.iaload, 1) := by decide +kernel
theorem dX12_braveOf_14 : decode cX12_braveOf 14 = .ok (.aload_n 0, 1) := by decide +kernel
theorem dX12_braveOf_15 : decode cX12_braveOf 15 = .ok (.iload_n 1, 1) := by decide +kernel
theorem dX12_braveOf_16 : decode cX12_braveOf 16 = .ok (.iconst 2, 1) := by decide +kernel
theorem dX12_braveOf_17 : decode cX12_braveOf 17 = .ok (.invokevirtual 250, 3) := by decide +kernel
theorem dX12_braveOf_20 : decode cX12_braveOf 20 = .ok (.imul, 1) := by decide +kernel
theorem dX12_braveOf_21 : decode cX12_braveOf 21 = .ok (.iadd, 1) := by decide +kernel
theorem dX12_braveOf_22 : decode cX12_braveOf 22 = .ok (.invokestatic 139, 3) := by decide +kernel
theorem dX12_braveOf_25 : decode cX12_braveOf 25 = .ok (.ireturn, 1) := by decide +kernel
theorem mv_X12_braveOf : MV yX12_braveOf RX12 cX12_braveOf 2 (some .int) 1 := ⟨tb_1558, tb_1557, ts_73, tb_16, by decide +kernel, by decide +kernel, by decide +kernel⟩
def f_X12_braveOf (fu : Nat) (m_at : Nat → Int32) (x1 : Int32) : Option (Int32) := (f_X12_manOf fu m_at x1 0).bind fun z_4 => (rdI m_at 3648 1).bind fun y_5 => (f_X12_manOf fu m_at x1 2).bind fun z_6 => some (if (z_4 + (y_5 * z_6)) < 99 then (z_4 + (y_5 * z_6)) else 99)
abbrev rm_X12_braveOf : Room := { frames := 2, cells := 0, slots := 0, locals := 42 }
set_option maxHeartbeats 4000000 in
set_option maxRecDepth 100000 in
theorem c_X12_braveOf (l : Launch) (D : va_G) (cy : Nat → ClassId) (fu : Nat) (A_m : Nat → Nat) (m_at : Nat → Int32) (m_names : Nat → Int64) (m_status : Int32) (m_top : Int64) (m_bottom : Int64) (m_sort : Nat → Int32) (m_trayMany : Nat → Int32) (m_trays : Nat → Int64) (m_tape : Nat → Int32) (m_text : Nat → Int32) (m_taped : Int32) (m_size : Int32) (m_token : Int32) (m_from : Int32) (m_end : Int32) (m_value : Int32) (m_faultKind : Int32) (m_faultPlace : Int32) (m_faults : Int32) (m_seen : Int32) (m_toldParts : Int32) (m_opened : Nat → Int32) (m_depth : Int32) (m_counted : Int32) (m_bestOrder : Int32) (m_standers : Nat → Int32) (m_has : Nat → Int32) (m_bestHas : Nat → Int32) (m_standerMany : Int32) (m_bestCouples : Int32) (m_bestFondness : Int32) (m_cameTo : Nat → Int32) (m_doesStandFirst : Int32) (m_stoodBy : Nat → Int64) (m_drawn : Int32) (m_ranSteps : Int32) (m_loops : Nat → Int32) (m_ran : Nat → Int32) (m_told1 : Nat → Int32) (m_isTold : Int32) (m_marks : Int32) (x1 : Int32) (res : Int32) (h : f_X12_braveOf fu m_at x1 = some res) : Met l yX12_braveOf (WW yX12_braveOf cX12_braveOf 2 (some .int)) rm_X12_braveOf (Rd D cy [.ref (A_m 0), .int x1] [bl_X12 cy A_m m_at m_names m_status m_top m_bottom m_sort m_trayMany m_trays m_tape m_text m_taped m_size m_token m_from m_end m_value m_faultKind m_faultPlace m_faults m_seen m_toldParts m_opened m_depth m_counted m_bestOrder m_standers m_has m_bestHas m_standerMany m_bestCouples m_bestFondness m_cameTo m_doesStandFirst m_stoodBy m_drawn m_ranSteps m_loops m_ran m_told1 m_isTold m_marks]) (vp_Si (fun v => v = res)) 0 0 (fun _ => False) := by
  refine Met.ofW (cc := cX12_braveOf) (maxL := 2) (ret := (some .int)) (by decide) rfl ?_
  intro p e s m args below meth c s₁ B hml hv
  obtain ⟨hargs, hP, hX⟩ := hv
  have hx := B.exec
  have hb := B.bytes
  have hr := B.returns
  have ht : ∀ w ∈ lw_gd, w.before args s = true := fun w hw => atoms_spec (ws := WW yX12_braveOf cX12_braveOf 2 (some .int)) B.pre w (List.mem_cons_of_mem _ hw)
  have hown : s.vm.findClass RX12 = some m.cls := findClass_of_methodNamed B.named
  have hlocks := B.notSynchronized
  have hP : PB D [bl_X12 cy A_m m_at m_names m_status m_top m_bottom m_sort m_trayMany m_trays m_tape m_text m_taped m_size m_token m_from m_end m_value m_faultKind m_faultPlace m_faults m_seen m_toldParts m_opened m_depth m_counted m_bestOrder m_standers m_has m_bestHas m_standerMany m_bestCouples m_bestFondness m_cameTo m_doesStandFirst m_stoodBy m_drawn m_ranSteps m_loops m_ran m_told1 m_isTold m_marks] s.heap := hP
  obtain ⟨ls, hl, hent⟩ := ent (m := m) (n := 2) hargs (Nat.le_of_ble_eq_true rfl) (lv := [(0, .ref (A_m 0)), (1, .int x1)]) rfl
  rw [hent]
  clear hent
  unfold f_X12_braveOf at h
  refine lv_bipush (v := 99) hx hb dX12_braveOf_0 (by decide) ?_
  refine lv_aload_n hx hb dX12_braveOf_2 rfl (lv_at hl 0 rfl) ?_
  refine lv_iload_n hx hb dX12_braveOf_3 rfl (lv_at hl 1 rfl) ?_
  refine lv_iconst (v := 0) hx hb dX12_braveOf_4 (by decide) ?_
  obtain ⟨z_4, e_z_4, h⟩ := bi h
  refine roVi (rest := [.int 99]) ⟨hx, hb, hml, hown, ht⟩ (c_X12_manOf l D cy fu A_m m_at m_names m_status m_top m_bottom m_sort m_trayMany m_trays m_tape m_text m_taped m_size m_token m_from m_end m_value m_faultKind m_faultPlace m_faults m_seen m_toldParts m_opened m_depth m_counted m_bestOrder m_standers m_has m_bestHas m_standerMany m_bestCouples m_bestFondness m_cameTo m_doesStandFirst m_stoodBy m_drawn m_ranSteps m_loops m_ran m_told1 m_isTold m_marks x1 0 z_4 e_z_4) (cV ht mv_X12_manOf tb_1535 rfl rfl ⟨Nat.le_of_ble_eq_true rfl, Nat.le_of_ble_eq_true rfl⟩) (P_sub hP [0] rfl) hX rfl rfl rfl hl.1 rfl (Nat.le_of_ble_eq_true rfl) dX12_braveOf_5 ⟨Nat.le_of_ble_eq_true rfl, Nat.le_of_ble_eq_true rfl⟩ ?_
  refine lv_aload_n hx hb dX12_braveOf_8 rfl (lv_at hl 0 rfl) ?_
  refine xget (i := 0) (j := 0) (k := 0) (T := TX12) hx hb ht tb_iX12 hown hX hP rfl rfl rfl (by decide) tb_1229 rfl dX12_braveOf_9 ?_
  refine lv_iconst (v := 1) hx hb dX12_braveOf_12 (by decide) ?_
  obtain ⟨y_5, e_y_5, h⟩ := bi h
  refine xiald (i0 := 0) (j0 := 1) hx hb hX hP rfl rfl e_y_5 dX12_braveOf_13 ?_
  refine lv_aload_n hx hb dX12_braveOf_14 rfl (lv_at hl 0 rfl) ?_
  refine lv_iload_n hx hb dX12_braveOf_15 rfl (lv_at hl 1 rfl) ?_
  refine lv_iconst (v := 2) hx hb dX12_braveOf_16 (by decide) ?_
  obtain ⟨z_6, e_z_6, h⟩ := bi h
  refine roVi (rest := [.int y_5, .int z_4, .int 99]) ⟨hx, hb, hml, hown, ht⟩ (c_X12_manOf l D cy fu A_m m_at m_names m_status m_top m_bottom m_sort m_trayMany m_trays m_tape m_text m_taped m_size m_token m_from m_end m_value m_faultKind m_faultPlace m_faults m_seen m_toldParts m_opened m_depth m_counted m_bestOrder m_standers m_has m_bestHas m_standerMany m_bestCouples m_bestFondness m_cameTo m_doesStandFirst m_stoodBy m_drawn m_ranSteps m_loops m_ran m_told1 m_isTold m_marks x1 2 z_6 e_z_6) (cV ht mv_X12_manOf tb_1535 rfl rfl ⟨Nat.le_of_ble_eq_true rfl, Nat.le_of_ble_eq_true rfl⟩) (P_sub hP [0] rfl) hX rfl rfl rfl hl.1 rfl (Nat.le_of_ble_eq_true rfl) dX12_braveOf_17 ⟨Nat.le_of_ble_eq_true rfl, Nat.le_of_ble_eq_true rfl⟩ ?_
  refine lv_imul hx hb dX12_braveOf_20 ?_
  refine lv_iadd hx hb dX12_braveOf_21 ?_
  refine va_mmin hx hb (hml.trans hl.1.symm) hown (ht _ tb_1431) (ht _ tb_583) (ht _ tb_19) (ht _ tb_584) (Nat.le_of_ble_eq_true rfl) (Nat.le_of_ble_eq_true rfl) (Nat.le_of_ble_eq_true rfl) (Nat.le_of_ble_eq_true rfl) dX12_braveOf_22 ?_
  cases h
  exact W.iret hx hb hr (fun _ ht9 _ => ⟨_, rfl, rfl, ht9⟩) (fun _ hq => by cases hq) dX12_braveOf_25
theorem dX12_stands_0 : decode cX12_stands 0 = .ok (.aload_n 0, 1) := by decide +kernel
theorem dX12_stands_1 : decode cX12_stands 1 = .ok (.iload_n 1, 1) := by decide +kernel
theorem dX12_stands_2 : decode cX12_stands 2 = .ok (.invokevirtual 256, 3) := by decide +kernel
theorem dX12_stands_5 : decode cX12_stands 5 = .ok (.iload_n 2, 1) := by decide +kernel
theorem dX12_stands_6 : decode cX12_stands 6 = .ok (.if_icmp .lt 7, 3) := by decide +kernel
theorem dX12_stands_9 : decode cX12_stands 9 = .ok (.iconst 1, 1) := by decide +kernel
theorem dX12_stands_10 : decode cX12_stands 10 = .ok (.goto 4, 3) := by decide +kernel
theorem dX12_stands_13 : decode cX12_stands 13 = .ok (.iconst 0, 1) := by decide +kernel
theorem dX12_stands_14 : decode cX12_stands 14 = .ok (.ireturn, 1) := by decide +kernel
theorem mv_X12_stands : MV yX12_stands RX12 cX12_stands 3 (some .boolean) 2 := ⟨tb_1585, tb_1584, ts_76, tb_16, by decide +kernel, by decide +kernel, by decide +kernel⟩
def f_X12_stands (fu : Nat) (m_at : Nat → Int32) (x1 : Int32) (x2 : Int32) : Option (Int32) := (f_X12_braveOf fu m_at x1).bind fun z_3 => (if z_3 < x2 then some (0) else some (1))
abbrev rm_X12_stands : Room := { frames := 3, cells := 0, slots := 0, locals := 63 }
set_option maxHeartbeats 4000000 in
set_option maxRecDepth 100000 in
theorem c_X12_stands (l : Launch) (D : va_G) (cy : Nat → ClassId) (fu : Nat) (A_m : Nat → Nat) (m_at : Nat → Int32) (m_names : Nat → Int64) (m_status : Int32) (m_top : Int64) (m_bottom : Int64) (m_sort : Nat → Int32) (m_trayMany : Nat → Int32) (m_trays : Nat → Int64) (m_tape : Nat → Int32) (m_text : Nat → Int32) (m_taped : Int32) (m_size : Int32) (m_token : Int32) (m_from : Int32) (m_end : Int32) (m_value : Int32) (m_faultKind : Int32) (m_faultPlace : Int32) (m_faults : Int32) (m_seen : Int32) (m_toldParts : Int32) (m_opened : Nat → Int32) (m_depth : Int32) (m_counted : Int32) (m_bestOrder : Int32) (m_standers : Nat → Int32) (m_has : Nat → Int32) (m_bestHas : Nat → Int32) (m_standerMany : Int32) (m_bestCouples : Int32) (m_bestFondness : Int32) (m_cameTo : Nat → Int32) (m_doesStandFirst : Int32) (m_stoodBy : Nat → Int64) (m_drawn : Int32) (m_ranSteps : Int32) (m_loops : Nat → Int32) (m_ran : Nat → Int32) (m_told1 : Nat → Int32) (m_isTold : Int32) (m_marks : Int32) (x1 : Int32) (x2 : Int32) (res : Int32) (h : f_X12_stands fu m_at x1 x2 = some res) : Met l yX12_stands (WW yX12_stands cX12_stands 3 (some .boolean)) rm_X12_stands (Rd D cy [.ref (A_m 0), .int x1, .int x2] [bl_X12 cy A_m m_at m_names m_status m_top m_bottom m_sort m_trayMany m_trays m_tape m_text m_taped m_size m_token m_from m_end m_value m_faultKind m_faultPlace m_faults m_seen m_toldParts m_opened m_depth m_counted m_bestOrder m_standers m_has m_bestHas m_standerMany m_bestCouples m_bestFondness m_cameTo m_doesStandFirst m_stoodBy m_drawn m_ranSteps m_loops m_ran m_told1 m_isTold m_marks]) (vp_Si (fun v => v = res)) 0 0 (fun _ => False) := by
  refine Met.ofW (cc := cX12_stands) (maxL := 3) (ret := (some .boolean)) (by decide) rfl ?_
  intro p e s m args below meth c s₁ B hml hv
  obtain ⟨hargs, hP, hX⟩ := hv
  have hx := B.exec
  have hb := B.bytes
  have hr := B.returns
  have ht : ∀ w ∈ lw_gd, w.before args s = true := fun w hw => atoms_spec (ws := WW yX12_stands cX12_stands 3 (some .boolean)) B.pre w (List.mem_cons_of_mem _ hw)
  have hown : s.vm.findClass RX12 = some m.cls := findClass_of_methodNamed B.named
  have hlocks := B.notSynchronized
  have hP : PB D [bl_X12 cy A_m m_at m_names m_status m_top m_bottom m_sort m_trayMany m_trays m_tape m_text m_taped m_size m_token m_from m_end m_value m_faultKind m_faultPlace m_faults m_seen m_toldParts m_opened m_depth m_counted m_bestOrder m_standers m_has m_bestHas m_standerMany m_bestCouples m_bestFondness m_cameTo m_doesStandFirst m_stoodBy m_drawn m_ranSteps m_loops m_ran m_told1 m_isTold m_marks] s.heap := hP
  obtain ⟨ls, hl, hent⟩ := ent (m := m) (n := 3) hargs (Nat.le_of_ble_eq_true rfl) (lv := [(0, .ref (A_m 0)), (1, .int x1), (2, .int x2)]) rfl
  rw [hent]
  clear hent
  unfold f_X12_stands at h
  refine lv_aload_n hx hb dX12_stands_0 rfl (lv_at hl 0 rfl) ?_
  refine lv_iload_n hx hb dX12_stands_1 rfl (lv_at hl 1 rfl) ?_
  obtain ⟨z_3, e_z_3, h⟩ := bi h
  refine roVi (rest := []) ⟨hx, hb, hml, hown, ht⟩ (c_X12_braveOf l D cy fu A_m m_at m_names m_status m_top m_bottom m_sort m_trayMany m_trays m_tape m_text m_taped m_size m_token m_from m_end m_value m_faultKind m_faultPlace m_faults m_seen m_toldParts m_opened m_depth m_counted m_bestOrder m_standers m_has m_bestHas m_standerMany m_bestCouples m_bestFondness m_cameTo m_doesStandFirst m_stoodBy m_drawn m_ranSteps m_loops m_ran m_told1 m_isTold m_marks x1 z_3 e_z_3) (cV ht mv_X12_braveOf tb_1555 rfl rfl ⟨Nat.le_of_ble_eq_true rfl, Nat.le_of_ble_eq_true rfl⟩) (P_sub hP [0] rfl) hX rfl rfl rfl hl.1 rfl (Nat.le_of_ble_eq_true rfl) dX12_stands_2 ⟨Nat.le_of_ble_eq_true rfl, Nat.le_of_ble_eq_true rfl⟩ ?_
  refine lv_iload_n hx hb dX12_stands_5 rfl (lv_at hl 2 rfl) ?_
  refine lv_icmp_lt (tgt := 13) hx hb dX12_stands_6 (by decide) (fun c_4 => ?_) (fun c_4 => ?_)
  · have h := it c_4 h
    refine lv_iconst (v := 0) hx hb dX12_stands_13 (by decide) ?_
    cases h
    exact W.zret hx hb hr rfl (fun _ ht9 _ => ⟨_, rfl, rfl, ht9⟩) (fun _ hq => by cases hq) dX12_stands_14
  · have h := ie c_4 h
    refine lv_iconst (v := 1) hx hb dX12_stands_9 (by decide) ?_
    refine lv_goto (tgt := 14) hx hb dX12_stands_10 (by decide) ?_
    cases h
    exact W.zret hx hb hr rfl (fun _ ht9 _ => ⟨_, rfl, rfl, ht9⟩) (fun _ hq => by cases hq) dX12_stands_14
theorem dX12_decorated_0 : decode cX12_decorated 0 = .ok (.iconst 0, 1) := by decide +kernel
theorem dX12_decorated_1 : decode cX12_decorated 1 = .ok (.istore_n 1, 1) := by decide +kernel
theorem dX12_decorated_2 : decode cX12_decorated 2 = .ok (.iconst 0, 1) := by decide +kernel
theorem dX12_decorated_3 : decode cX12_decorated 3 = .ok (.istore_n 2, 1) := by decide +kernel
theorem dX12_decorated_4 : decode cX12_decorated 4 = .ok (.iload_n 2, 1) := by decide +kernel
theorem dX12_decorated_5 : decode cX12_decorated 5 = .ok (.aload_n 0, 1) := by decide +kernel
theorem dX12_decorated_6 : decode cX12_decorated 6 = .ok (.getfield 7, 3) := by decide +kernel
theorem dX12_decorated_9 : decode cX12_decorated 9 = .ok (.iconst 0, 1) := by decide +kernel
theorem dX12_decorated_10 : decode cX12_decorated 10 = .ok (.iaload, 1) := by decide +kernel
theorem dX12_decorated_11 : decode cX12_decorated 11 = .ok (.if_icmp .ge 28, 3) := by decide +kernel
theorem dX12_decorated_14 : decode cX12_decorated 14 = .ok (.iload_n 1, 1) := by decide +kernel
theorem dX12_decorated_15 : decode cX12_decorated 15 = .ok (.aload_n 0, 1) := by decide +kernel
theorem dX12_decorated_16 : decode cX12_decorated 16 = .ok (.iload_n 2, 1) := by decide +kernel
theorem dX12_decorated_17 : decode cX12_decorated 17 = .ok (.iconst 2, 1) := by decide +kernel
theorem dX12_decorated_18 : decode cX12_decorated 18 = .ok (.invokevirtual 250, 3) := by decide +kernel
theorem dX12_decorated_21 : decode cX12_decorated 21 = .ok (.ifCond .le 9, 3) := by decide +kernel
theorem dX12_decorated_24 : decode cX12_decorated 24 = .ok (.iconst 1, 1) := by decide +kernel
theorem dX12_decorated_25 : decode cX12_decorated 25 = .ok (.iload_n 2, 1) := by decide +kernel
theorem dX12_decorated_26 : decode cX12_decorated 26 = .ok (.ishl, 1) := by decide +kernel
theorem dX12_decorated_27 : decode cX12_decorated 27 = .ok (.goto 4, 3) := by decide +kernel
theorem dX12_decorated_30 : decode cX12_decorated 30 = .ok (.iconst 0, 1) := by decide +kernel
theorem dX12_decorated_31 : decode cX12_decorated 31 = .ok (.ior, 1) := by decide +kernel
theorem dX12_decorated_32 : decode cX12_decorated 32 = .ok (.istore_n 1, 1) := by decide +kernel
theorem dX12_decorated_33 : decode cX12_decorated 33 = .ok (.iinc 2 1, 3) := by decide +kernel
theorem dX12_decorated_36 : decode cX12_decorated 36 = .ok (.goto (-32), 3) := by decide +kernel
theorem dX12_decorated_39 : decode cX12_decorated 39 = .ok (.iload_n 1, 1) := by decide +kernel
theorem dX12_decorated_40 : decode cX12_decorated 40 = .ok (.ireturn, 1) := by decide +kernel
theorem mv_X12_decorated : MV yX12_decorated RX12 cX12_decorated 3 (some .int) 0 := ⟨tb_1542, tb_1541, ts_70, tb_16, by decide +kernel, by decide +kernel, by decide +kernel⟩
def f_X12_decorated_b4 (fu : Nat) (m_at : Nat → Int32) (k4 : Int32 → Int32 → Option (Int32)) (x1 : Int32) (x2 : Int32) : Option (Int32) := (rdI m_at 3648 0).bind fun y_9 => (if y_9 ≤ x2 then some (x1) else (f_X12_manOf fu m_at x2 2).bind fun z_11 => (if z_11 ≤ 0 then bnd (x1 ||| 0) fun x1_13 => bnd (x2 + 1) fun x2_14 => k4 x1_13 x2_14 else bnd (x1 ||| ((1 : Int32) <<< (x2 &&& 31))) fun x1_15 => bnd (x2 + 1) fun x2_16 => k4 x1_15 x2_16))
def f_X12_decorated_l4 (fu : Nat) (m_at : Nat → Int32) : Nat → Int32 → Int32 → Option (Int32)
  | 0, _, _ => none
  | n + 1, x1, x2 => f_X12_decorated_b4 fu m_at (f_X12_decorated_l4 fu m_at n) x1 x2
def f_X12_decorated (fu : Nat) (m_at : Nat → Int32) : Option (Int32) := f_X12_decorated_l4 fu m_at fu 0 0
abbrev rm_X12_decorated : Room := { frames := 2, cells := 0, slots := 0, locals := 42 }
set_option maxHeartbeats 4000000 in
set_option maxRecDepth 100000 in
theorem c_X12_decorated (l : Launch) (D : va_G) (cy : Nat → ClassId) (fu : Nat) (A_m : Nat → Nat) (m_at : Nat → Int32) (m_names : Nat → Int64) (m_status : Int32) (m_top : Int64) (m_bottom : Int64) (m_sort : Nat → Int32) (m_trayMany : Nat → Int32) (m_trays : Nat → Int64) (m_tape : Nat → Int32) (m_text : Nat → Int32) (m_taped : Int32) (m_size : Int32) (m_token : Int32) (m_from : Int32) (m_end : Int32) (m_value : Int32) (m_faultKind : Int32) (m_faultPlace : Int32) (m_faults : Int32) (m_seen : Int32) (m_toldParts : Int32) (m_opened : Nat → Int32) (m_depth : Int32) (m_counted : Int32) (m_bestOrder : Int32) (m_standers : Nat → Int32) (m_has : Nat → Int32) (m_bestHas : Nat → Int32) (m_standerMany : Int32) (m_bestCouples : Int32) (m_bestFondness : Int32) (m_cameTo : Nat → Int32) (m_doesStandFirst : Int32) (m_stoodBy : Nat → Int64) (m_drawn : Int32) (m_ranSteps : Int32) (m_loops : Nat → Int32) (m_ran : Nat → Int32) (m_told1 : Nat → Int32) (m_isTold : Int32) (m_marks : Int32) (res : Int32) (h : f_X12_decorated fu m_at = some res) : Met l yX12_decorated (WW yX12_decorated cX12_decorated 3 (some .int)) rm_X12_decorated (Rd D cy [.ref (A_m 0)] [bl_X12 cy A_m m_at m_names m_status m_top m_bottom m_sort m_trayMany m_trays m_tape m_text m_taped m_size m_token m_from m_end m_value m_faultKind m_faultPlace m_faults m_seen m_toldParts m_opened m_depth m_counted m_bestOrder m_standers m_has m_bestHas m_standerMany m_bestCouples m_bestFondness m_cameTo m_doesStandFirst m_stoodBy m_drawn m_ranSteps m_loops m_ran m_told1 m_isTold m_marks]) (vp_Si (fun v => v = res)) 0 0 (fun _ => False) := by
  refine Met.ofW (cc := cX12_decorated) (maxL := 3) (ret := (some .int)) (by decide) rfl ?_
  intro p e s m args below meth c s₁ B hml hv
  obtain ⟨hargs, hP, hX⟩ := hv
  have hx := B.exec
  have hb := B.bytes
  have hr := B.returns
  have ht : ∀ w ∈ lw_gd, w.before args s = true := fun w hw => atoms_spec (ws := WW yX12_decorated cX12_decorated 3 (some .int)) B.pre w (List.mem_cons_of_mem _ hw)
  have hown : s.vm.findClass RX12 = some m.cls := findClass_of_methodNamed B.named
  have hlocks := B.notSynchronized
  have hP : PB D [bl_X12 cy A_m m_at m_names m_status m_top m_bottom m_sort m_trayMany m_trays m_tape m_text m_taped m_size m_token m_from m_end m_value m_faultKind m_faultPlace m_faults m_seen m_toldParts m_opened m_depth m_counted m_bestOrder m_standers m_has m_bestHas m_standerMany m_bestCouples m_bestFondness m_cameTo m_doesStandFirst m_stoodBy m_drawn m_ranSteps m_loops m_ran m_told1 m_isTold m_marks] s.heap := hP
  obtain ⟨ls, hl, hent⟩ := ent (m := m) (n := 3) hargs (Nat.le_of_ble_eq_true rfl) (lv := [(0, .ref (A_m 0))]) rfl
  rw [hent]
  clear hent
  have l4 : ∀ (n4 : Nat) (x1 : Int32) (x2 : Int32) (ls : Array Slot), lv_has ls 3 [(0, .ref (A_m 0)), (1, .int x1), (2, .int x2)] → f_X12_decorated_l4 fu m_at n4 x1 x2 = some res → W p l e (headSpec (WW yX12_decorated cX12_decorated 3 (some .int)) rm_X12_decorated).room s m args below meth c s.heap [] 0 0 (MQ below (vp_Si (fun v => v = res)) args s 0 0 (fun _ => False)) (F0 m 4 ls []) := by
    intro n4
    induction n4 with
    | zero => intro x1 x2 ls hl h; cases h
    | succ n4 ih4 =>
      intro x1 x2 ls hl h
      have h : f_X12_decorated_b4 fu m_at (f_X12_decorated_l4 fu m_at n4) x1 x2 = some res := h
      unfold f_X12_decorated_b4 at h
      refine lv_iload_n hx hb dX12_decorated_4 rfl (lv_at hl 2 rfl) ?_
      refine lv_aload_n hx hb dX12_decorated_5 rfl (lv_at hl 0 rfl) ?_
      refine xget (i := 0) (j := 0) (k := 0) (T := TX12) hx hb ht tb_iX12 hown hX hP rfl rfl rfl (by decide) tb_1229 rfl dX12_decorated_6 ?_
      refine lv_iconst (v := 0) hx hb dX12_decorated_9 (by decide) ?_
      obtain ⟨y_9, e_y_9, h⟩ := bi h
      refine xiald (i0 := 0) (j0 := 1) hx hb hX hP rfl rfl e_y_9 dX12_decorated_10 ?_
      refine lv_icmp_ge (tgt := 39) hx hb dX12_decorated_11 (by decide) (fun c_10 => ?_) (fun c_10 => ?_)
      · have h := it c_10 h
        refine lv_iload_n hx hb dX12_decorated_39 rfl (lv_at hl 1 rfl) ?_
        cases h
        exact W.iret hx hb hr (fun _ ht9 _ => ⟨_, rfl, rfl, ht9⟩) (fun _ hq => by cases hq) dX12_decorated_40
      · have h := ie c_10 h
        refine lv_iload_n hx hb dX12_decorated_14 rfl (lv_at hl 1 rfl) ?_
        refine lv_aload_n hx hb dX12_decorated_15 rfl (lv_at hl 0 rfl) ?_
        refine lv_iload_n hx hb dX12_decorated_16 rfl (lv_at hl 2 rfl) ?_
        refine lv_iconst (v := 2) hx hb dX12_decorated_17 (by decide) ?_
        obtain ⟨z_11, e_z_11, h⟩ := bi h
        refine roVi (rest := [.int x1]) ⟨hx, hb, hml, hown, ht⟩ (c_X12_manOf l D cy fu A_m m_at m_names m_status m_top m_bottom m_sort m_trayMany m_trays m_tape m_text m_taped m_size m_token m_from m_end m_value m_faultKind m_faultPlace m_faults m_seen m_toldParts m_opened m_depth m_counted m_bestOrder m_standers m_has m_bestHas m_standerMany m_bestCouples m_bestFondness m_cameTo m_doesStandFirst m_stoodBy m_drawn m_ranSteps m_loops m_ran m_told1 m_isTold m_marks x2 2 z_11 e_z_11) (cV ht mv_X12_manOf tb_1535 rfl rfl ⟨Nat.le_of_ble_eq_true rfl, Nat.le_of_ble_eq_true rfl⟩) (P_sub hP [0] rfl) hX rfl rfl rfl hl.1 rfl (Nat.le_of_ble_eq_true rfl) dX12_decorated_18 ⟨Nat.le_of_ble_eq_true rfl, Nat.le_of_ble_eq_true rfl⟩ ?_
        refine lv_if_le (tgt := 30) hx hb dX12_decorated_21 (by decide) (fun c_12 => ?_) (fun c_12 => ?_)
        · have h := it c_12 h
          refine lv_iconst (v := 0) hx hb dX12_decorated_30 (by decide) ?_
          refine lv_ior hx hb dX12_decorated_31 ?_
          refine lv_topi (fun x1_13 e_x1_13 => ?_)
          have h := bn e_x1_13 h
          refine lv_istore_n (lv' := [(1, .int x1_13), (0, .ref (A_m 0)), (2, .int x2)]) hx hb dX12_decorated_32 rfl hl (by decide) rfl (fun ls hl => ?_)
          obtain ⟨x2_14, e_x2_14⟩ : ∃ y : Int32, y = x2 + 1 := ⟨_, rfl⟩
          have h := bn e_x2_14 h
          refine lv_iinc (v := x2_14) (lv' := [(2, .int x2_14), (1, .int x1_13), (0, .ref (A_m 0))]) hx hb dX12_decorated_33 hl (k := 2) rfl (by rw [e_x2_14]; rfl) (by decide) rfl (fun ls hl => ?_)
          refine lv_goto (tgt := 4) hx hb dX12_decorated_36 (by decide) ?_
          exact ih4 x1_13 x2_14 ls (lv_sub hl [2, 1, 0] rfl) h
        · have h := ie c_12 h
          refine lv_iconst (v := 1) hx hb dX12_decorated_24 (by decide) ?_
          refine lv_iload_n hx hb dX12_decorated_25 rfl (lv_at hl 2 rfl) ?_
          refine lv_ishl hx hb dX12_decorated_26 ?_
          refine lv_goto (tgt := 31) hx hb dX12_decorated_27 (by decide) ?_
          refine lv_ior hx hb dX12_decorated_31 ?_
          refine lv_topi (fun x1_15 e_x1_15 => ?_)
          have h := bn e_x1_15 h
          refine lv_istore_n (lv' := [(1, .int x1_15), (0, .ref (A_m 0)), (2, .int x2)]) hx hb dX12_decorated_32 rfl hl (by decide) rfl (fun ls hl => ?_)
          obtain ⟨x2_16, e_x2_16⟩ : ∃ y : Int32, y = x2 + 1 := ⟨_, rfl⟩
          have h := bn e_x2_16 h
          refine lv_iinc (v := x2_16) (lv' := [(2, .int x2_16), (1, .int x1_15), (0, .ref (A_m 0))]) hx hb dX12_decorated_33 hl (k := 2) rfl (by rw [e_x2_16]; rfl) (by decide) rfl (fun ls hl => ?_)
          refine lv_goto (tgt := 4) hx hb dX12_decorated_36 (by decide) ?_
          exact ih4 x1_15 x2_16 ls (lv_sub hl [2, 1, 0] rfl) h
  unfold f_X12_decorated at h
  refine lv_iconst (v := 0) hx hb dX12_decorated_0 (by decide) ?_
  refine lv_istore_n (lv' := [(1, .int 0), (0, .ref (A_m 0))]) hx hb dX12_decorated_1 rfl hl (by decide) rfl (fun ls hl => ?_)
  refine lv_iconst (v := 0) hx hb dX12_decorated_2 (by decide) ?_
  refine lv_istore_n (lv' := [(2, .int 0), (1, .int 0), (0, .ref (A_m 0))]) hx hb dX12_decorated_3 rfl hl (by decide) rfl (fun ls hl => ?_)
  exact l4 fu 0 0 ls (lv_sub hl [2, 1, 0] rfl) h
theorem dX12_sumOf_0 : decode cX12_sumOf 0 = .ok (.iconst 0, 1) := by decide +kernel
theorem dX12_sumOf_1 : decode cX12_sumOf 1 = .ok (.istore_n 2, 1) := by decide +kernel
theorem dX12_sumOf_2 : decode cX12_sumOf 2 = .ok (.iconst 0, 1) := by decide +kernel
theorem dX12_sumOf_3 : decode cX12_sumOf 3 = .ok (.istore_n 3, 1) := by decide +kernel
theorem dX12_sumOf_4 : decode cX12_sumOf 4 = .ok (.iload_n 3, 1) := by decide +kernel
theorem dX12_sumOf_5 : decode cX12_sumOf 5 = .ok (.aload_n 0, 1) := by decide +kernel
theorem dX12_sumOf_6 : decode cX12_sumOf 6 = .ok (.getfield 7, 3) := by decide +kernel
theorem dX12_sumOf_9 : decode cX12_sumOf 9 = .ok (.iconst 0, 1) := by decide +kernel
theorem dX12_sumOf_10 : decode cX12_sumOf 10 = .ok (.iaload, 1) := by decide +kernel
theorem dX12_sumOf_11 : decode cX12_sumOf 11 = .ok (.if_icmp .ge 18, 3) := by decide +kernel
theorem dX12_sumOf_14 : decode cX12_sumOf 14 = .ok (.iload_n 2, 1) := by decide +kernel
theorem dX12_sumOf_15 : decode cX12_sumOf 15 = .ok (.aload_n 0, 1) := by decide +kernel
theorem dX12_sumOf_16 : decode cX12_sumOf 16 = .ok (.iload_n 3, 1) := by decide +kernel
theorem dX12_sumOf_17 : decode cX12_sumOf 17 = .ok (.iload_n 1, 1) := by decide +kernel
theorem dX12_sumOf_18 : decode cX12_sumOf 18 = .ok (.invokevirtual 250, 3) := by decide +kernel
theorem dX12_sumOf_21 : decode cX12_sumOf 21 = .ok (.iadd, 1) := by decide +kernel
theorem dX12_sumOf_22 : decode cX12_sumOf 22 = .ok (.istore_n 2, 1) := by decide +kernel
theorem dX12_sumOf_23 : decode cX12_sumOf 23 = .ok (.iinc 3 1, 3) := by decide +kernel
theorem dX12_sumOf_26 : decode cX12_sumOf 26 = .ok (.goto (-22), 3) := by decide +kernel
theorem dX12_sumOf_29 : decode cX12_sumOf 29 = .ok (.iload_n 2, 1) := by decide +kernel
theorem dX12_sumOf_30 : decode cX12_sumOf 30 = .ok (.ireturn, 1) := by decide +kernel
theorem mv_X12_sumOf : MV yX12_sumOf RX12 cX12_sumOf 4 (some .int) 1 := ⟨tb_1546, tb_1545, ts_71, tb_16, by decide +kernel, by decide +kernel, by decide +kernel⟩
def f_X12_sumOf_b4 (fu : Nat) (m_at : Nat → Int32) (x1 : Int32) (k4 : Int32 → Int32 → Option (Int32)) (x2 : Int32) (x3 : Int32) : Option (Int32) := (rdI m_at 3648 0).bind fun y_6 => (if y_6 ≤ x3 then some (x2) else (f_X12_manOf fu m_at x3 x1).bind fun z_8 => bnd (x2 + z_8) fun x2_9 => bnd (x3 + 1) fun x3_10 => k4 x2_9 x3_10)
def f_X12_sumOf_l4 (fu : Nat) (m_at : Nat → Int32) (x1 : Int32) : Nat → Int32 → Int32 → Option (Int32)
  | 0, _, _ => none
  | n + 1, x2, x3 => f_X12_sumOf_b4 fu m_at x1 (f_X12_sumOf_l4 fu m_at x1 n) x2 x3
def f_X12_sumOf (fu : Nat) (m_at : Nat → Int32) (x1 : Int32) : Option (Int32) := f_X12_sumOf_l4 fu m_at x1 fu 0 0
abbrev rm_X12_sumOf : Room := { frames := 2, cells := 0, slots := 0, locals := 42 }
set_option maxHeartbeats 4000000 in
set_option maxRecDepth 100000 in
theorem c_X12_sumOf (l : Launch) (D : va_G) (cy : Nat → ClassId) (fu : Nat) (A_m : Nat → Nat) (m_at : Nat → Int32) (m_names : Nat → Int64) (m_status : Int32) (m_top : Int64) (m_bottom : Int64) (m_sort : Nat → Int32) (m_trayMany : Nat → Int32) (m_trays : Nat → Int64) (m_tape : Nat → Int32) (m_text : Nat → Int32) (m_taped : Int32) (m_size : Int32) (m_token : Int32) (m_from : Int32) (m_end : Int32) (m_value : Int32) (m_faultKind : Int32) (m_faultPlace : Int32) (m_faults : Int32) (m_seen : Int32) (m_toldParts : Int32) (m_opened : Nat → Int32) (m_depth : Int32) (m_counted : Int32) (m_bestOrder : Int32) (m_standers : Nat → Int32) (m_has : Nat → Int32) (m_bestHas : Nat → Int32) (m_standerMany : Int32) (m_bestCouples : Int32) (m_bestFondness : Int32) (m_cameTo : Nat → Int32) (m_doesStandFirst : Int32) (m_stoodBy : Nat → Int64) (m_drawn : Int32) (m_ranSteps : Int32) (m_loops : Nat → Int32) (m_ran : Nat → Int32) (m_told1 : Nat → Int32) (m_isTold : Int32) (m_marks : Int32) (x1 : Int32) (res : Int32) (h : f_X12_sumOf fu m_at x1 = some res) : Met l yX12_sumOf (WW yX12_sumOf cX12_sumOf 4 (some .int)) rm_X12_sumOf (Rd D cy [.ref (A_m 0), .int x1] [bl_X12 cy A_m m_at m_names m_status m_top m_bottom m_sort m_trayMany m_trays m_tape m_text m_taped m_size m_token m_from m_end m_value m_faultKind m_faultPlace m_faults m_seen m_toldParts m_opened m_depth m_counted m_bestOrder m_standers m_has m_bestHas m_standerMany m_bestCouples m_bestFondness m_cameTo m_doesStandFirst m_stoodBy m_drawn m_ranSteps m_loops m_ran m_told1 m_isTold m_marks]) (vp_Si (fun v => v = res)) 0 0 (fun _ => False) := by
  refine Met.ofW (cc := cX12_sumOf) (maxL := 4) (ret := (some .int)) (by decide) rfl ?_
  intro p e s m args below meth c s₁ B hml hv
  obtain ⟨hargs, hP, hX⟩ := hv
  have hx := B.exec
  have hb := B.bytes
  have hr := B.returns
  have ht : ∀ w ∈ lw_gd, w.before args s = true := fun w hw => atoms_spec (ws := WW yX12_sumOf cX12_sumOf 4 (some .int)) B.pre w (List.mem_cons_of_mem _ hw)
  have hown : s.vm.findClass RX12 = some m.cls := findClass_of_methodNamed B.named
  have hlocks := B.notSynchronized
  have hP : PB D [bl_X12 cy A_m m_at m_names m_status m_top m_bottom m_sort m_trayMany m_trays m_tape m_text m_taped m_size m_token m_from m_end m_value m_faultKind m_faultPlace m_faults m_seen m_toldParts m_opened m_depth m_counted m_bestOrder m_standers m_has m_bestHas m_standerMany m_bestCouples m_bestFondness m_cameTo m_doesStandFirst m_stoodBy m_drawn m_ranSteps m_loops m_ran m_told1 m_isTold m_marks] s.heap := hP
  obtain ⟨ls, hl, hent⟩ := ent (m := m) (n := 4) hargs (Nat.le_of_ble_eq_true rfl) (lv := [(0, .ref (A_m 0)), (1, .int x1)]) rfl
  rw [hent]
  clear hent
  have l4 : ∀ (n4 : Nat) (x2 : Int32) (x3 : Int32) (ls : Array Slot), lv_has ls 4 [(0, .ref (A_m 0)), (1, .int x1), (2, .int x2), (3, .int x3)] → f_X12_sumOf_l4 fu m_at x1 n4 x2 x3 = some res → W p l e (headSpec (WW yX12_sumOf cX12_sumOf 4 (some .int)) rm_X12_sumOf).room s m args below meth c s.heap [] 0 0 (MQ below (vp_Si (fun v => v = res)) args s 0 0 (fun _ => False)) (F0 m 4 ls []) := by
    intro n4
    induction n4 with
    | zero => intro x2 x3 ls hl h; cases h
    | succ n4 ih4 =>
      intro x2 x3 ls hl h
      have h : f_X12_sumOf_b4 fu m_at x1 (f_X12_sumOf_l4 fu m_at x1 n4) x2 x3 = some res := h
      unfold f_X12_sumOf_b4 at h
      refine lv_iload_n hx hb dX12_sumOf_4 rfl (lv_at hl 3 rfl) ?_
      refine lv_aload_n hx hb dX12_sumOf_5 rfl (lv_at hl 0 rfl) ?_
      refine xget (i := 0) (j := 0) (k := 0) (T := TX12) hx hb ht tb_iX12 hown hX hP rfl rfl rfl (by decide) tb_1229 rfl dX12_sumOf_6 ?_
      refine lv_iconst (v := 0) hx hb dX12_sumOf_9 (by decide) ?_
      obtain ⟨y_6, e_y_6, h⟩ := bi h
      refine xiald (i0 := 0) (j0 := 1) hx hb hX hP rfl rfl e_y_6 dX12_sumOf_10 ?_
      refine lv_icmp_ge (tgt := 29) hx hb dX12_sumOf_11 (by decide) (fun c_7 => ?_) (fun c_7 => ?_)
      · have h := it c_7 h
        refine lv_iload_n hx hb dX12_sumOf_29 rfl (lv_at hl 2 rfl) ?_
        cases h
        exact W.iret hx hb hr (fun _ ht9 _ => ⟨_, rfl, rfl, ht9⟩) (fun _ hq => by cases hq) dX12_sumOf_30
      · have h := ie c_7 h
        refine lv_iload_n hx hb dX12_sumOf_14 rfl (lv_at hl 2 rfl) ?_
        refine lv_aload_n hx hb dX12_sumOf_15 rfl (lv_at hl 0 rfl) ?_
        refine lv_iload_n hx hb dX12_sumOf_16 rfl (lv_at hl 3 rfl) ?_
        refine lv_iload_n hx hb dX12_sumOf_17 rfl (lv_at hl 1 rfl) ?_
        obtain ⟨z_8, e_z_8, h⟩ := bi h
        refine roVi (rest := [.int x2]) ⟨hx, hb, hml, hown, ht⟩ (c_X12_manOf l D cy fu A_m m_at m_names m_status m_top m_bottom m_sort m_trayMany m_trays m_tape m_text m_taped m_size m_token m_from m_end m_value m_faultKind m_faultPlace m_faults m_seen m_toldParts m_opened m_depth m_counted m_bestOrder m_standers m_has m_bestHas m_standerMany m_bestCouples m_bestFondness m_cameTo m_doesStandFirst m_stoodBy m_drawn m_ranSteps m_loops m_ran m_told1 m_isTold m_marks x3 x1 z_8 e_z_8) (cV ht mv_X12_manOf tb_1535 rfl rfl ⟨Nat.le_of_ble_eq_true rfl, Nat.le_of_ble_eq_true rfl⟩) (P_sub hP [0] rfl) hX rfl rfl rfl hl.1 rfl (Nat.le_of_ble_eq_true rfl) dX12_sumOf_18 ⟨Nat.le_of_ble_eq_true rfl, Nat.le_of_ble_eq_true rfl⟩ ?_
        refine lv_iadd hx hb dX12_sumOf_21 ?_
        refine lv_topi (fun x2_9 e_x2_9 => ?_)
        have h := bn e_x2_9 h
        refine lv_istore_n (lv' := [(2, .int x2_9), (0, .ref (A_m 0)), (1, .int x1), (3, .int x3)]) hx hb dX12_sumOf_22 rfl hl (by decide) rfl (fun ls hl => ?_)
        obtain ⟨x3_10, e_x3_10⟩ : ∃ y : Int32, y = x3 + 1 := ⟨_, rfl⟩
        have h := bn e_x3_10 h
        refine lv_iinc (v := x3_10) (lv' := [(3, .int x3_10), (2, .int x2_9), (0, .ref (A_m 0)), (1, .int x1)]) hx hb dX12_sumOf_23 hl (k := 3) rfl (by rw [e_x3_10]; rfl) (by decide) rfl (fun ls hl => ?_)
        refine lv_goto (tgt := 4) hx hb dX12_sumOf_26 (by decide) ?_
        exact ih4 x2_9 x3_10 ls (lv_sub hl [2, 3, 1, 0] rfl) h
  unfold f_X12_sumOf at h
  refine lv_iconst (v := 0) hx hb dX12_sumOf_0 (by decide) ?_
  refine lv_istore_n (lv' := [(2, .int 0), (0, .ref (A_m 0)), (1, .int x1)]) hx hb dX12_sumOf_1 rfl hl (by decide) rfl (fun ls hl => ?_)
  refine lv_iconst (v := 0) hx hb dX12_sumOf_2 (by decide) ?_
  refine lv_istore_n (lv' := [(3, .int 0), (2, .int 0), (0, .ref (A_m 0)), (1, .int x1)]) hx hb dX12_sumOf_3 rfl hl (by decide) rfl (fun ls hl => ?_)
  exact l4 fu 0 0 ls (lv_sub hl [2, 3, 1, 0] rfl) h
theorem dX12_told_0 : decode cX12_told 0 = .ok (.iload_n 1, 1) := by decide +kernel
theorem dX12_told_1 : decode cX12_told 1 = .ok (.tableswitch 136 0 9 #[55, 55, 55, 66, 75, 84, 94, 105, 116, 126], 55) := by decide +kernel
theorem dX12_told_56 : decode cX12_told 56 = .ok (.aload_n 0, 1) := by decide +kernel
theorem dX12_told_57 : decode cX12_told 57 = .ok (.aload_n 0, 1) := by decide +kernel
theorem dX12_told_58 : decode cX12_told 58 = .ok (.getfield 7, 3) := by decide +kernel
theorem dX12_told_61 : decode cX12_told 61 = .ok (.iload_n 1, 1) := by decide +kernel
theorem dX12_told_62 : decode cX12_told 62 = .ok (.iaload, 1) := by decide +kernel
theorem dX12_told_63 : decode cX12_told 63 = .ok (.invokevirtual 88, 3) := by decide +kernel
theorem dX12_told_66 : decode cX12_told 66 = .ok (.ireturn, 1) := by decide +kernel
theorem dX12_told_67 : decode cX12_told 67 = .ok (.aload_n 0, 1) := by decide +kernel
theorem dX12_told_68 : decode cX12_told 68 = .ok (.aload_n 0, 1) := by decide +kernel
theorem dX12_told_69 : decode cX12_told 69 = .ok (.invokevirtual 259, 3) := by decide +kernel
theorem dX12_told_72 : decode cX12_told 72 = .ok (.invokevirtual 88, 3) := by decide +kernel
theorem dX12_told_75 : decode cX12_told 75 = .ok (.ireturn, 1) := by decide +kernel
theorem dX12_told_76 : decode cX12_told 76 = .ok (.aload_n 0, 1) := by decide +kernel
theorem dX12_told_77 : decode cX12_told 77 = .ok (.aload_n 0, 1) := by decide +kernel
theorem dX12_told_78 : decode cX12_told 78 = .ok (.invokevirtual 262, 3) := by decide +kernel
theorem dX12_told_81 : decode cX12_told 81 = .ok (.invokevirtual 88, 3) := by decide +kernel
theorem dX12_told_84 : decode cX12_told 84 = .ok (.ireturn, 1) := by decide +kernel
theorem dX12_told_85 : decode cX12_told 85 = .ok (.aload_n 0, 1) := by decide +kernel
theorem dX12_told_86 : decode cX12_told 86 = .ok (.aload_n 0, 1) := by decide +kernel
theorem dX12_told_87 : decode cX12_told 87 = .ok (.iconst 2, 1) := by decide +kernel
theorem dX12_told_88 : decode cX12_told 88 = .ok (.invokevirtual 265, 3) := by decide +kernel
theorem dX12_told_91 : decode cX12_told 91 = .ok (.invokevirtual 88, 3) := by decide +kernel
theorem dX12_told_94 : decode cX12_told 94 = .ok (.ireturn, 1) := by decide +kernel
theorem dX12_told_95 : decode cX12_told 95 = .ok (.aload_n 0, 1) := by decide +kernel
theorem dX12_told_96 : decode cX12_told 96 = .ok (.aload_n 0, 1) := by decide +kernel
theorem dX12_told_97 : decode cX12_told 97 = .ok (.getfield 7, 3) := by decide +kernel
theorem dX12_told_100 : decode cX12_told 100 = .ok (.iconst 3, 1) := by decide +kernel
theorem dX12_told_101 : decode cX12_told 101 = .ok (.iaload, 1) := by decide +kernel
theorem dX12_told_102 : decode cX12_told 102 = .ok (.invokevirtual 88, 3) := by decide +kernel
theorem dX12_told_105 : decode cX12_told 105 = .ok (.ireturn, 1) := by decide +kernel
theorem dX12_told_106 : decode cX12_told 106 = .ok (.aload_n 0, 1) := by decide +kernel
theorem dX12_told_107 : decode cX12_told 107 = .ok (.aload_n 0, 1) := by decide +kernel
theorem dX12_told_108 : decode cX12_told 108 = .ok (.getfield 7, 3) := by decide +kernel
theorem dX12_told_111 : decode cX12_told 111 = .ok (.iconst 4, 1) := by decide +kernel
theorem dX12_told_112 : decode cX12_told 112 = .ok (.iaload, 1) := by decide +kernel
theorem dX12_told_113 : decode cX12_told 113 = .ok (.invokevirtual 88, 3) := by decide +kernel
theorem dX12_told_116 : decode cX12_told 116 = .ok (.ireturn, 1) := by decide +kernel
theorem dX12_told_117 : decode cX12_told 117 = .ok (.aload_n 0, 1) := by decide +kernel
theorem dX12_told_118 : decode cX12_told 118 = .ok (.aload_n 0, 1) := by decide +kernel
theorem dX12_told_119 : decode cX12_told 119 = .ok (.iconst 3, 1) := by decide +kernel
theorem dX12_told_120 : decode cX12_told 120 = .ok (.invokevirtual 265, 3) := by decide +kernel
theorem dX12_told_123 : decode cX12_told 123 = .ok (.invokevirtual 88, 3) := by decide +kernel
theorem dX12_told_126 : decode cX12_told 126 = .ok (.ireturn, 1) := by decide +kernel
theorem dX12_told_127 : decode cX12_told 127 = .ok (.aload_n 0, 1) := by decide +kernel
theorem dX12_told_128 : decode cX12_told 128 = .ok (.aload_n 0, 1) := by decide +kernel
theorem dX12_told_129 : decode cX12_told 129 = .ok (.iconst 4, 1) := by decide +kernel
theorem dX12_told_130 : decode cX12_told 130 = .ok (.invokevirtual 265, 3) := by decide +kernel
theorem dX12_told_133 : decode cX12_told 133 = .ok (.invokevirtual 88, 3) := by decide +kernel
theorem dX12_told_136 : decode cX12_told 136 = .ok (.ireturn, 1) := by decide +kernel
theorem dX12_told_137 : decode cX12_told 137 = .ok (.aload_n 0, 1) := by decide +kernel
theorem dX12_told_138 : decode cX12_told 138 = .ok (.iconst 1, 1) := by decide +kernel
theorem dX12_told_139 : decode cX12_told 139 = .ok (.invokevirtual 85, 3) := by decide +kernel
theorem dX12_told_142 : decode cX12_told 142 = .ok (.ireturn, 1) := by decide +kernel
theorem mv_X12_told : MV yX12_told RX12 cX12_told 2 (some .int) 1 := ⟨tb_1526, tb_1524, tb_1525, tb_16, by decide +kernel, by decide +kernel, by decide +kernel⟩
def f_X12_told (fu : Nat) (m_at : Nat → Int32) (m_status : Int32) (x1 : Int32) : Option (Int32 × Int32) := (if x1 = 0 then (rdI m_at 3648 x1).bind fun y_33 => (f_X12_gives fu m_status y_33).bind fun z_34 => some (z_34.1, z_34.2) else (if x1 = 1 then (rdI m_at 3648 x1).bind fun y_36 => (f_X12_gives fu m_status y_36).bind fun z_37 => some (z_37.1, z_37.2) else (if x1 = 2 then (rdI m_at 3648 x1).bind fun y_39 => (f_X12_gives fu m_status y_39).bind fun z_40 => some (z_40.1, z_40.2) else (if x1 = 3 then (f_X12_living fu m_at).bind fun z_42 => (f_X12_gives fu m_status z_42).bind fun z_43 => some (z_43.1, z_43.2) else (if x1 = 4 then (f_X12_decorated fu m_at).bind fun z_45 => (f_X12_gives fu m_status z_45).bind fun z_46 => some (z_46.1, z_46.2) else (if x1 = 5 then (f_X12_sumOf fu m_at 2).bind fun z_48 => (f_X12_gives fu m_status z_48).bind fun z_49 => some (z_49.1, z_49.2) else (if x1 = 6 then (rdI m_at 3648 3).bind fun y_51 => (f_X12_gives fu m_status y_51).bind fun z_52 => some (z_52.1, z_52.2) else (if x1 = 7 then (rdI m_at 3648 4).bind fun y_54 => (f_X12_gives fu m_status y_54).bind fun z_55 => some (z_55.1, z_55.2) else (if x1 = 8 then (f_X12_sumOf fu m_at 3).bind fun z_57 => (f_X12_gives fu m_status z_57).bind fun z_58 => some (z_58.1, z_58.2) else (if x1 = 9 then (f_X12_sumOf fu m_at 4).bind fun z_60 => (f_X12_gives fu m_status z_60).bind fun z_61 => some (z_61.1, z_61.2) else (f_X12_refuse fu m_status 1).bind fun z_62 => some (z_62.1, z_62.2)))))))))))
abbrev rm_X12_told : Room := { frames := 4, cells := 0, slots := 0, locals := 85 }
set_option maxHeartbeats 4000000 in
set_option maxRecDepth 100000 in
theorem c_X12_told (l : Launch) (D : va_G) (cy : Nat → ClassId) (fu : Nat) (A_m : Nat → Nat) (m_at : Nat → Int32) (m_names : Nat → Int64) (m_status : Int32) (m_top : Int64) (m_bottom : Int64) (m_sort : Nat → Int32) (m_trayMany : Nat → Int32) (m_trays : Nat → Int64) (m_tape : Nat → Int32) (m_text : Nat → Int32) (m_taped : Int32) (m_size : Int32) (m_token : Int32) (m_from : Int32) (m_end : Int32) (m_value : Int32) (m_faultKind : Int32) (m_faultPlace : Int32) (m_faults : Int32) (m_seen : Int32) (m_toldParts : Int32) (m_opened : Nat → Int32) (m_depth : Int32) (m_counted : Int32) (m_bestOrder : Int32) (m_standers : Nat → Int32) (m_has : Nat → Int32) (m_bestHas : Nat → Int32) (m_standerMany : Int32) (m_bestCouples : Int32) (m_bestFondness : Int32) (m_cameTo : Nat → Int32) (m_doesStandFirst : Int32) (m_stoodBy : Nat → Int64) (m_drawn : Int32) (m_ranSteps : Int32) (m_loops : Nat → Int32) (m_ran : Nat → Int32) (m_told1 : Nat → Int32) (m_isTold : Int32) (m_marks : Int32) (x1 : Int32) (res : Int32 × Int32) (h : f_X12_told fu m_at m_status x1 = some res) (A : Nat → Prop) (hA : A = adr [bl_X12 cy A_m m_at m_names m_status m_top m_bottom m_sort m_trayMany m_trays m_tape m_text m_taped m_size m_token m_from m_end m_value m_faultKind m_faultPlace m_faults m_seen m_toldParts m_opened m_depth m_counted m_bestOrder m_standers m_has m_bestHas m_standerMany m_bestCouples m_bestFondness m_cameTo m_doesStandFirst m_stoodBy m_drawn m_ranSteps m_loops m_ran m_told1 m_isTold m_marks]) (W1 : List va_W) (hW1 : W1 = [bl_X12 cy A_m m_at m_names res.2 m_top m_bottom m_sort m_trayMany m_trays m_tape m_text m_taped m_size m_token m_from m_end m_value m_faultKind m_faultPlace m_faults m_seen m_toldParts m_opened m_depth m_counted m_bestOrder m_standers m_has m_bestHas m_standerMany m_bestCouples m_bestFondness m_cameTo m_doesStandFirst m_stoodBy m_drawn m_ranSteps m_loops m_ran m_told1 m_isTold m_marks]) : Met l yX12_told (WW yX12_told cX12_told 2 (some .int)) rm_X12_told (Ed D cy [.ref (A_m 0), .int x1] [bl_X12 cy A_m m_at m_names m_status m_top m_bottom m_sort m_trayMany m_trays m_tape m_text m_taped m_size m_token m_from m_end m_value m_faultKind m_faultPlace m_faults m_seen m_toldParts m_opened m_depth m_counted m_bestOrder m_standers m_has m_bestHas m_standerMany m_bestCouples m_bestFondness m_cameTo m_doesStandFirst m_stoodBy m_drawn m_ranSteps m_loops m_ran m_told1 m_isTold m_marks]) (Qei D res.1 A W1) 0 0 A := by
  refine Met.ofW (cc := cX12_told) (maxL := 2) (ret := (some .int)) (by decide) rfl ?_
  intro p e s m args below meth c s₁ B hml hv
  obtain ⟨hargs, hP, hX, hD0⟩ := hv
  have hx := B.exec
  have hb := B.bytes
  have hr := B.returns
  have ht : ∀ w ∈ lw_gd, w.before args s = true := fun w hw => atoms_spec (ws := WW yX12_told cX12_told 2 (some .int)) B.pre w (List.mem_cons_of_mem _ hw)
  have hown : s.vm.findClass RX12 = some m.cls := findClass_of_methodNamed B.named
  have hlocks := B.notSynchronized
  have hP : PD D A [bl_X12 cy A_m m_at m_names m_status m_top m_bottom m_sort m_trayMany m_trays m_tape m_text m_taped m_size m_token m_from m_end m_value m_faultKind m_faultPlace m_faults m_seen m_toldParts m_opened m_depth m_counted m_bestOrder m_standers m_has m_bestHas m_standerMany m_bestCouples m_bestFondness m_cameTo m_doesStandFirst m_stoodBy m_drawn m_ranSteps m_loops m_ran m_told1 m_isTold m_marks] s.heap := ⟨hP, by rw [hA]; exact hD0.own⟩
  have hS : va_S A s.heap s.heap [] := va_S.rf
  obtain ⟨ls, hl, hent⟩ := ent (m := m) (n := 2) hargs (Nat.le_of_ble_eq_true rfl) (lv := [(0, .ref (A_m 0)), (1, .int x1)]) rfl
  rw [hent]
  clear hent
  unfold f_X12_told at h
  refine lv_iload_n hx hb dX12_told_0 rfl (lv_at hl 1 rfl) ?_
  by_cases c_32 : x1 = 0
  · have h := it c_32 h
    refine lv_tableIn (tgt := 56) hx hb dX12_told_1 (by rw [c_32]; decide) (by rw [c_32]; decide) (by rw [c_32]; rfl) (by decide) ?_
    refine lv_aload_n hx hb dX12_told_56 rfl (lv_at hl 0 rfl) ?_
    refine lv_aload_n hx hb dX12_told_57 rfl (lv_at hl 0 rfl) ?_
    refine xget (i := 0) (j := 0) (k := 0) (T := TX12) hx hb ht tb_iX12 hown hX hP.1 rfl rfl rfl (by decide) tb_1229 rfl dX12_told_58 ?_
    refine lv_iload_n hx hb dX12_told_61 rfl (lv_at hl 1 rfl) ?_
    obtain ⟨y_33, e_y_33, h⟩ := bi h
    refine xiald (i0 := 0) (j0 := 1) hx hb hX hP.1 rfl rfl e_y_33 dX12_told_62 ?_
    obtain ⟨z_34, e_z_34, h⟩ := bi h
    refine efVi (rest := []) ⟨hx, hb, hml, hown, ht⟩ (c_X12_gives l D cy fu A_m m_at m_names m_status m_top m_bottom m_sort m_trayMany m_trays m_tape m_text m_taped m_size m_token m_from m_end m_value m_faultKind m_faultPlace m_faults m_seen m_toldParts m_opened m_depth m_counted m_bestOrder m_standers m_has m_bestHas m_standerMany m_bestCouples m_bestFondness m_cameTo m_doesStandFirst m_stoodBy m_drawn m_ranSteps m_loops m_ran m_told1 m_isTold m_marks y_33 z_34 e_z_34 _ rfl _ rfl) (cV ht mv_X12_gives tb_1499 rfl rfl ⟨Nat.le_of_ble_eq_true rfl, Nat.le_of_ble_eq_true rfl⟩) hP hS hX [0] rfl rfl rfl rfl rfl rfl hl.1 rfl (Nat.le_of_ble_eq_true rfl) dX12_told_63 ⟨Nat.le_of_ble_eq_true rfl, Nat.le_of_ble_eq_true rfl⟩ (fun H locs hP hS => ?_)
    have hP : PD D A [bl_X12 cy A_m m_at m_names z_34.2 m_top m_bottom m_sort m_trayMany m_trays m_tape m_text m_taped m_size m_token m_from m_end m_value m_faultKind m_faultPlace m_faults m_seen m_toldParts m_opened m_depth m_counted m_bestOrder m_standers m_has m_bestHas m_standerMany m_bestCouples m_bestFondness m_cameTo m_doesStandFirst m_stoodBy m_drawn m_ranSteps m_loops m_ran m_told1 m_isTold m_marks] H := hP
    cases h
    subst hW1
    exact W.iret hx hb hr (fun _ ht9 _ => ⟨⟨_, (), rfl, rfl, hPt ht9 hP.1⟩, hS.F ht9⟩) hS.2.2 dX12_told_66
  have h := ie c_32 h
  by_cases c_35 : x1 = 1
  · have h := it c_35 h
    refine lv_tableIn (tgt := 56) hx hb dX12_told_1 (by rw [c_35]; decide) (by rw [c_35]; decide) (by rw [c_35]; rfl) (by decide) ?_
    refine lv_aload_n hx hb dX12_told_56 rfl (lv_at hl 0 rfl) ?_
    refine lv_aload_n hx hb dX12_told_57 rfl (lv_at hl 0 rfl) ?_
    refine xget (i := 0) (j := 0) (k := 0) (T := TX12) hx hb ht tb_iX12 hown hX hP.1 rfl rfl rfl (by decide) tb_1229 rfl dX12_told_58 ?_
    refine lv_iload_n hx hb dX12_told_61 rfl (lv_at hl 1 rfl) ?_
    obtain ⟨y_36, e_y_36, h⟩ := bi h
    refine xiald (i0 := 0) (j0 := 1) hx hb hX hP.1 rfl rfl e_y_36 dX12_told_62 ?_
    obtain ⟨z_37, e_z_37, h⟩ := bi h
    refine efVi (rest := []) ⟨hx, hb, hml, hown, ht⟩ (c_X12_gives l D cy fu A_m m_at m_names m_status m_top m_bottom m_sort m_trayMany m_trays m_tape m_text m_taped m_size m_token m_from m_end m_value m_faultKind m_faultPlace m_faults m_seen m_toldParts m_opened m_depth m_counted m_bestOrder m_standers m_has m_bestHas m_standerMany m_bestCouples m_bestFondness m_cameTo m_doesStandFirst m_stoodBy m_drawn m_ranSteps m_loops m_ran m_told1 m_isTold m_marks y_36 z_37 e_z_37 _ rfl _ rfl) (cV ht mv_X12_gives tb_1499 rfl rfl ⟨Nat.le_of_ble_eq_true rfl, Nat.le_of_ble_eq_true rfl⟩) hP hS hX [0] rfl rfl rfl rfl rfl rfl hl.1 rfl (Nat.le_of_ble_eq_true rfl) dX12_told_63 ⟨Nat.le_of_ble_eq_true rfl, Nat.le_of_ble_eq_true rfl⟩ (fun H locs hP hS => ?_)
    have hP : PD D A [bl_X12 cy A_m m_at m_names z_37.2 m_top m_bottom m_sort m_trayMany m_trays m_tape m_text m_taped m_size m_token m_from m_end m_value m_faultKind m_faultPlace m_faults m_seen m_toldParts m_opened m_depth m_counted m_bestOrder m_standers m_has m_bestHas m_standerMany m_bestCouples m_bestFondness m_cameTo m_doesStandFirst m_stoodBy m_drawn m_ranSteps m_loops m_ran m_told1 m_isTold m_marks] H := hP
    cases h
    subst hW1
    exact W.iret hx hb hr (fun _ ht9 _ => ⟨⟨_, (), rfl, rfl, hPt ht9 hP.1⟩, hS.F ht9⟩) hS.2.2 dX12_told_66
  have h := ie c_35 h
  by_cases c_38 : x1 = 2
  · have h := it c_38 h
    refine lv_tableIn (tgt := 56) hx hb dX12_told_1 (by rw [c_38]; decide) (by rw [c_38]; decide) (by rw [c_38]; rfl) (by decide) ?_
    refine lv_aload_n hx hb dX12_told_56 rfl (lv_at hl 0 rfl) ?_
    refine lv_aload_n hx hb dX12_told_57 rfl (lv_at hl 0 rfl) ?_
    refine xget (i := 0) (j := 0) (k := 0) (T := TX12) hx hb ht tb_iX12 hown hX hP.1 rfl rfl rfl (by decide) tb_1229 rfl dX12_told_58 ?_
    refine lv_iload_n hx hb dX12_told_61 rfl (lv_at hl 1 rfl) ?_
    obtain ⟨y_39, e_y_39, h⟩ := bi h
    refine xiald (i0 := 0) (j0 := 1) hx hb hX hP.1 rfl rfl e_y_39 dX12_told_62 ?_
    obtain ⟨z_40, e_z_40, h⟩ := bi h
    refine efVi (rest := []) ⟨hx, hb, hml, hown, ht⟩ (c_X12_gives l D cy fu A_m m_at m_names m_status m_top m_bottom m_sort m_trayMany m_trays m_tape m_text m_taped m_size m_token m_from m_end m_value m_faultKind m_faultPlace m_faults m_seen m_toldParts m_opened m_depth m_counted m_bestOrder m_standers m_has m_bestHas m_standerMany m_bestCouples m_bestFondness m_cameTo m_doesStandFirst m_stoodBy m_drawn m_ranSteps m_loops m_ran m_told1 m_isTold m_marks y_39 z_40 e_z_40 _ rfl _ rfl) (cV ht mv_X12_gives tb_1499 rfl rfl ⟨Nat.le_of_ble_eq_true rfl, Nat.le_of_ble_eq_true rfl⟩) hP hS hX [0] rfl rfl rfl rfl rfl rfl hl.1 rfl (Nat.le_of_ble_eq_true rfl) dX12_told_63 ⟨Nat.le_of_ble_eq_true rfl, Nat.le_of_ble_eq_true rfl⟩ (fun H locs hP hS => ?_)
    have hP : PD D A [bl_X12 cy A_m m_at m_names z_40.2 m_top m_bottom m_sort m_trayMany m_trays m_tape m_text m_taped m_size m_token m_from m_end m_value m_faultKind m_faultPlace m_faults m_seen m_toldParts m_opened m_depth m_counted m_bestOrder m_standers m_has m_bestHas m_standerMany m_bestCouples m_bestFondness m_cameTo m_doesStandFirst m_stoodBy m_drawn m_ranSteps m_loops m_ran m_told1 m_isTold m_marks] H := hP
    cases h
    subst hW1
    exact W.iret hx hb hr (fun _ ht9 _ => ⟨⟨_, (), rfl, rfl, hPt ht9 hP.1⟩, hS.F ht9⟩) hS.2.2 dX12_told_66
  have h := ie c_38 h
  by_cases c_41 : x1 = 3
  · have h := it c_41 h
    refine lv_tableIn (tgt := 67) hx hb dX12_told_1 (by rw [c_41]; decide) (by rw [c_41]; decide) (by rw [c_41]; rfl) (by decide) ?_
    refine lv_aload_n hx hb dX12_told_67 rfl (lv_at hl 0 rfl) ?_
    refine lv_aload_n hx hb dX12_told_68 rfl (lv_at hl 0 rfl) ?_
    obtain ⟨z_42, e_z_42, h⟩ := bi h
    refine roVi (rest := [.ref (A_m 0)]) ⟨hx, hb, hml, hown, ht⟩ (c_X12_living l D cy fu A_m m_at m_names m_status m_top m_bottom m_sort m_trayMany m_trays m_tape m_text m_taped m_size m_token m_from m_end m_value m_faultKind m_faultPlace m_faults m_seen m_toldParts m_opened m_depth m_counted m_bestOrder m_standers m_has m_bestHas m_standerMany m_bestCouples m_bestFondness m_cameTo m_doesStandFirst m_stoodBy m_drawn m_ranSteps m_loops m_ran m_told1 m_isTold m_marks z_42 e_z_42) (cV ht mv_X12_living tb_1527 rfl rfl ⟨Nat.le_of_ble_eq_true rfl, Nat.le_of_ble_eq_true rfl⟩) (P_sub hP.1 [0] rfl) hX rfl rfl rfl hl.1 rfl (Nat.le_of_ble_eq_true rfl) dX12_told_69 ⟨Nat.le_of_ble_eq_true rfl, Nat.le_of_ble_eq_true rfl⟩ ?_
    obtain ⟨z_43, e_z_43, h⟩ := bi h
    refine efVi (rest := []) ⟨hx, hb, hml, hown, ht⟩ (c_X12_gives l D cy fu A_m m_at m_names m_status m_top m_bottom m_sort m_trayMany m_trays m_tape m_text m_taped m_size m_token m_from m_end m_value m_faultKind m_faultPlace m_faults m_seen m_toldParts m_opened m_depth m_counted m_bestOrder m_standers m_has m_bestHas m_standerMany m_bestCouples m_bestFondness m_cameTo m_doesStandFirst m_stoodBy m_drawn m_ranSteps m_loops m_ran m_told1 m_isTold m_marks z_42 z_43 e_z_43 _ rfl _ rfl) (cV ht mv_X12_gives tb_1499 rfl rfl ⟨Nat.le_of_ble_eq_true rfl, Nat.le_of_ble_eq_true rfl⟩) hP hS hX [0] rfl rfl rfl rfl rfl rfl hl.1 rfl (Nat.le_of_ble_eq_true rfl) dX12_told_72 ⟨Nat.le_of_ble_eq_true rfl, Nat.le_of_ble_eq_true rfl⟩ (fun H locs hP hS => ?_)
    have hP : PD D A [bl_X12 cy A_m m_at m_names z_43.2 m_top m_bottom m_sort m_trayMany m_trays m_tape m_text m_taped m_size m_token m_from m_end m_value m_faultKind m_faultPlace m_faults m_seen m_toldParts m_opened m_depth m_counted m_bestOrder m_standers m_has m_bestHas m_standerMany m_bestCouples m_bestFondness m_cameTo m_doesStandFirst m_stoodBy m_drawn m_ranSteps m_loops m_ran m_told1 m_isTold m_marks] H := hP
    cases h
    subst hW1
    exact W.iret hx hb hr (fun _ ht9 _ => ⟨⟨_, (), rfl, rfl, hPt ht9 hP.1⟩, hS.F ht9⟩) hS.2.2 dX12_told_75
  have h := ie c_41 h
  by_cases c_44 : x1 = 4
  · have h := it c_44 h
    refine lv_tableIn (tgt := 76) hx hb dX12_told_1 (by rw [c_44]; decide) (by rw [c_44]; decide) (by rw [c_44]; rfl) (by decide) ?_
    refine lv_aload_n hx hb dX12_told_76 rfl (lv_at hl 0 rfl) ?_
    refine lv_aload_n hx hb dX12_told_77 rfl (lv_at hl 0 rfl) ?_
    obtain ⟨z_45, e_z_45, h⟩ := bi h
    refine roVi (rest := [.ref (A_m 0)]) ⟨hx, hb, hml, hown, ht⟩ (c_X12_decorated l D cy fu A_m m_at m_names m_status m_top m_bottom m_sort m_trayMany m_trays m_tape m_text m_taped m_size m_token m_from m_end m_value m_faultKind m_faultPlace m_faults m_seen m_toldParts m_opened m_depth m_counted m_bestOrder m_standers m_has m_bestHas m_standerMany m_bestCouples m_bestFondness m_cameTo m_doesStandFirst m_stoodBy m_drawn m_ranSteps m_loops m_ran m_told1 m_isTold m_marks z_45 e_z_45) (cV ht mv_X12_decorated tb_1539 rfl rfl ⟨Nat.le_of_ble_eq_true rfl, Nat.le_of_ble_eq_true rfl⟩) (P_sub hP.1 [0] rfl) hX rfl rfl rfl hl.1 rfl (Nat.le_of_ble_eq_true rfl) dX12_told_78 ⟨Nat.le_of_ble_eq_true rfl, Nat.le_of_ble_eq_true rfl⟩ ?_
    obtain ⟨z_46, e_z_46, h⟩ := bi h
    refine efVi (rest := []) ⟨hx, hb, hml, hown, ht⟩ (c_X12_gives l D cy fu A_m m_at m_names m_status m_top m_bottom m_sort m_trayMany m_trays m_tape m_text m_taped m_size m_token m_from m_end m_value m_faultKind m_faultPlace m_faults m_seen m_toldParts m_opened m_depth m_counted m_bestOrder m_standers m_has m_bestHas m_standerMany m_bestCouples m_bestFondness m_cameTo m_doesStandFirst m_stoodBy m_drawn m_ranSteps m_loops m_ran m_told1 m_isTold m_marks z_45 z_46 e_z_46 _ rfl _ rfl) (cV ht mv_X12_gives tb_1499 rfl rfl ⟨Nat.le_of_ble_eq_true rfl, Nat.le_of_ble_eq_true rfl⟩) hP hS hX [0] rfl rfl rfl rfl rfl rfl hl.1 rfl (Nat.le_of_ble_eq_true rfl) dX12_told_81 ⟨Nat.le_of_ble_eq_true rfl, Nat.le_of_ble_eq_true rfl⟩ (fun H locs hP hS => ?_)
    have hP : PD D A [bl_X12 cy A_m m_at m_names z_46.2 m_top m_bottom m_sort m_trayMany m_trays m_tape m_text m_taped m_size m_token m_from m_end m_value m_faultKind m_faultPlace m_faults m_seen m_toldParts m_opened m_depth m_counted m_bestOrder m_standers m_has m_bestHas m_standerMany m_bestCouples m_bestFondness m_cameTo m_doesStandFirst m_stoodBy m_drawn m_ranSteps m_loops m_ran m_told1 m_isTold m_marks] H := hP
    cases h
    subst hW1
    exact W.iret hx hb hr (fun _ ht9 _ => ⟨⟨_, (), rfl, rfl, hPt ht9 hP.1⟩, hS.F ht9⟩) hS.2.2 dX12_told_84
  have h := ie c_44 h
  by_cases c_47 : x1 = 5
  · have h := it c_47 h
    refine lv_tableIn (tgt := 85) hx hb dX12_told_1 (by rw [c_47]; decide) (by rw [c_47]; decide) (by rw [c_47]; rfl) (by decide) ?_
    refine lv_aload_n hx hb dX12_told_85 rfl (lv_at hl 0 rfl) ?_
    refine lv_aload_n hx hb dX12_told_86 rfl (lv_at hl 0 rfl) ?_
    refine lv_iconst (v := 2) hx hb dX12_told_87 (by decide) ?_
    obtain ⟨z_48, e_z_48, h⟩ := bi h
    refine roVi (rest := [.ref (A_m 0)]) ⟨hx, hb, hml, hown, ht⟩ (c_X12_sumOf l D cy fu A_m m_at m_names m_status m_top m_bottom m_sort m_trayMany m_trays m_tape m_text m_taped m_size m_token m_from m_end m_value m_faultKind m_faultPlace m_faults m_seen m_toldParts m_opened m_depth m_counted m_bestOrder m_standers m_has m_bestHas m_standerMany m_bestCouples m_bestFondness m_cameTo m_doesStandFirst m_stoodBy m_drawn m_ranSteps m_loops m_ran m_told1 m_isTold m_marks 2 z_48 e_z_48) (cV ht mv_X12_sumOf tb_1543 rfl rfl ⟨Nat.le_of_ble_eq_true rfl, Nat.le_of_ble_eq_true rfl⟩) (P_sub hP.1 [0] rfl) hX rfl rfl rfl hl.1 rfl (Nat.le_of_ble_eq_true rfl) dX12_told_88 ⟨Nat.le_of_ble_eq_true rfl, Nat.le_of_ble_eq_true rfl⟩ ?_
    obtain ⟨z_49, e_z_49, h⟩ := bi h
    refine efVi (rest := []) ⟨hx, hb, hml, hown, ht⟩ (c_X12_gives l D cy fu A_m m_at m_names m_status m_top m_bottom m_sort m_trayMany m_trays m_tape m_text m_taped m_size m_token m_from m_end m_value m_faultKind m_faultPlace m_faults m_seen m_toldParts m_opened m_depth m_counted m_bestOrder m_standers m_has m_bestHas m_standerMany m_bestCouples m_bestFondness m_cameTo m_doesStandFirst m_stoodBy m_drawn m_ranSteps m_loops m_ran m_told1 m_isTold m_marks z_48 z_49 e_z_49 _ rfl _ rfl) (cV ht mv_X12_gives tb_1499 rfl rfl ⟨Nat.le_of_ble_eq_true rfl, Nat.le_of_ble_eq_true rfl⟩) hP hS hX [0] rfl rfl rfl rfl rfl rfl hl.1 rfl (Nat.le_of_ble_eq_true rfl) dX12_told_91 ⟨Nat.le_of_ble_eq_true rfl, Nat.le_of_ble_eq_true rfl⟩ (fun H locs hP hS => ?_)
    have hP : PD D A [bl_X12 cy A_m m_at m_names z_49.2 m_top m_bottom m_sort m_trayMany m_trays m_tape m_text m_taped m_size m_token m_from m_end m_value m_faultKind m_faultPlace m_faults m_seen m_toldParts m_opened m_depth m_counted m_bestOrder m_standers m_has m_bestHas m_standerMany m_bestCouples m_bestFondness m_cameTo m_doesStandFirst m_stoodBy m_drawn m_ranSteps m_loops m_ran m_told1 m_isTold m_marks] H := hP
    cases h
    subst hW1
    exact W.iret hx hb hr (fun _ ht9 _ => ⟨⟨_, (), rfl, rfl, hPt ht9 hP.1⟩, hS.F ht9⟩) hS.2.2 dX12_told_94
  have h := ie c_47 h
  by_cases c_50 : x1 = 6
  · have h := it c_50 h
    refine lv_tableIn (tgt := 95) hx hb dX12_told_1 (by rw [c_50]; decide) (by rw [c_50]; decide) (by rw [c_50]; rfl) (by decide) ?_
    refine lv_aload_n hx hb dX12_told_95 rfl (lv_at hl 0 rfl) ?_
    refine lv_aload_n hx hb dX12_told_96 rfl (lv_at hl 0 rfl) ?_
    refine xget (i := 0) (j := 0) (k := 0) (T := TX12) hx hb ht tb_iX12 hown hX hP.1 rfl rfl rfl (by decide) tb_1229 rfl dX12_told_97 ?_
    refine lv_iconst (v := 3) hx hb dX12_told_100 (by decide) ?_
    obtain ⟨y_51, e_y_51, h⟩ := bi h
    refine xiald (i0 := 0) (j0 := 1) hx hb hX hP.1 rfl rfl e_y_51 dX12_told_101 ?_
    obtain ⟨z_52, e_z_52, h⟩ := bi h
    refine efVi (rest := []) ⟨hx, hb, hml, hown, ht⟩ (c_X12_gives l D cy fu A_m m_at m_names m_status m_top m_bottom m_sort m_trayMany m_trays m_tape m_text m_taped m_size m_token m_from m_end m_value m_faultKind m_faultPlace m_faults m_seen m_toldParts m_opened m_depth m_counted m_bestOrder m_standers m_has m_bestHas m_standerMany m_bestCouples m_bestFondness m_cameTo m_doesStandFirst m_stoodBy m_drawn m_ranSteps m_loops m_ran m_told1 m_isTold m_marks y_51 z_52 e_z_52 _ rfl _ rfl) (cV ht mv_X12_gives tb_1499 rfl rfl ⟨Nat.le_of_ble_eq_true rfl, Nat.le_of_ble_eq_true rfl⟩) hP hS hX [0] rfl rfl rfl rfl rfl rfl hl.1 rfl (Nat.le_of_ble_eq_true rfl) dX12_told_102 ⟨Nat.le_of_ble_eq_true rfl, Nat.le_of_ble_eq_true rfl⟩ (fun H locs hP hS => ?_)
    have hP : PD D A [bl_X12 cy A_m m_at m_names z_52.2 m_top m_bottom m_sort m_trayMany m_trays m_tape m_text m_taped m_size m_token m_from m_end m_value m_faultKind m_faultPlace m_faults m_seen m_toldParts m_opened m_depth m_counted m_bestOrder m_standers m_has m_bestHas m_standerMany m_bestCouples m_bestFondness m_cameTo m_doesStandFirst m_stoodBy m_drawn m_ranSteps m_loops m_ran m_told1 m_isTold m_marks] H := hP
    cases h
    subst hW1
    exact W.iret hx hb hr (fun _ ht9 _ => ⟨⟨_, (), rfl, rfl, hPt ht9 hP.1⟩, hS.F ht9⟩) hS.2.2 dX12_told_105
  have h := ie c_50 h
  by_cases c_53 : x1 = 7
  · have h := it c_53 h
    refine lv_tableIn (tgt := 106) hx hb dX12_told_1 (by rw [c_53]; decide) (by rw [c_53]; decide) (by rw [c_53]; rfl) (by decide) ?_
    refine lv_aload_n hx hb dX12_told_106 rfl (lv_at hl 0 rfl) ?_
    refine lv_aload_n hx hb dX12_told_107 rfl (lv_at hl 0 rfl) ?_
    refine xget (i := 0) (j := 0) (k := 0) (T := TX12) hx hb ht tb_iX12 hown hX hP.1 rfl rfl rfl (by decide) tb_1229 rfl dX12_told_108 ?_
    refine lv_iconst (v := 4) hx hb dX12_told_111 (by decide) ?_
    obtain ⟨y_54, e_y_54, h⟩ := bi h
    refine xiald (i0 := 0) (j0 := 1) hx hb hX hP.1 rfl rfl e_y_54 dX12_told_112 ?_
    obtain ⟨z_55, e_z_55, h⟩ := bi h
    refine efVi (rest := []) ⟨hx, hb, hml, hown, ht⟩ (c_X12_gives l D cy fu A_m m_at m_names m_status m_top m_bottom m_sort m_trayMany m_trays m_tape m_text m_taped m_size m_token m_from m_end m_value m_faultKind m_faultPlace m_faults m_seen m_toldParts m_opened m_depth m_counted m_bestOrder m_standers m_has m_bestHas m_standerMany m_bestCouples m_bestFondness m_cameTo m_doesStandFirst m_stoodBy m_drawn m_ranSteps m_loops m_ran m_told1 m_isTold m_marks y_54 z_55 e_z_55 _ rfl _ rfl) (cV ht mv_X12_gives tb_1499 rfl rfl ⟨Nat.le_of_ble_eq_true rfl, Nat.le_of_ble_eq_true rfl⟩) hP hS hX [0] rfl rfl rfl rfl rfl rfl hl.1 rfl (Nat.le_of_ble_eq_true rfl) dX12_told_113 ⟨Nat.le_of_ble_eq_true rfl, Nat.le_of_ble_eq_true rfl⟩ (fun H locs hP hS => ?_)
    have hP : PD D A [bl_X12 cy A_m m_at m_names z_55.2 m_top m_bottom m_sort m_trayMany m_trays m_tape m_text m_taped m_size m_token m_from m_end m_value m_faultKind m_faultPlace m_faults m_seen m_toldParts m_opened m_depth m_counted m_bestOrder m_standers m_has m_bestHas m_standerMany m_bestCouples m_bestFondness m_cameTo m_doesStandFirst m_stoodBy m_drawn m_ranSteps m_loops m_ran m_told1 m_isTold m_marks] H := hP
    cases h
    subst hW1
    exact W.iret hx hb hr (fun _ ht9 _ => ⟨⟨_, (), rfl, rfl, hPt ht9 hP.1⟩, hS.F ht9⟩) hS.2.2 dX12_told_116
  have h := ie c_53 h
  by_cases c_56 : x1 = 8
  · have h := it c_56 h
    refine lv_tableIn (tgt := 117) hx hb dX12_told_1 (by rw [c_56]; decide) (by rw [c_56]; decide) (by rw [c_56]; rfl) (by decide) ?_
    refine lv_aload_n hx hb dX12_told_117 rfl (lv_at hl 0 rfl) ?_
    refine lv_aload_n hx hb dX12_told_118 rfl (lv_at hl 0 rfl) ?_
    refine lv_iconst (v := 3) hx hb dX12_told_119 (by decide) ?_
    obtain ⟨z_57, e_z_57, h⟩ := bi h
    refine roVi (rest := [.ref (A_m 0)]) ⟨hx, hb, hml, hown, ht⟩ (c_X12_sumOf l D cy fu A_m m_at m_names m_status m_top m_bottom m_sort m_trayMany m_trays m_tape m_text m_taped m_size m_token m_from m_end m_value m_faultKind m_faultPlace m_faults m_seen m_toldParts m_opened m_depth m_counted m_bestOrder m_standers m_has m_bestHas m_standerMany m_bestCouples m_bestFondness m_cameTo m_doesStandFirst m_stoodBy m_drawn m_ranSteps m_loops m_ran m_told1 m_isTold m_marks 3 z_57 e_z_57) (cV ht mv_X12_sumOf tb_1543 rfl rfl ⟨Nat.le_of_ble_eq_true rfl, Nat.le_of_ble_eq_true rfl⟩) (P_sub hP.1 [0] rfl) hX rfl rfl rfl hl.1 rfl (Nat.le_of_ble_eq_true rfl) dX12_told_120 ⟨Nat.le_of_ble_eq_true rfl, Nat.le_of_ble_eq_true rfl⟩ ?_
    obtain ⟨z_58, e_z_58, h⟩ := bi h
    refine efVi (rest := []) ⟨hx, hb, hml, hown, ht⟩ (c_X12_gives l D cy fu A_m m_at m_names m_status m_top m_bottom m_sort m_trayMany m_trays m_tape m_text m_taped m_size m_token m_from m_end m_value m_faultKind m_faultPlace m_faults m_seen m_toldParts m_opened m_depth m_counted m_bestOrder m_standers m_has m_bestHas m_standerMany m_bestCouples m_bestFondness m_cameTo m_doesStandFirst m_stoodBy m_drawn m_ranSteps m_loops m_ran m_told1 m_isTold m_marks z_57 z_58 e_z_58 _ rfl _ rfl) (cV ht mv_X12_gives tb_1499 rfl rfl ⟨Nat.le_of_ble_eq_true rfl, Nat.le_of_ble_eq_true rfl⟩) hP hS hX [0] rfl rfl rfl rfl rfl rfl hl.1 rfl (Nat.le_of_ble_eq_true rfl) dX12_told_123 ⟨Nat.le_of_ble_eq_true rfl, Nat.le_of_ble_eq_true rfl⟩ (fun H locs hP hS => ?_)
    have hP : PD D A [bl_X12 cy A_m m_at m_names z_58.2 m_top m_bottom m_sort m_trayMany m_trays m_tape m_text m_taped m_size m_token m_from m_end m_value m_faultKind m_faultPlace m_faults m_seen m_toldParts m_opened m_depth m_counted m_bestOrder m_standers m_has m_bestHas m_standerMany m_bestCouples m_bestFondness m_cameTo m_doesStandFirst m_stoodBy m_drawn m_ranSteps m_loops m_ran m_told1 m_isTold m_marks] H := hP
    cases h
    subst hW1
    exact W.iret hx hb hr (fun _ ht9 _ => ⟨⟨_, (), rfl, rfl, hPt ht9 hP.1⟩, hS.F ht9⟩) hS.2.2 dX12_told_126
  have h := ie c_56 h
  by_cases c_59 : x1 = 9
  · have h := it c_59 h
    refine lv_tableIn (tgt := 127) hx hb dX12_told_1 (by rw [c_59]; decide) (by rw [c_59]; decide) (by rw [c_59]; rfl) (by decide) ?_
    refine lv_aload_n hx hb dX12_told_127 rfl (lv_at hl 0 rfl) ?_
    refine lv_aload_n hx hb dX12_told_128 rfl (lv_at hl 0 rfl) ?_
    refine lv_iconst (v := 4) hx hb dX12_told_129 (by decide) ?_
    obtain ⟨z_60, e_z_60, h⟩ := bi h
    refine roVi (rest := [.ref (A_m 0)]) ⟨hx, hb, hml, hown, ht⟩ (c_X12_sumOf l D cy fu A_m m_at m_names m_status m_top m_bottom m_sort m_trayMany m_trays m_tape m_text m_taped m_size m_token m_from m_end m_value m_faultKind m_faultPlace m_faults m_seen m_toldParts m_opened m_depth m_counted m_bestOrder m_standers m_has m_bestHas m_standerMany m_bestCouples m_bestFondness m_cameTo m_doesStandFirst m_stoodBy m_drawn m_ranSteps m_loops m_ran m_told1 m_isTold m_marks 4 z_60 e_z_60) (cV ht mv_X12_sumOf tb_1543 rfl rfl ⟨Nat.le_of_ble_eq_true rfl, Nat.le_of_ble_eq_true rfl⟩) (P_sub hP.1 [0] rfl) hX rfl rfl rfl hl.1 rfl (Nat.le_of_ble_eq_true rfl) dX12_told_130 ⟨Nat.le_of_ble_eq_true rfl, Nat.le_of_ble_eq_true rfl⟩ ?_
    obtain ⟨z_61, e_z_61, h⟩ := bi h
    refine efVi (rest := []) ⟨hx, hb, hml, hown, ht⟩ (c_X12_gives l D cy fu A_m m_at m_names m_status m_top m_bottom m_sort m_trayMany m_trays m_tape m_text m_taped m_size m_token m_from m_end m_value m_faultKind m_faultPlace m_faults m_seen m_toldParts m_opened m_depth m_counted m_bestOrder m_standers m_has m_bestHas m_standerMany m_bestCouples m_bestFondness m_cameTo m_doesStandFirst m_stoodBy m_drawn m_ranSteps m_loops m_ran m_told1 m_isTold m_marks z_60 z_61 e_z_61 _ rfl _ rfl) (cV ht mv_X12_gives tb_1499 rfl rfl ⟨Nat.le_of_ble_eq_true rfl, Nat.le_of_ble_eq_true rfl⟩) hP hS hX [0] rfl rfl rfl rfl rfl rfl hl.1 rfl (Nat.le_of_ble_eq_true rfl) dX12_told_133 ⟨Nat.le_of_ble_eq_true rfl, Nat.le_of_ble_eq_true rfl⟩ (fun H locs hP hS => ?_)
    have hP : PD D A [bl_X12 cy A_m m_at m_names z_61.2 m_top m_bottom m_sort m_trayMany m_trays m_tape m_text m_taped m_size m_token m_from m_end m_value m_faultKind m_faultPlace m_faults m_seen m_toldParts m_opened m_depth m_counted m_bestOrder m_standers m_has m_bestHas m_standerMany m_bestCouples m_bestFondness m_cameTo m_doesStandFirst m_stoodBy m_drawn m_ranSteps m_loops m_ran m_told1 m_isTold m_marks] H := hP
    cases h
    subst hW1
    exact W.iret hx hb hr (fun _ ht9 _ => ⟨⟨_, (), rfl, rfl, hPt ht9 hP.1⟩, hS.F ht9⟩) hS.2.2 dX12_told_136
  have h := ie c_59 h
  refine lv_tableOut (tgt := 137) hx hb dX12_told_1 (by have n_c_32 := lv_neT (a := 0) c_32 rfl; have n_c_35 := lv_neT (a := 1) c_35 rfl; have n_c_38 := lv_neT (a := 2) c_38 rfl; have n_c_41 := lv_neT (a := 3) c_41 rfl; have n_c_44 := lv_neT (a := 4) c_44 rfl; have n_c_47 := lv_neT (a := 5) c_47 rfl; have n_c_50 := lv_neT (a := 6) c_50 rfl; have n_c_53 := lv_neT (a := 7) c_53 rfl; have n_c_56 := lv_neT (a := 8) c_56 rfl; have n_c_59 := lv_neT (a := 9) c_59 rfl; omega) (by decide) ?_
  refine lv_aload_n hx hb dX12_told_137 rfl (lv_at hl 0 rfl) ?_
  refine lv_iconst (v := 1) hx hb dX12_told_138 (by decide) ?_
  obtain ⟨z_62, e_z_62, h⟩ := bi h
  refine efVi (rest := []) ⟨hx, hb, hml, hown, ht⟩ (c_X12_refuse l D cy fu A_m m_at m_names m_status m_top m_bottom m_sort m_trayMany m_trays m_tape m_text m_taped m_size m_token m_from m_end m_value m_faultKind m_faultPlace m_faults m_seen m_toldParts m_opened m_depth m_counted m_bestOrder m_standers m_has m_bestHas m_standerMany m_bestCouples m_bestFondness m_cameTo m_doesStandFirst m_stoodBy m_drawn m_ranSteps m_loops m_ran m_told1 m_isTold m_marks 1 z_62 e_z_62 _ rfl _ rfl) (cV ht mv_X12_refuse tb_1432 rfl rfl ⟨Nat.le_of_ble_eq_true rfl, Nat.le_of_ble_eq_true rfl⟩) hP hS hX [0] rfl rfl rfl rfl rfl rfl hl.1 rfl (Nat.le_of_ble_eq_true rfl) dX12_told_139 ⟨Nat.le_of_ble_eq_true rfl, Nat.le_of_ble_eq_true rfl⟩ (fun H locs hP hS => ?_)
  have hP : PD D A [bl_X12 cy A_m m_at m_names z_62.2 m_top m_bottom m_sort m_trayMany m_trays m_tape m_text m_taped m_size m_token m_from m_end m_value m_faultKind m_faultPlace m_faults m_seen m_toldParts m_opened m_depth m_counted m_bestOrder m_standers m_has m_bestHas m_standerMany m_bestCouples m_bestFondness m_cameTo m_doesStandFirst m_stoodBy m_drawn m_ranSteps m_loops m_ran m_told1 m_isTold m_marks] H := hP
  cases h
  subst hW1
  exact W.iret hx hb hr (fun _ ht9 _ => ⟨⟨_, (), rfl, rfl, hPt ht9 hP.1⟩, hS.F ht9⟩) hS.2.2 dX12_told_142
theorem dX12_man_0 : decode cX12_man 0 = .ok (.aload_n 0, 1) := by decide +kernel
theorem dX12_man_1 : decode cX12_man 1 = .ok (.iload_n 1, 1) := by decide +kernel
theorem dX12_man_2 : decode cX12_man 2 = .ok (.invokevirtual 241, 3) := by decide +kernel
theorem dX12_man_5 : decode cX12_man 5 = .ok (.ifCond .eq 13, 3) := by decide +kernel
theorem dX12_man_8 : decode cX12_man 8 = .ok (.iload_n 2, 1) := by decide +kernel
theorem dX12_man_9 : decode cX12_man 9 = .ok (.ifCond .lt 9, 3) := by decide +kernel
theorem dX12_man_12 : decode cX12_man 12 = .ok (.iload_n 2, 1) := by decide +kernel
theorem dX12_man_13 : decode cX12_man 13 = .ok (.bipush 6, 2) := by decide +kernel
theorem dX12_man_15 : decode cX12_man 15 = .ok (.if_icmp .le 9, 3) := by decide +kernel
theorem dX12_man_18 : decode cX12_man 18 = .ok (.aload_n 0, 1) := by decide +kernel
theorem dX12_man_19 : decode cX12_man 19 = .ok (.iconst 1, 1) := by decide +kernel
theorem dX12_man_20 : decode cX12_man 20 = .ok (.invokevirtual 85, 3) := by decide +kernel
theorem dX12_man_23 : decode cX12_man 23 = .ok (.ireturn, 1) := by decide +kernel
theorem dX12_man_24 : decode cX12_man 24 = .ok (.iload_n 2, 1) := by decide +kernel
theorem dX12_man_25 : decode cX12_man 25 = .ok (.iconst 5, 1) := by decide +kernel
theorem dX12_man_26 : decode cX12_man 26 = .ok (.if_icmp .ne 21, 3) := by decide +kernel
theorem dX12_man_29 : decode cX12_man 29 = .ok (.aload_n 0, 1) := by decide +kernel
theorem dX12_man_30 : decode cX12_man 30 = .ok (.aload_n 0, 1) := by decide +kernel
theorem dX12_man_31 : decode cX12_man 31 = .ok (.iload_n 1, 1) := by decide +kernel
theorem dX12_man_32 : decode cX12_man 32 = .ok (.invokevirtual 253, 3) := by decide +kernel
theorem dX12_man_35 : decode cX12_man 35 = .ok (.ifCond .eq 7, 3) := by decide +kernel
theorem dX12_man_38 : decode cX12_man 38 = .ok (.iconst 1, 1) := by decide +kernel
theorem dX12_man_39 : decode cX12_man 39 = .ok (.goto 4, 3) := by decide +kernel
theorem dX12_man_42 : decode cX12_man 42 = .ok (.iconst 0, 1) := by decide +kernel
theorem dX12_man_43 : decode cX12_man 43 = .ok (.invokevirtual 88, 3) := by decide +kernel
theorem dX12_man_46 : decode cX12_man 46 = .ok (.ireturn, 1) := by decide +kernel
theorem dX12_man_47 : decode cX12_man 47 = .ok (.aload_n 0, 1) := by decide +kernel
theorem dX12_man_48 : decode cX12_man 48 = .ok (.iload_n 2, 1) := by decide +kernel
theorem dX12_man_49 : decode cX12_man 49 = .ok (.bipush 6, 2) := by decide +kernel
theorem dX12_man_51 : decode cX12_man 51 = .ok (.if_icmp .ne 11, 3) := by decide +kernel
theorem dX12_man_54 : decode cX12_man 54 = .ok (.aload_n 0, 1) := by decide +kernel
theorem dX12_man_55 : decode cX12_man 55 = .ok (.iload_n 1, 1) := by decide +kernel
theorem dX12_man_56 : decode cX12_man 56 = .ok (.invokevirtual 256, 3) := by decide +kernel
theorem dX12_man_59 : decode cX12_man 59 = .ok (.goto 9, 3) := by decide +kernel
theorem dX12_man_62 : decode cX12_man 62 = .ok (.aload_n 0, 1) := by decide +kernel
theorem dX12_man_63 : decode cX12_man 63 = .ok (.iload_n 1, 1) := by decide +kernel
theorem dX12_man_64 : decode cX12_man 64 = .ok (.iload_n 2, 1) := by decide +kernel
theorem dX12_man_65 : decode cX12_man 65 = .ok (.invokevirtual 250, 3) := by decide +kernel
theorem dX12_man_68 : decode cX12_man 68 = .ok (.invokevirtual 88, 3) := by decide +kernel
theorem dX12_man_71 : decode cX12_man 71 = .ok (.ireturn, 1) := by decide +kernel
theorem mv_X12_man : MV yX12_man RX12 cX12_man 3 (some .int) 2 := ⟨tb_1550, tb_1548, tb_1549, tb_16, by decide +kernel, by decide +kernel, by decide +kernel⟩
def f_X12_man (fu : Nat) (m_at : Nat → Int32) (m_status : Int32) (x1 : Int32) (x2 : Int32) : Option (Int32 × Int32) := (f_X12_isMan fu m_at x1).bind fun z_18 => (if z_18 = 0 then (f_X12_refuse fu m_status 1).bind fun z_20 => some (z_20.1, z_20.2) else (if x2 < 0 then (f_X12_refuse fu m_status 1).bind fun z_22 => some (z_22.1, z_22.2) else (if x2 ≤ 6 then (if x2 = 5 then (f_X12_isAlive fu m_at x1).bind fun z_30 => (if z_30 = 0 then (f_X12_gives fu m_status 0).bind fun z_32 => some (z_32.1, z_32.2) else (f_X12_gives fu m_status 1).bind fun z_33 => some (z_33.1, z_33.2)) else (if x2 = 6 then (f_X12_braveOf fu m_at x1).bind fun z_28 => (f_X12_gives fu m_status z_28).bind fun z_29 => some (z_29.1, z_29.2) else (f_X12_manOf fu m_at x1 x2).bind fun z_26 => (f_X12_gives fu m_status z_26).bind fun z_27 => some (z_27.1, z_27.2))) else (f_X12_refuse fu m_status 1).bind fun z_34 => some (z_34.1, z_34.2))))
abbrev rm_X12_man : Room := { frames := 3, cells := 0, slots := 0, locals := 63 }
set_option maxHeartbeats 4000000 in
set_option maxRecDepth 100000 in
theorem c_X12_man (l : Launch) (D : va_G) (cy : Nat → ClassId) (fu : Nat) (A_m : Nat → Nat) (m_at : Nat → Int32) (m_names : Nat → Int64) (m_status : Int32) (m_top : Int64) (m_bottom : Int64) (m_sort : Nat → Int32) (m_trayMany : Nat → Int32) (m_trays : Nat → Int64) (m_tape : Nat → Int32) (m_text : Nat → Int32) (m_taped : Int32) (m_size : Int32) (m_token : Int32) (m_from : Int32) (m_end : Int32) (m_value : Int32) (m_faultKind : Int32) (m_faultPlace : Int32) (m_faults : Int32) (m_seen : Int32) (m_toldParts : Int32) (m_opened : Nat → Int32) (m_depth : Int32) (m_counted : Int32) (m_bestOrder : Int32) (m_standers : Nat → Int32) (m_has : Nat → Int32) (m_bestHas : Nat → Int32) (m_standerMany : Int32) (m_bestCouples : Int32) (m_bestFondness : Int32) (m_cameTo : Nat → Int32) (m_doesStandFirst : Int32) (m_stoodBy : Nat → Int64) (m_drawn : Int32) (m_ranSteps : Int32) (m_loops : Nat → Int32) (m_ran : Nat → Int32) (m_told1 : Nat → Int32) (m_isTold : Int32) (m_marks : Int32) (x1 : Int32) (x2 : Int32) (res : Int32 × Int32) (h : f_X12_man fu m_at m_status x1 x2 = some res) (A : Nat → Prop) (hA : A = adr [bl_X12 cy A_m m_at m_names m_status m_top m_bottom m_sort m_trayMany m_trays m_tape m_text m_taped m_size m_token m_from m_end m_value m_faultKind m_faultPlace m_faults m_seen m_toldParts m_opened m_depth m_counted m_bestOrder m_standers m_has m_bestHas m_standerMany m_bestCouples m_bestFondness m_cameTo m_doesStandFirst m_stoodBy m_drawn m_ranSteps m_loops m_ran m_told1 m_isTold m_marks]) (W1 : List va_W) (hW1 : W1 = [bl_X12 cy A_m m_at m_names res.2 m_top m_bottom m_sort m_trayMany m_trays m_tape m_text m_taped m_size m_token m_from m_end m_value m_faultKind m_faultPlace m_faults m_seen m_toldParts m_opened m_depth m_counted m_bestOrder m_standers m_has m_bestHas m_standerMany m_bestCouples m_bestFondness m_cameTo m_doesStandFirst m_stoodBy m_drawn m_ranSteps m_loops m_ran m_told1 m_isTold m_marks]) : Met l yX12_man (WW yX12_man cX12_man 3 (some .int)) rm_X12_man (Ed D cy [.ref (A_m 0), .int x1, .int x2] [bl_X12 cy A_m m_at m_names m_status m_top m_bottom m_sort m_trayMany m_trays m_tape m_text m_taped m_size m_token m_from m_end m_value m_faultKind m_faultPlace m_faults m_seen m_toldParts m_opened m_depth m_counted m_bestOrder m_standers m_has m_bestHas m_standerMany m_bestCouples m_bestFondness m_cameTo m_doesStandFirst m_stoodBy m_drawn m_ranSteps m_loops m_ran m_told1 m_isTold m_marks]) (Qei D res.1 A W1) 0 0 A := by
  refine Met.ofW (cc := cX12_man) (maxL := 3) (ret := (some .int)) (by decide) rfl ?_
  intro p e s m args below meth c s₁ B hml hv
  obtain ⟨hargs, hP, hX, hD0⟩ := hv
  have hx := B.exec
  have hb := B.bytes
  have hr := B.returns
  have ht : ∀ w ∈ lw_gd, w.before args s = true := fun w hw => atoms_spec (ws := WW yX12_man cX12_man 3 (some .int)) B.pre w (List.mem_cons_of_mem _ hw)
  have hown : s.vm.findClass RX12 = some m.cls := findClass_of_methodNamed B.named
  have hlocks := B.notSynchronized
  have hP : PD D A [bl_X12 cy A_m m_at m_names m_status m_top m_bottom m_sort m_trayMany m_trays m_tape m_text m_taped m_size m_token m_from m_end m_value m_faultKind m_faultPlace m_faults m_seen m_toldParts m_opened m_depth m_counted m_bestOrder m_standers m_has m_bestHas m_standerMany m_bestCouples m_bestFondness m_cameTo m_doesStandFirst m_stoodBy m_drawn m_ranSteps m_loops m_ran m_told1 m_isTold m_marks] s.heap := ⟨hP, by rw [hA]; exact hD0.own⟩
  have hS : va_S A s.heap s.heap [] := va_S.rf
  obtain ⟨ls, hl, hent⟩ := ent (m := m) (n := 3) hargs (Nat.le_of_ble_eq_true rfl) (lv := [(0, .ref (A_m 0)), (1, .int x1), (2, .int x2)]) rfl
  rw [hent]
  clear hent
  unfold f_X12_man at h
  refine lv_aload_n hx hb dX12_man_0 rfl (lv_at hl 0 rfl) ?_
  refine lv_iload_n hx hb dX12_man_1 rfl (lv_at hl 1 rfl) ?_
  obtain ⟨z_18, e_z_18, h⟩ := bi h
  refine roVi (rest := []) ⟨hx, hb, hml, hown, ht⟩ (c_X12_isMan l D cy fu A_m m_at m_names m_status m_top m_bottom m_sort m_trayMany m_trays m_tape m_text m_taped m_size m_token m_from m_end m_value m_faultKind m_faultPlace m_faults m_seen m_toldParts m_opened m_depth m_counted m_bestOrder m_standers m_has m_bestHas m_standerMany m_bestCouples m_bestFondness m_cameTo m_doesStandFirst m_stoodBy m_drawn m_ranSteps m_loops m_ran m_told1 m_isTold m_marks x1 z_18 e_z_18) (cV ht mv_X12_isMan tb_1551 rfl rfl ⟨Nat.le_of_ble_eq_true rfl, Nat.le_of_ble_eq_true rfl⟩) (P_sub hP.1 [0] rfl) hX rfl rfl rfl hl.1 rfl (Nat.le_of_ble_eq_true rfl) dX12_man_2 ⟨Nat.le_of_ble_eq_true rfl, Nat.le_of_ble_eq_true rfl⟩ ?_
  refine lv_if_eq (tgt := 18) hx hb dX12_man_5 (by decide) (fun c_19 => ?_) (fun c_19 => ?_)
  · have h := it c_19 h
    refine lv_aload_n hx hb dX12_man_18 rfl (lv_at hl 0 rfl) ?_
    refine lv_iconst (v := 1) hx hb dX12_man_19 (by decide) ?_
    obtain ⟨z_20, e_z_20, h⟩ := bi h
    refine efVi (rest := []) ⟨hx, hb, hml, hown, ht⟩ (c_X12_refuse l D cy fu A_m m_at m_names m_status m_top m_bottom m_sort m_trayMany m_trays m_tape m_text m_taped m_size m_token m_from m_end m_value m_faultKind m_faultPlace m_faults m_seen m_toldParts m_opened m_depth m_counted m_bestOrder m_standers m_has m_bestHas m_standerMany m_bestCouples m_bestFondness m_cameTo m_doesStandFirst m_stoodBy m_drawn m_ranSteps m_loops m_ran m_told1 m_isTold m_marks 1 z_20 e_z_20 _ rfl _ rfl) (cV ht mv_X12_refuse tb_1432 rfl rfl ⟨Nat.le_of_ble_eq_true rfl, Nat.le_of_ble_eq_true rfl⟩) hP hS hX [0] rfl rfl rfl rfl rfl rfl hl.1 rfl (Nat.le_of_ble_eq_true rfl) dX12_man_20 ⟨Nat.le_of_ble_eq_true rfl, Nat.le_of_ble_eq_true rfl⟩ (fun H locs hP hS => ?_)
    have hP : PD D A [bl_X12 cy A_m m_at m_names z_20.2 m_top m_bottom m_sort m_trayMany m_trays m_tape m_text m_taped m_size m_token m_from m_end m_value m_faultKind m_faultPlace m_faults m_seen m_toldParts m_opened m_depth m_counted m_bestOrder m_standers m_has m_bestHas m_standerMany m_bestCouples m_bestFondness m_cameTo m_doesStandFirst m_stoodBy m_drawn m_ranSteps m_loops m_ran m_told1 m_isTold m_marks] H := hP
    cases h
    subst hW1
    exact W.iret hx hb hr (fun _ ht9 _ => ⟨⟨_, (), rfl, rfl, hPt ht9 hP.1⟩, hS.F ht9⟩) hS.2.2 dX12_man_23
  · have h := ie c_19 h
    refine lv_iload_n hx hb dX12_man_8 rfl (lv_at hl 2 rfl) ?_
    refine lv_if_lt (tgt := 18) hx hb dX12_man_9 (by decide) (fun c_21 => ?_) (fun c_21 => ?_)
    · have h := it c_21 h
      refine lv_aload_n hx hb dX12_man_18 rfl (lv_at hl 0 rfl) ?_
      refine lv_iconst (v := 1) hx hb dX12_man_19 (by decide) ?_
      obtain ⟨z_22, e_z_22, h⟩ := bi h
      refine efVi (rest := []) ⟨hx, hb, hml, hown, ht⟩ (c_X12_refuse l D cy fu A_m m_at m_names m_status m_top m_bottom m_sort m_trayMany m_trays m_tape m_text m_taped m_size m_token m_from m_end m_value m_faultKind m_faultPlace m_faults m_seen m_toldParts m_opened m_depth m_counted m_bestOrder m_standers m_has m_bestHas m_standerMany m_bestCouples m_bestFondness m_cameTo m_doesStandFirst m_stoodBy m_drawn m_ranSteps m_loops m_ran m_told1 m_isTold m_marks 1 z_22 e_z_22 _ rfl _ rfl) (cV ht mv_X12_refuse tb_1432 rfl rfl ⟨Nat.le_of_ble_eq_true rfl, Nat.le_of_ble_eq_true rfl⟩) hP hS hX [0] rfl rfl rfl rfl rfl rfl hl.1 rfl (Nat.le_of_ble_eq_true rfl) dX12_man_20 ⟨Nat.le_of_ble_eq_true rfl, Nat.le_of_ble_eq_true rfl⟩ (fun H locs hP hS => ?_)
      have hP : PD D A [bl_X12 cy A_m m_at m_names z_22.2 m_top m_bottom m_sort m_trayMany m_trays m_tape m_text m_taped m_size m_token m_from m_end m_value m_faultKind m_faultPlace m_faults m_seen m_toldParts m_opened m_depth m_counted m_bestOrder m_standers m_has m_bestHas m_standerMany m_bestCouples m_bestFondness m_cameTo m_doesStandFirst m_stoodBy m_drawn m_ranSteps m_loops m_ran m_told1 m_isTold m_marks] H := hP
      cases h
      subst hW1
      exact W.iret hx hb hr (fun _ ht9 _ => ⟨⟨_, (), rfl, rfl, hPt ht9 hP.1⟩, hS.F ht9⟩) hS.2.2 dX12_man_23
    · have h := ie c_21 h
      refine lv_iload_n hx hb dX12_man_12 rfl (lv_at hl 2 rfl) ?_
      refine lv_bipush (v := 6) hx hb dX12_man_13 (by decide) ?_
      refine lv_icmp_le (tgt := 24) hx hb dX12_man_15 (by decide) (fun c_23 => ?_) (fun c_23 => ?_)
      · have h := it c_23 h
        refine lv_iload_n hx hb dX12_man_24 rfl (lv_at hl 2 rfl) ?_
        refine lv_iconst (v := 5) hx hb dX12_man_25 (by decide) ?_
        refine lv_icmp_ne (tgt := 47) hx hb dX12_man_26 (by decide) (fun c_24 => ?_) (fun c_24 => ?_)
        · have h := ie c_24 h
          refine lv_aload_n hx hb dX12_man_47 rfl (lv_at hl 0 rfl) ?_
          refine lv_iload_n hx hb dX12_man_48 rfl (lv_at hl 2 rfl) ?_
          refine lv_bipush (v := 6) hx hb dX12_man_49 (by decide) ?_
          refine lv_icmp_ne (tgt := 62) hx hb dX12_man_51 (by decide) (fun c_25 => ?_) (fun c_25 => ?_)
          · have h := ie c_25 h
            refine lv_aload_n hx hb dX12_man_62 rfl (lv_at hl 0 rfl) ?_
            refine lv_iload_n hx hb dX12_man_63 rfl (lv_at hl 1 rfl) ?_
            refine lv_iload_n hx hb dX12_man_64 rfl (lv_at hl 2 rfl) ?_
            obtain ⟨z_26, e_z_26, h⟩ := bi h
            refine roVi (rest := [.ref (A_m 0)]) ⟨hx, hb, hml, hown, ht⟩ (c_X12_manOf l D cy fu A_m m_at m_names m_status m_top m_bottom m_sort m_trayMany m_trays m_tape m_text m_taped m_size m_token m_from m_end m_value m_faultKind m_faultPlace m_faults m_seen m_toldParts m_opened m_depth m_counted m_bestOrder m_standers m_has m_bestHas m_standerMany m_bestCouples m_bestFondness m_cameTo m_doesStandFirst m_stoodBy m_drawn m_ranSteps m_loops m_ran m_told1 m_isTold m_marks x1 x2 z_26 e_z_26) (cV ht mv_X12_manOf tb_1535 rfl rfl ⟨Nat.le_of_ble_eq_true rfl, Nat.le_of_ble_eq_true rfl⟩) (P_sub hP.1 [0] rfl) hX rfl rfl rfl hl.1 rfl (Nat.le_of_ble_eq_true rfl) dX12_man_65 ⟨Nat.le_of_ble_eq_true rfl, Nat.le_of_ble_eq_true rfl⟩ ?_
            obtain ⟨z_27, e_z_27, h⟩ := bi h
            refine efVi (rest := []) ⟨hx, hb, hml, hown, ht⟩ (c_X12_gives l D cy fu A_m m_at m_names m_status m_top m_bottom m_sort m_trayMany m_trays m_tape m_text m_taped m_size m_token m_from m_end m_value m_faultKind m_faultPlace m_faults m_seen m_toldParts m_opened m_depth m_counted m_bestOrder m_standers m_has m_bestHas m_standerMany m_bestCouples m_bestFondness m_cameTo m_doesStandFirst m_stoodBy m_drawn m_ranSteps m_loops m_ran m_told1 m_isTold m_marks z_26 z_27 e_z_27 _ rfl _ rfl) (cV ht mv_X12_gives tb_1499 rfl rfl ⟨Nat.le_of_ble_eq_true rfl, Nat.le_of_ble_eq_true rfl⟩) hP hS hX [0] rfl rfl rfl rfl rfl rfl hl.1 rfl (Nat.le_of_ble_eq_true rfl) dX12_man_68 ⟨Nat.le_of_ble_eq_true rfl, Nat.le_of_ble_eq_true rfl⟩ (fun H locs hP hS => ?_)
            have hP : PD D A [bl_X12 cy A_m m_at m_names z_27.2 m_top m_bottom m_sort m_trayMany m_trays m_tape m_text m_taped m_size m_token m_from m_end m_value m_faultKind m_faultPlace m_faults m_seen m_toldParts m_opened m_depth m_counted m_bestOrder m_standers m_has m_bestHas m_standerMany m_bestCouples m_bestFondness m_cameTo m_doesStandFirst m_stoodBy m_drawn m_ranSteps m_loops m_ran m_told1 m_isTold m_marks] H := hP
            cases h
            subst hW1
            exact W.iret hx hb hr (fun _ ht9 _ => ⟨⟨_, (), rfl, rfl, hPt ht9 hP.1⟩, hS.F ht9⟩) hS.2.2 dX12_man_71
          · have h := it c_25 h
            refine lv_aload_n hx hb dX12_man_54 rfl (lv_at hl 0 rfl) ?_
            refine lv_iload_n hx hb dX12_man_55 rfl (lv_at hl 1 rfl) ?_
            obtain ⟨z_28, e_z_28, h⟩ := bi h
            refine roVi (rest := [.ref (A_m 0)]) ⟨hx, hb, hml, hown, ht⟩ (c_X12_braveOf l D cy fu A_m m_at m_names m_status m_top m_bottom m_sort m_trayMany m_trays m_tape m_text m_taped m_size m_token m_from m_end m_value m_faultKind m_faultPlace m_faults m_seen m_toldParts m_opened m_depth m_counted m_bestOrder m_standers m_has m_bestHas m_standerMany m_bestCouples m_bestFondness m_cameTo m_doesStandFirst m_stoodBy m_drawn m_ranSteps m_loops m_ran m_told1 m_isTold m_marks x1 z_28 e_z_28) (cV ht mv_X12_braveOf tb_1555 rfl rfl ⟨Nat.le_of_ble_eq_true rfl, Nat.le_of_ble_eq_true rfl⟩) (P_sub hP.1 [0] rfl) hX rfl rfl rfl hl.1 rfl (Nat.le_of_ble_eq_true rfl) dX12_man_56 ⟨Nat.le_of_ble_eq_true rfl, Nat.le_of_ble_eq_true rfl⟩ ?_
            refine lv_goto (tgt := 68) hx hb dX12_man_59 (by decide) ?_
            obtain ⟨z_29, e_z_29, h⟩ := bi h
            refine efVi (rest := []) ⟨hx, hb, hml, hown, ht⟩ (c_X12_gives l D cy fu A_m m_at m_names m_status m_top m_bottom m_sort m_trayMany m_trays m_tape m_text m_taped m_size m_token m_from m_end m_value m_faultKind m_faultPlace m_faults m_seen m_toldParts m_opened m_depth m_counted m_bestOrder m_standers m_has m_bestHas m_standerMany m_bestCouples m_bestFondness m_cameTo m_doesStandFirst m_stoodBy m_drawn m_ranSteps m_loops m_ran m_told1 m_isTold m_marks z_28 z_29 e_z_29 _ rfl _ rfl) (cV ht mv_X12_gives tb_1499 rfl rfl ⟨Nat.le_of_ble_eq_true rfl, Nat.le_of_ble_eq_true rfl⟩) hP hS hX [0] rfl rfl rfl rfl rfl rfl hl.1 rfl (Nat.le_of_ble_eq_true rfl) dX12_man_68 ⟨Nat.le_of_ble_eq_true rfl, Nat.le_of_ble_eq_true rfl⟩ (fun H locs hP hS => ?_)
            have hP : PD D A [bl_X12 cy A_m m_at m_names z_29.2 m_top m_bottom m_sort m_trayMany m_trays m_tape m_text m_taped m_size m_token m_from m_end m_value m_faultKind m_faultPlace m_faults m_seen m_toldParts m_opened m_depth m_counted m_bestOrder m_standers m_has m_bestHas m_standerMany m_bestCouples m_bestFondness m_cameTo m_doesStandFirst m_stoodBy m_drawn m_ranSteps m_loops m_ran m_told1 m_isTold m_marks] H := hP
            cases h
            subst hW1
            exact W.iret hx hb hr (fun _ ht9 _ => ⟨⟨_, (), rfl, rfl, hPt ht9 hP.1⟩, hS.F ht9⟩) hS.2.2 dX12_man_71
        · have h := it c_24 h
          refine lv_aload_n hx hb dX12_man_29 rfl (lv_at hl 0 rfl) ?_
          refine lv_aload_n hx hb dX12_man_30 rfl (lv_at hl 0 rfl) ?_
          refine lv_iload_n hx hb dX12_man_31 rfl (lv_at hl 1 rfl) ?_
          obtain ⟨z_30, e_z_30, h⟩ := bi h
          refine roVi (rest := [.ref (A_m 0)]) ⟨hx, hb, hml, hown, ht⟩ (c_X12_isAlive l D cy fu A_m m_at m_names m_status m_top m_bottom m_sort m_trayMany m_trays m_tape m_text m_taped m_size m_token m_from m_end m_value m_faultKind m_faultPlace m_faults m_seen m_toldParts m_opened m_depth m_counted m_bestOrder m_standers m_has m_bestHas m_standerMany m_bestCouples m_bestFondness m_cameTo m_doesStandFirst m_stoodBy m_drawn m_ranSteps m_loops m_ran m_told1 m_isTold m_marks x1 z_30 e_z_30) (cV ht mv_X12_isAlive tb_1531 rfl rfl ⟨Nat.le_of_ble_eq_true rfl, Nat.le_of_ble_eq_true rfl⟩) (P_sub hP.1 [0] rfl) hX rfl rfl rfl hl.1 rfl (Nat.le_of_ble_eq_true rfl) dX12_man_32 ⟨Nat.le_of_ble_eq_true rfl, Nat.le_of_ble_eq_true rfl⟩ ?_
          refine lv_if_eq (tgt := 42) hx hb dX12_man_35 (by decide) (fun c_31 => ?_) (fun c_31 => ?_)
          · have h := it c_31 h
            refine lv_iconst (v := 0) hx hb dX12_man_42 (by decide) ?_
            obtain ⟨z_32, e_z_32, h⟩ := bi h
            refine efVi (rest := []) ⟨hx, hb, hml, hown, ht⟩ (c_X12_gives l D cy fu A_m m_at m_names m_status m_top m_bottom m_sort m_trayMany m_trays m_tape m_text m_taped m_size m_token m_from m_end m_value m_faultKind m_faultPlace m_faults m_seen m_toldParts m_opened m_depth m_counted m_bestOrder m_standers m_has m_bestHas m_standerMany m_bestCouples m_bestFondness m_cameTo m_doesStandFirst m_stoodBy m_drawn m_ranSteps m_loops m_ran m_told1 m_isTold m_marks 0 z_32 e_z_32 _ rfl _ rfl) (cV ht mv_X12_gives tb_1499 rfl rfl ⟨Nat.le_of_ble_eq_true rfl, Nat.le_of_ble_eq_true rfl⟩) hP hS hX [0] rfl rfl rfl rfl rfl rfl hl.1 rfl (Nat.le_of_ble_eq_true rfl) dX12_man_43 ⟨Nat.le_of_ble_eq_true rfl, Nat.le_of_ble_eq_true rfl⟩ (fun H locs hP hS => ?_)
            have hP : PD D A [bl_X12 cy A_m m_at m_names z_32.2 m_top m_bottom m_sort m_trayMany m_trays m_tape m_text m_taped m_size m_token m_from m_end m_value m_faultKind m_faultPlace m_faults m_seen m_toldParts m_opened m_depth m_counted m_bestOrder m_standers m_has m_bestHas m_standerMany m_bestCouples m_bestFondness m_cameTo m_doesStandFirst m_stoodBy m_drawn m_ranSteps m_loops m_ran m_told1 m_isTold m_marks] H := hP
            cases h
            subst hW1
            exact W.iret hx hb hr (fun _ ht9 _ => ⟨⟨_, (), rfl, rfl, hPt ht9 hP.1⟩, hS.F ht9⟩) hS.2.2 dX12_man_46
          · have h := ie c_31 h
            refine lv_iconst (v := 1) hx hb dX12_man_38 (by decide) ?_
            refine lv_goto (tgt := 43) hx hb dX12_man_39 (by decide) ?_
            obtain ⟨z_33, e_z_33, h⟩ := bi h
            refine efVi (rest := []) ⟨hx, hb, hml, hown, ht⟩ (c_X12_gives l D cy fu A_m m_at m_names m_status m_top m_bottom m_sort m_trayMany m_trays m_tape m_text m_taped m_size m_token m_from m_end m_value m_faultKind m_faultPlace m_faults m_seen m_toldParts m_opened m_depth m_counted m_bestOrder m_standers m_has m_bestHas m_standerMany m_bestCouples m_bestFondness m_cameTo m_doesStandFirst m_stoodBy m_drawn m_ranSteps m_loops m_ran m_told1 m_isTold m_marks 1 z_33 e_z_33 _ rfl _ rfl) (cV ht mv_X12_gives tb_1499 rfl rfl ⟨Nat.le_of_ble_eq_true rfl, Nat.le_of_ble_eq_true rfl⟩) hP hS hX [0] rfl rfl rfl rfl rfl rfl hl.1 rfl (Nat.le_of_ble_eq_true rfl) dX12_man_43 ⟨Nat.le_of_ble_eq_true rfl, Nat.le_of_ble_eq_true rfl⟩ (fun H locs hP hS => ?_)
            have hP : PD D A [bl_X12 cy A_m m_at m_names z_33.2 m_top m_bottom m_sort m_trayMany m_trays m_tape m_text m_taped m_size m_token m_from m_end m_value m_faultKind m_faultPlace m_faults m_seen m_toldParts m_opened m_depth m_counted m_bestOrder m_standers m_has m_bestHas m_standerMany m_bestCouples m_bestFondness m_cameTo m_doesStandFirst m_stoodBy m_drawn m_ranSteps m_loops m_ran m_told1 m_isTold m_marks] H := hP
            cases h
            subst hW1
            exact W.iret hx hb hr (fun _ ht9 _ => ⟨⟨_, (), rfl, rfl, hPt ht9 hP.1⟩, hS.F ht9⟩) hS.2.2 dX12_man_46
      · have h := ie c_23 h
        refine lv_aload_n hx hb dX12_man_18 rfl (lv_at hl 0 rfl) ?_
        refine lv_iconst (v := 1) hx hb dX12_man_19 (by decide) ?_
        obtain ⟨z_34, e_z_34, h⟩ := bi h
        refine efVi (rest := []) ⟨hx, hb, hml, hown, ht⟩ (c_X12_refuse l D cy fu A_m m_at m_names m_status m_top m_bottom m_sort m_trayMany m_trays m_tape m_text m_taped m_size m_token m_from m_end m_value m_faultKind m_faultPlace m_faults m_seen m_toldParts m_opened m_depth m_counted m_bestOrder m_standers m_has m_bestHas m_standerMany m_bestCouples m_bestFondness m_cameTo m_doesStandFirst m_stoodBy m_drawn m_ranSteps m_loops m_ran m_told1 m_isTold m_marks 1 z_34 e_z_34 _ rfl _ rfl) (cV ht mv_X12_refuse tb_1432 rfl rfl ⟨Nat.le_of_ble_eq_true rfl, Nat.le_of_ble_eq_true rfl⟩) hP hS hX [0] rfl rfl rfl rfl rfl rfl hl.1 rfl (Nat.le_of_ble_eq_true rfl) dX12_man_20 ⟨Nat.le_of_ble_eq_true rfl, Nat.le_of_ble_eq_true rfl⟩ (fun H locs hP hS => ?_)
        have hP : PD D A [bl_X12 cy A_m m_at m_names z_34.2 m_top m_bottom m_sort m_trayMany m_trays m_tape m_text m_taped m_size m_token m_from m_end m_value m_faultKind m_faultPlace m_faults m_seen m_toldParts m_opened m_depth m_counted m_bestOrder m_standers m_has m_bestHas m_standerMany m_bestCouples m_bestFondness m_cameTo m_doesStandFirst m_stoodBy m_drawn m_ranSteps m_loops m_ran m_told1 m_isTold m_marks] H := hP
        cases h
        subst hW1
        exact W.iret hx hb hr (fun _ ht9 _ => ⟨⟨_, (), rfl, rfl, hPt ht9 hP.1⟩, hS.F ht9⟩) hS.2.2 dX12_man_23
theorem dX12_likes_0 : decode cX12_likes 0 = .ok (.aload_n 0, 1) := by decide +kernel
theorem dX12_likes_1 : decode cX12_likes 1 = .ok (.iload_n 1, 1) := by decide +kernel
theorem dX12_likes_2 : decode cX12_likes 2 = .ok (.invokevirtual 241, 3) := by decide +kernel
theorem dX12_likes_5 : decode cX12_likes 5 = .ok (.ifCond .eq 11, 3) := by decide +kernel
theorem dX12_likes_8 : decode cX12_likes 8 = .ok (.aload_n 0, 1) := by decide +kernel
theorem dX12_likes_9 : decode cX12_likes 9 = .ok (.iload_n 2, 1) := by decide +kernel
theorem dX12_likes_10 : decode cX12_likes 10 = .ok (.invokevirtual 241, 3) := by decide +kernel
theorem dX12_likes_13 : decode cX12_likes 13 = .ok (.ifCond .ne 9, 3) := by decide +kernel
theorem dX12_likes_16 : decode cX12_likes 16 = .ok (.aload_n 0, 1) := by decide +kernel
theorem dX12_likes_17 : decode cX12_likes 17 = .ok (.iconst 1, 1) := by decide +kernel
theorem dX12_likes_18 : decode cX12_likes 18 = .ok (.invokevirtual 85, 3) := by decide +kernel
theorem dX12_likes_21 : decode cX12_likes 21 = .ok (.ireturn, 1) := by decide +kernel
theorem dX12_likes_22 : decode cX12_likes 22 = .ok (.iload_n 1, 1) := by decide +kernel
theorem dX12_likes_23 : decode cX12_likes 23 = .ok (.iload_n 2, 1) := by decide +kernel
theorem dX12_likes_24 : decode cX12_likes 24 = .ok (.if_icmp .ne 12, 3) := by decide +kernel
theorem dX12_likes_27 : decode cX12_likes 27 = .ok (.aload_n 0, 1) := by decide +kernel
theorem dX12_likes_28 : decode cX12_likes 28 = .ok (.bipush 7, 2) := by decide +kernel
theorem dX12_likes_30 : decode cX12_likes 30 = .ok (.invokevirtual 85, 3) := by decide +kernel
theorem dX12_likes_33 : decode cX12_likes 33 = .ok (.goto 13, 3) := by decide +kernel
theorem dX12_likes_36 : decode cX12_likes 36 = .ok (.aload_n 0, 1) := by decide +kernel
theorem dX12_likes_37 : decode cX12_likes 37 = .ok (.aload_n 0, 1) := by decide +kernel
theorem dX12_likes_38 : decode cX12_likes 38 = .ok (.iload_n 1, 1) := by decide +kernel
theorem dX12_likes_39 : decode cX12_likes 39 = .ok (.iload_n 2, 1) := by decide +kernel
theorem dX12_likes_40 : decode cX12_likes 40 = .ok (.invokevirtual 268, 3) := by decide +kernel
theorem dX12_likes_43 : decode cX12_likes 43 = .ok (.invokevirtual 88, 3) := by decide +kernel
theorem dX12_likes_46 : decode cX12_likes 46 = .ok (.ireturn, 1) := by decide +kernel
theorem mv_X12_likes : MV yX12_likes RX12 cX12_likes 3 (some .int) 2 := ⟨tb_1562, tb_1560, tb_1561, tb_16, by decide +kernel, by decide +kernel, by decide +kernel⟩
def f_X12_likes (fu : Nat) (m_at : Nat → Int32) (m_status : Int32) (x1 : Int32) (x2 : Int32) : Option (Int32 × Int32) := (f_X12_isMan fu m_at x1).bind fun z_11 => (if z_11 = 0 then (f_X12_refuse fu m_status 1).bind fun z_13 => some (z_13.1, z_13.2) else (f_X12_isMan fu m_at x2).bind fun z_14 => (if z_14 = 0 then (f_X12_refuse fu m_status 1).bind fun z_20 => some (z_20.1, z_20.2) else (if x1 = x2 then (f_X12_refuse fu m_status 7).bind fun z_19 => some (z_19.1, z_19.2) else (f_X12_likesOf fu m_at x1 x2).bind fun z_17 => (f_X12_gives fu m_status z_17).bind fun z_18 => some (z_18.1, z_18.2))))
abbrev rm_X12_likes : Room := { frames := 3, cells := 0, slots := 0, locals := 64 }
set_option maxHeartbeats 4000000 in
set_option maxRecDepth 100000 in
theorem c_X12_likes (l : Launch) (D : va_G) (cy : Nat → ClassId) (fu : Nat) (A_m : Nat → Nat) (m_at : Nat → Int32) (m_names : Nat → Int64) (m_status : Int32) (m_top : Int64) (m_bottom : Int64) (m_sort : Nat → Int32) (m_trayMany : Nat → Int32) (m_trays : Nat → Int64) (m_tape : Nat → Int32) (m_text : Nat → Int32) (m_taped : Int32) (m_size : Int32) (m_token : Int32) (m_from : Int32) (m_end : Int32) (m_value : Int32) (m_faultKind : Int32) (m_faultPlace : Int32) (m_faults : Int32) (m_seen : Int32) (m_toldParts : Int32) (m_opened : Nat → Int32) (m_depth : Int32) (m_counted : Int32) (m_bestOrder : Int32) (m_standers : Nat → Int32) (m_has : Nat → Int32) (m_bestHas : Nat → Int32) (m_standerMany : Int32) (m_bestCouples : Int32) (m_bestFondness : Int32) (m_cameTo : Nat → Int32) (m_doesStandFirst : Int32) (m_stoodBy : Nat → Int64) (m_drawn : Int32) (m_ranSteps : Int32) (m_loops : Nat → Int32) (m_ran : Nat → Int32) (m_told1 : Nat → Int32) (m_isTold : Int32) (m_marks : Int32) (x1 : Int32) (x2 : Int32) (res : Int32 × Int32) (h : f_X12_likes fu m_at m_status x1 x2 = some res) (A : Nat → Prop) (hA : A = adr [bl_X12 cy A_m m_at m_names m_status m_top m_bottom m_sort m_trayMany m_trays m_tape m_text m_taped m_size m_token m_from m_end m_value m_faultKind m_faultPlace m_faults m_seen m_toldParts m_opened m_depth m_counted m_bestOrder m_standers m_has m_bestHas m_standerMany m_bestCouples m_bestFondness m_cameTo m_doesStandFirst m_stoodBy m_drawn m_ranSteps m_loops m_ran m_told1 m_isTold m_marks]) (W1 : List va_W) (hW1 : W1 = [bl_X12 cy A_m m_at m_names res.2 m_top m_bottom m_sort m_trayMany m_trays m_tape m_text m_taped m_size m_token m_from m_end m_value m_faultKind m_faultPlace m_faults m_seen m_toldParts m_opened m_depth m_counted m_bestOrder m_standers m_has m_bestHas m_standerMany m_bestCouples m_bestFondness m_cameTo m_doesStandFirst m_stoodBy m_drawn m_ranSteps m_loops m_ran m_told1 m_isTold m_marks]) : Met l yX12_likes (WW yX12_likes cX12_likes 3 (some .int)) rm_X12_likes (Ed D cy [.ref (A_m 0), .int x1, .int x2] [bl_X12 cy A_m m_at m_names m_status m_top m_bottom m_sort m_trayMany m_trays m_tape m_text m_taped m_size m_token m_from m_end m_value m_faultKind m_faultPlace m_faults m_seen m_toldParts m_opened m_depth m_counted m_bestOrder m_standers m_has m_bestHas m_standerMany m_bestCouples m_bestFondness m_cameTo m_doesStandFirst m_stoodBy m_drawn m_ranSteps m_loops m_ran m_told1 m_isTold m_marks]) (Qei D res.1 A W1) 0 0 A := by
  refine Met.ofW (cc := cX12_likes) (maxL := 3) (ret := (some .int)) (by decide) rfl ?_
  intro p e s m args below meth c s₁ B hml hv
  obtain ⟨hargs, hP, hX, hD0⟩ := hv
  have hx := B.exec
  have hb := B.bytes
  have hr := B.returns
  have ht : ∀ w ∈ lw_gd, w.before args s = true := fun w hw => atoms_spec (ws := WW yX12_likes cX12_likes 3 (some .int)) B.pre w (List.mem_cons_of_mem _ hw)
  have hown : s.vm.findClass RX12 = some m.cls := findClass_of_methodNamed B.named
  have hlocks := B.notSynchronized
  have hP : PD D A [bl_X12 cy A_m m_at m_names m_status m_top m_bottom m_sort m_trayMany m_trays m_tape m_text m_taped m_size m_token m_from m_end m_value m_faultKind m_faultPlace m_faults m_seen m_toldParts m_opened m_depth m_counted m_bestOrder m_standers m_has m_bestHas m_standerMany m_bestCouples m_bestFondness m_cameTo m_doesStandFirst m_stoodBy m_drawn m_ranSteps m_loops m_ran m_told1 m_isTold m_marks] s.heap := ⟨hP, by rw [hA]; exact hD0.own⟩
  have hS : va_S A s.heap s.heap [] := va_S.rf
  obtain ⟨ls, hl, hent⟩ := ent (m := m) (n := 3) hargs (Nat.le_of_ble_eq_true rfl) (lv := [(0, .ref (A_m 0)), (1, .int x1), (2, .int x2)]) rfl
  rw [hent]
  clear hent
  unfold f_X12_likes at h
  refine lv_aload_n hx hb dX12_likes_0 rfl (lv_at hl 0 rfl) ?_
  refine lv_iload_n hx hb dX12_likes_1 rfl (lv_at hl 1 rfl) ?_
  obtain ⟨z_11, e_z_11, h⟩ := bi h
  refine roVi (rest := []) ⟨hx, hb, hml, hown, ht⟩ (c_X12_isMan l D cy fu A_m m_at m_names m_status m_top m_bottom m_sort m_trayMany m_trays m_tape m_text m_taped m_size m_token m_from m_end m_value m_faultKind m_faultPlace m_faults m_seen m_toldParts m_opened m_depth m_counted m_bestOrder m_standers m_has m_bestHas m_standerMany m_bestCouples m_bestFondness m_cameTo m_doesStandFirst m_stoodBy m_drawn m_ranSteps m_loops m_ran m_told1 m_isTold m_marks x1 z_11 e_z_11) (cV ht mv_X12_isMan tb_1551 rfl rfl ⟨Nat.le_of_ble_eq_true rfl, Nat.le_of_ble_eq_true rfl⟩) (P_sub hP.1 [0] rfl) hX rfl rfl rfl hl.1 rfl (Nat.le_of_ble_eq_true rfl) dX12_likes_2 ⟨Nat.le_of_ble_eq_true rfl, Nat.le_of_ble_eq_true rfl⟩ ?_
  refine lv_if_eq (tgt := 16) hx hb dX12_likes_5 (by decide) (fun c_12 => ?_) (fun c_12 => ?_)
  · have h := it c_12 h
    refine lv_aload_n hx hb dX12_likes_16 rfl (lv_at hl 0 rfl) ?_
    refine lv_iconst (v := 1) hx hb dX12_likes_17 (by decide) ?_
    obtain ⟨z_13, e_z_13, h⟩ := bi h
    refine efVi (rest := []) ⟨hx, hb, hml, hown, ht⟩ (c_X12_refuse l D cy fu A_m m_at m_names m_status m_top m_bottom m_sort m_trayMany m_trays m_tape m_text m_taped m_size m_token m_from m_end m_value m_faultKind m_faultPlace m_faults m_seen m_toldParts m_opened m_depth m_counted m_bestOrder m_standers m_has m_bestHas m_standerMany m_bestCouples m_bestFondness m_cameTo m_doesStandFirst m_stoodBy m_drawn m_ranSteps m_loops m_ran m_told1 m_isTold m_marks 1 z_13 e_z_13 _ rfl _ rfl) (cV ht mv_X12_refuse tb_1432 rfl rfl ⟨Nat.le_of_ble_eq_true rfl, Nat.le_of_ble_eq_true rfl⟩) hP hS hX [0] rfl rfl rfl rfl rfl rfl hl.1 rfl (Nat.le_of_ble_eq_true rfl) dX12_likes_18 ⟨Nat.le_of_ble_eq_true rfl, Nat.le_of_ble_eq_true rfl⟩ (fun H locs hP hS => ?_)
    have hP : PD D A [bl_X12 cy A_m m_at m_names z_13.2 m_top m_bottom m_sort m_trayMany m_trays m_tape m_text m_taped m_size m_token m_from m_end m_value m_faultKind m_faultPlace m_faults m_seen m_toldParts m_opened m_depth m_counted m_bestOrder m_standers m_has m_bestHas m_standerMany m_bestCouples m_bestFondness m_cameTo m_doesStandFirst m_stoodBy m_drawn m_ranSteps m_loops m_ran m_told1 m_isTold m_marks] H := hP
    cases h
    subst hW1
    exact W.iret hx hb hr (fun _ ht9 _ => ⟨⟨_, (), rfl, rfl, hPt ht9 hP.1⟩, hS.F ht9⟩) hS.2.2 dX12_likes_21
  · have h := ie c_12 h
    refine lv_aload_n hx hb dX12_likes_8 rfl (lv_at hl 0 rfl) ?_
    refine lv_iload_n hx hb dX12_likes_9 rfl (lv_at hl 2 rfl) ?_
    obtain ⟨z_14, e_z_14, h⟩ := bi h
    refine roVi (rest := []) ⟨hx, hb, hml, hown, ht⟩ (c_X12_isMan l D cy fu A_m m_at m_names m_status m_top m_bottom m_sort m_trayMany m_trays m_tape m_text m_taped m_size m_token m_from m_end m_value m_faultKind m_faultPlace m_faults m_seen m_toldParts m_opened m_depth m_counted m_bestOrder m_standers m_has m_bestHas m_standerMany m_bestCouples m_bestFondness m_cameTo m_doesStandFirst m_stoodBy m_drawn m_ranSteps m_loops m_ran m_told1 m_isTold m_marks x2 z_14 e_z_14) (cV ht mv_X12_isMan tb_1551 rfl rfl ⟨Nat.le_of_ble_eq_true rfl, Nat.le_of_ble_eq_true rfl⟩) (P_sub hP.1 [0] rfl) hX rfl rfl rfl hl.1 rfl (Nat.le_of_ble_eq_true rfl) dX12_likes_10 ⟨Nat.le_of_ble_eq_true rfl, Nat.le_of_ble_eq_true rfl⟩ ?_
    refine lv_if_ne (tgt := 22) hx hb dX12_likes_13 (by decide) (fun c_15 => ?_) (fun c_15 => ?_)
    · have h := ie c_15 h
      refine lv_iload_n hx hb dX12_likes_22 rfl (lv_at hl 1 rfl) ?_
      refine lv_iload_n hx hb dX12_likes_23 rfl (lv_at hl 2 rfl) ?_
      refine lv_icmp_ne (tgt := 36) hx hb dX12_likes_24 (by decide) (fun c_16 => ?_) (fun c_16 => ?_)
      · have h := ie c_16 h
        refine lv_aload_n hx hb dX12_likes_36 rfl (lv_at hl 0 rfl) ?_
        refine lv_aload_n hx hb dX12_likes_37 rfl (lv_at hl 0 rfl) ?_
        refine lv_iload_n hx hb dX12_likes_38 rfl (lv_at hl 1 rfl) ?_
        refine lv_iload_n hx hb dX12_likes_39 rfl (lv_at hl 2 rfl) ?_
        obtain ⟨z_17, e_z_17, h⟩ := bi h
        refine roVi (rest := [.ref (A_m 0)]) ⟨hx, hb, hml, hown, ht⟩ (c_X12_likesOf l D cy fu A_m m_at m_names m_status m_top m_bottom m_sort m_trayMany m_trays m_tape m_text m_taped m_size m_token m_from m_end m_value m_faultKind m_faultPlace m_faults m_seen m_toldParts m_opened m_depth m_counted m_bestOrder m_standers m_has m_bestHas m_standerMany m_bestCouples m_bestFondness m_cameTo m_doesStandFirst m_stoodBy m_drawn m_ranSteps m_loops m_ran m_told1 m_isTold m_marks x1 x2 z_17 e_z_17) (cV ht mv_X12_likesOf tb_1563 rfl rfl ⟨Nat.le_of_ble_eq_true rfl, Nat.le_of_ble_eq_true rfl⟩) (P_sub hP.1 [0] rfl) hX rfl rfl rfl hl.1 rfl (Nat.le_of_ble_eq_true rfl) dX12_likes_40 ⟨Nat.le_of_ble_eq_true rfl, Nat.le_of_ble_eq_true rfl⟩ ?_
        obtain ⟨z_18, e_z_18, h⟩ := bi h
        refine efVi (rest := []) ⟨hx, hb, hml, hown, ht⟩ (c_X12_gives l D cy fu A_m m_at m_names m_status m_top m_bottom m_sort m_trayMany m_trays m_tape m_text m_taped m_size m_token m_from m_end m_value m_faultKind m_faultPlace m_faults m_seen m_toldParts m_opened m_depth m_counted m_bestOrder m_standers m_has m_bestHas m_standerMany m_bestCouples m_bestFondness m_cameTo m_doesStandFirst m_stoodBy m_drawn m_ranSteps m_loops m_ran m_told1 m_isTold m_marks z_17 z_18 e_z_18 _ rfl _ rfl) (cV ht mv_X12_gives tb_1499 rfl rfl ⟨Nat.le_of_ble_eq_true rfl, Nat.le_of_ble_eq_true rfl⟩) hP hS hX [0] rfl rfl rfl rfl rfl rfl hl.1 rfl (Nat.le_of_ble_eq_true rfl) dX12_likes_43 ⟨Nat.le_of_ble_eq_true rfl, Nat.le_of_ble_eq_true rfl⟩ (fun H locs hP hS => ?_)
        have hP : PD D A [bl_X12 cy A_m m_at m_names z_18.2 m_top m_bottom m_sort m_trayMany m_trays m_tape m_text m_taped m_size m_token m_from m_end m_value m_faultKind m_faultPlace m_faults m_seen m_toldParts m_opened m_depth m_counted m_bestOrder m_standers m_has m_bestHas m_standerMany m_bestCouples m_bestFondness m_cameTo m_doesStandFirst m_stoodBy m_drawn m_ranSteps m_loops m_ran m_told1 m_isTold m_marks] H := hP
        cases h
        subst hW1
        exact W.iret hx hb hr (fun _ ht9 _ => ⟨⟨_, (), rfl, rfl, hPt ht9 hP.1⟩, hS.F ht9⟩) hS.2.2 dX12_likes_46
      · have h := it c_16 h
        refine lv_aload_n hx hb dX12_likes_27 rfl (lv_at hl 0 rfl) ?_
        refine lv_bipush (v := 7) hx hb dX12_likes_28 (by decide) ?_
        obtain ⟨z_19, e_z_19, h⟩ := bi h
        refine efVi (rest := []) ⟨hx, hb, hml, hown, ht⟩ (c_X12_refuse l D cy fu A_m m_at m_names m_status m_top m_bottom m_sort m_trayMany m_trays m_tape m_text m_taped m_size m_token m_from m_end m_value m_faultKind m_faultPlace m_faults m_seen m_toldParts m_opened m_depth m_counted m_bestOrder m_standers m_has m_bestHas m_standerMany m_bestCouples m_bestFondness m_cameTo m_doesStandFirst m_stoodBy m_drawn m_ranSteps m_loops m_ran m_told1 m_isTold m_marks 7 z_19 e_z_19 _ rfl _ rfl) (cV ht mv_X12_refuse tb_1432 rfl rfl ⟨Nat.le_of_ble_eq_true rfl, Nat.le_of_ble_eq_true rfl⟩) hP hS hX [0] rfl rfl rfl rfl rfl rfl hl.1 rfl (Nat.le_of_ble_eq_true rfl) dX12_likes_30 ⟨Nat.le_of_ble_eq_true rfl, Nat.le_of_ble_eq_true rfl⟩ (fun H locs hP hS => ?_)
        have hP : PD D A [bl_X12 cy A_m m_at m_names z_19.2 m_top m_bottom m_sort m_trayMany m_trays m_tape m_text m_taped m_size m_token m_from m_end m_value m_faultKind m_faultPlace m_faults m_seen m_toldParts m_opened m_depth m_counted m_bestOrder m_standers m_has m_bestHas m_standerMany m_bestCouples m_bestFondness m_cameTo m_doesStandFirst m_stoodBy m_drawn m_ranSteps m_loops m_ran m_told1 m_isTold m_marks] H := hP
        refine lv_goto (tgt := 46) hx hb dX12_likes_33 (by decide) ?_
        cases h
        subst hW1
        exact W.iret hx hb hr (fun _ ht9 _ => ⟨⟨_, (), rfl, rfl, hPt ht9 hP.1⟩, hS.F ht9⟩) hS.2.2 dX12_likes_46
    · have h := it c_15 h
      refine lv_aload_n hx hb dX12_likes_16 rfl (lv_at hl 0 rfl) ?_
      refine lv_iconst (v := 1) hx hb dX12_likes_17 (by decide) ?_
      obtain ⟨z_20, e_z_20, h⟩ := bi h
      refine efVi (rest := []) ⟨hx, hb, hml, hown, ht⟩ (c_X12_refuse l D cy fu A_m m_at m_names m_status m_top m_bottom m_sort m_trayMany m_trays m_tape m_text m_taped m_size m_token m_from m_end m_value m_faultKind m_faultPlace m_faults m_seen m_toldParts m_opened m_depth m_counted m_bestOrder m_standers m_has m_bestHas m_standerMany m_bestCouples m_bestFondness m_cameTo m_doesStandFirst m_stoodBy m_drawn m_ranSteps m_loops m_ran m_told1 m_isTold m_marks 1 z_20 e_z_20 _ rfl _ rfl) (cV ht mv_X12_refuse tb_1432 rfl rfl ⟨Nat.le_of_ble_eq_true rfl, Nat.le_of_ble_eq_true rfl⟩) hP hS hX [0] rfl rfl rfl rfl rfl rfl hl.1 rfl (Nat.le_of_ble_eq_true rfl) dX12_likes_18 ⟨Nat.le_of_ble_eq_true rfl, Nat.le_of_ble_eq_true rfl⟩ (fun H locs hP hS => ?_)
      have hP : PD D A [bl_X12 cy A_m m_at m_names z_20.2 m_top m_bottom m_sort m_trayMany m_trays m_tape m_text m_taped m_size m_token m_from m_end m_value m_faultKind m_faultPlace m_faults m_seen m_toldParts m_opened m_depth m_counted m_bestOrder m_standers m_has m_bestHas m_standerMany m_bestCouples m_bestFondness m_cameTo m_doesStandFirst m_stoodBy m_drawn m_ranSteps m_loops m_ran m_told1 m_isTold m_marks] H := hP
      cases h
      subst hW1
      exact W.iret hx hb hr (fun _ ht9 _ => ⟨⟨_, (), rfl, rfl, hPt ht9 hP.1⟩, hS.F ht9⟩) hS.2.2 dX12_likes_21
theorem dX12_candidatesOf_0 : decode cX12_candidatesOf 0 = .ok (.iconst 0, 1) := by decide +kernel
theorem dX12_candidatesOf_1 : decode cX12_candidatesOf 1 = .ok (.istore_n 3, 1) := by decide +kernel
theorem dX12_candidatesOf_2 : decode cX12_candidatesOf 2 = .ok (.iconst 0, 1) := by decide +kernel
theorem dX12_candidatesOf_3 : decode cX12_candidatesOf 3 = .ok (.istore 4, 2) := by decide +kernel
theorem dX12_candidatesOf_5 : decode cX12_candidatesOf 5 = .ok (.iload 4, 2) := by decide +kernel
theorem dX12_candidatesOf_7 : decode cX12_candidatesOf 7 = .ok (.aload_n 0, 1) := by decide +kernel
theorem dX12_candidatesOf_8 : decode cX12_candidatesOf 8 = .ok (.getfield 7, 3) := by decide +kernel
theorem dX12_candidatesOf_11 : decode cX12_candidatesOf 11 = .ok (.iconst 0, 1) := by decide +kernel
theorem dX12_candidatesOf_12 : decode cX12_candidatesOf 12 = .ok (.iaload, 1) := by decide +kernel
theorem dX12_candidatesOf_13 : decode cX12_candidatesOf 13 = .ok (.if_icmp .ge 45, 3) := by decide +kernel
theorem dX12_candidatesOf_16 : decode cX12_candidatesOf 16 = .ok (.iload_n 3, 1) := by decide +kernel
theorem dX12_candidatesOf_17 : decode cX12_candidatesOf 17 = .ok (.iload 4, 2) := by decide +kernel
theorem dX12_candidatesOf_19 : decode cX12_candidatesOf 19 = .ok (.iload_n 1, 1) := by decide +kernel
theorem dX12_candidatesOf_20 : decode cX12_candidatesOf 20 = .ok (.if_icmp .eq 29, 3) := by decide +kernel
theorem dX12_candidatesOf_23 : decode cX12_candidatesOf 23 = .ok (.aload_n 0, 1) := by decide +kernel
theorem dX12_candidatesOf_24 : decode cX12_candidatesOf 24 = .ok (.iload 4, 2) := by decide +kernel
theorem dX12_candidatesOf_26 : decode cX12_candidatesOf 26 = .ok (.invokevirtual 253, 3) := by decide +kernel
theorem dX12_candidatesOf_29 : decode cX12_candidatesOf 29 = .ok (.ifCond .eq 20, 3) := by decide +kernel
theorem dX12_candidatesOf_32 : decode cX12_candidatesOf 32 = .ok (.aload_n 0, 1) := by decide +kernel
theorem dX12_candidatesOf_33 : decode cX12_candidatesOf 33 = .ok (.iload 4, 2) := by decide +kernel
theorem dX12_candidatesOf_35 : decode cX12_candidatesOf 35 = .ok (.iload_n 2, 1) := by decide +kernel
theorem dX12_candidatesOf_36 : decode cX12_candidatesOf 36 = .ok (.invokevirtual 271, 3) := by decide +kernel
theorem dX12_candidatesOf_39 : decode cX12_candidatesOf 39 = .ok (.ifCond .ne 10, 3) := by decide +kernel
theorem dX12_candidatesOf_42 : decode cX12_candidatesOf 42 = .ok (.iconst 1, 1) := by decide +kernel
theorem dX12_candidatesOf_43 : decode cX12_candidatesOf 43 = .ok (.iload 4, 2) := by decide +kernel
theorem dX12_candidatesOf_45 : decode cX12_candidatesOf 45 = .ok (.ishl, 1) := by decide +kernel
theorem dX12_candidatesOf_46 : decode cX12_candidatesOf 46 = .ok (.goto 4, 3) := by decide +kernel
theorem dX12_candidatesOf_49 : decode cX12_candidatesOf 49 = .ok (.iconst 0, 1) := by decide +kernel
theorem dX12_candidatesOf_50 : decode cX12_candidatesOf 50 = .ok (.ior, 1) := by decide +kernel
theorem dX12_candidatesOf_51 : decode cX12_candidatesOf 51 = .ok (.istore_n 3, 1) := by decide +kernel
theorem dX12_candidatesOf_52 : decode cX12_candidatesOf 52 = .ok (.iinc 4 1, 3) := by decide +kernel
theorem dX12_candidatesOf_55 : decode cX12_candidatesOf 55 = .ok (.goto (-50), 3) := by decide +kernel
theorem dX12_candidatesOf_58 : decode cX12_candidatesOf 58 = .ok (.iload_n 3, 1) := by decide +kernel
theorem dX12_candidatesOf_59 : decode cX12_candidatesOf 59 = .ok (.ireturn, 1) := by decide +kernel
theorem mv_X12_candidatesOf : MV yX12_candidatesOf RX12 cX12_candidatesOf 5 (some .int) 2 := ⟨tb_1597, tb_1596, ts_79, tb_16, by decide +kernel, by decide +kernel, by decide +kernel⟩
def f_X12_candidatesOf_b5 (fu : Nat) (m_at : Nat → Int32) (x1 : Int32) (x2 : Int32) (k5 : Int32 → Int32 → Option (Int32)) (x3 : Int32) (x4 : Int32) : Option (Int32) := (rdI m_at 3648 0).bind fun y_16 => (if y_16 ≤ x4 then some (x3) else (if x4 = x1 then bnd (x3 ||| 0) fun x3_19 => bnd (x4 + 1) fun x4_20 => k5 x3_19 x4_20 else (f_X12_isAlive fu m_at x4).bind fun z_21 => (if z_21 = 0 then bnd (x3 ||| 0) fun x3_23 => bnd (x4 + 1) fun x4_24 => k5 x3_23 x4_24 else (f_X12_stands fu m_at x4 x2).bind fun z_25 => (if z_25 = 0 then bnd (x3 ||| ((1 : Int32) <<< (x4 &&& 31))) fun x3_29 => bnd (x4 + 1) fun x4_30 => k5 x3_29 x4_30 else bnd (x3 ||| 0) fun x3_27 => bnd (x4 + 1) fun x4_28 => k5 x3_27 x4_28))))
def f_X12_candidatesOf_l5 (fu : Nat) (m_at : Nat → Int32) (x1 : Int32) (x2 : Int32) : Nat → Int32 → Int32 → Option (Int32)
  | 0, _, _ => none
  | n + 1, x3, x4 => f_X12_candidatesOf_b5 fu m_at x1 x2 (f_X12_candidatesOf_l5 fu m_at x1 x2 n) x3 x4
def f_X12_candidatesOf (fu : Nat) (m_at : Nat → Int32) (x1 : Int32) (x2 : Int32) : Option (Int32) := f_X12_candidatesOf_l5 fu m_at x1 x2 fu 0 0
abbrev rm_X12_candidatesOf : Room := { frames := 4, cells := 0, slots := 0, locals := 85 }
set_option maxHeartbeats 4000000 in
set_option maxRecDepth 100000 in
theorem c_X12_candidatesOf (l : Launch) (D : va_G) (cy : Nat → ClassId) (fu : Nat) (A_m : Nat → Nat) (m_at : Nat → Int32) (m_names : Nat → Int64) (m_status : Int32) (m_top : Int64) (m_bottom : Int64) (m_sort : Nat → Int32) (m_trayMany : Nat → Int32) (m_trays : Nat → Int64) (m_tape : Nat → Int32) (m_text : Nat → Int32) (m_taped : Int32) (m_size : Int32) (m_token : Int32) (m_from : Int32) (m_end : Int32) (m_value : Int32) (m_faultKind : Int32) (m_faultPlace : Int32) (m_faults : Int32) (m_seen : Int32) (m_toldParts : Int32) (m_opened : Nat → Int32) (m_depth : Int32) (m_counted : Int32) (m_bestOrder : Int32) (m_standers : Nat → Int32) (m_has : Nat → Int32) (m_bestHas : Nat → Int32) (m_standerMany : Int32) (m_bestCouples : Int32) (m_bestFondness : Int32) (m_cameTo : Nat → Int32) (m_doesStandFirst : Int32) (m_stoodBy : Nat → Int64) (m_drawn : Int32) (m_ranSteps : Int32) (m_loops : Nat → Int32) (m_ran : Nat → Int32) (m_told1 : Nat → Int32) (m_isTold : Int32) (m_marks : Int32) (x1 : Int32) (x2 : Int32) (res : Int32) (h : f_X12_candidatesOf fu m_at x1 x2 = some res) : Met l yX12_candidatesOf (WW yX12_candidatesOf cX12_candidatesOf 5 (some .int)) rm_X12_candidatesOf (Rd D cy [.ref (A_m 0), .int x1, .int x2] [bl_X12 cy A_m m_at m_names m_status m_top m_bottom m_sort m_trayMany m_trays m_tape m_text m_taped m_size m_token m_from m_end m_value m_faultKind m_faultPlace m_faults m_seen m_toldParts m_opened m_depth m_counted m_bestOrder m_standers m_has m_bestHas m_standerMany m_bestCouples m_bestFondness m_cameTo m_doesStandFirst m_stoodBy m_drawn m_ranSteps m_loops m_ran m_told1 m_isTold m_marks]) (vp_Si (fun v => v = res)) 0 0 (fun _ => False) := by
  refine Met.ofW (cc := cX12_candidatesOf) (maxL := 5) (ret := (some .int)) (by decide) rfl ?_
  intro p e s m args below meth c s₁ B hml hv
  obtain ⟨hargs, hP, hX⟩ := hv
  have hx := B.exec
  have hb := B.bytes
  have hr := B.returns
  have ht : ∀ w ∈ lw_gd, w.before args s = true := fun w hw => atoms_spec (ws := WW yX12_candidatesOf cX12_candidatesOf 5 (some .int)) B.pre w (List.mem_cons_of_mem _ hw)
  have hown : s.vm.findClass RX12 = some m.cls := findClass_of_methodNamed B.named
  have hlocks := B.notSynchronized
  have hP : PB D [bl_X12 cy A_m m_at m_names m_status m_top m_bottom m_sort m_trayMany m_trays m_tape m_text m_taped m_size m_token m_from m_end m_value m_faultKind m_faultPlace m_faults m_seen m_toldParts m_opened m_depth m_counted m_bestOrder m_standers m_has m_bestHas m_standerMany m_bestCouples m_bestFondness m_cameTo m_doesStandFirst m_stoodBy m_drawn m_ranSteps m_loops m_ran m_told1 m_isTold m_marks] s.heap := hP
  obtain ⟨ls, hl, hent⟩ := ent (m := m) (n := 5) hargs (Nat.le_of_ble_eq_true rfl) (lv := [(0, .ref (A_m 0)), (1, .int x1), (2, .int x2)]) rfl
  rw [hent]
  clear hent
  have l5 : ∀ (n5 : Nat) (x3 : Int32) (x4 : Int32) (ls : Array Slot), lv_has ls 5 [(0, .ref (A_m 0)), (1, .int x1), (2, .int x2), (3, .int x3), (4, .int x4)] → f_X12_candidatesOf_l5 fu m_at x1 x2 n5 x3 x4 = some res → W p l e (headSpec (WW yX12_candidatesOf cX12_candidatesOf 5 (some .int)) rm_X12_candidatesOf).room s m args below meth c s.heap [] 0 0 (MQ below (vp_Si (fun v => v = res)) args s 0 0 (fun _ => False)) (F0 m 5 ls []) := by
    intro n5
    induction n5 with
    | zero => intro x3 x4 ls hl h; cases h
    | succ n5 ih5 =>
      intro x3 x4 ls hl h
      have h : f_X12_candidatesOf_b5 fu m_at x1 x2 (f_X12_candidatesOf_l5 fu m_at x1 x2 n5) x3 x4 = some res := h
      unfold f_X12_candidatesOf_b5 at h
      refine lv_iload hx hb dX12_candidatesOf_5 (lv_at hl 4 rfl) ?_
      refine lv_aload_n hx hb dX12_candidatesOf_7 rfl (lv_at hl 0 rfl) ?_
      refine xget (i := 0) (j := 0) (k := 0) (T := TX12) hx hb ht tb_iX12 hown hX hP rfl rfl rfl (by decide) tb_1229 rfl dX12_candidatesOf_8 ?_
      refine lv_iconst (v := 0) hx hb dX12_candidatesOf_11 (by decide) ?_
      obtain ⟨y_16, e_y_16, h⟩ := bi h
      refine xiald (i0 := 0) (j0 := 1) hx hb hX hP rfl rfl e_y_16 dX12_candidatesOf_12 ?_
      refine lv_icmp_ge (tgt := 58) hx hb dX12_candidatesOf_13 (by decide) (fun c_17 => ?_) (fun c_17 => ?_)
      · have h := it c_17 h
        refine lv_iload_n hx hb dX12_candidatesOf_58 rfl (lv_at hl 3 rfl) ?_
        cases h
        exact W.iret hx hb hr (fun _ ht9 _ => ⟨_, rfl, rfl, ht9⟩) (fun _ hq => by cases hq) dX12_candidatesOf_59
      · have h := ie c_17 h
        refine lv_iload_n hx hb dX12_candidatesOf_16 rfl (lv_at hl 3 rfl) ?_
        refine lv_iload hx hb dX12_candidatesOf_17 (lv_at hl 4 rfl) ?_
        refine lv_iload_n hx hb dX12_candidatesOf_19 rfl (lv_at hl 1 rfl) ?_
        refine lv_icmp_eq (tgt := 49) hx hb dX12_candidatesOf_20 (by decide) (fun c_18 => ?_) (fun c_18 => ?_)
        · have h := it c_18 h
          refine lv_iconst (v := 0) hx hb dX12_candidatesOf_49 (by decide) ?_
          refine lv_ior hx hb dX12_candidatesOf_50 ?_
          refine lv_topi (fun x3_19 e_x3_19 => ?_)
          have h := bn e_x3_19 h
          refine lv_istore_n (lv' := [(3, .int x3_19), (0, .ref (A_m 0)), (1, .int x1), (2, .int x2), (4, .int x4)]) hx hb dX12_candidatesOf_51 rfl hl (by decide) rfl (fun ls hl => ?_)
          obtain ⟨x4_20, e_x4_20⟩ : ∃ y : Int32, y = x4 + 1 := ⟨_, rfl⟩
          have h := bn e_x4_20 h
          refine lv_iinc (v := x4_20) (lv' := [(4, .int x4_20), (3, .int x3_19), (0, .ref (A_m 0)), (1, .int x1), (2, .int x2)]) hx hb dX12_candidatesOf_52 hl (k := 4) rfl (by rw [e_x4_20]; rfl) (by decide) rfl (fun ls hl => ?_)
          refine lv_goto (tgt := 5) hx hb dX12_candidatesOf_55 (by decide) ?_
          exact ih5 x3_19 x4_20 ls (lv_sub hl [2, 3, 4, 1, 0] rfl) h
        · have h := ie c_18 h
          refine lv_aload_n hx hb dX12_candidatesOf_23 rfl (lv_at hl 0 rfl) ?_
          refine lv_iload hx hb dX12_candidatesOf_24 (lv_at hl 4 rfl) ?_
          obtain ⟨z_21, e_z_21, h⟩ := bi h
          refine roVi (rest := [.int x3]) ⟨hx, hb, hml, hown, ht⟩ (c_X12_isAlive l D cy fu A_m m_at m_names m_status m_top m_bottom m_sort m_trayMany m_trays m_tape m_text m_taped m_size m_token m_from m_end m_value m_faultKind m_faultPlace m_faults m_seen m_toldParts m_opened m_depth m_counted m_bestOrder m_standers m_has m_bestHas m_standerMany m_bestCouples m_bestFondness m_cameTo m_doesStandFirst m_stoodBy m_drawn m_ranSteps m_loops m_ran m_told1 m_isTold m_marks x4 z_21 e_z_21) (cV ht mv_X12_isAlive tb_1531 rfl rfl ⟨Nat.le_of_ble_eq_true rfl, Nat.le_of_ble_eq_true rfl⟩) (P_sub hP [0] rfl) hX rfl rfl rfl hl.1 rfl (Nat.le_of_ble_eq_true rfl) dX12_candidatesOf_26 ⟨Nat.le_of_ble_eq_true rfl, Nat.le_of_ble_eq_true rfl⟩ ?_
          refine lv_if_eq (tgt := 49) hx hb dX12_candidatesOf_29 (by decide) (fun c_22 => ?_) (fun c_22 => ?_)
          · have h := it c_22 h
            refine lv_iconst (v := 0) hx hb dX12_candidatesOf_49 (by decide) ?_
            refine lv_ior hx hb dX12_candidatesOf_50 ?_
            refine lv_topi (fun x3_23 e_x3_23 => ?_)
            have h := bn e_x3_23 h
            refine lv_istore_n (lv' := [(3, .int x3_23), (0, .ref (A_m 0)), (1, .int x1), (2, .int x2), (4, .int x4)]) hx hb dX12_candidatesOf_51 rfl hl (by decide) rfl (fun ls hl => ?_)
            obtain ⟨x4_24, e_x4_24⟩ : ∃ y : Int32, y = x4 + 1 := ⟨_, rfl⟩
            have h := bn e_x4_24 h
            refine lv_iinc (v := x4_24) (lv' := [(4, .int x4_24), (3, .int x3_23), (0, .ref (A_m 0)), (1, .int x1), (2, .int x2)]) hx hb dX12_candidatesOf_52 hl (k := 4) rfl (by rw [e_x4_24]; rfl) (by decide) rfl (fun ls hl => ?_)
            refine lv_goto (tgt := 5) hx hb dX12_candidatesOf_55 (by decide) ?_
            exact ih5 x3_23 x4_24 ls (lv_sub hl [2, 3, 4, 1, 0] rfl) h
          · have h := ie c_22 h
            refine lv_aload_n hx hb dX12_candidatesOf_32 rfl (lv_at hl 0 rfl) ?_
            refine lv_iload hx hb dX12_candidatesOf_33 (lv_at hl 4 rfl) ?_
            refine lv_iload_n hx hb dX12_candidatesOf_35 rfl (lv_at hl 2 rfl) ?_
            obtain ⟨z_25, e_z_25, h⟩ := bi h
            refine roVi (rest := [.int x3]) ⟨hx, hb, hml, hown, ht⟩ (c_X12_stands l D cy fu A_m m_at m_names m_status m_top m_bottom m_sort m_trayMany m_trays m_tape m_text m_taped m_size m_token m_from m_end m_value m_faultKind m_faultPlace m_faults m_seen m_toldParts m_opened m_depth m_counted m_bestOrder m_standers m_has m_bestHas m_standerMany m_bestCouples m_bestFondness m_cameTo m_doesStandFirst m_stoodBy m_drawn m_ranSteps m_loops m_ran m_told1 m_isTold m_marks x4 x2 z_25 e_z_25) (cV ht mv_X12_stands tb_1582 rfl rfl ⟨Nat.le_of_ble_eq_true rfl, Nat.le_of_ble_eq_true rfl⟩) (P_sub hP [0] rfl) hX rfl rfl rfl hl.1 rfl (Nat.le_of_ble_eq_true rfl) dX12_candidatesOf_36 ⟨Nat.le_of_ble_eq_true rfl, Nat.le_of_ble_eq_true rfl⟩ ?_
            refine lv_if_ne (tgt := 49) hx hb dX12_candidatesOf_39 (by decide) (fun c_26 => ?_) (fun c_26 => ?_)
            · have h := ie c_26 h
              refine lv_iconst (v := 0) hx hb dX12_candidatesOf_49 (by decide) ?_
              refine lv_ior hx hb dX12_candidatesOf_50 ?_
              refine lv_topi (fun x3_27 e_x3_27 => ?_)
              have h := bn e_x3_27 h
              refine lv_istore_n (lv' := [(3, .int x3_27), (0, .ref (A_m 0)), (1, .int x1), (2, .int x2), (4, .int x4)]) hx hb dX12_candidatesOf_51 rfl hl (by decide) rfl (fun ls hl => ?_)
              obtain ⟨x4_28, e_x4_28⟩ : ∃ y : Int32, y = x4 + 1 := ⟨_, rfl⟩
              have h := bn e_x4_28 h
              refine lv_iinc (v := x4_28) (lv' := [(4, .int x4_28), (3, .int x3_27), (0, .ref (A_m 0)), (1, .int x1), (2, .int x2)]) hx hb dX12_candidatesOf_52 hl (k := 4) rfl (by rw [e_x4_28]; rfl) (by decide) rfl (fun ls hl => ?_)
              refine lv_goto (tgt := 5) hx hb dX12_candidatesOf_55 (by decide) ?_
              exact ih5 x3_27 x4_28 ls (lv_sub hl [2, 3, 4, 1, 0] rfl) h
            · have h := it c_26 h
              refine lv_iconst (v := 1) hx hb dX12_candidatesOf_42 (by decide) ?_
              refine lv_iload hx hb dX12_candidatesOf_43 (lv_at hl 4 rfl) ?_
              refine lv_ishl hx hb dX12_candidatesOf_45 ?_
              refine lv_goto (tgt := 50) hx hb dX12_candidatesOf_46 (by decide) ?_
              refine lv_ior hx hb dX12_candidatesOf_50 ?_
              refine lv_topi (fun x3_29 e_x3_29 => ?_)
              have h := bn e_x3_29 h
              refine lv_istore_n (lv' := [(3, .int x3_29), (0, .ref (A_m 0)), (1, .int x1), (2, .int x2), (4, .int x4)]) hx hb dX12_candidatesOf_51 rfl hl (by decide) rfl (fun ls hl => ?_)
              obtain ⟨x4_30, e_x4_30⟩ : ∃ y : Int32, y = x4 + 1 := ⟨_, rfl⟩
              have h := bn e_x4_30 h
              refine lv_iinc (v := x4_30) (lv' := [(4, .int x4_30), (3, .int x3_29), (0, .ref (A_m 0)), (1, .int x1), (2, .int x2)]) hx hb dX12_candidatesOf_52 hl (k := 4) rfl (by rw [e_x4_30]; rfl) (by decide) rfl (fun ls hl => ?_)
              refine lv_goto (tgt := 5) hx hb dX12_candidatesOf_55 (by decide) ?_
              exact ih5 x3_29 x4_30 ls (lv_sub hl [2, 3, 4, 1, 0] rfl) h
  unfold f_X12_candidatesOf at h
  refine lv_iconst (v := 0) hx hb dX12_candidatesOf_0 (by decide) ?_
  refine lv_istore_n (lv' := [(3, .int 0), (0, .ref (A_m 0)), (1, .int x1), (2, .int x2)]) hx hb dX12_candidatesOf_1 rfl hl (by decide) rfl (fun ls hl => ?_)
  refine lv_iconst (v := 0) hx hb dX12_candidatesOf_2 (by decide) ?_
  refine lv_istore (lv' := [(4, .int 0), (3, .int 0), (0, .ref (A_m 0)), (1, .int x1), (2, .int x2)]) hx hb dX12_candidatesOf_3 hl (by decide) rfl (fun ls hl => ?_)
  exact l5 fu 0 0 ls (lv_sub hl [2, 3, 4, 1, 0] rfl) h
theorem dX12_voteBy_0 : decode cX12_voteBy 0 = .ok (.iconst (-1), 1) := by decide +kernel
theorem dX12_voteBy_1 : decode cX12_voteBy 1 = .ok (.istore_n 3, 1) := by decide +kernel
theorem dX12_voteBy_2 : decode cX12_voteBy 2 = .ok (.iconst 0, 1) := by decide +kernel
theorem dX12_voteBy_3 : decode cX12_voteBy 3 = .ok (.istore 4, 2) := by decide +kernel
theorem dX12_voteBy_5 : decode cX12_voteBy 5 = .ok (.iload 4, 2) := by decide +kernel
theorem dX12_voteBy_7 : decode cX12_voteBy 7 = .ok (.aload_n 0, 1) := by decide +kernel
theorem dX12_voteBy_8 : decode cX12_voteBy 8 = .ok (.getfield 7, 3) := by decide +kernel
theorem dX12_voteBy_11 : decode cX12_voteBy 11 = .ok (.iconst 0, 1) := by decide +kernel
theorem dX12_voteBy_12 : decode cX12_voteBy 12 = .ok (.iaload, 1) := by decide +kernel
theorem dX12_voteBy_13 : decode cX12_voteBy 13 = .ok (.if_icmp .ge 49, 3) := by decide +kernel
theorem dX12_voteBy_16 : decode cX12_voteBy 16 = .ok (.iload 4, 2) := by decide +kernel
theorem dX12_voteBy_18 : decode cX12_voteBy 18 = .ok (.iload_n 1, 1) := by decide +kernel
theorem dX12_voteBy_19 : decode cX12_voteBy 19 = .ok (.if_icmp .eq 37, 3) := by decide +kernel
theorem dX12_voteBy_22 : decode cX12_voteBy 22 = .ok (.aload_n 0, 1) := by decide +kernel
theorem dX12_voteBy_23 : decode cX12_voteBy 23 = .ok (.iload_n 2, 1) := by decide +kernel
theorem dX12_voteBy_24 : decode cX12_voteBy 24 = .ok (.iload 4, 2) := by decide +kernel
theorem dX12_voteBy_26 : decode cX12_voteBy 26 = .ok (.invokevirtual 274, 3) := by decide +kernel
theorem dX12_voteBy_29 : decode cX12_voteBy 29 = .ok (.ifCond .eq 27, 3) := by decide +kernel
theorem dX12_voteBy_32 : decode cX12_voteBy 32 = .ok (.iload_n 3, 1) := by decide +kernel
theorem dX12_voteBy_33 : decode cX12_voteBy 33 = .ok (.iconst (-1), 1) := by decide +kernel
theorem dX12_voteBy_34 : decode cX12_voteBy 34 = .ok (.if_icmp .eq 19, 3) := by decide +kernel
theorem dX12_voteBy_37 : decode cX12_voteBy 37 = .ok (.aload_n 0, 1) := by decide +kernel
theorem dX12_voteBy_38 : decode cX12_voteBy 38 = .ok (.iload_n 1, 1) := by decide +kernel
theorem dX12_voteBy_39 : decode cX12_voteBy 39 = .ok (.iload 4, 2) := by decide +kernel
theorem dX12_voteBy_41 : decode cX12_voteBy 41 = .ok (.invokevirtual 268, 3) := by decide +kernel
theorem dX12_voteBy_44 : decode cX12_voteBy 44 = .ok (.aload_n 0, 1) := by decide +kernel
theorem dX12_voteBy_45 : decode cX12_voteBy 45 = .ok (.iload_n 1, 1) := by decide +kernel
theorem dX12_voteBy_46 : decode cX12_voteBy 46 = .ok (.iload_n 3, 1) := by decide +kernel
theorem dX12_voteBy_47 : decode cX12_voteBy 47 = .ok (.invokevirtual 268, 3) := by decide +kernel
theorem dX12_voteBy_50 : decode cX12_voteBy 50 = .ok (.if_icmp .le 6, 3) := by decide +kernel
theorem dX12_voteBy_53 : decode cX12_voteBy 53 = .ok (.iload 4, 2) := by decide +kernel
theorem dX12_voteBy_55 : decode cX12_voteBy 55 = .ok (.istore_n 3, 1) := by decide +kernel
theorem dX12_voteBy_56 : decode cX12_voteBy 56 = .ok (.iinc 4 1, 3) := by decide +kernel
theorem dX12_voteBy_59 : decode cX12_voteBy 59 = .ok (.goto (-54), 3) := by decide +kernel
theorem dX12_voteBy_62 : decode cX12_voteBy 62 = .ok (.iload_n 3, 1) := by decide +kernel
theorem dX12_voteBy_63 : decode cX12_voteBy 63 = .ok (.ireturn, 1) := by decide +kernel
theorem mv_X12_voteBy : MV yX12_voteBy RX12 cX12_voteBy 5 (some .int) 2 := ⟨tb_1609, tb_1608, ts_82, tb_16, by decide +kernel, by decide +kernel, by decide +kernel⟩
def f_X12_voteBy_b5 (fu : Nat) (m_at : Nat → Int32) (x1 : Int32) (x2 : Int32) (k5 : Int32 → Int32 → Option (Int32)) (x3 : Int32) (x4 : Int32) : Option (Int32) := (rdI m_at 3648 0).bind fun y_15 => (if y_15 ≤ x4 then some (x3) else (if x4 = x1 then bnd (x4 + 1) fun x4_18 => k5 x3 x4_18 else (f_X12_isIn fu x2 x4).bind fun z_19 => (if z_19 = 0 then bnd (x4 + 1) fun x4_21 => k5 x3 x4_21 else (if x3 = (-1) then bnd (x4 + 1) fun x4_23 => k5 x4 x4_23 else (f_X12_likesOf fu m_at x1 x4).bind fun z_24 => (f_X12_likesOf fu m_at x1 x3).bind fun z_25 => (if z_24 ≤ z_25 then bnd (x4 + 1) fun x4_27 => k5 x3 x4_27 else bnd (x4 + 1) fun x4_28 => k5 x4 x4_28)))))
def f_X12_voteBy_l5 (fu : Nat) (m_at : Nat → Int32) (x1 : Int32) (x2 : Int32) : Nat → Int32 → Int32 → Option (Int32)
  | 0, _, _ => none
  | n + 1, x3, x4 => f_X12_voteBy_b5 fu m_at x1 x2 (f_X12_voteBy_l5 fu m_at x1 x2 n) x3 x4
def f_X12_voteBy (fu : Nat) (m_at : Nat → Int32) (x1 : Int32) (x2 : Int32) : Option (Int32) := f_X12_voteBy_l5 fu m_at x1 x2 fu (-1) 0
abbrev rm_X12_voteBy : Room := { frames := 3, cells := 0, slots := 0, locals := 64 }
set_option maxHeartbeats 4000000 in
set_option maxRecDepth 100000 in
theorem c_X12_voteBy (l : Launch) (D : va_G) (cy : Nat → ClassId) (fu : Nat) (A_m : Nat → Nat) (m_at : Nat → Int32) (m_names : Nat → Int64) (m_status : Int32) (m_top : Int64) (m_bottom : Int64) (m_sort : Nat → Int32) (m_trayMany : Nat → Int32) (m_trays : Nat → Int64) (m_tape : Nat → Int32) (m_text : Nat → Int32) (m_taped : Int32) (m_size : Int32) (m_token : Int32) (m_from : Int32) (m_end : Int32) (m_value : Int32) (m_faultKind : Int32) (m_faultPlace : Int32) (m_faults : Int32) (m_seen : Int32) (m_toldParts : Int32) (m_opened : Nat → Int32) (m_depth : Int32) (m_counted : Int32) (m_bestOrder : Int32) (m_standers : Nat → Int32) (m_has : Nat → Int32) (m_bestHas : Nat → Int32) (m_standerMany : Int32) (m_bestCouples : Int32) (m_bestFondness : Int32) (m_cameTo : Nat → Int32) (m_doesStandFirst : Int32) (m_stoodBy : Nat → Int64) (m_drawn : Int32) (m_ranSteps : Int32) (m_loops : Nat → Int32) (m_ran : Nat → Int32) (m_told1 : Nat → Int32) (m_isTold : Int32) (m_marks : Int32) (x1 : Int32) (x2 : Int32) (res : Int32) (h : f_X12_voteBy fu m_at x1 x2 = some res) : Met l yX12_voteBy (WW yX12_voteBy cX12_voteBy 5 (some .int)) rm_X12_voteBy (Rd D cy [.ref (A_m 0), .int x1, .int x2] [bl_X12 cy A_m m_at m_names m_status m_top m_bottom m_sort m_trayMany m_trays m_tape m_text m_taped m_size m_token m_from m_end m_value m_faultKind m_faultPlace m_faults m_seen m_toldParts m_opened m_depth m_counted m_bestOrder m_standers m_has m_bestHas m_standerMany m_bestCouples m_bestFondness m_cameTo m_doesStandFirst m_stoodBy m_drawn m_ranSteps m_loops m_ran m_told1 m_isTold m_marks]) (vp_Si (fun v => v = res)) 0 0 (fun _ => False) := by
  refine Met.ofW (cc := cX12_voteBy) (maxL := 5) (ret := (some .int)) (by decide) rfl ?_
  intro p e s m args below meth c s₁ B hml hv
  obtain ⟨hargs, hP, hX⟩ := hv
  have hx := B.exec
  have hb := B.bytes
  have hr := B.returns
  have ht : ∀ w ∈ lw_gd, w.before args s = true := fun w hw => atoms_spec (ws := WW yX12_voteBy cX12_voteBy 5 (some .int)) B.pre w (List.mem_cons_of_mem _ hw)
  have hown : s.vm.findClass RX12 = some m.cls := findClass_of_methodNamed B.named
  have hlocks := B.notSynchronized
  have hP : PB D [bl_X12 cy A_m m_at m_names m_status m_top m_bottom m_sort m_trayMany m_trays m_tape m_text m_taped m_size m_token m_from m_end m_value m_faultKind m_faultPlace m_faults m_seen m_toldParts m_opened m_depth m_counted m_bestOrder m_standers m_has m_bestHas m_standerMany m_bestCouples m_bestFondness m_cameTo m_doesStandFirst m_stoodBy m_drawn m_ranSteps m_loops m_ran m_told1 m_isTold m_marks] s.heap := hP
  obtain ⟨ls, hl, hent⟩ := ent (m := m) (n := 5) hargs (Nat.le_of_ble_eq_true rfl) (lv := [(0, .ref (A_m 0)), (1, .int x1), (2, .int x2)]) rfl
  rw [hent]
  clear hent
  have l5 : ∀ (n5 : Nat) (x3 : Int32) (x4 : Int32) (ls : Array Slot), lv_has ls 5 [(0, .ref (A_m 0)), (1, .int x1), (2, .int x2), (3, .int x3), (4, .int x4)] → f_X12_voteBy_l5 fu m_at x1 x2 n5 x3 x4 = some res → W p l e (headSpec (WW yX12_voteBy cX12_voteBy 5 (some .int)) rm_X12_voteBy).room s m args below meth c s.heap [] 0 0 (MQ below (vp_Si (fun v => v = res)) args s 0 0 (fun _ => False)) (F0 m 5 ls []) := by
    intro n5
    induction n5 with
    | zero => intro x3 x4 ls hl h; cases h
    | succ n5 ih5 =>
      intro x3 x4 ls hl h
      have h : f_X12_voteBy_b5 fu m_at x1 x2 (f_X12_voteBy_l5 fu m_at x1 x2 n5) x3 x4 = some res := h
      unfold f_X12_voteBy_b5 at h
      refine lv_iload hx hb dX12_voteBy_5 (lv_at hl 4 rfl) ?_
      refine lv_aload_n hx hb dX12_voteBy_7 rfl (lv_at hl 0 rfl) ?_
      refine xget (i := 0) (j := 0) (k := 0) (T := TX12) hx hb ht tb_iX12 hown hX hP rfl rfl rfl (by decide) tb_1229 rfl dX12_voteBy_8 ?_
      refine lv_iconst (v := 0) hx hb dX12_voteBy_11 (by decide) ?_
      obtain ⟨y_15, e_y_15, h⟩ := bi h
      refine xiald (i0 := 0) (j0 := 1) hx hb hX hP rfl rfl e_y_15 dX12_voteBy_12 ?_
      refine lv_icmp_ge (tgt := 62) hx hb dX12_voteBy_13 (by decide) (fun c_16 => ?_) (fun c_16 => ?_)
      · have h := it c_16 h
        refine lv_iload_n hx hb dX12_voteBy_62 rfl (lv_at hl 3 rfl) ?_
        cases h
        exact W.iret hx hb hr (fun _ ht9 _ => ⟨_, rfl, rfl, ht9⟩) (fun _ hq => by cases hq) dX12_voteBy_63
      · have h := ie c_16 h
        refine lv_iload hx hb dX12_voteBy_16 (lv_at hl 4 rfl) ?_
        refine lv_iload_n hx hb dX12_voteBy_18 rfl (lv_at hl 1 rfl) ?_
        refine lv_icmp_eq (tgt := 56) hx hb dX12_voteBy_19 (by decide) (fun c_17 => ?_) (fun c_17 => ?_)
        · have h := it c_17 h
          obtain ⟨x4_18, e_x4_18⟩ : ∃ y : Int32, y = x4 + 1 := ⟨_, rfl⟩
          have h := bn e_x4_18 h
          refine lv_iinc (v := x4_18) (lv' := [(4, .int x4_18), (0, .ref (A_m 0)), (1, .int x1), (2, .int x2), (3, .int x3)]) hx hb dX12_voteBy_56 hl (k := 4) rfl (by rw [e_x4_18]; rfl) (by decide) rfl (fun ls hl => ?_)
          refine lv_goto (tgt := 5) hx hb dX12_voteBy_59 (by decide) ?_
          exact ih5 x3 x4_18 ls (lv_sub hl [1, 2, 3, 4, 0] rfl) h
        · have h := ie c_17 h
          refine lv_aload_n hx hb dX12_voteBy_22 rfl (lv_at hl 0 rfl) ?_
          refine lv_iload_n hx hb dX12_voteBy_23 rfl (lv_at hl 2 rfl) ?_
          refine lv_iload hx hb dX12_voteBy_24 (lv_at hl 4 rfl) ?_
          obtain ⟨z_19, e_z_19, h⟩ := bi h
          refine roVi (rest := []) ⟨hx, hb, hml, hown, ht⟩ (c_X12_isIn l D cy fu A_m m_at m_names m_status m_top m_bottom m_sort m_trayMany m_trays m_tape m_text m_taped m_size m_token m_from m_end m_value m_faultKind m_faultPlace m_faults m_seen m_toldParts m_opened m_depth m_counted m_bestOrder m_standers m_has m_bestHas m_standerMany m_bestCouples m_bestFondness m_cameTo m_doesStandFirst m_stoodBy m_drawn m_ranSteps m_loops m_ran m_told1 m_isTold m_marks x2 x4 z_19 e_z_19) (cV ht mv_X12_isIn tb_1598 rfl rfl ⟨Nat.le_of_ble_eq_true rfl, Nat.le_of_ble_eq_true rfl⟩) (P_sub hP [0] rfl) hX rfl rfl rfl hl.1 rfl (Nat.le_of_ble_eq_true rfl) dX12_voteBy_26 ⟨Nat.le_of_ble_eq_true rfl, Nat.le_of_ble_eq_true rfl⟩ ?_
          refine lv_if_eq (tgt := 56) hx hb dX12_voteBy_29 (by decide) (fun c_20 => ?_) (fun c_20 => ?_)
          · have h := it c_20 h
            obtain ⟨x4_21, e_x4_21⟩ : ∃ y : Int32, y = x4 + 1 := ⟨_, rfl⟩
            have h := bn e_x4_21 h
            refine lv_iinc (v := x4_21) (lv' := [(4, .int x4_21), (0, .ref (A_m 0)), (1, .int x1), (2, .int x2), (3, .int x3)]) hx hb dX12_voteBy_56 hl (k := 4) rfl (by rw [e_x4_21]; rfl) (by decide) rfl (fun ls hl => ?_)
            refine lv_goto (tgt := 5) hx hb dX12_voteBy_59 (by decide) ?_
            exact ih5 x3 x4_21 ls (lv_sub hl [1, 2, 3, 4, 0] rfl) h
          · have h := ie c_20 h
            refine lv_iload_n hx hb dX12_voteBy_32 rfl (lv_at hl 3 rfl) ?_
            refine lv_iconst (v := (-1)) hx hb dX12_voteBy_33 (by decide) ?_
            refine lv_icmp_eq (tgt := 53) hx hb dX12_voteBy_34 (by decide) (fun c_22 => ?_) (fun c_22 => ?_)
            · have h := it c_22 h
              refine lv_iload hx hb dX12_voteBy_53 (lv_at hl 4 rfl) ?_
              refine lv_istore_n (lv' := [(3, .int x4), (0, .ref (A_m 0)), (1, .int x1), (2, .int x2), (4, .int x4)]) hx hb dX12_voteBy_55 rfl hl (by decide) rfl (fun ls hl => ?_)
              obtain ⟨x4_23, e_x4_23⟩ : ∃ y : Int32, y = x4 + 1 := ⟨_, rfl⟩
              have h := bn e_x4_23 h
              refine lv_iinc (v := x4_23) (lv' := [(4, .int x4_23), (3, .int x4), (0, .ref (A_m 0)), (1, .int x1), (2, .int x2)]) hx hb dX12_voteBy_56 hl (k := 4) rfl (by rw [e_x4_23]; rfl) (by decide) rfl (fun ls hl => ?_)
              refine lv_goto (tgt := 5) hx hb dX12_voteBy_59 (by decide) ?_
              exact ih5 x4 x4_23 ls (lv_sub hl [2, 3, 4, 1, 0] rfl) h
            · have h := ie c_22 h
              refine lv_aload_n hx hb dX12_voteBy_37 rfl (lv_at hl 0 rfl) ?_
              refine lv_iload_n hx hb dX12_voteBy_38 rfl (lv_at hl 1 rfl) ?_
              refine lv_iload hx hb dX12_voteBy_39 (lv_at hl 4 rfl) ?_
              obtain ⟨z_24, e_z_24, h⟩ := bi h
              refine roVi (rest := []) ⟨hx, hb, hml, hown, ht⟩ (c_X12_likesOf l D cy fu A_m m_at m_names m_status m_top m_bottom m_sort m_trayMany m_trays m_tape m_text m_taped m_size m_token m_from m_end m_value m_faultKind m_faultPlace m_faults m_seen m_toldParts m_opened m_depth m_counted m_bestOrder m_standers m_has m_bestHas m_standerMany m_bestCouples m_bestFondness m_cameTo m_doesStandFirst m_stoodBy m_drawn m_ranSteps m_loops m_ran m_told1 m_isTold m_marks x1 x4 z_24 e_z_24) (cV ht mv_X12_likesOf tb_1563 rfl rfl ⟨Nat.le_of_ble_eq_true rfl, Nat.le_of_ble_eq_true rfl⟩) (P_sub hP [0] rfl) hX rfl rfl rfl hl.1 rfl (Nat.le_of_ble_eq_true rfl) dX12_voteBy_41 ⟨Nat.le_of_ble_eq_true rfl, Nat.le_of_ble_eq_true rfl⟩ ?_
              refine lv_aload_n hx hb dX12_voteBy_44 rfl (lv_at hl 0 rfl) ?_
              refine lv_iload_n hx hb dX12_voteBy_45 rfl (lv_at hl 1 rfl) ?_
              refine lv_iload_n hx hb dX12_voteBy_46 rfl (lv_at hl 3 rfl) ?_
              obtain ⟨z_25, e_z_25, h⟩ := bi h
              refine roVi (rest := [.int z_24]) ⟨hx, hb, hml, hown, ht⟩ (c_X12_likesOf l D cy fu A_m m_at m_names m_status m_top m_bottom m_sort m_trayMany m_trays m_tape m_text m_taped m_size m_token m_from m_end m_value m_faultKind m_faultPlace m_faults m_seen m_toldParts m_opened m_depth m_counted m_bestOrder m_standers m_has m_bestHas m_standerMany m_bestCouples m_bestFondness m_cameTo m_doesStandFirst m_stoodBy m_drawn m_ranSteps m_loops m_ran m_told1 m_isTold m_marks x1 x3 z_25 e_z_25) (cV ht mv_X12_likesOf tb_1563 rfl rfl ⟨Nat.le_of_ble_eq_true rfl, Nat.le_of_ble_eq_true rfl⟩) (P_sub hP [0] rfl) hX rfl rfl rfl hl.1 rfl (Nat.le_of_ble_eq_true rfl) dX12_voteBy_47 ⟨Nat.le_of_ble_eq_true rfl, Nat.le_of_ble_eq_true rfl⟩ ?_
              refine lv_icmp_le (tgt := 56) hx hb dX12_voteBy_50 (by decide) (fun c_26 => ?_) (fun c_26 => ?_)
              · have h := it c_26 h
                obtain ⟨x4_27, e_x4_27⟩ : ∃ y : Int32, y = x4 + 1 := ⟨_, rfl⟩
                have h := bn e_x4_27 h
                refine lv_iinc (v := x4_27) (lv' := [(4, .int x4_27), (0, .ref (A_m 0)), (1, .int x1), (2, .int x2), (3, .int x3)]) hx hb dX12_voteBy_56 hl (k := 4) rfl (by rw [e_x4_27]; rfl) (by decide) rfl (fun ls hl => ?_)
                refine lv_goto (tgt := 5) hx hb dX12_voteBy_59 (by decide) ?_
                exact ih5 x3 x4_27 ls (lv_sub hl [1, 2, 3, 4, 0] rfl) h
              · have h := ie c_26 h
                refine lv_iload hx hb dX12_voteBy_53 (lv_at hl 4 rfl) ?_
                refine lv_istore_n (lv' := [(3, .int x4), (0, .ref (A_m 0)), (1, .int x1), (2, .int x2), (4, .int x4)]) hx hb dX12_voteBy_55 rfl hl (by decide) rfl (fun ls hl => ?_)
                obtain ⟨x4_28, e_x4_28⟩ : ∃ y : Int32, y = x4 + 1 := ⟨_, rfl⟩
                have h := bn e_x4_28 h
                refine lv_iinc (v := x4_28) (lv' := [(4, .int x4_28), (3, .int x4), (0, .ref (A_m 0)), (1, .int x1), (2, .int x2)]) hx hb dX12_voteBy_56 hl (k := 4) rfl (by rw [e_x4_28]; rfl) (by decide) rfl (fun ls hl => ?_)
                refine lv_goto (tgt := 5) hx hb dX12_voteBy_59 (by decide) ?_
                exact ih5 x4 x4_28 ls (lv_sub hl [2, 3, 4, 1, 0] rfl) h
  unfold f_X12_voteBy at h
  refine lv_iconst (v := (-1)) hx hb dX12_voteBy_0 (by decide) ?_
  refine lv_istore_n (lv' := [(3, .int (-1)), (0, .ref (A_m 0)), (1, .int x1), (2, .int x2)]) hx hb dX12_voteBy_1 rfl hl (by decide) rfl (fun ls hl => ?_)
  refine lv_iconst (v := 0) hx hb dX12_voteBy_2 (by decide) ?_
  refine lv_istore (lv' := [(4, .int 0), (3, .int (-1)), (0, .ref (A_m 0)), (1, .int x1), (2, .int x2)]) hx hb dX12_voteBy_3 hl (by decide) rfl (fun ls hl => ?_)
  exact l5 fu (-1) 0 ls (lv_sub hl [2, 3, 4, 1, 0] rfl) h
theorem dX12_votesFor_0 : decode cX12_votesFor 0 = .ok (.iconst 0, 1) := by decide +kernel
theorem dX12_votesFor_1 : decode cX12_votesFor 1 = .ok (.istore_n 3, 1) := by decide +kernel
theorem dX12_votesFor_2 : decode cX12_votesFor 2 = .ok (.iconst 0, 1) := by decide +kernel
theorem dX12_votesFor_3 : decode cX12_votesFor 3 = .ok (.istore 4, 2) := by decide +kernel
theorem dX12_votesFor_5 : decode cX12_votesFor 5 = .ok (.iload 4, 2) := by decide +kernel
theorem dX12_votesFor_7 : decode cX12_votesFor 7 = .ok (.aload_n 0, 1) := by decide +kernel
theorem dX12_votesFor_8 : decode cX12_votesFor 8 = .ok (.getfield 7, 3) := by decide +kernel
theorem dX12_votesFor_11 : decode cX12_votesFor 11 = .ok (.iconst 0, 1) := by decide +kernel
theorem dX12_votesFor_12 : decode cX12_votesFor 12 = .ok (.iaload, 1) := by decide +kernel
theorem dX12_votesFor_13 : decode cX12_votesFor 13 = .ok (.if_icmp .ge 43, 3) := by decide +kernel
theorem dX12_votesFor_16 : decode cX12_votesFor 16 = .ok (.iload_n 3, 1) := by decide +kernel
theorem dX12_votesFor_17 : decode cX12_votesFor 17 = .ok (.aload_n 0, 1) := by decide +kernel
theorem dX12_votesFor_18 : decode cX12_votesFor 18 = .ok (.iload 4, 2) := by decide +kernel
theorem dX12_votesFor_20 : decode cX12_votesFor 20 = .ok (.invokevirtual 253, 3) := by decide +kernel
theorem dX12_votesFor_23 : decode cX12_votesFor 23 = .ok (.ifCond .eq 24, 3) := by decide +kernel
theorem dX12_votesFor_26 : decode cX12_votesFor 26 = .ok (.aload_n 0, 1) := by decide +kernel
theorem dX12_votesFor_27 : decode cX12_votesFor 27 = .ok (.iload 4, 2) := by decide +kernel
theorem dX12_votesFor_29 : decode cX12_votesFor 29 = .ok (.iload_n 2, 1) := by decide +kernel
theorem dX12_votesFor_30 : decode cX12_votesFor 30 = .ok (.invokevirtual 277, 3) := by decide +kernel
theorem dX12_votesFor_33 : decode cX12_votesFor 33 = .ok (.iload_n 1, 1) := by decide +kernel
theorem dX12_votesFor_34 : decode cX12_votesFor 34 = .ok (.if_icmp .ne 13, 3) := by decide +kernel
theorem dX12_votesFor_37 : decode cX12_votesFor 37 = .ok (.aload_n 0, 1) := by decide +kernel
theorem dX12_votesFor_38 : decode cX12_votesFor 38 = .ok (.iload 4, 2) := by decide +kernel
theorem dX12_votesFor_40 : decode cX12_votesFor 40 = .ok (.iconst 1, 1) := by decide +kernel
theorem dX12_votesFor_41 : decode cX12_votesFor 41 = .ok (.invokevirtual 250, 3) := by decide +kernel
theorem dX12_votesFor_44 : decode cX12_votesFor 44 = .ok (.goto 4, 3) := by decide +kernel
theorem dX12_votesFor_47 : decode cX12_votesFor 47 = .ok (.iconst 0, 1) := by decide +kernel
theorem dX12_votesFor_48 : decode cX12_votesFor 48 = .ok (.iadd, 1) := by decide +kernel
theorem dX12_votesFor_49 : decode cX12_votesFor 49 = .ok (.istore_n 3, 1) := by decide +kernel
theorem dX12_votesFor_50 : decode cX12_votesFor 50 = .ok (.iinc 4 1, 3) := by decide +kernel
theorem dX12_votesFor_53 : decode cX12_votesFor 53 = .ok (.goto (-48), 3) := by decide +kernel
theorem dX12_votesFor_56 : decode cX12_votesFor 56 = .ok (.iload_n 3, 1) := by decide +kernel
theorem dX12_votesFor_57 : decode cX12_votesFor 57 = .ok (.ireturn, 1) := by decide +kernel
theorem mv_X12_votesFor : MV yX12_votesFor RX12 cX12_votesFor 5 (some .int) 2 := ⟨tb_1605, tb_1604, ts_81, tb_16, by decide +kernel, by decide +kernel, by decide +kernel⟩
def f_X12_votesFor_b5 (fu : Nat) (m_at : Nat → Int32) (x1 : Int32) (x2 : Int32) (k5 : Int32 → Int32 → Option (Int32)) (x3 : Int32) (x4 : Int32) : Option (Int32) := (rdI m_at 3648 0).bind fun y_14 => (if y_14 ≤ x4 then some (x3) else (f_X12_isAlive fu m_at x4).bind fun z_16 => (if z_16 = 0 then bnd (x3 + 0) fun x3_18 => bnd (x4 + 1) fun x4_19 => k5 x3_18 x4_19 else (f_X12_voteBy fu m_at x4 x2).bind fun z_20 => (if z_20 = x1 then (f_X12_manOf fu m_at x4 1).bind fun z_24 => bnd (x3 + z_24) fun x3_25 => bnd (x4 + 1) fun x4_26 => k5 x3_25 x4_26 else bnd (x3 + 0) fun x3_22 => bnd (x4 + 1) fun x4_23 => k5 x3_22 x4_23)))
def f_X12_votesFor_l5 (fu : Nat) (m_at : Nat → Int32) (x1 : Int32) (x2 : Int32) : Nat → Int32 → Int32 → Option (Int32)
  | 0, _, _ => none
  | n + 1, x3, x4 => f_X12_votesFor_b5 fu m_at x1 x2 (f_X12_votesFor_l5 fu m_at x1 x2 n) x3 x4
def f_X12_votesFor (fu : Nat) (m_at : Nat → Int32) (x1 : Int32) (x2 : Int32) : Option (Int32) := f_X12_votesFor_l5 fu m_at x1 x2 fu 0 0
abbrev rm_X12_votesFor : Room := { frames := 4, cells := 0, slots := 0, locals := 88 }
set_option maxHeartbeats 4000000 in
set_option maxRecDepth 100000 in
theorem c_X12_votesFor (l : Launch) (D : va_G) (cy : Nat → ClassId) (fu : Nat) (A_m : Nat → Nat) (m_at : Nat → Int32) (m_names : Nat → Int64) (m_status : Int32) (m_top : Int64) (m_bottom : Int64) (m_sort : Nat → Int32) (m_trayMany : Nat → Int32) (m_trays : Nat → Int64) (m_tape : Nat → Int32) (m_text : Nat → Int32) (m_taped : Int32) (m_size : Int32) (m_token : Int32) (m_from : Int32) (m_end : Int32) (m_value : Int32) (m_faultKind : Int32) (m_faultPlace : Int32) (m_faults : Int32) (m_seen : Int32) (m_toldParts : Int32) (m_opened : Nat → Int32) (m_depth : Int32) (m_counted : Int32) (m_bestOrder : Int32) (m_standers : Nat → Int32) (m_has : Nat → Int32) (m_bestHas : Nat → Int32) (m_standerMany : Int32) (m_bestCouples : Int32) (m_bestFondness : Int32) (m_cameTo : Nat → Int32) (m_doesStandFirst : Int32) (m_stoodBy : Nat → Int64) (m_drawn : Int32) (m_ranSteps : Int32) (m_loops : Nat → Int32) (m_ran : Nat → Int32) (m_told1 : Nat → Int32) (m_isTold : Int32) (m_marks : Int32) (x1 : Int32) (x2 : Int32) (res : Int32) (h : f_X12_votesFor fu m_at x1 x2 = some res) : Met l yX12_votesFor (WW yX12_votesFor cX12_votesFor 5 (some .int)) rm_X12_votesFor (Rd D cy [.ref (A_m 0), .int x1, .int x2] [bl_X12 cy A_m m_at m_names m_status m_top m_bottom m_sort m_trayMany m_trays m_tape m_text m_taped m_size m_token m_from m_end m_value m_faultKind m_faultPlace m_faults m_seen m_toldParts m_opened m_depth m_counted m_bestOrder m_standers m_has m_bestHas m_standerMany m_bestCouples m_bestFondness m_cameTo m_doesStandFirst m_stoodBy m_drawn m_ranSteps m_loops m_ran m_told1 m_isTold m_marks]) (vp_Si (fun v => v = res)) 0 0 (fun _ => False) := by
  refine Met.ofW (cc := cX12_votesFor) (maxL := 5) (ret := (some .int)) (by decide) rfl ?_
  intro p e s m args below meth c s₁ B hml hv
  obtain ⟨hargs, hP, hX⟩ := hv
  have hx := B.exec
  have hb := B.bytes
  have hr := B.returns
  have ht : ∀ w ∈ lw_gd, w.before args s = true := fun w hw => atoms_spec (ws := WW yX12_votesFor cX12_votesFor 5 (some .int)) B.pre w (List.mem_cons_of_mem _ hw)
  have hown : s.vm.findClass RX12 = some m.cls := findClass_of_methodNamed B.named
  have hlocks := B.notSynchronized
  have hP : PB D [bl_X12 cy A_m m_at m_names m_status m_top m_bottom m_sort m_trayMany m_trays m_tape m_text m_taped m_size m_token m_from m_end m_value m_faultKind m_faultPlace m_faults m_seen m_toldParts m_opened m_depth m_counted m_bestOrder m_standers m_has m_bestHas m_standerMany m_bestCouples m_bestFondness m_cameTo m_doesStandFirst m_stoodBy m_drawn m_ranSteps m_loops m_ran m_told1 m_isTold m_marks] s.heap := hP
  obtain ⟨ls, hl, hent⟩ := ent (m := m) (n := 5) hargs (Nat.le_of_ble_eq_true rfl) (lv := [(0, .ref (A_m 0)), (1, .int x1), (2, .int x2)]) rfl
  rw [hent]
  clear hent
  have l5 : ∀ (n5 : Nat) (x3 : Int32) (x4 : Int32) (ls : Array Slot), lv_has ls 5 [(0, .ref (A_m 0)), (1, .int x1), (2, .int x2), (3, .int x3), (4, .int x4)] → f_X12_votesFor_l5 fu m_at x1 x2 n5 x3 x4 = some res → W p l e (headSpec (WW yX12_votesFor cX12_votesFor 5 (some .int)) rm_X12_votesFor).room s m args below meth c s.heap [] 0 0 (MQ below (vp_Si (fun v => v = res)) args s 0 0 (fun _ => False)) (F0 m 5 ls []) := by
    intro n5
    induction n5 with
    | zero => intro x3 x4 ls hl h; cases h
    | succ n5 ih5 =>
      intro x3 x4 ls hl h
      have h : f_X12_votesFor_b5 fu m_at x1 x2 (f_X12_votesFor_l5 fu m_at x1 x2 n5) x3 x4 = some res := h
      unfold f_X12_votesFor_b5 at h
      refine lv_iload hx hb dX12_votesFor_5 (lv_at hl 4 rfl) ?_
      refine lv_aload_n hx hb dX12_votesFor_7 rfl (lv_at hl 0 rfl) ?_
      refine xget (i := 0) (j := 0) (k := 0) (T := TX12) hx hb ht tb_iX12 hown hX hP rfl rfl rfl (by decide) tb_1229 rfl dX12_votesFor_8 ?_
      refine lv_iconst (v := 0) hx hb dX12_votesFor_11 (by decide) ?_
      obtain ⟨y_14, e_y_14, h⟩ := bi h
      refine xiald (i0 := 0) (j0 := 1) hx hb hX hP rfl rfl e_y_14 dX12_votesFor_12 ?_
      refine lv_icmp_ge (tgt := 56) hx hb dX12_votesFor_13 (by decide) (fun c_15 => ?_) (fun c_15 => ?_)
      · have h := it c_15 h
        refine lv_iload_n hx hb dX12_votesFor_56 rfl (lv_at hl 3 rfl) ?_
        cases h
        exact W.iret hx hb hr (fun _ ht9 _ => ⟨_, rfl, rfl, ht9⟩) (fun _ hq => by cases hq) dX12_votesFor_57
      · have h := ie c_15 h
        refine lv_iload_n hx hb dX12_votesFor_16 rfl (lv_at hl 3 rfl) ?_
        refine lv_aload_n hx hb dX12_votesFor_17 rfl (lv_at hl 0 rfl) ?_
        refine lv_iload hx hb dX12_votesFor_18 (lv_at hl 4 rfl) ?_
        obtain ⟨z_16, e_z_16, h⟩ := bi h
        refine roVi (rest := [.int x3]) ⟨hx, hb, hml, hown, ht⟩ (c_X12_isAlive l D cy fu A_m m_at m_names m_status m_top m_bottom m_sort m_trayMany m_trays m_tape m_text m_taped m_size m_token m_from m_end m_value m_faultKind m_faultPlace m_faults m_seen m_toldParts m_opened m_depth m_counted m_bestOrder m_standers m_has m_bestHas m_standerMany m_bestCouples m_bestFondness m_cameTo m_doesStandFirst m_stoodBy m_drawn m_ranSteps m_loops m_ran m_told1 m_isTold m_marks x4 z_16 e_z_16) (cV ht mv_X12_isAlive tb_1531 rfl rfl ⟨Nat.le_of_ble_eq_true rfl, Nat.le_of_ble_eq_true rfl⟩) (P_sub hP [0] rfl) hX rfl rfl rfl hl.1 rfl (Nat.le_of_ble_eq_true rfl) dX12_votesFor_20 ⟨Nat.le_of_ble_eq_true rfl, Nat.le_of_ble_eq_true rfl⟩ ?_
        refine lv_if_eq (tgt := 47) hx hb dX12_votesFor_23 (by decide) (fun c_17 => ?_) (fun c_17 => ?_)
        · have h := it c_17 h
          refine lv_iconst (v := 0) hx hb dX12_votesFor_47 (by decide) ?_
          refine lv_iadd hx hb dX12_votesFor_48 ?_
          refine lv_topi (fun x3_18 e_x3_18 => ?_)
          have h := bn e_x3_18 h
          refine lv_istore_n (lv' := [(3, .int x3_18), (0, .ref (A_m 0)), (1, .int x1), (2, .int x2), (4, .int x4)]) hx hb dX12_votesFor_49 rfl hl (by decide) rfl (fun ls hl => ?_)
          obtain ⟨x4_19, e_x4_19⟩ : ∃ y : Int32, y = x4 + 1 := ⟨_, rfl⟩
          have h := bn e_x4_19 h
          refine lv_iinc (v := x4_19) (lv' := [(4, .int x4_19), (3, .int x3_18), (0, .ref (A_m 0)), (1, .int x1), (2, .int x2)]) hx hb dX12_votesFor_50 hl (k := 4) rfl (by rw [e_x4_19]; rfl) (by decide) rfl (fun ls hl => ?_)
          refine lv_goto (tgt := 5) hx hb dX12_votesFor_53 (by decide) ?_
          exact ih5 x3_18 x4_19 ls (lv_sub hl [2, 3, 4, 1, 0] rfl) h
        · have h := ie c_17 h
          refine lv_aload_n hx hb dX12_votesFor_26 rfl (lv_at hl 0 rfl) ?_
          refine lv_iload hx hb dX12_votesFor_27 (lv_at hl 4 rfl) ?_
          refine lv_iload_n hx hb dX12_votesFor_29 rfl (lv_at hl 2 rfl) ?_
          obtain ⟨z_20, e_z_20, h⟩ := bi h
          refine roVi (rest := [.int x3]) ⟨hx, hb, hml, hown, ht⟩ (c_X12_voteBy l D cy fu A_m m_at m_names m_status m_top m_bottom m_sort m_trayMany m_trays m_tape m_text m_taped m_size m_token m_from m_end m_value m_faultKind m_faultPlace m_faults m_seen m_toldParts m_opened m_depth m_counted m_bestOrder m_standers m_has m_bestHas m_standerMany m_bestCouples m_bestFondness m_cameTo m_doesStandFirst m_stoodBy m_drawn m_ranSteps m_loops m_ran m_told1 m_isTold m_marks x4 x2 z_20 e_z_20) (cV ht mv_X12_voteBy tb_1606 rfl rfl ⟨Nat.le_of_ble_eq_true rfl, Nat.le_of_ble_eq_true rfl⟩) (P_sub hP [0] rfl) hX rfl rfl rfl hl.1 rfl (Nat.le_of_ble_eq_true rfl) dX12_votesFor_30 ⟨Nat.le_of_ble_eq_true rfl, Nat.le_of_ble_eq_true rfl⟩ ?_
          refine lv_iload_n hx hb dX12_votesFor_33 rfl (lv_at hl 1 rfl) ?_
          refine lv_icmp_ne (tgt := 47) hx hb dX12_votesFor_34 (by decide) (fun c_21 => ?_) (fun c_21 => ?_)
          · have h := ie c_21 h
            refine lv_iconst (v := 0) hx hb dX12_votesFor_47 (by decide) ?_
            refine lv_iadd hx hb dX12_votesFor_48 ?_
            refine lv_topi (fun x3_22 e_x3_22 => ?_)
            have h := bn e_x3_22 h
            refine lv_istore_n (lv' := [(3, .int x3_22), (0, .ref (A_m 0)), (1, .int x1), (2, .int x2), (4, .int x4)]) hx hb dX12_votesFor_49 rfl hl (by decide) rfl (fun ls hl => ?_)
            obtain ⟨x4_23, e_x4_23⟩ : ∃ y : Int32, y = x4 + 1 := ⟨_, rfl⟩
            have h := bn e_x4_23 h
            refine lv_iinc (v := x4_23) (lv' := [(4, .int x4_23), (3, .int x3_22), (0, .ref (A_m 0)), (1, .int x1), (2, .int x2)]) hx hb dX12_votesFor_50 hl (k := 4) rfl (by rw [e_x4_23]; rfl) (by decide) rfl (fun ls hl => ?_)
            refine lv_goto (tgt := 5) hx hb dX12_votesFor_53 (by decide) ?_
            exact ih5 x3_22 x4_23 ls (lv_sub hl [2, 3, 4, 1, 0] rfl) h
          · have h := it c_21 h
            refine lv_aload_n hx hb dX12_votesFor_37 rfl (lv_at hl 0 rfl) ?_
            refine lv_iload hx hb dX12_votesFor_38 (lv_at hl 4 rfl) ?_
            refine lv_iconst (v := 1) hx hb dX12_votesFor_40 (by decide) ?_
            obtain ⟨z_24, e_z_24, h⟩ := bi h
            refine roVi (rest := [.int x3]) ⟨hx, hb, hml, hown, ht⟩ (c_X12_manOf l D cy fu A_m m_at m_names m_status m_top m_bottom m_sort m_trayMany m_trays m_tape m_text m_taped m_size m_token m_from m_end m_value m_faultKind m_faultPlace m_faults m_seen m_toldParts m_opened m_depth m_counted m_bestOrder m_standers m_has m_bestHas m_standerMany m_bestCouples m_bestFondness m_cameTo m_doesStandFirst m_stoodBy m_drawn m_ranSteps m_loops m_ran m_told1 m_isTold m_marks x4 1 z_24 e_z_24) (cV ht mv_X12_manOf tb_1535 rfl rfl ⟨Nat.le_of_ble_eq_true rfl, Nat.le_of_ble_eq_true rfl⟩) (P_sub hP [0] rfl) hX rfl rfl rfl hl.1 rfl (Nat.le_of_ble_eq_true rfl) dX12_votesFor_41 ⟨Nat.le_of_ble_eq_true rfl, Nat.le_of_ble_eq_true rfl⟩ ?_
            refine lv_goto (tgt := 48) hx hb dX12_votesFor_44 (by decide) ?_
            refine lv_iadd hx hb dX12_votesFor_48 ?_
            refine lv_topi (fun x3_25 e_x3_25 => ?_)
            have h := bn e_x3_25 h
            refine lv_istore_n (lv' := [(3, .int x3_25), (0, .ref (A_m 0)), (1, .int x1), (2, .int x2), (4, .int x4)]) hx hb dX12_votesFor_49 rfl hl (by decide) rfl (fun ls hl => ?_)
            obtain ⟨x4_26, e_x4_26⟩ : ∃ y : Int32, y = x4 + 1 := ⟨_, rfl⟩
            have h := bn e_x4_26 h
            refine lv_iinc (v := x4_26) (lv' := [(4, .int x4_26), (3, .int x3_25), (0, .ref (A_m 0)), (1, .int x1), (2, .int x2)]) hx hb dX12_votesFor_50 hl (k := 4) rfl (by rw [e_x4_26]; rfl) (by decide) rfl (fun ls hl => ?_)
            refine lv_goto (tgt := 5) hx hb dX12_votesFor_53 (by decide) ?_
            exact ih5 x3_25 x4_26 ls (lv_sub hl [2, 3, 4, 1, 0] rfl) h
  unfold f_X12_votesFor at h
  refine lv_iconst (v := 0) hx hb dX12_votesFor_0 (by decide) ?_
  refine lv_istore_n (lv' := [(3, .int 0), (0, .ref (A_m 0)), (1, .int x1), (2, .int x2)]) hx hb dX12_votesFor_1 rfl hl (by decide) rfl (fun ls hl => ?_)
  refine lv_iconst (v := 0) hx hb dX12_votesFor_2 (by decide) ?_
  refine lv_istore (lv' := [(4, .int 0), (3, .int 0), (0, .ref (A_m 0)), (1, .int x1), (2, .int x2)]) hx hb dX12_votesFor_3 hl (by decide) rfl (fun ls hl => ?_)
  exact l5 fu 0 0 ls (lv_sub hl [2, 3, 4, 1, 0] rfl) h
theorem dX12_winner_0 : decode cX12_winner 0 = .ok (.aload_n 0, 1) := by decide +kernel
theorem dX12_winner_1 : decode cX12_winner 1 = .ok (.iload_n 1, 1) := by decide +kernel
theorem dX12_winner_2 : decode cX12_winner 2 = .ok (.iload_n 2, 1) := by decide +kernel
theorem dX12_winner_3 : decode cX12_winner 3 = .ok (.invokevirtual 280, 3) := by decide +kernel
theorem dX12_winner_6 : decode cX12_winner 6 = .ok (.istore_n 3, 1) := by decide +kernel
theorem dX12_winner_7 : decode cX12_winner 7 = .ok (.iconst (-1), 1) := by decide +kernel
theorem dX12_winner_8 : decode cX12_winner 8 = .ok (.istore 4, 2) := by decide +kernel
theorem dX12_winner_10 : decode cX12_winner 10 = .ok (.iconst (-1), 1) := by decide +kernel
theorem dX12_winner_11 : decode cX12_winner 11 = .ok (.istore 5, 2) := by decide +kernel
theorem dX12_winner_13 : decode cX12_winner 13 = .ok (.iconst 0, 1) := by decide +kernel
theorem dX12_winner_14 : decode cX12_winner 14 = .ok (.istore 6, 2) := by decide +kernel
theorem dX12_winner_16 : decode cX12_winner 16 = .ok (.iload 6, 2) := by decide +kernel
theorem dX12_winner_18 : decode cX12_winner 18 = .ok (.aload_n 0, 1) := by decide +kernel
theorem dX12_winner_19 : decode cX12_winner 19 = .ok (.getfield 7, 3) := by decide +kernel
theorem dX12_winner_22 : decode cX12_winner 22 = .ok (.iconst 0, 1) := by decide +kernel
theorem dX12_winner_23 : decode cX12_winner 23 = .ok (.iaload, 1) := by decide +kernel
theorem dX12_winner_24 : decode cX12_winner 24 = .ok (.if_icmp .ge 49, 3) := by decide +kernel
theorem dX12_winner_27 : decode cX12_winner 27 = .ok (.aload_n 0, 1) := by decide +kernel
theorem dX12_winner_28 : decode cX12_winner 28 = .ok (.iload_n 3, 1) := by decide +kernel
theorem dX12_winner_29 : decode cX12_winner 29 = .ok (.iload 6, 2) := by decide +kernel
theorem dX12_winner_31 : decode cX12_winner 31 = .ok (.invokevirtual 274, 3) := by decide +kernel
theorem dX12_winner_34 : decode cX12_winner 34 = .ok (.ifCond .ne 6, 3) := by decide +kernel
theorem dX12_winner_37 : decode cX12_winner 37 = .ok (.goto 30, 3) := by decide +kernel
theorem dX12_winner_40 : decode cX12_winner 40 = .ok (.aload_n 0, 1) := by decide +kernel
theorem dX12_winner_41 : decode cX12_winner 41 = .ok (.iload 6, 2) := by decide +kernel
theorem dX12_winner_43 : decode cX12_winner 43 = .ok (.iload_n 3, 1) := by decide +kernel
theorem dX12_winner_44 : decode cX12_winner 44 = .ok (.invokevirtual 283, 3) := by decide +kernel
theorem dX12_winner_47 : decode cX12_winner 47 = .ok (.istore 7, 2) := by decide +kernel
theorem dX12_winner_49 : decode cX12_winner 49 = .ok (.iload 7, 2) := by decide +kernel
theorem dX12_winner_51 : decode cX12_winner 51 = .ok (.iload 5, 2) := by decide +kernel
theorem dX12_winner_53 : decode cX12_winner 53 = .ok (.if_icmp .gt 6, 3) := by decide +kernel
theorem dX12_winner_56 : decode cX12_winner 56 = .ok (.goto 11, 3) := by decide +kernel
theorem dX12_winner_59 : decode cX12_winner 59 = .ok (.iload 7, 2) := by decide +kernel
theorem dX12_winner_61 : decode cX12_winner 61 = .ok (.istore 5, 2) := by decide +kernel
theorem dX12_winner_63 : decode cX12_winner 63 = .ok (.iload 6, 2) := by decide +kernel
theorem dX12_winner_65 : decode cX12_winner 65 = .ok (.istore 4, 2) := by decide +kernel
theorem dX12_winner_67 : decode cX12_winner 67 = .ok (.iinc 6 1, 3) := by decide +kernel
theorem dX12_winner_70 : decode cX12_winner 70 = .ok (.goto (-54), 3) := by decide +kernel
theorem dX12_winner_73 : decode cX12_winner 73 = .ok (.iload 4, 2) := by decide +kernel
theorem dX12_winner_75 : decode cX12_winner 75 = .ok (.ireturn, 1) := by decide +kernel
theorem mv_X12_winner : MV yX12_winner RX12 cX12_winner 8 (some .int) 2 := ⟨tb_1593, tb_1592, ts_78, tb_16, by decide +kernel, by decide +kernel, by decide +kernel⟩
def f_X12_winner_b16 (fu : Nat) (m_at : Nat → Int32) (x1 : Int32) (x2 : Int32) (k16 : Int32 → Int32 → Int32 → Int32 → Option (Int32)) (x3 : Int32) (x4 : Int32) (x5 : Int32) (x6 : Int32) : Option (Int32) := (rdI m_at 3648 0).bind fun y_11 => (if y_11 ≤ x6 then some (x4) else (f_X12_isIn fu x3 x6).bind fun z_13 => (if z_13 = 0 then bnd (x6 + 1) fun x6_19 => k16 x3 x4 x5 x6_19 else (f_X12_votesFor fu m_at x6 x3).bind fun z_15 => (if x5 < z_15 then bnd (x6 + 1) fun x6_17 => k16 x3 x6 z_15 x6_17 else bnd (x6 + 1) fun x6_18 => k16 x3 x4 x5 x6_18)))
def f_X12_winner_l16 (fu : Nat) (m_at : Nat → Int32) (x1 : Int32) (x2 : Int32) : Nat → Int32 → Int32 → Int32 → Int32 → Option (Int32)
  | 0, _, _, _, _ => none
  | n + 1, x3, x4, x5, x6 => f_X12_winner_b16 fu m_at x1 x2 (f_X12_winner_l16 fu m_at x1 x2 n) x3 x4 x5 x6
def f_X12_winner (fu : Nat) (m_at : Nat → Int32) (x1 : Int32) (x2 : Int32) : Option (Int32) := (f_X12_candidatesOf fu m_at x1 x2).bind fun z_20 => f_X12_winner_l16 fu m_at x1 x2 fu z_20 (-1) (-1) 0
abbrev rm_X12_winner : Room := { frames := 5, cells := 0, slots := 0, locals := 112 }
set_option maxHeartbeats 4000000 in
set_option maxRecDepth 100000 in
theorem c_X12_winner (l : Launch) (D : va_G) (cy : Nat → ClassId) (fu : Nat) (A_m : Nat → Nat) (m_at : Nat → Int32) (m_names : Nat → Int64) (m_status : Int32) (m_top : Int64) (m_bottom : Int64) (m_sort : Nat → Int32) (m_trayMany : Nat → Int32) (m_trays : Nat → Int64) (m_tape : Nat → Int32) (m_text : Nat → Int32) (m_taped : Int32) (m_size : Int32) (m_token : Int32) (m_from : Int32) (m_end : Int32) (m_value : Int32) (m_faultKind : Int32) (m_faultPlace : Int32) (m_faults : Int32) (m_seen : Int32) (m_toldParts : Int32) (m_opened : Nat → Int32) (m_depth : Int32) (m_counted : Int32) (m_bestOrder : Int32) (m_standers : Nat → Int32) (m_has : Nat → Int32) (m_bestHas : Nat → Int32) (m_standerMany : Int32) (m_bestCouples : Int32) (m_bestFondness : Int32) (m_cameTo : Nat → Int32) (m_doesStandFirst : Int32) (m_stoodBy : Nat → Int64) (m_drawn : Int32) (m_ranSteps : Int32) (m_loops : Nat → Int32) (m_ran : Nat → Int32) (m_told1 : Nat → Int32) (m_isTold : Int32) (m_marks : Int32) (x1 : Int32) (x2 : Int32) (res : Int32) (h : f_X12_winner fu m_at x1 x2 = some res) : Met l yX12_winner (WW yX12_winner cX12_winner 8 (some .int)) rm_X12_winner (Rd D cy [.ref (A_m 0), .int x1, .int x2] [bl_X12 cy A_m m_at m_names m_status m_top m_bottom m_sort m_trayMany m_trays m_tape m_text m_taped m_size m_token m_from m_end m_value m_faultKind m_faultPlace m_faults m_seen m_toldParts m_opened m_depth m_counted m_bestOrder m_standers m_has m_bestHas m_standerMany m_bestCouples m_bestFondness m_cameTo m_doesStandFirst m_stoodBy m_drawn m_ranSteps m_loops m_ran m_told1 m_isTold m_marks]) (vp_Si (fun v => v = res)) 0 0 (fun _ => False) := by
  refine Met.ofW (cc := cX12_winner) (maxL := 8) (ret := (some .int)) (by decide) rfl ?_
  intro p e s m args below meth c s₁ B hml hv
  obtain ⟨hargs, hP, hX⟩ := hv
  have hx := B.exec
  have hb := B.bytes
  have hr := B.returns
  have ht : ∀ w ∈ lw_gd, w.before args s = true := fun w hw => atoms_spec (ws := WW yX12_winner cX12_winner 8 (some .int)) B.pre w (List.mem_cons_of_mem _ hw)
  have hown : s.vm.findClass RX12 = some m.cls := findClass_of_methodNamed B.named
  have hlocks := B.notSynchronized
  have hP : PB D [bl_X12 cy A_m m_at m_names m_status m_top m_bottom m_sort m_trayMany m_trays m_tape m_text m_taped m_size m_token m_from m_end m_value m_faultKind m_faultPlace m_faults m_seen m_toldParts m_opened m_depth m_counted m_bestOrder m_standers m_has m_bestHas m_standerMany m_bestCouples m_bestFondness m_cameTo m_doesStandFirst m_stoodBy m_drawn m_ranSteps m_loops m_ran m_told1 m_isTold m_marks] s.heap := hP
  obtain ⟨ls, hl, hent⟩ := ent (m := m) (n := 8) hargs (Nat.le_of_ble_eq_true rfl) (lv := [(0, .ref (A_m 0)), (1, .int x1), (2, .int x2)]) rfl
  rw [hent]
  clear hent
  have l16 : ∀ (n16 : Nat) (x3 : Int32) (x4 : Int32) (x5 : Int32) (x6 : Int32) (ls : Array Slot), lv_has ls 8 [(0, .ref (A_m 0)), (3, .int x3), (4, .int x4), (5, .int x5), (6, .int x6)] → f_X12_winner_l16 fu m_at x1 x2 n16 x3 x4 x5 x6 = some res → W p l e (headSpec (WW yX12_winner cX12_winner 8 (some .int)) rm_X12_winner).room s m args below meth c s.heap [] 0 0 (MQ below (vp_Si (fun v => v = res)) args s 0 0 (fun _ => False)) (F0 m 16 ls []) := by
    intro n16
    induction n16 with
    | zero => intro x3 x4 x5 x6 ls hl h; cases h
    | succ n16 ih16 =>
      intro x3 x4 x5 x6 ls hl h
      have h : f_X12_winner_b16 fu m_at x1 x2 (f_X12_winner_l16 fu m_at x1 x2 n16) x3 x4 x5 x6 = some res := h
      unfold f_X12_winner_b16 at h
      refine lv_iload hx hb dX12_winner_16 (lv_at hl 4 rfl) ?_
      refine lv_aload_n hx hb dX12_winner_18 rfl (lv_at hl 0 rfl) ?_
      refine xget (i := 0) (j := 0) (k := 0) (T := TX12) hx hb ht tb_iX12 hown hX hP rfl rfl rfl (by decide) tb_1229 rfl dX12_winner_19 ?_
      refine lv_iconst (v := 0) hx hb dX12_winner_22 (by decide) ?_
      obtain ⟨y_11, e_y_11, h⟩ := bi h
      refine xiald (i0 := 0) (j0 := 1) hx hb hX hP rfl rfl e_y_11 dX12_winner_23 ?_
      refine lv_icmp_ge (tgt := 73) hx hb dX12_winner_24 (by decide) (fun c_12 => ?_) (fun c_12 => ?_)
      · have h := it c_12 h
        refine lv_iload hx hb dX12_winner_73 (lv_at hl 2 rfl) ?_
        cases h
        exact W.iret hx hb hr (fun _ ht9 _ => ⟨_, rfl, rfl, ht9⟩) (fun _ hq => by cases hq) dX12_winner_75
      · have h := ie c_12 h
        refine lv_aload_n hx hb dX12_winner_27 rfl (lv_at hl 0 rfl) ?_
        refine lv_iload_n hx hb dX12_winner_28 rfl (lv_at hl 1 rfl) ?_
        refine lv_iload hx hb dX12_winner_29 (lv_at hl 4 rfl) ?_
        obtain ⟨z_13, e_z_13, h⟩ := bi h
        refine roVi (rest := []) ⟨hx, hb, hml, hown, ht⟩ (c_X12_isIn l D cy fu A_m m_at m_names m_status m_top m_bottom m_sort m_trayMany m_trays m_tape m_text m_taped m_size m_token m_from m_end m_value m_faultKind m_faultPlace m_faults m_seen m_toldParts m_opened m_depth m_counted m_bestOrder m_standers m_has m_bestHas m_standerMany m_bestCouples m_bestFondness m_cameTo m_doesStandFirst m_stoodBy m_drawn m_ranSteps m_loops m_ran m_told1 m_isTold m_marks x3 x6 z_13 e_z_13) (cV ht mv_X12_isIn tb_1598 rfl rfl ⟨Nat.le_of_ble_eq_true rfl, Nat.le_of_ble_eq_true rfl⟩) (P_sub hP [0] rfl) hX rfl rfl rfl hl.1 rfl (Nat.le_of_ble_eq_true rfl) dX12_winner_31 ⟨Nat.le_of_ble_eq_true rfl, Nat.le_of_ble_eq_true rfl⟩ ?_
        refine lv_if_ne (tgt := 40) hx hb dX12_winner_34 (by decide) (fun c_14 => ?_) (fun c_14 => ?_)
        · have h := ie c_14 h
          refine lv_aload_n hx hb dX12_winner_40 rfl (lv_at hl 0 rfl) ?_
          refine lv_iload hx hb dX12_winner_41 (lv_at hl 4 rfl) ?_
          refine lv_iload_n hx hb dX12_winner_43 rfl (lv_at hl 1 rfl) ?_
          obtain ⟨z_15, e_z_15, h⟩ := bi h
          refine roVi (rest := []) ⟨hx, hb, hml, hown, ht⟩ (c_X12_votesFor l D cy fu A_m m_at m_names m_status m_top m_bottom m_sort m_trayMany m_trays m_tape m_text m_taped m_size m_token m_from m_end m_value m_faultKind m_faultPlace m_faults m_seen m_toldParts m_opened m_depth m_counted m_bestOrder m_standers m_has m_bestHas m_standerMany m_bestCouples m_bestFondness m_cameTo m_doesStandFirst m_stoodBy m_drawn m_ranSteps m_loops m_ran m_told1 m_isTold m_marks x6 x3 z_15 e_z_15) (cV ht mv_X12_votesFor tb_1602 rfl rfl ⟨Nat.le_of_ble_eq_true rfl, Nat.le_of_ble_eq_true rfl⟩) (P_sub hP [0] rfl) hX rfl rfl rfl hl.1 rfl (Nat.le_of_ble_eq_true rfl) dX12_winner_44 ⟨Nat.le_of_ble_eq_true rfl, Nat.le_of_ble_eq_true rfl⟩ ?_
          refine lv_istore (lv' := [(7, .int z_15), (0, .ref (A_m 0)), (3, .int x3), (4, .int x4), (5, .int x5), (6, .int x6)]) hx hb dX12_winner_47 hl (by decide) rfl (fun ls hl => ?_)
          refine lv_iload hx hb dX12_winner_49 (lv_at hl 0 rfl) ?_
          refine lv_iload hx hb dX12_winner_51 (lv_at hl 4 rfl) ?_
          refine lv_icmp_gt (tgt := 59) hx hb dX12_winner_53 (by decide) (fun c_16 => ?_) (fun c_16 => ?_)
          · have h := it c_16 h
            refine lv_iload hx hb dX12_winner_59 (lv_at hl 0 rfl) ?_
            refine lv_istore (lv' := [(5, .int z_15), (7, .int z_15), (0, .ref (A_m 0)), (3, .int x3), (4, .int x4), (6, .int x6)]) hx hb dX12_winner_61 hl (by decide) rfl (fun ls hl => ?_)
            refine lv_iload hx hb dX12_winner_63 (lv_at hl 5 rfl) ?_
            refine lv_istore (lv' := [(4, .int x6), (5, .int z_15), (7, .int z_15), (0, .ref (A_m 0)), (3, .int x3), (6, .int x6)]) hx hb dX12_winner_65 hl (by decide) rfl (fun ls hl => ?_)
            obtain ⟨x6_17, e_x6_17⟩ : ∃ y : Int32, y = x6 + 1 := ⟨_, rfl⟩
            have h := bn e_x6_17 h
            refine lv_iinc (v := x6_17) (lv' := [(6, .int x6_17), (4, .int x6), (5, .int z_15), (7, .int z_15), (0, .ref (A_m 0)), (3, .int x3)]) hx hb dX12_winner_67 hl (k := 5) rfl (by rw [e_x6_17]; rfl) (by decide) rfl (fun ls hl => ?_)
            refine lv_goto (tgt := 16) hx hb dX12_winner_70 (by decide) ?_
            exact ih16 x3 x6 z_15 x6_17 ls (lv_sub hl [4, 5, 1, 2, 0] rfl) h
          · have h := ie c_16 h
            refine lv_goto (tgt := 67) hx hb dX12_winner_56 (by decide) ?_
            obtain ⟨x6_18, e_x6_18⟩ : ∃ y : Int32, y = x6 + 1 := ⟨_, rfl⟩
            have h := bn e_x6_18 h
            refine lv_iinc (v := x6_18) (lv' := [(6, .int x6_18), (7, .int z_15), (0, .ref (A_m 0)), (3, .int x3), (4, .int x4), (5, .int x5)]) hx hb dX12_winner_67 hl (k := 5) rfl (by rw [e_x6_18]; rfl) (by decide) rfl (fun ls hl => ?_)
            refine lv_goto (tgt := 16) hx hb dX12_winner_70 (by decide) ?_
            exact ih16 x3 x4 x5 x6_18 ls (lv_sub hl [2, 3, 4, 5, 0] rfl) h
        · have h := it c_14 h
          refine lv_goto (tgt := 67) hx hb dX12_winner_37 (by decide) ?_
          obtain ⟨x6_19, e_x6_19⟩ : ∃ y : Int32, y = x6 + 1 := ⟨_, rfl⟩
          have h := bn e_x6_19 h
          refine lv_iinc (v := x6_19) (lv' := [(6, .int x6_19), (0, .ref (A_m 0)), (3, .int x3), (4, .int x4), (5, .int x5)]) hx hb dX12_winner_67 hl (k := 4) rfl (by rw [e_x6_19]; rfl) (by decide) rfl (fun ls hl => ?_)
          refine lv_goto (tgt := 16) hx hb dX12_winner_70 (by decide) ?_
          exact ih16 x3 x4 x5 x6_19 ls (lv_sub hl [1, 2, 3, 4, 0] rfl) h
  unfold f_X12_winner at h
  refine lv_aload_n hx hb dX12_winner_0 rfl (lv_at hl 0 rfl) ?_
  refine lv_iload_n hx hb dX12_winner_1 rfl (lv_at hl 1 rfl) ?_
  refine lv_iload_n hx hb dX12_winner_2 rfl (lv_at hl 2 rfl) ?_
  obtain ⟨z_20, e_z_20, h⟩ := bi h
  refine roVi (rest := []) ⟨hx, hb, hml, hown, ht⟩ (c_X12_candidatesOf l D cy fu A_m m_at m_names m_status m_top m_bottom m_sort m_trayMany m_trays m_tape m_text m_taped m_size m_token m_from m_end m_value m_faultKind m_faultPlace m_faults m_seen m_toldParts m_opened m_depth m_counted m_bestOrder m_standers m_has m_bestHas m_standerMany m_bestCouples m_bestFondness m_cameTo m_doesStandFirst m_stoodBy m_drawn m_ranSteps m_loops m_ran m_told1 m_isTold m_marks x1 x2 z_20 e_z_20) (cV ht mv_X12_candidatesOf tb_1594 rfl rfl ⟨Nat.le_of_ble_eq_true rfl, Nat.le_of_ble_eq_true rfl⟩) (P_sub hP [0] rfl) hX rfl rfl rfl hl.1 rfl (Nat.le_of_ble_eq_true rfl) dX12_winner_3 ⟨Nat.le_of_ble_eq_true rfl, Nat.le_of_ble_eq_true rfl⟩ ?_
  refine lv_istore_n (lv' := [(3, .int z_20), (0, .ref (A_m 0)), (1, .int x1), (2, .int x2)]) hx hb dX12_winner_6 rfl hl (by decide) rfl (fun ls hl => ?_)
  refine lv_iconst (v := (-1)) hx hb dX12_winner_7 (by decide) ?_
  refine lv_istore (lv' := [(4, .int (-1)), (3, .int z_20), (0, .ref (A_m 0)), (1, .int x1), (2, .int x2)]) hx hb dX12_winner_8 hl (by decide) rfl (fun ls hl => ?_)
  refine lv_iconst (v := (-1)) hx hb dX12_winner_10 (by decide) ?_
  refine lv_istore (lv' := [(5, .int (-1)), (4, .int (-1)), (3, .int z_20), (0, .ref (A_m 0)), (1, .int x1), (2, .int x2)]) hx hb dX12_winner_11 hl (by decide) rfl (fun ls hl => ?_)
  refine lv_iconst (v := 0) hx hb dX12_winner_13 (by decide) ?_
  refine lv_istore (lv' := [(6, .int 0), (5, .int (-1)), (4, .int (-1)), (3, .int z_20), (0, .ref (A_m 0)), (1, .int x1), (2, .int x2)]) hx hb dX12_winner_14 hl (by decide) rfl (fun ls hl => ?_)
  exact l16 fu z_20 (-1) (-1) 0 ls (lv_sub hl [4, 3, 2, 1, 0] rfl) h
