abbrev bl_X0 (cy : Nat → ClassId) (A : Nat → Nat) (v_name : Nat → Int64) (v_courage : Nat → Int32) (v_weight : Nat → Int32) (v_medals : Nat → Int32) (v_stood : Nat → Int32) (v_fled : Nat → Int32) (v_liked : Nat → Int32) (v_votes : Nat → Int32) (v_count : Int32) (v_living : Int32) (v_pride : Int32) (v_quota : Int32) (v_melted : Int32) (v_lost : Int32) : va_W := [(A 0, .inr (0, [.ref (A 1), .ref (A 2), .ref (A 3), .ref (A 4), .ref (A 5), .ref (A 6), .ref (A 7), .ref (A 8), .int v_count, .int v_living, .int v_pride, .int v_quota, .int v_melted, .int v_lost])), (A 1, .inl (cy 1, 8, .inr (.inl v_name))), (A 2, .inl (cy 0, 8, .inl v_courage)), (A 3, .inl (cy 0, 8, .inl v_weight)), (A 4, .inl (cy 0, 8, .inl v_medals)), (A 5, .inl (cy 0, 8, .inl v_stood)), (A 6, .inl (cy 0, 8, .inl v_fled)), (A 7, .inl (cy 0, 64, .inl v_liked)), (A 8, .inl (cy 0, 8, .inl v_votes))]
abbrev bl_X1 (cy : Nat → ClassId) (A : Nat → Nat) (r_in : Nat) (r_army : Nat) (v_prideTold : Int32) (v_quotaTold : Int32) : va_W := [(A 0, .inr (1, [.ref r_in, .ref r_army, .int v_prideTold, .int v_quotaTold]))]
abbrev bl_X2 (cy : Nat → ClassId) (A : Nat → Nat) (r_army : Nat) (r_war : Nat) (v_roundsLeft : Nat → Int32) (v_drawn : Int32) (v_fought : Int32) (v_steps : Int32) (v_missed : Int32) (v_stood : Int32) (v_fled : Int32) (v_pinned : Int32) (v_left : Int32) : va_W := [(A 0, .inr (2, [.ref (A 1), .ref r_army, .ref r_war, .int v_drawn, .int v_fought, .int v_steps, .int v_missed, .int v_stood, .int v_fled, .int v_pinned, .int v_left])), (A 1, .inl (cy 0, 60, .inl v_roundsLeft))]
abbrev bl_X4 (cy : Nat → ClassId) (A : Nat → Nat) (r_men : Nat) (v_sizes : Nat → Int32) (v_dangers : Int32) : va_W := [(A 0, .inr (3, [.ref r_men, .ref (A 1), .int v_dangers])), (A 1, .inl (cy 0, 4, .inl v_sizes))]
abbrev bl_X5 (cy : Nat → ClassId) (A : Nat → Nat) (r_army : Nat) (v_heroes : Nat → Int32) (v_tried : Nat → Int32) (v_chosen : Nat → Int32) (v_heroCount : Int32) (v_couples : Int32) (v_fondest : Int32) : va_W := [(A 0, .inr (4, [.ref (A 1), .ref (A 2), .ref (A 3), .ref r_army, .int v_heroCount, .int v_couples, .int v_fondest])), (A 1, .inl (cy 0, 8, .inl v_heroes)), (A 2, .inl (cy 0, 8, .inl v_tried)), (A 3, .inl (cy 0, 8, .inl v_chosen))]
abbrev bl_X6 (cy : Nat → ClassId) (A : Nat → Nat) (r_tape : Nat) (v_fault : Int32) (v_place : Int32) : va_W := [(A 0, .inr (5, [.ref r_tape, .int v_fault, .int v_place]))]
abbrev bl_X7 (cy : Nat → ClassId) (A : Nat → Nat) (v_bytes : Nat → Int32) (v_wordCodes : Nat → Int64) (v_length : Int32) (v_kind : Int32) (v_start : Int32) (v_value : Int32) (v_word : Int32) (v_name : Int64) (v_end : Int32) (v_at : Int32) : va_W := [(A 0, .inr (6, [.ref (A 1), .ref (A 2), .int v_length, .int v_kind, .int v_start, .int v_value, .int v_word, .long v_name, .int v_end, .int v_at])), (A 1, .inl (cy 2, 900, .inl v_bytes)), (A 2, .inl (cy 1, 19, .inr (.inl v_wordCodes)))]
abbrev bl_X8 (cy : Nat → ClassId) (A : Nat → Nat) (v_row : Nat → Int64) (v_missing : Int32) (v_sort : Int32) (v_many : Int32) : va_W := [(A 0, .inr (7, [.ref (A 1), .int v_missing, .int v_sort, .int v_many])), (A 1, .inl (cy 1, 60, .inr (.inl v_row)))]
abbrev bl_X9 (cy : Nat → ClassId) (A : Nat → Nat) (v_deed : Nat → Int32) (v_man : Nat → Int32) (v_other : Nat → Int32) (v_sign : Nat → Int32) (v_number : Nat → Int32) (v_mate : Nat → Int32) (v_there : Int32) (v_rows : Int32) (v_steps : Int32) : va_W := [(A 0, .inr (8, [.ref (A 1), .ref (A 2), .ref (A 3), .ref (A 4), .ref (A 5), .ref (A 6), .int v_there, .int v_rows, .int v_steps])), (A 1, .inl (cy 0, 60, .inl v_deed)), (A 2, .inl (cy 0, 60, .inl v_man)), (A 3, .inl (cy 0, 60, .inl v_other)), (A 4, .inl (cy 0, 60, .inl v_sign)), (A 5, .inl (cy 0, 60, .inl v_number)), (A 6, .inl (cy 0, 60, .inl v_mate))]
abbrev bl_X10 (cy : Nat → ClassId) (A : Nat → Nat) (r_in : Nat) (r_war : Nat) (r_army : Nat) (v_open : Nat → Int32) (v_depth : Int32) : va_W := [(A 0, .inr (9, [.ref r_in, .ref r_war, .ref r_army, .ref (A 1), .int v_depth])), (A 1, .inl (cy 0, 3, .inl v_open))]
abbrev bl_X12 (cy : Nat → ClassId) (A : Nat → Nat) (v_at : Nat → Int32) (v_names : Nat → Int64) (v_status : Int32) (v_top : Int64) (v_bottom : Int64) (v_sort : Nat → Int32) (v_trayMany : Nat → Int32) (v_trays : Nat → Int64) (v_tape : Nat → Int32) (v_text : Nat → Int32) (v_taped : Int32) (v_size : Int32) (v_token : Int32) (v_from : Int32) (v_end : Int32) (v_value : Int32) (v_faultKind : Int32) (v_faultPlace : Int32) (v_faults : Int32) (v_seen : Int32) (v_toldParts : Int32) (v_opened : Nat → Int32) (v_depth : Int32) (v_counted : Int32) (v_bestOrder : Int32) (v_standers : Nat → Int32) (v_has : Nat → Int32) (v_bestHas : Nat → Int32) (v_standerMany : Int32) (v_bestCouples : Int32) (v_bestFondness : Int32) (v_cameTo : Nat → Int32) (v_doesStandFirst : Int32) (v_stoodBy : Nat → Int64) (v_drawn : Int32) (v_ranSteps : Int32) (v_loops : Nat → Int32) (v_ran : Nat → Int32) (v_told1 : Nat → Int32) (v_isTold : Int32) (v_marks : Int32) : va_W := [(A 0, .inr (11, [.ref (A 1), .ref (A 2), .int v_status, .long v_top, .long v_bottom, .ref (A 3), .ref (A 4), .ref (A 5), .ref (A 6), .ref (A 7), .int v_taped, .int v_size, .int v_token, .int v_from, .int v_end, .int v_value, .int v_faultKind, .int v_faultPlace, .int v_faults, .int v_seen, .int v_toldParts, .ref (A 8), .int v_depth, .int v_counted, .int v_bestOrder, .ref (A 9), .ref (A 10), .ref (A 11), .int v_standerMany, .int v_bestCouples, .int v_bestFondness, .ref (A 12), .int v_doesStandFirst, .ref (A 13), .int v_drawn, .int v_ranSteps, .ref (A 14), .ref (A 15), .ref (A 16), .int v_isTold, .int v_marks])), (A 1, .inl (cy 0, 3648, .inl v_at)), (A 2, .inl (cy 1, 48, .inr (.inl v_names))), (A 3, .inl (cy 0, 4, .inl v_sort)), (A 4, .inl (cy 0, 4, .inl v_trayMany)), (A 5, .inl (cy 1, 240, .inr (.inl v_trays))), (A 6, .inl (cy 2, 900, .inl v_tape)), (A 7, .inl (cy 2, 900, .inl v_text)), (A 8, .inl (cy 0, 3, .inl v_opened)), (A 9, .inl (cy 0, 8, .inl v_standers)), (A 10, .inl (cy 0, 8, .inl v_has)), (A 11, .inl (cy 0, 8, .inl v_bestHas)), (A 12, .inl (cy 0, 16, .inl v_cameTo)), (A 13, .inl (cy 1, 10, .inr (.inl v_stoodBy))), (A 14, .inl (cy 0, 80, .inl v_loops)), (A 15, .inl (cy 0, 5, .inl v_ran)), (A 16, .inl (cy 0, 5, .inl v_told1))]
theorem dX12_manRow_0 : decode cX12_manRow 0 = .ok (.bipush 8, 2) := by decide +kernel
theorem dX12_manRow_2 : decode cX12_manRow 2 = .ok (.bipush 14, 2) := by decide +kernel
theorem dX12_manRow_4 : decode cX12_manRow 4 = .ok (.iload_n 0, 1) := by decide +kernel
theorem dX12_manRow_5 : decode cX12_manRow 5 = .ok (.imul, 1) := by decide +kernel
theorem dX12_manRow_6 : decode cX12_manRow 6 = .ok (.iadd, 1) := by decide +kernel
theorem dX12_manRow_7 : decode cX12_manRow 7 = .ok (.ireturn, 1) := by decide +kernel
theorem ms_X12_manRow : MS yX12_manRow cX12_manRow 1 (some .int) 1 := ⟨tb_1228, tb_1227, tb_16, by decide +kernel, by decide +kernel, by decide +kernel⟩
def f_X12_manRow (fu : Nat) (x0 : Int32) : Option (Int32) := some (8 + (14 * x0))
abbrev rm_X12_manRow : Room := { frames := 0, cells := 0, slots := 0, locals := 0 }
set_option maxHeartbeats 4000000 in
set_option maxRecDepth 100000 in
theorem c_X12_manRow (l : Launch) (D : va_G) (cy : Nat → ClassId) (fu : Nat) (x0 : Int32) (res : Int32) (h : f_X12_manRow fu x0 = some res) : Met l yX12_manRow (WW yX12_manRow cX12_manRow 1 (some .int)) rm_X12_manRow (Rd D cy [.int x0] []) (vp_Si (fun v => v = res)) 0 0 (fun _ => False) := by
  refine Met.ofW (cc := cX12_manRow) (maxL := 1) (ret := (some .int)) (by decide) rfl ?_
  intro p e s m args below meth c s₁ B hml hv
  obtain ⟨hargs, hP, hX⟩ := hv
  have hx := B.exec
  have hb := B.bytes
  have hr := B.returns
  have ht : ∀ w ∈ lw_gd, w.before args s = true := fun w hw => atoms_spec (ws := WW yX12_manRow cX12_manRow 1 (some .int)) B.pre w (List.mem_cons_of_mem _ hw)
  have hown : s.vm.findClass RX12 = some m.cls := findClass_of_methodNamed B.named
  have hlocks := B.notSynchronized
  have hP : PB D [] s.heap := hP
  obtain ⟨ls, hl, hent⟩ := ent (m := m) (n := 1) hargs (Nat.le_of_ble_eq_true rfl) (lv := [(0, .int x0)]) rfl
  rw [hent]
  clear hent
  unfold f_X12_manRow at h
  refine lv_bipush (v := 8) hx hb dX12_manRow_0 (by decide) ?_
  refine lv_bipush (v := 14) hx hb dX12_manRow_2 (by decide) ?_
  refine lv_iload_n hx hb dX12_manRow_4 rfl (lv_at hl 0 rfl) ?_
  refine lv_imul hx hb dX12_manRow_5 ?_
  refine lv_iadd hx hb dX12_manRow_6 ?_
  cases h
  exact W.iret hx hb hr (fun _ ht9 _ => ⟨_, rfl, rfl, ht9⟩) (fun _ hq => by cases hq) dX12_manRow_7
theorem dX12_plain_0 : decode cX12_plain 0 = .ok (.iconst 0, 1) := by decide +kernel
theorem dX12_plain_1 : decode cX12_plain 1 = .ok (.istore_n 2, 1) := by decide +kernel
theorem dX12_plain_2 : decode cX12_plain 2 = .ok (.iload_n 2, 1) := by decide +kernel
theorem dX12_plain_3 : decode cX12_plain 3 = .ok (.sipush 488, 3) := by decide +kernel
theorem dX12_plain_6 : decode cX12_plain 6 = .ok (.if_icmp .ge 18, 3) := by decide +kernel
theorem dX12_plain_9 : decode cX12_plain 9 = .ok (.aload_n 0, 1) := by decide +kernel
theorem dX12_plain_10 : decode cX12_plain 10 = .ok (.getfield 7, 3) := by decide +kernel
theorem dX12_plain_13 : decode cX12_plain 13 = .ok (.iload_n 1, 1) := by decide +kernel
theorem dX12_plain_14 : decode cX12_plain 14 = .ok (.iload_n 2, 1) := by decide +kernel
theorem dX12_plain_15 : decode cX12_plain 15 = .ok (.iadd, 1) := by decide +kernel
theorem dX12_plain_16 : decode cX12_plain 16 = .ok (.iconst 0, 1) := by decide +kernel
theorem dX12_plain_17 : decode cX12_plain 17 = .ok (.iastore, 1) := by decide +kernel
theorem dX12_plain_18 : decode cX12_plain 18 = .ok (.iinc 2 1, 3) := by decide +kernel
theorem dX12_plain_21 : decode cX12_plain 21 = .ok (.goto (-19), 3) := by decide +kernel
theorem dX12_plain_24 : decode cX12_plain 24 = .ok (.aload_n 0, 1) := by decide +kernel
theorem dX12_plain_25 : decode cX12_plain 25 = .ok (.getfield 7, 3) := by decide +kernel
theorem dX12_plain_28 : decode cX12_plain 28 = .ok (.iload_n 1, 1) := by decide +kernel
theorem dX12_plain_29 : decode cX12_plain 29 = .ok (.iconst 1, 1) := by decide +kernel
theorem dX12_plain_30 : decode cX12_plain 30 = .ok (.iadd, 1) := by decide +kernel
theorem dX12_plain_31 : decode cX12_plain 31 = .ok (.iconst 1, 1) := by decide +kernel
theorem dX12_plain_32 : decode cX12_plain 32 = .ok (.iastore, 1) := by decide +kernel
theorem dX12_plain_33 : decode cX12_plain 33 = .ok (.aload_n 0, 1) := by decide +kernel
theorem dX12_plain_34 : decode cX12_plain 34 = .ok (.getfield 7, 3) := by decide +kernel
theorem dX12_plain_37 : decode cX12_plain 37 = .ok (.iload_n 1, 1) := by decide +kernel
theorem dX12_plain_38 : decode cX12_plain 38 = .ok (.iconst 2, 1) := by decide +kernel
theorem dX12_plain_39 : decode cX12_plain 39 = .ok (.iadd, 1) := by decide +kernel
theorem dX12_plain_40 : decode cX12_plain 40 = .ok (.bipush 50, 2) := by decide +kernel
theorem dX12_plain_42 : decode cX12_plain 42 = .ok (.iastore, 1) := by decide +kernel
theorem dX12_plain_43 : decode cX12_plain 43 = .ok (.aload_n 0, 1) := by decide +kernel
theorem dX12_plain_44 : decode cX12_plain 44 = .ok (.getfield 7, 3) := by decide +kernel
theorem dX12_plain_47 : decode cX12_plain 47 = .ok (.iload_n 1, 1) := by decide +kernel
theorem dX12_plain_48 : decode cX12_plain 48 = .ok (.iconst 5, 1) := by decide +kernel
theorem dX12_plain_49 : decode cX12_plain 49 = .ok (.iadd, 1) := by decide +kernel
theorem dX12_plain_50 : decode cX12_plain 50 = .ok (.iconst (-1), 1) := by decide +kernel
theorem dX12_plain_51 : decode cX12_plain 51 = .ok (.iastore, 1) := by decide +kernel
theorem dX12_plain_52 : decode cX12_plain 52 = .ok (.iconst 0, 1) := by decide +kernel
theorem dX12_plain_53 : decode cX12_plain 53 = .ok (.istore_n 2, 1) := by decide +kernel
theorem dX12_plain_54 : decode cX12_plain 54 = .ok (.iload_n 2, 1) := by decide +kernel
theorem dX12_plain_55 : decode cX12_plain 55 = .ok (.bipush 8, 2) := by decide +kernel
theorem dX12_plain_57 : decode cX12_plain 57 = .ok (.if_icmp .ge 49, 3) := by decide +kernel
theorem dX12_plain_60 : decode cX12_plain 60 = .ok (.iconst 0, 1) := by decide +kernel
theorem dX12_plain_61 : decode cX12_plain 61 = .ok (.istore_n 3, 1) := by decide +kernel
theorem dX12_plain_62 : decode cX12_plain 62 = .ok (.iload_n 3, 1) := by decide +kernel
theorem dX12_plain_63 : decode cX12_plain 63 = .ok (.bipush 8, 2) := by decide +kernel
theorem dX12_plain_65 : decode cX12_plain 65 = .ok (.if_icmp .ge 35, 3) := by decide +kernel
theorem dX12_plain_68 : decode cX12_plain 68 = .ok (.aload_n 0, 1) := by decide +kernel
theorem dX12_plain_69 : decode cX12_plain 69 = .ok (.getfield 7, 3) := by decide +kernel
theorem dX12_plain_72 : decode cX12_plain 72 = .ok (.iload_n 1, 1) := by decide +kernel
theorem dX12_plain_73 : decode cX12_plain 73 = .ok (.iload_n 2, 1) := by decide +kernel
theorem dX12_plain_74 : decode cX12_plain 74 = .ok (.invokestatic 75, 3) := by decide +kernel
theorem dX12_plain_77 : decode cX12_plain 77 = .ok (.iadd, 1) := by decide +kernel
theorem dX12_plain_78 : decode cX12_plain 78 = .ok (.bipush 6, 2) := by decide +kernel
theorem dX12_plain_80 : decode cX12_plain 80 = .ok (.iadd, 1) := by decide +kernel
theorem dX12_plain_81 : decode cX12_plain 81 = .ok (.iload_n 3, 1) := by decide +kernel
theorem dX12_plain_82 : decode cX12_plain 82 = .ok (.iadd, 1) := by decide +kernel
theorem dX12_plain_83 : decode cX12_plain 83 = .ok (.iload_n 2, 1) := by decide +kernel
theorem dX12_plain_84 : decode cX12_plain 84 = .ok (.iload_n 3, 1) := by decide +kernel
theorem dX12_plain_85 : decode cX12_plain 85 = .ok (.if_icmp .ne 7, 3) := by decide +kernel
theorem dX12_plain_88 : decode cX12_plain 88 = .ok (.iconst 0, 1) := by decide +kernel
theorem dX12_plain_89 : decode cX12_plain 89 = .ok (.goto 4, 3) := by decide +kernel
theorem dX12_plain_92 : decode cX12_plain 92 = .ok (.iconst 5, 1) := by decide +kernel
theorem dX12_plain_93 : decode cX12_plain 93 = .ok (.iastore, 1) := by decide +kernel
theorem dX12_plain_94 : decode cX12_plain 94 = .ok (.iinc 3 1, 3) := by decide +kernel
theorem dX12_plain_97 : decode cX12_plain 97 = .ok (.goto (-35), 3) := by decide +kernel
theorem dX12_plain_100 : decode cX12_plain 100 = .ok (.iinc 2 1, 3) := by decide +kernel
theorem dX12_plain_103 : decode cX12_plain 103 = .ok (.goto (-49), 3) := by decide +kernel
theorem dX12_plain_106 : decode cX12_plain 106 = .ok (.return_, 1) := by decide +kernel
theorem mv_X12_plain : MV yX12_plain RX12 cX12_plain 4 none 1 := ⟨tb_1225, tb_1224, ts_39, tb_16, by decide +kernel, by decide +kernel, by decide +kernel⟩
def f_X12_plain_b62 (fu : Nat) (x1 : Int32) (k54 : (Nat → Int32) → Int32 → (Option ((Nat → Int32)))) (k62 : (Nat → Int32) → Int32 → Int32 → (Option ((Nat → Int32)))) (m_at : Nat → Int32) (x2 : Int32) (x3 : Int32) : Option ((Nat → Int32)) := (if 8 ≤ x3 then bnd (x2 + 1) fun x2_17 => k54 m_at x2_17 else (f_X12_manRow fu x2).bind fun z_18 => (if x2 = x3 then (wrI m_at 3648 (((x1 + z_18) + 6) + x3) 0).bind fun m_at_22 => bnd (x3 + 1) fun x3_23 => k62 m_at_22 x2 x3_23 else (wrI m_at 3648 (((x1 + z_18) + 6) + x3) 5).bind fun m_at_20 => bnd (x3 + 1) fun x3_21 => k62 m_at_20 x2 x3_21))
def f_X12_plain_l62 (fu : Nat) (x1 : Int32) (k54 : (Nat → Int32) → Int32 → (Option ((Nat → Int32)))) : Nat → (Nat → Int32) → Int32 → Int32 → (Option ((Nat → Int32)))
  | 0, _, _, _ => none
  | n + 1, m_at, x2, x3 => f_X12_plain_b62 fu x1 k54 (f_X12_plain_l62 fu x1 k54 n) m_at x2 x3
def f_X12_plain_b54 (fu : Nat) (x1 : Int32) (k54 : (Nat → Int32) → Int32 → (Option ((Nat → Int32)))) (m_at : Nat → Int32) (x2 : Int32) : Option ((Nat → Int32)) := (if 8 ≤ x2 then some (m_at) else f_X12_plain_l62 fu x1 k54 fu m_at x2 0)
def f_X12_plain_l54 (fu : Nat) (x1 : Int32) : Nat → (Nat → Int32) → Int32 → (Option ((Nat → Int32)))
  | 0, _, _ => none
  | n + 1, m_at, x2 => f_X12_plain_b54 fu x1 (f_X12_plain_l54 fu x1 n) m_at x2
def f_X12_plain_b2 (fu : Nat) (x1 : Int32) (k2 : (Nat → Int32) → Int32 → (Option ((Nat → Int32)))) (m_at : Nat → Int32) (x2 : Int32) : Option ((Nat → Int32)) := (if 488 ≤ x2 then (wrI m_at 3648 (x1 + 1) 1).bind fun m_at_26 => (wrI m_at_26 3648 (x1 + 2) 50).bind fun m_at_27 => (wrI m_at_27 3648 (x1 + 5) (-1)).bind fun m_at_28 => f_X12_plain_l54 fu x1 fu m_at_28 0 else (wrI m_at 3648 (x1 + x2) 0).bind fun m_at_29 => bnd (x2 + 1) fun x2_30 => k2 m_at_29 x2_30)
def f_X12_plain_l2 (fu : Nat) (x1 : Int32) : Nat → (Nat → Int32) → Int32 → (Option ((Nat → Int32)))
  | 0, _, _ => none
  | n + 1, m_at, x2 => f_X12_plain_b2 fu x1 (f_X12_plain_l2 fu x1 n) m_at x2
def f_X12_plain (fu : Nat) (m_at : Nat → Int32) (x1 : Int32) : Option ((Nat → Int32)) := f_X12_plain_l2 fu x1 fu m_at 0
abbrev rm_X12_plain : Room := { frames := 1, cells := 0, slots := 0, locals := 20 }
set_option maxHeartbeats 4000000 in
set_option maxRecDepth 100000 in
theorem c_X12_plain (l : Launch) (D : va_G) (cy : Nat → ClassId) (fu : Nat) (A_m : Nat → Nat) (m_at : Nat → Int32) (m_names : Nat → Int64) (m_status : Int32) (m_top : Int64) (m_bottom : Int64) (m_sort : Nat → Int32) (m_trayMany : Nat → Int32) (m_trays : Nat → Int64) (m_tape : Nat → Int32) (m_text : Nat → Int32) (m_taped : Int32) (m_size : Int32) (m_token : Int32) (m_from : Int32) (m_end : Int32) (m_value : Int32) (m_faultKind : Int32) (m_faultPlace : Int32) (m_faults : Int32) (m_seen : Int32) (m_toldParts : Int32) (m_opened : Nat → Int32) (m_depth : Int32) (m_counted : Int32) (m_bestOrder : Int32) (m_standers : Nat → Int32) (m_has : Nat → Int32) (m_bestHas : Nat → Int32) (m_standerMany : Int32) (m_bestCouples : Int32) (m_bestFondness : Int32) (m_cameTo : Nat → Int32) (m_doesStandFirst : Int32) (m_stoodBy : Nat → Int64) (m_drawn : Int32) (m_ranSteps : Int32) (m_loops : Nat → Int32) (m_ran : Nat → Int32) (m_told1 : Nat → Int32) (m_isTold : Int32) (m_marks : Int32) (x1 : Int32) (res : (Nat → Int32)) (h : f_X12_plain fu m_at x1 = some res) (A : Nat → Prop) (hA : A = adr [bl_X12 cy A_m m_at m_names m_status m_top m_bottom m_sort m_trayMany m_trays m_tape m_text m_taped m_size m_token m_from m_end m_value m_faultKind m_faultPlace m_faults m_seen m_toldParts m_opened m_depth m_counted m_bestOrder m_standers m_has m_bestHas m_standerMany m_bestCouples m_bestFondness m_cameTo m_doesStandFirst m_stoodBy m_drawn m_ranSteps m_loops m_ran m_told1 m_isTold m_marks]) (W1 : List va_W) (hW1 : W1 = [bl_X12 cy A_m res m_names m_status m_top m_bottom m_sort m_trayMany m_trays m_tape m_text m_taped m_size m_token m_from m_end m_value m_faultKind m_faultPlace m_faults m_seen m_toldParts m_opened m_depth m_counted m_bestOrder m_standers m_has m_bestHas m_standerMany m_bestCouples m_bestFondness m_cameTo m_doesStandFirst m_stoodBy m_drawn m_ranSteps m_loops m_ran m_told1 m_isTold m_marks]) : Met l yX12_plain (WW yX12_plain cX12_plain 4 none) rm_X12_plain (Ed D cy [.ref (A_m 0), .int x1] [bl_X12 cy A_m m_at m_names m_status m_top m_bottom m_sort m_trayMany m_trays m_tape m_text m_taped m_size m_token m_from m_end m_value m_faultKind m_faultPlace m_faults m_seen m_toldParts m_opened m_depth m_counted m_bestOrder m_standers m_has m_bestHas m_standerMany m_bestCouples m_bestFondness m_cameTo m_doesStandFirst m_stoodBy m_drawn m_ranSteps m_loops m_ran m_told1 m_isTold m_marks]) (Qev D A W1) 0 0 A := by
  refine Met.ofW (cc := cX12_plain) (maxL := 4) (ret := none) (by decide) rfl ?_
  intro p e s m args below meth c s₁ B hml hv
  obtain ⟨hargs, hP, hX, hD0⟩ := hv
  have hx := B.exec
  have hb := B.bytes
  have hr := B.returns
  have ht : ∀ w ∈ lw_gd, w.before args s = true := fun w hw => atoms_spec (ws := WW yX12_plain cX12_plain 4 none) B.pre w (List.mem_cons_of_mem _ hw)
  have hown : s.vm.findClass RX12 = some m.cls := findClass_of_methodNamed B.named
  have hlocks := B.notSynchronized
  have hP : PD D A [bl_X12 cy A_m m_at m_names m_status m_top m_bottom m_sort m_trayMany m_trays m_tape m_text m_taped m_size m_token m_from m_end m_value m_faultKind m_faultPlace m_faults m_seen m_toldParts m_opened m_depth m_counted m_bestOrder m_standers m_has m_bestHas m_standerMany m_bestCouples m_bestFondness m_cameTo m_doesStandFirst m_stoodBy m_drawn m_ranSteps m_loops m_ran m_told1 m_isTold m_marks] s.heap := ⟨hP, by rw [hA]; exact hD0.own⟩
  have hS : va_S A s.heap s.heap [] := va_S.rf
  obtain ⟨ls, hl, hent⟩ := ent (m := m) (n := 4) hargs (Nat.le_of_ble_eq_true rfl) (lv := [(0, .ref (A_m 0)), (1, .int x1)]) rfl
  rw [hent]
  clear hent
  have l54 : ∀ (n54 : Nat) (m_at : Nat → Int32) (x2 : Int32) (H : Heap) (locs : List Loc) (_ : PD D A [bl_X12 cy A_m m_at m_names m_status m_top m_bottom m_sort m_trayMany m_trays m_tape m_text m_taped m_size m_token m_from m_end m_value m_faultKind m_faultPlace m_faults m_seen m_toldParts m_opened m_depth m_counted m_bestOrder m_standers m_has m_bestHas m_standerMany m_bestCouples m_bestFondness m_cameTo m_doesStandFirst m_stoodBy m_drawn m_ranSteps m_loops m_ran m_told1 m_isTold m_marks] H) (_ : va_S A s.heap H locs) (ls : Array Slot), lv_has ls 4 [(0, .ref (A_m 0)), (1, .int x1), (2, .int x2)] → f_X12_plain_l54 fu x1 n54 m_at x2 = some res → W p l e (headSpec (WW yX12_plain cX12_plain 4 none) rm_X12_plain).room s m args below meth c H locs 0 0 (MQ below (Qev D A W1) args s 0 0 A) (F0 m 54 ls []) := by
    intro n54
    induction n54 with
    | zero => intro m_at x2 H locs hP hS ls hl h; cases h
    | succ n54 ih54 =>
      have l62 : ∀ (n62 : Nat) (m_at : Nat → Int32) (x2 : Int32) (x3 : Int32) (H : Heap) (locs : List Loc) (_ : PD D A [bl_X12 cy A_m m_at m_names m_status m_top m_bottom m_sort m_trayMany m_trays m_tape m_text m_taped m_size m_token m_from m_end m_value m_faultKind m_faultPlace m_faults m_seen m_toldParts m_opened m_depth m_counted m_bestOrder m_standers m_has m_bestHas m_standerMany m_bestCouples m_bestFondness m_cameTo m_doesStandFirst m_stoodBy m_drawn m_ranSteps m_loops m_ran m_told1 m_isTold m_marks] H) (_ : va_S A s.heap H locs) (ls : Array Slot), lv_has ls 4 [(0, .ref (A_m 0)), (1, .int x1), (2, .int x2), (3, .int x3)] → f_X12_plain_l62 fu x1 (f_X12_plain_l54 fu x1 n54) n62 m_at x2 x3 = some res → W p l e (headSpec (WW yX12_plain cX12_plain 4 none) rm_X12_plain).room s m args below meth c H locs 0 0 (MQ below (Qev D A W1) args s 0 0 A) (F0 m 62 ls []) := by
        intro n62
        induction n62 with
        | zero => intro m_at x2 x3 H locs hP hS ls hl h; cases h
        | succ n62 ih62 =>
          intro m_at x2 x3 H locs hP hS ls hl h
          have h : f_X12_plain_b62 fu x1 (f_X12_plain_l54 fu x1 n54) (f_X12_plain_l62 fu x1 (f_X12_plain_l54 fu x1 n54) n62) m_at x2 x3 = some res := h
          unfold f_X12_plain_b62 at h
          refine lv_iload_n hx hb dX12_plain_62 rfl (lv_at hl 3 rfl) ?_
          refine lv_bipush (v := 8) hx hb dX12_plain_63 (by decide) ?_
          refine lv_icmp_ge (tgt := 100) hx hb dX12_plain_65 (by decide) (fun c_16 => ?_) (fun c_16 => ?_)
          · have h := it c_16 h
            obtain ⟨x2_17, e_x2_17⟩ : ∃ y : Int32, y = x2 + 1 := ⟨_, rfl⟩
            have h := bn e_x2_17 h
            refine lv_iinc (v := x2_17) (lv' := [(2, .int x2_17), (0, .ref (A_m 0)), (1, .int x1), (3, .int x3)]) hx hb dX12_plain_100 hl (k := 2) rfl (by rw [e_x2_17]; rfl) (by decide) rfl (fun ls hl => ?_)
            refine lv_goto (tgt := 54) hx hb dX12_plain_103 (by decide) ?_
            exact ih54 m_at x2_17 _ _ hP hS ls (lv_sub hl [1, 2, 0] rfl) h
          · have h := ie c_16 h
            refine lv_aload_n hx hb dX12_plain_68 rfl (lv_at hl 0 rfl) ?_
            refine xget (i := 0) (j := 0) (k := 0) (T := TX12) hx hb ht tb_iX12 hown hX hP.1 rfl rfl rfl (by decide) tb_1229 rfl dX12_plain_69 ?_
            refine lv_iload_n hx hb dX12_plain_72 rfl (lv_at hl 1 rfl) ?_
            refine lv_iload_n hx hb dX12_plain_73 rfl (lv_at hl 2 rfl) ?_
            obtain ⟨z_18, e_z_18, h⟩ := bi h
            refine roSi (rest := [.int x1, .ref (A_m 1)]) ⟨hx, hb, hml, hown, ht⟩ (c_X12_manRow l D cy fu  x2 z_18 e_z_18) (cS ht ms_X12_manRow tb_1226 rfl rfl ⟨Nat.le_of_ble_eq_true rfl, Nat.le_of_ble_eq_true rfl⟩) (P_sub hP.1 [] rfl) hX rfl hl.1 rfl (Nat.le_of_ble_eq_true rfl) dX12_plain_74 ⟨Nat.le_of_ble_eq_true rfl, Nat.le_of_ble_eq_true rfl⟩ ?_
            refine lv_iadd hx hb dX12_plain_77 ?_
            refine lv_bipush (v := 6) hx hb dX12_plain_78 (by decide) ?_
            refine lv_iadd hx hb dX12_plain_80 ?_
            refine lv_iload_n hx hb dX12_plain_81 rfl (lv_at hl 3 rfl) ?_
            refine lv_iadd hx hb dX12_plain_82 ?_
            refine lv_iload_n hx hb dX12_plain_83 rfl (lv_at hl 2 rfl) ?_
            refine lv_iload_n hx hb dX12_plain_84 rfl (lv_at hl 3 rfl) ?_
            refine lv_icmp_ne (tgt := 92) hx hb dX12_plain_85 (by decide) (fun c_19 => ?_) (fun c_19 => ?_)
            · have h := ie c_19 h
              refine lv_iconst (v := 5) hx hb dX12_plain_92 (by decide) ?_
              obtain ⟨m_at_20, e_m_at_20, h⟩ := bi h
              refine xiast (i0 := 0) (j0 := 1) hx hb hX hP hS rfl rfl e_m_at_20 dX12_plain_93 (fun H locs hP hS => ?_)
              have hP : PD D A [bl_X12 cy A_m m_at_20 m_names m_status m_top m_bottom m_sort m_trayMany m_trays m_tape m_text m_taped m_size m_token m_from m_end m_value m_faultKind m_faultPlace m_faults m_seen m_toldParts m_opened m_depth m_counted m_bestOrder m_standers m_has m_bestHas m_standerMany m_bestCouples m_bestFondness m_cameTo m_doesStandFirst m_stoodBy m_drawn m_ranSteps m_loops m_ran m_told1 m_isTold m_marks] H := hP
              obtain ⟨x3_21, e_x3_21⟩ : ∃ y : Int32, y = x3 + 1 := ⟨_, rfl⟩
              have h := bn e_x3_21 h
              refine lv_iinc (v := x3_21) (lv' := [(3, .int x3_21), (0, .ref (A_m 0)), (1, .int x1), (2, .int x2)]) hx hb dX12_plain_94 hl (k := 3) rfl (by rw [e_x3_21]; rfl) (by decide) rfl (fun ls hl => ?_)
              refine lv_goto (tgt := 62) hx hb dX12_plain_97 (by decide) ?_
              exact ih62 m_at_20 x2 x3_21 _ _ hP hS ls (lv_sub hl [1, 2, 3, 0] rfl) h
            · have h := it c_19 h
              refine lv_iconst (v := 0) hx hb dX12_plain_88 (by decide) ?_
              refine lv_goto (tgt := 93) hx hb dX12_plain_89 (by decide) ?_
              obtain ⟨m_at_22, e_m_at_22, h⟩ := bi h
              refine xiast (i0 := 0) (j0 := 1) hx hb hX hP hS rfl rfl e_m_at_22 dX12_plain_93 (fun H locs hP hS => ?_)
              have hP : PD D A [bl_X12 cy A_m m_at_22 m_names m_status m_top m_bottom m_sort m_trayMany m_trays m_tape m_text m_taped m_size m_token m_from m_end m_value m_faultKind m_faultPlace m_faults m_seen m_toldParts m_opened m_depth m_counted m_bestOrder m_standers m_has m_bestHas m_standerMany m_bestCouples m_bestFondness m_cameTo m_doesStandFirst m_stoodBy m_drawn m_ranSteps m_loops m_ran m_told1 m_isTold m_marks] H := hP
              obtain ⟨x3_23, e_x3_23⟩ : ∃ y : Int32, y = x3 + 1 := ⟨_, rfl⟩
              have h := bn e_x3_23 h
              refine lv_iinc (v := x3_23) (lv' := [(3, .int x3_23), (0, .ref (A_m 0)), (1, .int x1), (2, .int x2)]) hx hb dX12_plain_94 hl (k := 3) rfl (by rw [e_x3_23]; rfl) (by decide) rfl (fun ls hl => ?_)
              refine lv_goto (tgt := 62) hx hb dX12_plain_97 (by decide) ?_
              exact ih62 m_at_22 x2 x3_23 _ _ hP hS ls (lv_sub hl [1, 2, 3, 0] rfl) h
      intro m_at x2 H locs hP hS ls hl h
      have h : f_X12_plain_b54 fu x1 (f_X12_plain_l54 fu x1 n54) m_at x2 = some res := h
      unfold f_X12_plain_b54 at h
      refine lv_iload_n hx hb dX12_plain_54 rfl (lv_at hl 2 rfl) ?_
      refine lv_bipush (v := 8) hx hb dX12_plain_55 (by decide) ?_
      refine lv_icmp_ge (tgt := 106) hx hb dX12_plain_57 (by decide) (fun c_24 => ?_) (fun c_24 => ?_)
      · have h := it c_24 h
        cases h
        subst hW1
        exact W.vret hx hb hr (fun _ ht9 _ => ⟨⟨(), rfl, trivial, hPt ht9 hP.1⟩, hS.F ht9⟩) hS.2.2 dX12_plain_106
      · have h := ie c_24 h
        refine lv_iconst (v := 0) hx hb dX12_plain_60 (by decide) ?_
        refine lv_istore_n (lv' := [(3, .int 0), (0, .ref (A_m 0)), (1, .int x1), (2, .int x2)]) hx hb dX12_plain_61 rfl hl (by decide) rfl (fun ls hl => ?_)
        exact l62 fu m_at x2 0 _ _ hP hS ls (lv_sub hl [1, 2, 3, 0] rfl) h
  have l2 : ∀ (n2 : Nat) (m_at : Nat → Int32) (x2 : Int32) (H : Heap) (locs : List Loc) (_ : PD D A [bl_X12 cy A_m m_at m_names m_status m_top m_bottom m_sort m_trayMany m_trays m_tape m_text m_taped m_size m_token m_from m_end m_value m_faultKind m_faultPlace m_faults m_seen m_toldParts m_opened m_depth m_counted m_bestOrder m_standers m_has m_bestHas m_standerMany m_bestCouples m_bestFondness m_cameTo m_doesStandFirst m_stoodBy m_drawn m_ranSteps m_loops m_ran m_told1 m_isTold m_marks] H) (_ : va_S A s.heap H locs) (ls : Array Slot), lv_has ls 4 [(0, .ref (A_m 0)), (1, .int x1), (2, .int x2)] → f_X12_plain_l2 fu x1 n2 m_at x2 = some res → W p l e (headSpec (WW yX12_plain cX12_plain 4 none) rm_X12_plain).room s m args below meth c H locs 0 0 (MQ below (Qev D A W1) args s 0 0 A) (F0 m 2 ls []) := by
    intro n2
    induction n2 with
    | zero => intro m_at x2 H locs hP hS ls hl h; cases h
    | succ n2 ih2 =>
      intro m_at x2 H locs hP hS ls hl h
      have h : f_X12_plain_b2 fu x1 (f_X12_plain_l2 fu x1 n2) m_at x2 = some res := h
      unfold f_X12_plain_b2 at h
      refine lv_iload_n hx hb dX12_plain_2 rfl (lv_at hl 2 rfl) ?_
      refine lv_sipush (v := 488) hx hb dX12_plain_3 (by decide) ?_
      refine lv_icmp_ge (tgt := 24) hx hb dX12_plain_6 (by decide) (fun c_25 => ?_) (fun c_25 => ?_)
      · have h := it c_25 h
        refine lv_aload_n hx hb dX12_plain_24 rfl (lv_at hl 0 rfl) ?_
        refine xget (i := 0) (j := 0) (k := 0) (T := TX12) hx hb ht tb_iX12 hown hX hP.1 rfl rfl rfl (by decide) tb_1229 rfl dX12_plain_25 ?_
        refine lv_iload_n hx hb dX12_plain_28 rfl (lv_at hl 1 rfl) ?_
        refine lv_iconst (v := 1) hx hb dX12_plain_29 (by decide) ?_
        refine lv_iadd hx hb dX12_plain_30 ?_
        refine lv_iconst (v := 1) hx hb dX12_plain_31 (by decide) ?_
        obtain ⟨m_at_26, e_m_at_26, h⟩ := bi h
        refine xiast (i0 := 0) (j0 := 1) hx hb hX hP hS rfl rfl e_m_at_26 dX12_plain_32 (fun H locs hP hS => ?_)
        have hP : PD D A [bl_X12 cy A_m m_at_26 m_names m_status m_top m_bottom m_sort m_trayMany m_trays m_tape m_text m_taped m_size m_token m_from m_end m_value m_faultKind m_faultPlace m_faults m_seen m_toldParts m_opened m_depth m_counted m_bestOrder m_standers m_has m_bestHas m_standerMany m_bestCouples m_bestFondness m_cameTo m_doesStandFirst m_stoodBy m_drawn m_ranSteps m_loops m_ran m_told1 m_isTold m_marks] H := hP
        refine lv_aload_n hx hb dX12_plain_33 rfl (lv_at hl 0 rfl) ?_
        refine xget (i := 0) (j := 0) (k := 0) (T := TX12) hx hb ht tb_iX12 hown hX hP.1 rfl rfl rfl (by decide) tb_1229 rfl dX12_plain_34 ?_
        refine lv_iload_n hx hb dX12_plain_37 rfl (lv_at hl 1 rfl) ?_
        refine lv_iconst (v := 2) hx hb dX12_plain_38 (by decide) ?_
        refine lv_iadd hx hb dX12_plain_39 ?_
        refine lv_bipush (v := 50) hx hb dX12_plain_40 (by decide) ?_
        obtain ⟨m_at_27, e_m_at_27, h⟩ := bi h
        refine xiast (i0 := 0) (j0 := 1) hx hb hX hP hS rfl rfl e_m_at_27 dX12_plain_42 (fun H locs hP hS => ?_)
        have hP : PD D A [bl_X12 cy A_m m_at_27 m_names m_status m_top m_bottom m_sort m_trayMany m_trays m_tape m_text m_taped m_size m_token m_from m_end m_value m_faultKind m_faultPlace m_faults m_seen m_toldParts m_opened m_depth m_counted m_bestOrder m_standers m_has m_bestHas m_standerMany m_bestCouples m_bestFondness m_cameTo m_doesStandFirst m_stoodBy m_drawn m_ranSteps m_loops m_ran m_told1 m_isTold m_marks] H := hP
        refine lv_aload_n hx hb dX12_plain_43 rfl (lv_at hl 0 rfl) ?_
        refine xget (i := 0) (j := 0) (k := 0) (T := TX12) hx hb ht tb_iX12 hown hX hP.1 rfl rfl rfl (by decide) tb_1229 rfl dX12_plain_44 ?_
        refine lv_iload_n hx hb dX12_plain_47 rfl (lv_at hl 1 rfl) ?_
        refine lv_iconst (v := 5) hx hb dX12_plain_48 (by decide) ?_
        refine lv_iadd hx hb dX12_plain_49 ?_
        refine lv_iconst (v := (-1)) hx hb dX12_plain_50 (by decide) ?_
        obtain ⟨m_at_28, e_m_at_28, h⟩ := bi h
        refine xiast (i0 := 0) (j0 := 1) hx hb hX hP hS rfl rfl e_m_at_28 dX12_plain_51 (fun H locs hP hS => ?_)
        have hP : PD D A [bl_X12 cy A_m m_at_28 m_names m_status m_top m_bottom m_sort m_trayMany m_trays m_tape m_text m_taped m_size m_token m_from m_end m_value m_faultKind m_faultPlace m_faults m_seen m_toldParts m_opened m_depth m_counted m_bestOrder m_standers m_has m_bestHas m_standerMany m_bestCouples m_bestFondness m_cameTo m_doesStandFirst m_stoodBy m_drawn m_ranSteps m_loops m_ran m_told1 m_isTold m_marks] H := hP
        refine lv_iconst (v := 0) hx hb dX12_plain_52 (by decide) ?_
        refine lv_istore_n (lv' := [(2, .int 0), (0, .ref (A_m 0)), (1, .int x1)]) hx hb dX12_plain_53 rfl hl (by decide) rfl (fun ls hl => ?_)
        exact l54 fu m_at_28 0 _ _ hP hS ls (lv_sub hl [1, 2, 0] rfl) h
      · have h := ie c_25 h
        refine lv_aload_n hx hb dX12_plain_9 rfl (lv_at hl 0 rfl) ?_
        refine xget (i := 0) (j := 0) (k := 0) (T := TX12) hx hb ht tb_iX12 hown hX hP.1 rfl rfl rfl (by decide) tb_1229 rfl dX12_plain_10 ?_
        refine lv_iload_n hx hb dX12_plain_13 rfl (lv_at hl 1 rfl) ?_
        refine lv_iload_n hx hb dX12_plain_14 rfl (lv_at hl 2 rfl) ?_
        refine lv_iadd hx hb dX12_plain_15 ?_
        refine lv_iconst (v := 0) hx hb dX12_plain_16 (by decide) ?_
        obtain ⟨m_at_29, e_m_at_29, h⟩ := bi h
        refine xiast (i0 := 0) (j0 := 1) hx hb hX hP hS rfl rfl e_m_at_29 dX12_plain_17 (fun H locs hP hS => ?_)
        have hP : PD D A [bl_X12 cy A_m m_at_29 m_names m_status m_top m_bottom m_sort m_trayMany m_trays m_tape m_text m_taped m_size m_token m_from m_end m_value m_faultKind m_faultPlace m_faults m_seen m_toldParts m_opened m_depth m_counted m_bestOrder m_standers m_has m_bestHas m_standerMany m_bestCouples m_bestFondness m_cameTo m_doesStandFirst m_stoodBy m_drawn m_ranSteps m_loops m_ran m_told1 m_isTold m_marks] H := hP
        obtain ⟨x2_30, e_x2_30⟩ : ∃ y : Int32, y = x2 + 1 := ⟨_, rfl⟩
        have h := bn e_x2_30 h
        refine lv_iinc (v := x2_30) (lv' := [(2, .int x2_30), (0, .ref (A_m 0)), (1, .int x1)]) hx hb dX12_plain_18 hl (k := 2) rfl (by rw [e_x2_30]; rfl) (by decide) rfl (fun ls hl => ?_)
        refine lv_goto (tgt := 2) hx hb dX12_plain_21 (by decide) ?_
        exact ih2 m_at_29 x2_30 _ _ hP hS ls (lv_sub hl [1, 2, 0] rfl) h
  unfold f_X12_plain at h
  refine lv_iconst (v := 0) hx hb dX12_plain_0 (by decide) ?_
  refine lv_istore_n (lv' := [(2, .int 0), (0, .ref (A_m 0)), (1, .int x1)]) hx hb dX12_plain_1 rfl hl (by decide) rfl (fun ls hl => ?_)
  exact l2 fu m_at 0 _ _ hP hS ls (lv_sub hl [1, 2, 0] rfl) h
theorem dX12_status_0 : decode cX12_status 0 = .ok (.aload_n 0, 1) := by decide +kernel
theorem dX12_status_1 : decode cX12_status 1 = .ok (.getfield 79, 3) := by decide +kernel
theorem dX12_status_4 : decode cX12_status 4 = .ok (.ireturn, 1) := by decide +kernel
theorem mv_X12_status : MV yX12_status RX12 cX12_status 1 (some .int) 0 := ⟨tb_1356, tb_1354, tb_1355, tb_16, by decide +kernel, by decide +kernel, by decide +kernel⟩
def f_X12_status (fu : Nat) (m_status : Int32) : Option (Int32) := some (m_status)
abbrev rm_X12_status : Room := { frames := 0, cells := 0, slots := 0, locals := 0 }
set_option maxHeartbeats 4000000 in
set_option maxRecDepth 100000 in
theorem c_X12_status (l : Launch) (D : va_G) (cy : Nat → ClassId) (fu : Nat) (A_m : Nat → Nat) (m_at : Nat → Int32) (m_names : Nat → Int64) (m_status : Int32) (m_top : Int64) (m_bottom : Int64) (m_sort : Nat → Int32) (m_trayMany : Nat → Int32) (m_trays : Nat → Int64) (m_tape : Nat → Int32) (m_text : Nat → Int32) (m_taped : Int32) (m_size : Int32) (m_token : Int32) (m_from : Int32) (m_end : Int32) (m_value : Int32) (m_faultKind : Int32) (m_faultPlace : Int32) (m_faults : Int32) (m_seen : Int32) (m_toldParts : Int32) (m_opened : Nat → Int32) (m_depth : Int32) (m_counted : Int32) (m_bestOrder : Int32) (m_standers : Nat → Int32) (m_has : Nat → Int32) (m_bestHas : Nat → Int32) (m_standerMany : Int32) (m_bestCouples : Int32) (m_bestFondness : Int32) (m_cameTo : Nat → Int32) (m_doesStandFirst : Int32) (m_stoodBy : Nat → Int64) (m_drawn : Int32) (m_ranSteps : Int32) (m_loops : Nat → Int32) (m_ran : Nat → Int32) (m_told1 : Nat → Int32) (m_isTold : Int32) (m_marks : Int32) (res : Int32) (h : f_X12_status fu m_status = some res) : Met l yX12_status (WW yX12_status cX12_status 1 (some .int)) rm_X12_status (Rd D cy [.ref (A_m 0)] [bl_X12 cy A_m m_at m_names m_status m_top m_bottom m_sort m_trayMany m_trays m_tape m_text m_taped m_size m_token m_from m_end m_value m_faultKind m_faultPlace m_faults m_seen m_toldParts m_opened m_depth m_counted m_bestOrder m_standers m_has m_bestHas m_standerMany m_bestCouples m_bestFondness m_cameTo m_doesStandFirst m_stoodBy m_drawn m_ranSteps m_loops m_ran m_told1 m_isTold m_marks]) (vp_Si (fun v => v = res)) 0 0 (fun _ => False) := by
  refine Met.ofW (cc := cX12_status) (maxL := 1) (ret := (some .int)) (by decide) rfl ?_
  intro p e s m args below meth c s₁ B hml hv
  obtain ⟨hargs, hP, hX⟩ := hv
  have hx := B.exec
  have hb := B.bytes
  have hr := B.returns
  have ht : ∀ w ∈ lw_gd, w.before args s = true := fun w hw => atoms_spec (ws := WW yX12_status cX12_status 1 (some .int)) B.pre w (List.mem_cons_of_mem _ hw)
  have hown : s.vm.findClass RX12 = some m.cls := findClass_of_methodNamed B.named
  have hlocks := B.notSynchronized
  have hP : PB D [bl_X12 cy A_m m_at m_names m_status m_top m_bottom m_sort m_trayMany m_trays m_tape m_text m_taped m_size m_token m_from m_end m_value m_faultKind m_faultPlace m_faults m_seen m_toldParts m_opened m_depth m_counted m_bestOrder m_standers m_has m_bestHas m_standerMany m_bestCouples m_bestFondness m_cameTo m_doesStandFirst m_stoodBy m_drawn m_ranSteps m_loops m_ran m_told1 m_isTold m_marks] s.heap := hP
  obtain ⟨ls, hl, hent⟩ := ent (m := m) (n := 1) hargs (Nat.le_of_ble_eq_true rfl) (lv := [(0, .ref (A_m 0))]) rfl
  rw [hent]
  clear hent
  unfold f_X12_status at h
  refine lv_aload_n hx hb dX12_status_0 rfl (lv_at hl 0 rfl) ?_
  refine xget (i := 0) (j := 0) (k := 2) (T := TX12) hx hb ht tb_iX12 hown hX hP rfl rfl rfl (by decide) tb_1231 rfl dX12_status_1 ?_
  cases h
  exact W.iret hx hb hr (fun _ ht9 _ => ⟨_, rfl, rfl, ht9⟩) (fun _ hq => by cases hq) dX12_status_4
theorem dX12_top_0 : decode cX12_top 0 = .ok (.aload_n 0, 1) := by decide +kernel
theorem dX12_top_1 : decode cX12_top 1 = .ok (.getfield 82, 3) := by decide +kernel
theorem dX12_top_4 : decode cX12_top 4 = .ok (.lreturn, 1) := by decide +kernel
theorem mv_X12_top : MV yX12_top RX12 cX12_top 1 (some .long) 0 := ⟨tb_1360, tb_1358, tb_1359, tb_16, by decide +kernel, by decide +kernel, by decide +kernel⟩
def f_X12_top (fu : Nat) (m_top : Int64) : Option (Int64) := some (m_top)
abbrev rm_X12_top : Room := { frames := 0, cells := 0, slots := 0, locals := 0 }
set_option maxHeartbeats 4000000 in
set_option maxRecDepth 100000 in
theorem c_X12_top (l : Launch) (D : va_G) (cy : Nat → ClassId) (fu : Nat) (A_m : Nat → Nat) (m_at : Nat → Int32) (m_names : Nat → Int64) (m_status : Int32) (m_top : Int64) (m_bottom : Int64) (m_sort : Nat → Int32) (m_trayMany : Nat → Int32) (m_trays : Nat → Int64) (m_tape : Nat → Int32) (m_text : Nat → Int32) (m_taped : Int32) (m_size : Int32) (m_token : Int32) (m_from : Int32) (m_end : Int32) (m_value : Int32) (m_faultKind : Int32) (m_faultPlace : Int32) (m_faults : Int32) (m_seen : Int32) (m_toldParts : Int32) (m_opened : Nat → Int32) (m_depth : Int32) (m_counted : Int32) (m_bestOrder : Int32) (m_standers : Nat → Int32) (m_has : Nat → Int32) (m_bestHas : Nat → Int32) (m_standerMany : Int32) (m_bestCouples : Int32) (m_bestFondness : Int32) (m_cameTo : Nat → Int32) (m_doesStandFirst : Int32) (m_stoodBy : Nat → Int64) (m_drawn : Int32) (m_ranSteps : Int32) (m_loops : Nat → Int32) (m_ran : Nat → Int32) (m_told1 : Nat → Int32) (m_isTold : Int32) (m_marks : Int32) (res : Int64) (h : f_X12_top fu m_top = some res) : Met l yX12_top (WW yX12_top cX12_top 1 (some .long)) rm_X12_top (Rd D cy [.ref (A_m 0)] [bl_X12 cy A_m m_at m_names m_status m_top m_bottom m_sort m_trayMany m_trays m_tape m_text m_taped m_size m_token m_from m_end m_value m_faultKind m_faultPlace m_faults m_seen m_toldParts m_opened m_depth m_counted m_bestOrder m_standers m_has m_bestHas m_standerMany m_bestCouples m_bestFondness m_cameTo m_doesStandFirst m_stoodBy m_drawn m_ranSteps m_loops m_ran m_told1 m_isTold m_marks]) (vp_Sl (fun v => v = res)) 0 0 (fun _ => False) := by
  refine Met.ofW (cc := cX12_top) (maxL := 1) (ret := (some .long)) (by decide) rfl ?_
  intro p e s m args below meth c s₁ B hml hv
  obtain ⟨hargs, hP, hX⟩ := hv
  have hx := B.exec
  have hb := B.bytes
  have hr := B.returns
  have ht : ∀ w ∈ lw_gd, w.before args s = true := fun w hw => atoms_spec (ws := WW yX12_top cX12_top 1 (some .long)) B.pre w (List.mem_cons_of_mem _ hw)
  have hown : s.vm.findClass RX12 = some m.cls := findClass_of_methodNamed B.named
  have hlocks := B.notSynchronized
  have hP : PB D [bl_X12 cy A_m m_at m_names m_status m_top m_bottom m_sort m_trayMany m_trays m_tape m_text m_taped m_size m_token m_from m_end m_value m_faultKind m_faultPlace m_faults m_seen m_toldParts m_opened m_depth m_counted m_bestOrder m_standers m_has m_bestHas m_standerMany m_bestCouples m_bestFondness m_cameTo m_doesStandFirst m_stoodBy m_drawn m_ranSteps m_loops m_ran m_told1 m_isTold m_marks] s.heap := hP
  obtain ⟨ls, hl, hent⟩ := ent (m := m) (n := 1) hargs (Nat.le_of_ble_eq_true rfl) (lv := [(0, .ref (A_m 0))]) rfl
  rw [hent]
  clear hent
  unfold f_X12_top at h
  refine lv_aload_n hx hb dX12_top_0 rfl (lv_at hl 0 rfl) ?_
  refine xget (i := 0) (j := 0) (k := 3) (T := TX12) hx hb ht tb_iX12 hown hX hP rfl rfl rfl (by decide) tb_1232 rfl dX12_top_1 ?_
  cases h
  exact W.lret hx hb hr (fun _ ht9 _ => ⟨_, rfl, rfl, ht9⟩) (fun _ hq => by cases hq) dX12_top_4
theorem dX12_bottom_0 : decode cX12_bottom 0 = .ok (.aload_n 0, 1) := by decide +kernel
theorem dX12_bottom_1 : decode cX12_bottom 1 = .ok (.getfield 17, 3) := by decide +kernel
theorem dX12_bottom_4 : decode cX12_bottom 4 = .ok (.lreturn, 1) := by decide +kernel
theorem mv_X12_bottom : MV yX12_bottom RX12 cX12_bottom 1 (some .long) 0 := ⟨tb_1364, tb_1362, tb_1363, tb_16, by decide +kernel, by decide +kernel, by decide +kernel⟩
def f_X12_bottom (fu : Nat) (m_bottom : Int64) : Option (Int64) := some (m_bottom)
abbrev rm_X12_bottom : Room := { frames := 0, cells := 0, slots := 0, locals := 0 }
set_option maxHeartbeats 4000000 in
set_option maxRecDepth 100000 in
theorem c_X12_bottom (l : Launch) (D : va_G) (cy : Nat → ClassId) (fu : Nat) (A_m : Nat → Nat) (m_at : Nat → Int32) (m_names : Nat → Int64) (m_status : Int32) (m_top : Int64) (m_bottom : Int64) (m_sort : Nat → Int32) (m_trayMany : Nat → Int32) (m_trays : Nat → Int64) (m_tape : Nat → Int32) (m_text : Nat → Int32) (m_taped : Int32) (m_size : Int32) (m_token : Int32) (m_from : Int32) (m_end : Int32) (m_value : Int32) (m_faultKind : Int32) (m_faultPlace : Int32) (m_faults : Int32) (m_seen : Int32) (m_toldParts : Int32) (m_opened : Nat → Int32) (m_depth : Int32) (m_counted : Int32) (m_bestOrder : Int32) (m_standers : Nat → Int32) (m_has : Nat → Int32) (m_bestHas : Nat → Int32) (m_standerMany : Int32) (m_bestCouples : Int32) (m_bestFondness : Int32) (m_cameTo : Nat → Int32) (m_doesStandFirst : Int32) (m_stoodBy : Nat → Int64) (m_drawn : Int32) (m_ranSteps : Int32) (m_loops : Nat → Int32) (m_ran : Nat → Int32) (m_told1 : Nat → Int32) (m_isTold : Int32) (m_marks : Int32) (res : Int64) (h : f_X12_bottom fu m_bottom = some res) : Met l yX12_bottom (WW yX12_bottom cX12_bottom 1 (some .long)) rm_X12_bottom (Rd D cy [.ref (A_m 0)] [bl_X12 cy A_m m_at m_names m_status m_top m_bottom m_sort m_trayMany m_trays m_tape m_text m_taped m_size m_token m_from m_end m_value m_faultKind m_faultPlace m_faults m_seen m_toldParts m_opened m_depth m_counted m_bestOrder m_standers m_has m_bestHas m_standerMany m_bestCouples m_bestFondness m_cameTo m_doesStandFirst m_stoodBy m_drawn m_ranSteps m_loops m_ran m_told1 m_isTold m_marks]) (vp_Sl (fun v => v = res)) 0 0 (fun _ => False) := by
  refine Met.ofW (cc := cX12_bottom) (maxL := 1) (ret := (some .long)) (by decide) rfl ?_
  intro p e s m args below meth c s₁ B hml hv
  obtain ⟨hargs, hP, hX⟩ := hv
  have hx := B.exec
  have hb := B.bytes
  have hr := B.returns
  have ht : ∀ w ∈ lw_gd, w.before args s = true := fun w hw => atoms_spec (ws := WW yX12_bottom cX12_bottom 1 (some .long)) B.pre w (List.mem_cons_of_mem _ hw)
  have hown : s.vm.findClass RX12 = some m.cls := findClass_of_methodNamed B.named
  have hlocks := B.notSynchronized
  have hP : PB D [bl_X12 cy A_m m_at m_names m_status m_top m_bottom m_sort m_trayMany m_trays m_tape m_text m_taped m_size m_token m_from m_end m_value m_faultKind m_faultPlace m_faults m_seen m_toldParts m_opened m_depth m_counted m_bestOrder m_standers m_has m_bestHas m_standerMany m_bestCouples m_bestFondness m_cameTo m_doesStandFirst m_stoodBy m_drawn m_ranSteps m_loops m_ran m_told1 m_isTold m_marks] s.heap := hP
  obtain ⟨ls, hl, hent⟩ := ent (m := m) (n := 1) hargs (Nat.le_of_ble_eq_true rfl) (lv := [(0, .ref (A_m 0))]) rfl
  rw [hent]
  clear hent
  unfold f_X12_bottom at h
  refine lv_aload_n hx hb dX12_bottom_0 rfl (lv_at hl 0 rfl) ?_
  refine xget (i := 0) (j := 0) (k := 4) (T := TX12) hx hb ht tb_iX12 hown hX hP rfl rfl rfl (by decide) tb_1233 rfl dX12_bottom_1 ?_
  cases h
  exact W.lret hx hb hr (fun _ ht9 _ => ⟨_, rfl, rfl, ht9⟩) (fun _ hq => by cases hq) dX12_bottom_4
theorem dX12_is_0 : decode cX12_is 0 = .ok (.aload_n 0, 1) := by decide +kernel
theorem dX12_is_1 : decode cX12_is 1 = .ok (.iload_n 1, 1) := by decide +kernel
theorem dX12_is_2 : decode cX12_is 2 = .ok (.putfield 79, 3) := by decide +kernel
theorem dX12_is_5 : decode cX12_is 5 = .ok (.iload_n 1, 1) := by decide +kernel
theorem dX12_is_6 : decode cX12_is 6 = .ok (.ifCond .ne 7, 3) := by decide +kernel
theorem dX12_is_9 : decode cX12_is 9 = .ok (.iconst 1, 1) := by decide +kernel
theorem dX12_is_10 : decode cX12_is 10 = .ok (.goto 4, 3) := by decide +kernel
theorem dX12_is_13 : decode cX12_is 13 = .ok (.iconst 0, 1) := by decide +kernel
theorem dX12_is_14 : decode cX12_is 14 = .ok (.ireturn, 1) := by decide +kernel
theorem mv_X12_is : MV yX12_is RX12 cX12_is 2 (some .boolean) 1 := ⟨tb_1375, tb_1374, ts_40, tb_16, by decide +kernel, by decide +kernel, by decide +kernel⟩
def f_X12_is (fu : Nat) (m_status : Int32) (x1 : Int32) : Option (Int32 × Int32) := (if x1 = 0 then some (1, x1) else some (0, x1))
abbrev rm_X12_is : Room := { frames := 0, cells := 0, slots := 0, locals := 0 }
set_option maxHeartbeats 4000000 in
set_option maxRecDepth 100000 in
theorem c_X12_is (l : Launch) (D : va_G) (cy : Nat → ClassId) (fu : Nat) (A_m : Nat → Nat) (m_at : Nat → Int32) (m_names : Nat → Int64) (m_status : Int32) (m_top : Int64) (m_bottom : Int64) (m_sort : Nat → Int32) (m_trayMany : Nat → Int32) (m_trays : Nat → Int64) (m_tape : Nat → Int32) (m_text : Nat → Int32) (m_taped : Int32) (m_size : Int32) (m_token : Int32) (m_from : Int32) (m_end : Int32) (m_value : Int32) (m_faultKind : Int32) (m_faultPlace : Int32) (m_faults : Int32) (m_seen : Int32) (m_toldParts : Int32) (m_opened : Nat → Int32) (m_depth : Int32) (m_counted : Int32) (m_bestOrder : Int32) (m_standers : Nat → Int32) (m_has : Nat → Int32) (m_bestHas : Nat → Int32) (m_standerMany : Int32) (m_bestCouples : Int32) (m_bestFondness : Int32) (m_cameTo : Nat → Int32) (m_doesStandFirst : Int32) (m_stoodBy : Nat → Int64) (m_drawn : Int32) (m_ranSteps : Int32) (m_loops : Nat → Int32) (m_ran : Nat → Int32) (m_told1 : Nat → Int32) (m_isTold : Int32) (m_marks : Int32) (x1 : Int32) (res : Int32 × Int32) (h : f_X12_is fu m_status x1 = some res) (A : Nat → Prop) (hA : A = adr [bl_X12 cy A_m m_at m_names m_status m_top m_bottom m_sort m_trayMany m_trays m_tape m_text m_taped m_size m_token m_from m_end m_value m_faultKind m_faultPlace m_faults m_seen m_toldParts m_opened m_depth m_counted m_bestOrder m_standers m_has m_bestHas m_standerMany m_bestCouples m_bestFondness m_cameTo m_doesStandFirst m_stoodBy m_drawn m_ranSteps m_loops m_ran m_told1 m_isTold m_marks]) (W1 : List va_W) (hW1 : W1 = [bl_X12 cy A_m m_at m_names res.2 m_top m_bottom m_sort m_trayMany m_trays m_tape m_text m_taped m_size m_token m_from m_end m_value m_faultKind m_faultPlace m_faults m_seen m_toldParts m_opened m_depth m_counted m_bestOrder m_standers m_has m_bestHas m_standerMany m_bestCouples m_bestFondness m_cameTo m_doesStandFirst m_stoodBy m_drawn m_ranSteps m_loops m_ran m_told1 m_isTold m_marks]) : Met l yX12_is (WW yX12_is cX12_is 2 (some .boolean)) rm_X12_is (Ed D cy [.ref (A_m 0), .int x1] [bl_X12 cy A_m m_at m_names m_status m_top m_bottom m_sort m_trayMany m_trays m_tape m_text m_taped m_size m_token m_from m_end m_value m_faultKind m_faultPlace m_faults m_seen m_toldParts m_opened m_depth m_counted m_bestOrder m_standers m_has m_bestHas m_standerMany m_bestCouples m_bestFondness m_cameTo m_doesStandFirst m_stoodBy m_drawn m_ranSteps m_loops m_ran m_told1 m_isTold m_marks]) (Qei D res.1 A W1) 0 0 A := by
  refine Met.ofW (cc := cX12_is) (maxL := 2) (ret := (some .boolean)) (by decide) rfl ?_
  intro p e s m args below meth c s₁ B hml hv
  obtain ⟨hargs, hP, hX, hD0⟩ := hv
  have hx := B.exec
  have hb := B.bytes
  have hr := B.returns
  have ht : ∀ w ∈ lw_gd, w.before args s = true := fun w hw => atoms_spec (ws := WW yX12_is cX12_is 2 (some .boolean)) B.pre w (List.mem_cons_of_mem _ hw)
  have hown : s.vm.findClass RX12 = some m.cls := findClass_of_methodNamed B.named
  have hlocks := B.notSynchronized
  have hP : PD D A [bl_X12 cy A_m m_at m_names m_status m_top m_bottom m_sort m_trayMany m_trays m_tape m_text m_taped m_size m_token m_from m_end m_value m_faultKind m_faultPlace m_faults m_seen m_toldParts m_opened m_depth m_counted m_bestOrder m_standers m_has m_bestHas m_standerMany m_bestCouples m_bestFondness m_cameTo m_doesStandFirst m_stoodBy m_drawn m_ranSteps m_loops m_ran m_told1 m_isTold m_marks] s.heap := ⟨hP, by rw [hA]; exact hD0.own⟩
  have hS : va_S A s.heap s.heap [] := va_S.rf
  obtain ⟨ls, hl, hent⟩ := ent (m := m) (n := 2) hargs (Nat.le_of_ble_eq_true rfl) (lv := [(0, .ref (A_m 0)), (1, .int x1)]) rfl
  rw [hent]
  clear hent
  unfold f_X12_is at h
  refine lv_aload_n hx hb dX12_is_0 rfl (lv_at hl 0 rfl) ?_
  refine lv_iload_n hx hb dX12_is_1 rfl (lv_at hl 1 rfl) ?_
  refine xput (i := 0) (j := 0) (k := 2) (T := TX12) tyX12 tyX12_ok nmX12 hx hb ht tb_iX12 hown hX hP hS rfl rfl rfl (by decide) tb_1231 rfl rfl rfl (Nat.le_of_ble_eq_true rfl) dX12_is_2 (fun H locs hP hS => ?_)
  have hP : PD D A [bl_X12 cy A_m m_at m_names x1 m_top m_bottom m_sort m_trayMany m_trays m_tape m_text m_taped m_size m_token m_from m_end m_value m_faultKind m_faultPlace m_faults m_seen m_toldParts m_opened m_depth m_counted m_bestOrder m_standers m_has m_bestHas m_standerMany m_bestCouples m_bestFondness m_cameTo m_doesStandFirst m_stoodBy m_drawn m_ranSteps m_loops m_ran m_told1 m_isTold m_marks] H := hP
  refine lv_iload_n hx hb dX12_is_5 rfl (lv_at hl 1 rfl) ?_
  refine lv_if_ne (tgt := 13) hx hb dX12_is_6 (by decide) (fun c_2 => ?_) (fun c_2 => ?_)
  · have h := ie c_2 h
    refine lv_iconst (v := 0) hx hb dX12_is_13 (by decide) ?_
    cases h
    subst hW1
    exact W.zret hx hb hr rfl (fun _ ht9 _ => ⟨⟨_, (), rfl, rfl, hPt ht9 hP.1⟩, hS.F ht9⟩) hS.2.2 dX12_is_14
  · have h := it c_2 h
    refine lv_iconst (v := 1) hx hb dX12_is_9 (by decide) ?_
    refine lv_goto (tgt := 14) hx hb dX12_is_10 (by decide) ?_
    cases h
    subst hW1
    exact W.zret hx hb hr rfl (fun _ ht9 _ => ⟨⟨_, (), rfl, rfl, hPt ht9 hP.1⟩, hS.F ht9⟩) hS.2.2 dX12_is_14
theorem dX12_refuse_0 : decode cX12_refuse 0 = .ok (.aload_n 0, 1) := by decide +kernel
theorem dX12_refuse_1 : decode cX12_refuse 1 = .ok (.iload_n 1, 1) := by decide +kernel
theorem dX12_refuse_2 : decode cX12_refuse 2 = .ok (.putfield 79, 3) := by decide +kernel
theorem dX12_refuse_5 : decode cX12_refuse 5 = .ok (.iconst (-1), 1) := by decide +kernel
theorem dX12_refuse_6 : decode cX12_refuse 6 = .ok (.ireturn, 1) := by decide +kernel
theorem mv_X12_refuse : MV yX12_refuse RX12 cX12_refuse 2 (some .int) 1 := ⟨tb_1435, tb_1434, ts_46, tb_16, by decide +kernel, by decide +kernel, by decide +kernel⟩
def f_X12_refuse (fu : Nat) (m_status : Int32) (x1 : Int32) : Option (Int32 × Int32) := some ((-1), x1)
abbrev rm_X12_refuse : Room := { frames := 0, cells := 0, slots := 0, locals := 0 }
set_option maxHeartbeats 4000000 in
set_option maxRecDepth 100000 in
theorem c_X12_refuse (l : Launch) (D : va_G) (cy : Nat → ClassId) (fu : Nat) (A_m : Nat → Nat) (m_at : Nat → Int32) (m_names : Nat → Int64) (m_status : Int32) (m_top : Int64) (m_bottom : Int64) (m_sort : Nat → Int32) (m_trayMany : Nat → Int32) (m_trays : Nat → Int64) (m_tape : Nat → Int32) (m_text : Nat → Int32) (m_taped : Int32) (m_size : Int32) (m_token : Int32) (m_from : Int32) (m_end : Int32) (m_value : Int32) (m_faultKind : Int32) (m_faultPlace : Int32) (m_faults : Int32) (m_seen : Int32) (m_toldParts : Int32) (m_opened : Nat → Int32) (m_depth : Int32) (m_counted : Int32) (m_bestOrder : Int32) (m_standers : Nat → Int32) (m_has : Nat → Int32) (m_bestHas : Nat → Int32) (m_standerMany : Int32) (m_bestCouples : Int32) (m_bestFondness : Int32) (m_cameTo : Nat → Int32) (m_doesStandFirst : Int32) (m_stoodBy : Nat → Int64) (m_drawn : Int32) (m_ranSteps : Int32) (m_loops : Nat → Int32) (m_ran : Nat → Int32) (m_told1 : Nat → Int32) (m_isTold : Int32) (m_marks : Int32) (x1 : Int32) (res : Int32 × Int32) (h : f_X12_refuse fu m_status x1 = some res) (A : Nat → Prop) (hA : A = adr [bl_X12 cy A_m m_at m_names m_status m_top m_bottom m_sort m_trayMany m_trays m_tape m_text m_taped m_size m_token m_from m_end m_value m_faultKind m_faultPlace m_faults m_seen m_toldParts m_opened m_depth m_counted m_bestOrder m_standers m_has m_bestHas m_standerMany m_bestCouples m_bestFondness m_cameTo m_doesStandFirst m_stoodBy m_drawn m_ranSteps m_loops m_ran m_told1 m_isTold m_marks]) (W1 : List va_W) (hW1 : W1 = [bl_X12 cy A_m m_at m_names res.2 m_top m_bottom m_sort m_trayMany m_trays m_tape m_text m_taped m_size m_token m_from m_end m_value m_faultKind m_faultPlace m_faults m_seen m_toldParts m_opened m_depth m_counted m_bestOrder m_standers m_has m_bestHas m_standerMany m_bestCouples m_bestFondness m_cameTo m_doesStandFirst m_stoodBy m_drawn m_ranSteps m_loops m_ran m_told1 m_isTold m_marks]) : Met l yX12_refuse (WW yX12_refuse cX12_refuse 2 (some .int)) rm_X12_refuse (Ed D cy [.ref (A_m 0), .int x1] [bl_X12 cy A_m m_at m_names m_status m_top m_bottom m_sort m_trayMany m_trays m_tape m_text m_taped m_size m_token m_from m_end m_value m_faultKind m_faultPlace m_faults m_seen m_toldParts m_opened m_depth m_counted m_bestOrder m_standers m_has m_bestHas m_standerMany m_bestCouples m_bestFondness m_cameTo m_doesStandFirst m_stoodBy m_drawn m_ranSteps m_loops m_ran m_told1 m_isTold m_marks]) (Qei D res.1 A W1) 0 0 A := by
  refine Met.ofW (cc := cX12_refuse) (maxL := 2) (ret := (some .int)) (by decide) rfl ?_
  intro p e s m args below meth c s₁ B hml hv
  obtain ⟨hargs, hP, hX, hD0⟩ := hv
  have hx := B.exec
  have hb := B.bytes
  have hr := B.returns
  have ht : ∀ w ∈ lw_gd, w.before args s = true := fun w hw => atoms_spec (ws := WW yX12_refuse cX12_refuse 2 (some .int)) B.pre w (List.mem_cons_of_mem _ hw)
  have hown : s.vm.findClass RX12 = some m.cls := findClass_of_methodNamed B.named
  have hlocks := B.notSynchronized
  have hP : PD D A [bl_X12 cy A_m m_at m_names m_status m_top m_bottom m_sort m_trayMany m_trays m_tape m_text m_taped m_size m_token m_from m_end m_value m_faultKind m_faultPlace m_faults m_seen m_toldParts m_opened m_depth m_counted m_bestOrder m_standers m_has m_bestHas m_standerMany m_bestCouples m_bestFondness m_cameTo m_doesStandFirst m_stoodBy m_drawn m_ranSteps m_loops m_ran m_told1 m_isTold m_marks] s.heap := ⟨hP, by rw [hA]; exact hD0.own⟩
  have hS : va_S A s.heap s.heap [] := va_S.rf
  obtain ⟨ls, hl, hent⟩ := ent (m := m) (n := 2) hargs (Nat.le_of_ble_eq_true rfl) (lv := [(0, .ref (A_m 0)), (1, .int x1)]) rfl
  rw [hent]
  clear hent
  unfold f_X12_refuse at h
  refine lv_aload_n hx hb dX12_refuse_0 rfl (lv_at hl 0 rfl) ?_
  refine lv_iload_n hx hb dX12_refuse_1 rfl (lv_at hl 1 rfl) ?_
  refine xput (i := 0) (j := 0) (k := 2) (T := TX12) tyX12 tyX12_ok nmX12 hx hb ht tb_iX12 hown hX hP hS rfl rfl rfl (by decide) tb_1231 rfl rfl rfl (Nat.le_of_ble_eq_true rfl) dX12_refuse_2 (fun H locs hP hS => ?_)
  have hP : PD D A [bl_X12 cy A_m m_at m_names x1 m_top m_bottom m_sort m_trayMany m_trays m_tape m_text m_taped m_size m_token m_from m_end m_value m_faultKind m_faultPlace m_faults m_seen m_toldParts m_opened m_depth m_counted m_bestOrder m_standers m_has m_bestHas m_standerMany m_bestCouples m_bestFondness m_cameTo m_doesStandFirst m_stoodBy m_drawn m_ranSteps m_loops m_ran m_told1 m_isTold m_marks] H := hP
  refine lv_iconst (v := (-1)) hx hb dX12_refuse_5 (by decide) ?_
  cases h
  subst hW1
  exact W.iret hx hb hr (fun _ ht9 _ => ⟨⟨_, (), rfl, rfl, hPt ht9 hP.1⟩, hS.F ht9⟩) hS.2.2 dX12_refuse_6
theorem dX12_gives_0 : decode cX12_gives 0 = .ok (.aload_n 0, 1) := by decide +kernel
theorem dX12_gives_1 : decode cX12_gives 1 = .ok (.iconst 0, 1) := by decide +kernel
theorem dX12_gives_2 : decode cX12_gives 2 = .ok (.putfield 79, 3) := by decide +kernel
theorem dX12_gives_5 : decode cX12_gives 5 = .ok (.iload_n 1, 1) := by decide +kernel
theorem dX12_gives_6 : decode cX12_gives 6 = .ok (.ireturn, 1) := by decide +kernel
theorem mv_X12_gives : MV yX12_gives RX12 cX12_gives 2 (some .int) 1 := ⟨tb_1502, tb_1501, ts_62, tb_16, by decide +kernel, by decide +kernel, by decide +kernel⟩
def f_X12_gives (fu : Nat) (m_status : Int32) (x1 : Int32) : Option (Int32 × Int32) := some (x1, 0)
abbrev rm_X12_gives : Room := { frames := 0, cells := 0, slots := 0, locals := 0 }
set_option maxHeartbeats 4000000 in
set_option maxRecDepth 100000 in
theorem c_X12_gives (l : Launch) (D : va_G) (cy : Nat → ClassId) (fu : Nat) (A_m : Nat → Nat) (m_at : Nat → Int32) (m_names : Nat → Int64) (m_status : Int32) (m_top : Int64) (m_bottom : Int64) (m_sort : Nat → Int32) (m_trayMany : Nat → Int32) (m_trays : Nat → Int64) (m_tape : Nat → Int32) (m_text : Nat → Int32) (m_taped : Int32) (m_size : Int32) (m_token : Int32) (m_from : Int32) (m_end : Int32) (m_value : Int32) (m_faultKind : Int32) (m_faultPlace : Int32) (m_faults : Int32) (m_seen : Int32) (m_toldParts : Int32) (m_opened : Nat → Int32) (m_depth : Int32) (m_counted : Int32) (m_bestOrder : Int32) (m_standers : Nat → Int32) (m_has : Nat → Int32) (m_bestHas : Nat → Int32) (m_standerMany : Int32) (m_bestCouples : Int32) (m_bestFondness : Int32) (m_cameTo : Nat → Int32) (m_doesStandFirst : Int32) (m_stoodBy : Nat → Int64) (m_drawn : Int32) (m_ranSteps : Int32) (m_loops : Nat → Int32) (m_ran : Nat → Int32) (m_told1 : Nat → Int32) (m_isTold : Int32) (m_marks : Int32) (x1 : Int32) (res : Int32 × Int32) (h : f_X12_gives fu m_status x1 = some res) (A : Nat → Prop) (hA : A = adr [bl_X12 cy A_m m_at m_names m_status m_top m_bottom m_sort m_trayMany m_trays m_tape m_text m_taped m_size m_token m_from m_end m_value m_faultKind m_faultPlace m_faults m_seen m_toldParts m_opened m_depth m_counted m_bestOrder m_standers m_has m_bestHas m_standerMany m_bestCouples m_bestFondness m_cameTo m_doesStandFirst m_stoodBy m_drawn m_ranSteps m_loops m_ran m_told1 m_isTold m_marks]) (W1 : List va_W) (hW1 : W1 = [bl_X12 cy A_m m_at m_names res.2 m_top m_bottom m_sort m_trayMany m_trays m_tape m_text m_taped m_size m_token m_from m_end m_value m_faultKind m_faultPlace m_faults m_seen m_toldParts m_opened m_depth m_counted m_bestOrder m_standers m_has m_bestHas m_standerMany m_bestCouples m_bestFondness m_cameTo m_doesStandFirst m_stoodBy m_drawn m_ranSteps m_loops m_ran m_told1 m_isTold m_marks]) : Met l yX12_gives (WW yX12_gives cX12_gives 2 (some .int)) rm_X12_gives (Ed D cy [.ref (A_m 0), .int x1] [bl_X12 cy A_m m_at m_names m_status m_top m_bottom m_sort m_trayMany m_trays m_tape m_text m_taped m_size m_token m_from m_end m_value m_faultKind m_faultPlace m_faults m_seen m_toldParts m_opened m_depth m_counted m_bestOrder m_standers m_has m_bestHas m_standerMany m_bestCouples m_bestFondness m_cameTo m_doesStandFirst m_stoodBy m_drawn m_ranSteps m_loops m_ran m_told1 m_isTold m_marks]) (Qei D res.1 A W1) 0 0 A := by
  refine Met.ofW (cc := cX12_gives) (maxL := 2) (ret := (some .int)) (by decide) rfl ?_
  intro p e s m args below meth c s₁ B hml hv
  obtain ⟨hargs, hP, hX, hD0⟩ := hv
  have hx := B.exec
  have hb := B.bytes
  have hr := B.returns
  have ht : ∀ w ∈ lw_gd, w.before args s = true := fun w hw => atoms_spec (ws := WW yX12_gives cX12_gives 2 (some .int)) B.pre w (List.mem_cons_of_mem _ hw)
  have hown : s.vm.findClass RX12 = some m.cls := findClass_of_methodNamed B.named
  have hlocks := B.notSynchronized
  have hP : PD D A [bl_X12 cy A_m m_at m_names m_status m_top m_bottom m_sort m_trayMany m_trays m_tape m_text m_taped m_size m_token m_from m_end m_value m_faultKind m_faultPlace m_faults m_seen m_toldParts m_opened m_depth m_counted m_bestOrder m_standers m_has m_bestHas m_standerMany m_bestCouples m_bestFondness m_cameTo m_doesStandFirst m_stoodBy m_drawn m_ranSteps m_loops m_ran m_told1 m_isTold m_marks] s.heap := ⟨hP, by rw [hA]; exact hD0.own⟩
  have hS : va_S A s.heap s.heap [] := va_S.rf
  obtain ⟨ls, hl, hent⟩ := ent (m := m) (n := 2) hargs (Nat.le_of_ble_eq_true rfl) (lv := [(0, .ref (A_m 0)), (1, .int x1)]) rfl
  rw [hent]
  clear hent
  unfold f_X12_gives at h
  refine lv_aload_n hx hb dX12_gives_0 rfl (lv_at hl 0 rfl) ?_
  refine lv_iconst (v := 0) hx hb dX12_gives_1 (by decide) ?_
  refine xput (i := 0) (j := 0) (k := 2) (T := TX12) tyX12 tyX12_ok nmX12 hx hb ht tb_iX12 hown hX hP hS rfl rfl rfl (by decide) tb_1231 rfl rfl rfl (Nat.le_of_ble_eq_true rfl) dX12_gives_2 (fun H locs hP hS => ?_)
  have hP : PD D A [bl_X12 cy A_m m_at m_names 0 m_top m_bottom m_sort m_trayMany m_trays m_tape m_text m_taped m_size m_token m_from m_end m_value m_faultKind m_faultPlace m_faults m_seen m_toldParts m_opened m_depth m_counted m_bestOrder m_standers m_has m_bestHas m_standerMany m_bestCouples m_bestFondness m_cameTo m_doesStandFirst m_stoodBy m_drawn m_ranSteps m_loops m_ran m_told1 m_isTold m_marks] H := hP
  refine lv_iload_n hx hb dX12_gives_5 rfl (lv_at hl 1 rfl) ?_
  cases h
  subst hW1
  exact W.iret hx hb hr (fun _ ht9 _ => ⟨⟨_, (), rfl, rfl, hPt ht9 hP.1⟩, hS.F ht9⟩) hS.2.2 dX12_gives_6
theorem dX12_orNone_0 : decode cX12_orNone 0 = .ok (.iload_n 1, 1) := by decide +kernel
theorem dX12_orNone_1 : decode cX12_orNone 1 = .ok (.iconst (-1), 1) := by decide +kernel
theorem dX12_orNone_2 : decode cX12_orNone 2 = .ok (.if_icmp .ne 12, 3) := by decide +kernel
theorem dX12_orNone_5 : decode cX12_orNone 5 = .ok (.aload_n 0, 1) := by decide +kernel
theorem dX12_orNone_6 : decode cX12_orNone 6 = .ok (.bipush 6, 2) := by decide +kernel
theorem dX12_orNone_8 : decode cX12_orNone 8 = .ok (.invokevirtual 85, 3) := by decide +kernel
theorem dX12_orNone_11 : decode cX12_orNone 11 = .ok (.goto 8, 3) := by decide +kernel
theorem dX12_orNone_14 : decode cX12_orNone 14 = .ok (.aload_n 0, 1) := by decide +kernel
theorem dX12_orNone_15 : decode cX12_orNone 15 = .ok (.iload_n 1, 1) := by decide +kernel
theorem dX12_orNone_16 : decode cX12_orNone 16 = .ok (.invokevirtual 88, 3) := by decide +kernel
theorem dX12_orNone_19 : decode cX12_orNone 19 = .ok (.ireturn, 1) := by decide +kernel
theorem mv_X12_orNone : MV yX12_orNone RX12 cX12_orNone 2 (some .int) 1 := ⟨tb_1682, tb_1681, ts_87, tb_16, by decide +kernel, by decide +kernel, by decide +kernel⟩
def f_X12_orNone (fu : Nat) (m_status : Int32) (x1 : Int32) : Option (Int32 × Int32) := (if x1 = (-1) then (f_X12_refuse fu m_status 6).bind fun z_6 => some (z_6.1, z_6.2) else (f_X12_gives fu m_status x1).bind fun z_5 => some (z_5.1, z_5.2))
abbrev rm_X12_orNone : Room := { frames := 1, cells := 0, slots := 0, locals := 21 }
set_option maxHeartbeats 4000000 in
set_option maxRecDepth 100000 in
theorem c_X12_orNone (l : Launch) (D : va_G) (cy : Nat → ClassId) (fu : Nat) (A_m : Nat → Nat) (m_at : Nat → Int32) (m_names : Nat → Int64) (m_status : Int32) (m_top : Int64) (m_bottom : Int64) (m_sort : Nat → Int32) (m_trayMany : Nat → Int32) (m_trays : Nat → Int64) (m_tape : Nat → Int32) (m_text : Nat → Int32) (m_taped : Int32) (m_size : Int32) (m_token : Int32) (m_from : Int32) (m_end : Int32) (m_value : Int32) (m_faultKind : Int32) (m_faultPlace : Int32) (m_faults : Int32) (m_seen : Int32) (m_toldParts : Int32) (m_opened : Nat → Int32) (m_depth : Int32) (m_counted : Int32) (m_bestOrder : Int32) (m_standers : Nat → Int32) (m_has : Nat → Int32) (m_bestHas : Nat → Int32) (m_standerMany : Int32) (m_bestCouples : Int32) (m_bestFondness : Int32) (m_cameTo : Nat → Int32) (m_doesStandFirst : Int32) (m_stoodBy : Nat → Int64) (m_drawn : Int32) (m_ranSteps : Int32) (m_loops : Nat → Int32) (m_ran : Nat → Int32) (m_told1 : Nat → Int32) (m_isTold : Int32) (m_marks : Int32) (x1 : Int32) (res : Int32 × Int32) (h : f_X12_orNone fu m_status x1 = some res) (A : Nat → Prop) (hA : A = adr [bl_X12 cy A_m m_at m_names m_status m_top m_bottom m_sort m_trayMany m_trays m_tape m_text m_taped m_size m_token m_from m_end m_value m_faultKind m_faultPlace m_faults m_seen m_toldParts m_opened m_depth m_counted m_bestOrder m_standers m_has m_bestHas m_standerMany m_bestCouples m_bestFondness m_cameTo m_doesStandFirst m_stoodBy m_drawn m_ranSteps m_loops m_ran m_told1 m_isTold m_marks]) (W1 : List va_W) (hW1 : W1 = [bl_X12 cy A_m m_at m_names res.2 m_top m_bottom m_sort m_trayMany m_trays m_tape m_text m_taped m_size m_token m_from m_end m_value m_faultKind m_faultPlace m_faults m_seen m_toldParts m_opened m_depth m_counted m_bestOrder m_standers m_has m_bestHas m_standerMany m_bestCouples m_bestFondness m_cameTo m_doesStandFirst m_stoodBy m_drawn m_ranSteps m_loops m_ran m_told1 m_isTold m_marks]) : Met l yX12_orNone (WW yX12_orNone cX12_orNone 2 (some .int)) rm_X12_orNone (Ed D cy [.ref (A_m 0), .int x1] [bl_X12 cy A_m m_at m_names m_status m_top m_bottom m_sort m_trayMany m_trays m_tape m_text m_taped m_size m_token m_from m_end m_value m_faultKind m_faultPlace m_faults m_seen m_toldParts m_opened m_depth m_counted m_bestOrder m_standers m_has m_bestHas m_standerMany m_bestCouples m_bestFondness m_cameTo m_doesStandFirst m_stoodBy m_drawn m_ranSteps m_loops m_ran m_told1 m_isTold m_marks]) (Qei D res.1 A W1) 0 0 A := by
  refine Met.ofW (cc := cX12_orNone) (maxL := 2) (ret := (some .int)) (by decide) rfl ?_
  intro p e s m args below meth c s₁ B hml hv
  obtain ⟨hargs, hP, hX, hD0⟩ := hv
  have hx := B.exec
  have hb := B.bytes
  have hr := B.returns
  have ht : ∀ w ∈ lw_gd, w.before args s = true := fun w hw => atoms_spec (ws := WW yX12_orNone cX12_orNone 2 (some .int)) B.pre w (List.mem_cons_of_mem _ hw)
  have hown : s.vm.findClass RX12 = some m.cls := findClass_of_methodNamed B.named
  have hlocks := B.notSynchronized
  have hP : PD D A [bl_X12 cy A_m m_at m_names m_status m_top m_bottom m_sort m_trayMany m_trays m_tape m_text m_taped m_size m_token m_from m_end m_value m_faultKind m_faultPlace m_faults m_seen m_toldParts m_opened m_depth m_counted m_bestOrder m_standers m_has m_bestHas m_standerMany m_bestCouples m_bestFondness m_cameTo m_doesStandFirst m_stoodBy m_drawn m_ranSteps m_loops m_ran m_told1 m_isTold m_marks] s.heap := ⟨hP, by rw [hA]; exact hD0.own⟩
  have hS : va_S A s.heap s.heap [] := va_S.rf
  obtain ⟨ls, hl, hent⟩ := ent (m := m) (n := 2) hargs (Nat.le_of_ble_eq_true rfl) (lv := [(0, .ref (A_m 0)), (1, .int x1)]) rfl
  rw [hent]
  clear hent
  unfold f_X12_orNone at h
  refine lv_iload_n hx hb dX12_orNone_0 rfl (lv_at hl 1 rfl) ?_
  refine lv_iconst (v := (-1)) hx hb dX12_orNone_1 (by decide) ?_
  refine lv_icmp_ne (tgt := 14) hx hb dX12_orNone_2 (by decide) (fun c_4 => ?_) (fun c_4 => ?_)
  · have h := ie c_4 h
    refine lv_aload_n hx hb dX12_orNone_14 rfl (lv_at hl 0 rfl) ?_
    refine lv_iload_n hx hb dX12_orNone_15 rfl (lv_at hl 1 rfl) ?_
    obtain ⟨z_5, e_z_5, h⟩ := bi h
    refine efVi (rest := []) ⟨hx, hb, hml, hown, ht⟩ (c_X12_gives l D cy fu A_m m_at m_names m_status m_top m_bottom m_sort m_trayMany m_trays m_tape m_text m_taped m_size m_token m_from m_end m_value m_faultKind m_faultPlace m_faults m_seen m_toldParts m_opened m_depth m_counted m_bestOrder m_standers m_has m_bestHas m_standerMany m_bestCouples m_bestFondness m_cameTo m_doesStandFirst m_stoodBy m_drawn m_ranSteps m_loops m_ran m_told1 m_isTold m_marks x1 z_5 e_z_5 _ rfl _ rfl) (cV ht mv_X12_gives tb_1499 rfl rfl ⟨Nat.le_of_ble_eq_true rfl, Nat.le_of_ble_eq_true rfl⟩) hP hS hX [0] rfl rfl rfl rfl rfl rfl hl.1 rfl (Nat.le_of_ble_eq_true rfl) dX12_orNone_16 ⟨Nat.le_of_ble_eq_true rfl, Nat.le_of_ble_eq_true rfl⟩ (fun H locs hP hS => ?_)
    have hP : PD D A [bl_X12 cy A_m m_at m_names z_5.2 m_top m_bottom m_sort m_trayMany m_trays m_tape m_text m_taped m_size m_token m_from m_end m_value m_faultKind m_faultPlace m_faults m_seen m_toldParts m_opened m_depth m_counted m_bestOrder m_standers m_has m_bestHas m_standerMany m_bestCouples m_bestFondness m_cameTo m_doesStandFirst m_stoodBy m_drawn m_ranSteps m_loops m_ran m_told1 m_isTold m_marks] H := hP
    cases h
    subst hW1
    exact W.iret hx hb hr (fun _ ht9 _ => ⟨⟨_, (), rfl, rfl, hPt ht9 hP.1⟩, hS.F ht9⟩) hS.2.2 dX12_orNone_19
  · have h := it c_4 h
    refine lv_aload_n hx hb dX12_orNone_5 rfl (lv_at hl 0 rfl) ?_
    refine lv_bipush (v := 6) hx hb dX12_orNone_6 (by decide) ?_
    obtain ⟨z_6, e_z_6, h⟩ := bi h
    refine efVi (rest := []) ⟨hx, hb, hml, hown, ht⟩ (c_X12_refuse l D cy fu A_m m_at m_names m_status m_top m_bottom m_sort m_trayMany m_trays m_tape m_text m_taped m_size m_token m_from m_end m_value m_faultKind m_faultPlace m_faults m_seen m_toldParts m_opened m_depth m_counted m_bestOrder m_standers m_has m_bestHas m_standerMany m_bestCouples m_bestFondness m_cameTo m_doesStandFirst m_stoodBy m_drawn m_ranSteps m_loops m_ran m_told1 m_isTold m_marks 6 z_6 e_z_6 _ rfl _ rfl) (cV ht mv_X12_refuse tb_1432 rfl rfl ⟨Nat.le_of_ble_eq_true rfl, Nat.le_of_ble_eq_true rfl⟩) hP hS hX [0] rfl rfl rfl rfl rfl rfl hl.1 rfl (Nat.le_of_ble_eq_true rfl) dX12_orNone_8 ⟨Nat.le_of_ble_eq_true rfl, Nat.le_of_ble_eq_true rfl⟩ (fun H locs hP hS => ?_)
    have hP : PD D A [bl_X12 cy A_m m_at m_names z_6.2 m_top m_bottom m_sort m_trayMany m_trays m_tape m_text m_taped m_size m_token m_from m_end m_value m_faultKind m_faultPlace m_faults m_seen m_toldParts m_opened m_depth m_counted m_bestOrder m_standers m_has m_bestHas m_standerMany m_bestCouples m_bestFondness m_cameTo m_doesStandFirst m_stoodBy m_drawn m_ranSteps m_loops m_ran m_told1 m_isTold m_marks] H := hP
    refine lv_goto (tgt := 19) hx hb dX12_orNone_11 (by decide) ?_
    cases h
    subst hW1
    exact W.iret hx hb hr (fun _ ht9 _ => ⟨⟨_, (), rfl, rfl, hPt ht9 hP.1⟩, hS.F ht9⟩) hS.2.2 dX12_orNone_19
theorem dX12_tellsBy_0 : decode cX12_tellsBy 0 = .ok (.lload_n 1, 1) := by decide +kernel
theorem dX12_tellsBy_1 : decode cX12_tellsBy 1 = .ok (.lstore 5, 2) := by decide +kernel
theorem dX12_tellsBy_3 : decode cX12_tellsBy 3 = .ok (.lload_n 3, 1) := by decide +kernel
theorem dX12_tellsBy_4 : decode cX12_tellsBy 4 = .ok (.lstore 7, 2) := by decide +kernel
theorem dX12_tellsBy_6 : decode cX12_tellsBy 6 = .ok (.lload 7, 2) := by decide +kernel
theorem dX12_tellsBy_8 : decode cX12_tellsBy 8 = .ok (.lconst 0, 1) := by decide +kernel
theorem dX12_tellsBy_9 : decode cX12_tellsBy 9 = .ok (.lcmp, 1) := by decide +kernel
theorem dX12_tellsBy_10 : decode cX12_tellsBy 10 = .ok (.ifCond .eq 21, 3) := by decide +kernel
theorem dX12_tellsBy_13 : decode cX12_tellsBy 13 = .ok (.lload 5, 2) := by decide +kernel
theorem dX12_tellsBy_15 : decode cX12_tellsBy 15 = .ok (.lload 7, 2) := by decide +kernel
theorem dX12_tellsBy_17 : decode cX12_tellsBy 17 = .ok (.lrem, 1) := by decide +kernel
theorem dX12_tellsBy_18 : decode cX12_tellsBy 18 = .ok (.lstore 9, 2) := by decide +kernel
theorem dX12_tellsBy_20 : decode cX12_tellsBy 20 = .ok (.lload 7, 2) := by decide +kernel
theorem dX12_tellsBy_22 : decode cX12_tellsBy 22 = .ok (.lstore 5, 2) := by decide +kernel
theorem dX12_tellsBy_24 : decode cX12_tellsBy 24 = .ok (.lload 9, 2) := by decide +kernel
theorem dX12_tellsBy_26 : decode cX12_tellsBy 26 = .ok (.lstore 7, 2) := by decide +kernel
theorem dX12_tellsBy_28 : decode cX12_tellsBy 28 = .ok (.goto (-22), 3) := by decide +kernel
theorem dX12_tellsBy_31 : decode cX12_tellsBy 31 = .ok (.aload_n 0, 1) := by decide +kernel
theorem dX12_tellsBy_32 : decode cX12_tellsBy 32 = .ok (.lload_n 1, 1) := by decide +kernel
theorem dX12_tellsBy_33 : decode cX12_tellsBy 33 = .ok (.lload 5, 2) := by decide +kernel
theorem dX12_tellsBy_35 : decode cX12_tellsBy 35 = .ok (.ldiv, 1) := by decide +kernel
theorem dX12_tellsBy_36 : decode cX12_tellsBy 36 = .ok (.putfield 82, 3) := by decide +kernel
theorem dX12_tellsBy_39 : decode cX12_tellsBy 39 = .ok (.aload_n 0, 1) := by decide +kernel
theorem dX12_tellsBy_40 : decode cX12_tellsBy 40 = .ok (.lload_n 3, 1) := by decide +kernel
theorem dX12_tellsBy_41 : decode cX12_tellsBy 41 = .ok (.lload 5, 2) := by decide +kernel
theorem dX12_tellsBy_43 : decode cX12_tellsBy 43 = .ok (.ldiv, 1) := by decide +kernel
theorem dX12_tellsBy_44 : decode cX12_tellsBy 44 = .ok (.putfield 17, 3) := by decide +kernel
theorem dX12_tellsBy_47 : decode cX12_tellsBy 47 = .ok (.aload_n 0, 1) := by decide +kernel
theorem dX12_tellsBy_48 : decode cX12_tellsBy 48 = .ok (.iconst 0, 1) := by decide +kernel
theorem dX12_tellsBy_49 : decode cX12_tellsBy 49 = .ok (.invokevirtual 91, 3) := by decide +kernel
theorem dX12_tellsBy_52 : decode cX12_tellsBy 52 = .ok (.ireturn, 1) := by decide +kernel
theorem mv_X12_tellsBy : MV yX12_tellsBy RX12 cX12_tellsBy 11 (some .boolean) 2 := ⟨tb_1729, tb_1728, ts_92, tb_16, by decide +kernel, by decide +kernel, by decide +kernel⟩
def f_X12_tellsBy_b6 (fu : Nat) (x1 : Int64) (x3 : Int64) (k6 : Int32 → Int64 → Int64 → Int64 → Int64 → Option (Int32 × Int32 × Int64 × Int64)) (m_status : Int32) (m_top : Int64) (m_bottom : Int64) (x5 : Int64) (x7 : Int64) : Option (Int32 × Int32 × Int64 × Int64) := (if (lg_cmp x7 0) = 0 then (nzJ x5).bind fun y_11 => bnd (x1 / x5) fun m_top_12 => (nzJ x5).bind fun y_13 => bnd (x3 / x5) fun m_bottom_14 => (f_X12_is fu m_status 0).bind fun z_15 => (bz z_15.1).bind fun _ => some (z_15.1, z_15.2, m_top_12, m_bottom_14) else (nzJ x7).bind fun y_17 => bnd (x5 - x5 / x7 * x7) fun x9_18 => k6 m_status m_top m_bottom x7 x9_18)
def f_X12_tellsBy_l6 (fu : Nat) (x1 : Int64) (x3 : Int64) : Nat → Int32 → Int64 → Int64 → Int64 → Int64 → Option (Int32 × Int32 × Int64 × Int64)
  | 0, _, _, _, _, _ => none
  | n + 1, m_status, m_top, m_bottom, x5, x7 => f_X12_tellsBy_b6 fu x1 x3 (f_X12_tellsBy_l6 fu x1 x3 n) m_status m_top m_bottom x5 x7
def f_X12_tellsBy (fu : Nat) (m_status : Int32) (m_top : Int64) (m_bottom : Int64) (x1 : Int64) (x3 : Int64) : Option (Int32 × Int32 × Int64 × Int64) := f_X12_tellsBy_l6 fu x1 x3 fu m_status m_top m_bottom x1 x3
abbrev rm_X12_tellsBy : Room := { frames := 1, cells := 0, slots := 0, locals := 21 }
set_option maxHeartbeats 4000000 in
set_option maxRecDepth 100000 in
theorem c_X12_tellsBy (l : Launch) (D : va_G) (cy : Nat → ClassId) (fu : Nat) (A_m : Nat → Nat) (m_at : Nat → Int32) (m_names : Nat → Int64) (m_status : Int32) (m_top : Int64) (m_bottom : Int64) (m_sort : Nat → Int32) (m_trayMany : Nat → Int32) (m_trays : Nat → Int64) (m_tape : Nat → Int32) (m_text : Nat → Int32) (m_taped : Int32) (m_size : Int32) (m_token : Int32) (m_from : Int32) (m_end : Int32) (m_value : Int32) (m_faultKind : Int32) (m_faultPlace : Int32) (m_faults : Int32) (m_seen : Int32) (m_toldParts : Int32) (m_opened : Nat → Int32) (m_depth : Int32) (m_counted : Int32) (m_bestOrder : Int32) (m_standers : Nat → Int32) (m_has : Nat → Int32) (m_bestHas : Nat → Int32) (m_standerMany : Int32) (m_bestCouples : Int32) (m_bestFondness : Int32) (m_cameTo : Nat → Int32) (m_doesStandFirst : Int32) (m_stoodBy : Nat → Int64) (m_drawn : Int32) (m_ranSteps : Int32) (m_loops : Nat → Int32) (m_ran : Nat → Int32) (m_told1 : Nat → Int32) (m_isTold : Int32) (m_marks : Int32) (x1 : Int64) (x3 : Int64) (res : Int32 × Int32 × Int64 × Int64) (h : f_X12_tellsBy fu m_status m_top m_bottom x1 x3 = some res) (A : Nat → Prop) (hA : A = adr [bl_X12 cy A_m m_at m_names m_status m_top m_bottom m_sort m_trayMany m_trays m_tape m_text m_taped m_size m_token m_from m_end m_value m_faultKind m_faultPlace m_faults m_seen m_toldParts m_opened m_depth m_counted m_bestOrder m_standers m_has m_bestHas m_standerMany m_bestCouples m_bestFondness m_cameTo m_doesStandFirst m_stoodBy m_drawn m_ranSteps m_loops m_ran m_told1 m_isTold m_marks]) (W1 : List va_W) (hW1 : W1 = [bl_X12 cy A_m m_at m_names res.2.1 res.2.2.1 res.2.2.2 m_sort m_trayMany m_trays m_tape m_text m_taped m_size m_token m_from m_end m_value m_faultKind m_faultPlace m_faults m_seen m_toldParts m_opened m_depth m_counted m_bestOrder m_standers m_has m_bestHas m_standerMany m_bestCouples m_bestFondness m_cameTo m_doesStandFirst m_stoodBy m_drawn m_ranSteps m_loops m_ran m_told1 m_isTold m_marks]) : Met l yX12_tellsBy (WW yX12_tellsBy cX12_tellsBy 11 (some .boolean)) rm_X12_tellsBy (Ed D cy [.ref (A_m 0), .long x1, .long x3] [bl_X12 cy A_m m_at m_names m_status m_top m_bottom m_sort m_trayMany m_trays m_tape m_text m_taped m_size m_token m_from m_end m_value m_faultKind m_faultPlace m_faults m_seen m_toldParts m_opened m_depth m_counted m_bestOrder m_standers m_has m_bestHas m_standerMany m_bestCouples m_bestFondness m_cameTo m_doesStandFirst m_stoodBy m_drawn m_ranSteps m_loops m_ran m_told1 m_isTold m_marks]) (Qei D res.1 A W1) 0 0 A := by
  refine Met.ofW (cc := cX12_tellsBy) (maxL := 11) (ret := (some .boolean)) (by decide) rfl ?_
  intro p e s m args below meth c s₁ B hml hv
  obtain ⟨hargs, hP, hX, hD0⟩ := hv
  have hx := B.exec
  have hb := B.bytes
  have hr := B.returns
  have ht : ∀ w ∈ lw_gd, w.before args s = true := fun w hw => atoms_spec (ws := WW yX12_tellsBy cX12_tellsBy 11 (some .boolean)) B.pre w (List.mem_cons_of_mem _ hw)
  have hown : s.vm.findClass RX12 = some m.cls := findClass_of_methodNamed B.named
  have hlocks := B.notSynchronized
  have hP : PD D A [bl_X12 cy A_m m_at m_names m_status m_top m_bottom m_sort m_trayMany m_trays m_tape m_text m_taped m_size m_token m_from m_end m_value m_faultKind m_faultPlace m_faults m_seen m_toldParts m_opened m_depth m_counted m_bestOrder m_standers m_has m_bestHas m_standerMany m_bestCouples m_bestFondness m_cameTo m_doesStandFirst m_stoodBy m_drawn m_ranSteps m_loops m_ran m_told1 m_isTold m_marks] s.heap := ⟨hP, by rw [hA]; exact hD0.own⟩
  have hS : va_S A s.heap s.heap [] := va_S.rf
  obtain ⟨ls, hl, hent⟩ := ent (m := m) (n := 11) hargs (Nat.le_of_ble_eq_true rfl) (lv := [(0, .ref (A_m 0)), (1, .long x1), (3, .long x3)]) rfl
  rw [hent]
  clear hent
  have l6 : ∀ (n6 : Nat) (m_status : Int32) (m_top : Int64) (m_bottom : Int64) (x5 : Int64) (x7 : Int64) (H : Heap) (locs : List Loc) (_ : PD D A [bl_X12 cy A_m m_at m_names m_status m_top m_bottom m_sort m_trayMany m_trays m_tape m_text m_taped m_size m_token m_from m_end m_value m_faultKind m_faultPlace m_faults m_seen m_toldParts m_opened m_depth m_counted m_bestOrder m_standers m_has m_bestHas m_standerMany m_bestCouples m_bestFondness m_cameTo m_doesStandFirst m_stoodBy m_drawn m_ranSteps m_loops m_ran m_told1 m_isTold m_marks] H) (_ : va_S A s.heap H locs) (ls : Array Slot), lv_has ls 11 [(0, .ref (A_m 0)), (1, .long x1), (3, .long x3), (5, .long x5), (7, .long x7)] → f_X12_tellsBy_l6 fu x1 x3 n6 m_status m_top m_bottom x5 x7 = some res → W p l e (headSpec (WW yX12_tellsBy cX12_tellsBy 11 (some .boolean)) rm_X12_tellsBy).room s m args below meth c H locs 0 0 (MQ below (Qei D res.1 A W1) args s 0 0 A) (F0 m 6 ls []) := by
    intro n6
    induction n6 with
    | zero => intro m_status m_top m_bottom x5 x7 H locs hP hS ls hl h; cases h
    | succ n6 ih6 =>
      intro m_status m_top m_bottom x5 x7 H locs hP hS ls hl h
      have h : f_X12_tellsBy_b6 fu x1 x3 (f_X12_tellsBy_l6 fu x1 x3 n6) m_status m_top m_bottom x5 x7 = some res := h
      unfold f_X12_tellsBy_b6 at h
      refine lv_lload hx hb dX12_tellsBy_6 (lv_at hl 4 rfl) ?_
      refine lv_lconst (v := 0) hx hb dX12_tellsBy_8 (by decide) ?_
      refine W.lcmp hx hb dX12_tellsBy_9 ?_
      refine lv_if_eq (tgt := 31) hx hb dX12_tellsBy_10 (by decide) (fun c_10 => ?_) (fun c_10 => ?_)
      · have h := it c_10 h
        refine lv_aload_n hx hb dX12_tellsBy_31 rfl (lv_at hl 0 rfl) ?_
        refine lv_lload_n hx hb dX12_tellsBy_32 rfl (lv_at hl 1 rfl) ?_
        refine lv_lload hx hb dX12_tellsBy_33 (lv_at hl 3 rfl) ?_
        obtain ⟨y_11, e_y_11, h⟩ := bi h
        refine lv_ldiv hx hb dX12_tellsBy_35 (nzJ_ok e_y_11).1 ?_
        refine lv_topl (fun m_top_12 e_m_top_12 => ?_)
        have h := bn e_m_top_12 h
        refine xput (i := 0) (j := 0) (k := 3) (T := TX12) tyX12 tyX12_ok nmX12 hx hb ht tb_iX12 hown hX hP hS rfl rfl rfl (by decide) tb_1232 rfl rfl rfl (Nat.le_of_ble_eq_true rfl) dX12_tellsBy_36 (fun H locs hP hS => ?_)
        have hP : PD D A [bl_X12 cy A_m m_at m_names m_status m_top_12 m_bottom m_sort m_trayMany m_trays m_tape m_text m_taped m_size m_token m_from m_end m_value m_faultKind m_faultPlace m_faults m_seen m_toldParts m_opened m_depth m_counted m_bestOrder m_standers m_has m_bestHas m_standerMany m_bestCouples m_bestFondness m_cameTo m_doesStandFirst m_stoodBy m_drawn m_ranSteps m_loops m_ran m_told1 m_isTold m_marks] H := hP
        refine lv_aload_n hx hb dX12_tellsBy_39 rfl (lv_at hl 0 rfl) ?_
        refine lv_lload_n hx hb dX12_tellsBy_40 rfl (lv_at hl 2 rfl) ?_
        refine lv_lload hx hb dX12_tellsBy_41 (lv_at hl 3 rfl) ?_
        obtain ⟨y_13, e_y_13, h⟩ := bi h
        refine lv_ldiv hx hb dX12_tellsBy_43 (nzJ_ok e_y_13).1 ?_
        refine lv_topl (fun m_bottom_14 e_m_bottom_14 => ?_)
        have h := bn e_m_bottom_14 h
        refine xput (i := 0) (j := 0) (k := 4) (T := TX12) tyX12 tyX12_ok nmX12 hx hb ht tb_iX12 hown hX hP hS rfl rfl rfl (by decide) tb_1233 rfl rfl rfl (Nat.le_of_ble_eq_true rfl) dX12_tellsBy_44 (fun H locs hP hS => ?_)
        have hP : PD D A [bl_X12 cy A_m m_at m_names m_status m_top_12 m_bottom_14 m_sort m_trayMany m_trays m_tape m_text m_taped m_size m_token m_from m_end m_value m_faultKind m_faultPlace m_faults m_seen m_toldParts m_opened m_depth m_counted m_bestOrder m_standers m_has m_bestHas m_standerMany m_bestCouples m_bestFondness m_cameTo m_doesStandFirst m_stoodBy m_drawn m_ranSteps m_loops m_ran m_told1 m_isTold m_marks] H := hP
        refine lv_aload_n hx hb dX12_tellsBy_47 rfl (lv_at hl 0 rfl) ?_
        refine lv_iconst (v := 0) hx hb dX12_tellsBy_48 (by decide) ?_
        obtain ⟨z_15, e_z_15, h⟩ := bi h
        refine efVi (rest := []) ⟨hx, hb, hml, hown, ht⟩ (c_X12_is l D cy fu A_m m_at m_names m_status m_top_12 m_bottom_14 m_sort m_trayMany m_trays m_tape m_text m_taped m_size m_token m_from m_end m_value m_faultKind m_faultPlace m_faults m_seen m_toldParts m_opened m_depth m_counted m_bestOrder m_standers m_has m_bestHas m_standerMany m_bestCouples m_bestFondness m_cameTo m_doesStandFirst m_stoodBy m_drawn m_ranSteps m_loops m_ran m_told1 m_isTold m_marks 0 z_15 e_z_15 _ rfl _ rfl) (cV ht mv_X12_is tb_1372 rfl rfl ⟨Nat.le_of_ble_eq_true rfl, Nat.le_of_ble_eq_true rfl⟩) hP hS hX [0] rfl rfl rfl rfl rfl rfl hl.1 rfl (Nat.le_of_ble_eq_true rfl) dX12_tellsBy_49 ⟨Nat.le_of_ble_eq_true rfl, Nat.le_of_ble_eq_true rfl⟩ (fun H locs hP hS => ?_)
        have hP : PD D A [bl_X12 cy A_m m_at m_names z_15.2 m_top_12 m_bottom_14 m_sort m_trayMany m_trays m_tape m_text m_taped m_size m_token m_from m_end m_value m_faultKind m_faultPlace m_faults m_seen m_toldParts m_opened m_depth m_counted m_bestOrder m_standers m_has m_bestHas m_standerMany m_bestCouples m_bestFondness m_cameTo m_doesStandFirst m_stoodBy m_drawn m_ranSteps m_loops m_ran m_told1 m_isTold m_marks] H := hP
        obtain ⟨b_16, e_b_16, h⟩ := bi h
        obtain ⟨-, n_b_16, -⟩ := bz_ok e_b_16
        cases h
        subst hW1
        exact W.zret hx hb hr n_b_16 (fun _ ht9 _ => ⟨⟨_, (), rfl, rfl, hPt ht9 hP.1⟩, hS.F ht9⟩) hS.2.2 dX12_tellsBy_52
      · have h := ie c_10 h
        refine lv_lload hx hb dX12_tellsBy_13 (lv_at hl 3 rfl) ?_
        refine lv_lload hx hb dX12_tellsBy_15 (lv_at hl 4 rfl) ?_
        obtain ⟨y_17, e_y_17, h⟩ := bi h
        refine lv_lrem hx hb dX12_tellsBy_17 (nzJ_ok e_y_17).1 ?_
        refine lv_topl (fun x9_18 e_x9_18 => ?_)
        have h := bn e_x9_18 h
        refine lv_lstore (lv' := [(9, .long x9_18), (0, .ref (A_m 0)), (1, .long x1), (3, .long x3), (5, .long x5), (7, .long x7)]) hx hb dX12_tellsBy_18 hl (by decide) rfl (fun ls hl => ?_)
        refine lv_lload hx hb dX12_tellsBy_20 (lv_at hl 5 rfl) ?_
        refine lv_lstore (lv' := [(5, .long x7), (9, .long x9_18), (0, .ref (A_m 0)), (1, .long x1), (3, .long x3), (7, .long x7)]) hx hb dX12_tellsBy_22 hl (by decide) rfl (fun ls hl => ?_)
        refine lv_lload hx hb dX12_tellsBy_24 (lv_at hl 1 rfl) ?_
        refine lv_lstore (lv' := [(7, .long x9_18), (5, .long x7), (9, .long x9_18), (0, .ref (A_m 0)), (1, .long x1), (3, .long x3)]) hx hb dX12_tellsBy_26 hl (by decide) rfl (fun ls hl => ?_)
        refine lv_goto (tgt := 6) hx hb dX12_tellsBy_28 (by decide) ?_
        exact ih6 m_status m_top m_bottom x7 x9_18 _ _ hP hS ls (lv_sub hl [3, 4, 5, 1, 0] rfl) h
  unfold f_X12_tellsBy at h
  refine lv_lload_n hx hb dX12_tellsBy_0 rfl (lv_at hl 1 rfl) ?_
  refine lv_lstore (lv' := [(5, .long x1), (0, .ref (A_m 0)), (1, .long x1), (3, .long x3)]) hx hb dX12_tellsBy_1 hl (by decide) rfl (fun ls hl => ?_)
  refine lv_lload_n hx hb dX12_tellsBy_3 rfl (lv_at hl 3 rfl) ?_
  refine lv_lstore (lv' := [(7, .long x3), (5, .long x1), (0, .ref (A_m 0)), (1, .long x1), (3, .long x3)]) hx hb dX12_tellsBy_4 hl (by decide) rfl (fun ls hl => ?_)
  exact l6 fu m_status m_top m_bottom x1 x3 _ _ hP hS ls (lv_sub hl [2, 3, 4, 1, 0] rfl) h
theorem dX12_isTray_0 : decode cX12_isTray 0 = .ok (.iload_n 0, 1) := by decide +kernel
theorem dX12_isTray_1 : decode cX12_isTray 1 = .ok (.ifCond .lt 12, 3) := by decide +kernel
theorem dX12_isTray_4 : decode cX12_isTray 4 = .ok (.iload_n 0, 1) := by decide +kernel
theorem dX12_isTray_5 : decode cX12_isTray 5 = .ok (.iconst 4, 1) := by decide +kernel
theorem dX12_isTray_6 : decode cX12_isTray 6 = .ok (.if_icmp .ge 7, 3) := by decide +kernel
theorem dX12_isTray_9 : decode cX12_isTray 9 = .ok (.iconst 1, 1) := by decide +kernel
theorem dX12_isTray_10 : decode cX12_isTray 10 = .ok (.goto 4, 3) := by decide +kernel
theorem dX12_isTray_13 : decode cX12_isTray 13 = .ok (.iconst 0, 1) := by decide +kernel
theorem dX12_isTray_14 : decode cX12_isTray 14 = .ok (.ireturn, 1) := by decide +kernel
theorem ms_X12_isTray : MS yX12_isTray cX12_isTray 1 (some .boolean) 1 := ⟨tb_1371, tb_1370, tb_16, by decide +kernel, by decide +kernel, by decide +kernel⟩
def f_X12_isTray (fu : Nat) (x0 : Int32) : Option (Int32) := (if x0 < 0 then some (0) else (if 4 ≤ x0 then some (0) else some (1)))
abbrev rm_X12_isTray : Room := { frames := 0, cells := 0, slots := 0, locals := 0 }
set_option maxHeartbeats 4000000 in
set_option maxRecDepth 100000 in
theorem c_X12_isTray (l : Launch) (D : va_G) (cy : Nat → ClassId) (fu : Nat) (x0 : Int32) (res : Int32) (h : f_X12_isTray fu x0 = some res) : Met l yX12_isTray (WW yX12_isTray cX12_isTray 1 (some .boolean)) rm_X12_isTray (Rd D cy [.int x0] []) (vp_Si (fun v => v = res)) 0 0 (fun _ => False) := by
  refine Met.ofW (cc := cX12_isTray) (maxL := 1) (ret := (some .boolean)) (by decide) rfl ?_
  intro p e s m args below meth c s₁ B hml hv
  obtain ⟨hargs, hP, hX⟩ := hv
  have hx := B.exec
  have hb := B.bytes
  have hr := B.returns
  have ht : ∀ w ∈ lw_gd, w.before args s = true := fun w hw => atoms_spec (ws := WW yX12_isTray cX12_isTray 1 (some .boolean)) B.pre w (List.mem_cons_of_mem _ hw)
  have hown : s.vm.findClass RX12 = some m.cls := findClass_of_methodNamed B.named
  have hlocks := B.notSynchronized
  have hP : PB D [] s.heap := hP
  obtain ⟨ls, hl, hent⟩ := ent (m := m) (n := 1) hargs (Nat.le_of_ble_eq_true rfl) (lv := [(0, .int x0)]) rfl
  rw [hent]
  clear hent
  unfold f_X12_isTray at h
  refine lv_iload_n hx hb dX12_isTray_0 rfl (lv_at hl 0 rfl) ?_
  refine lv_if_lt (tgt := 13) hx hb dX12_isTray_1 (by decide) (fun c_3 => ?_) (fun c_3 => ?_)
  · have h := it c_3 h
    refine lv_iconst (v := 0) hx hb dX12_isTray_13 (by decide) ?_
    cases h
    exact W.zret hx hb hr rfl (fun _ ht9 _ => ⟨_, rfl, rfl, ht9⟩) (fun _ hq => by cases hq) dX12_isTray_14
  · have h := ie c_3 h
    refine lv_iload_n hx hb dX12_isTray_4 rfl (lv_at hl 0 rfl) ?_
    refine lv_iconst (v := 4) hx hb dX12_isTray_5 (by decide) ?_
    refine lv_icmp_ge (tgt := 13) hx hb dX12_isTray_6 (by decide) (fun c_4 => ?_) (fun c_4 => ?_)
    · have h := it c_4 h
      refine lv_iconst (v := 0) hx hb dX12_isTray_13 (by decide) ?_
      cases h
      exact W.zret hx hb hr rfl (fun _ ht9 _ => ⟨_, rfl, rfl, ht9⟩) (fun _ hq => by cases hq) dX12_isTray_14
    · have h := ie c_4 h
      refine lv_iconst (v := 1) hx hb dX12_isTray_9 (by decide) ?_
      refine lv_goto (tgt := 14) hx hb dX12_isTray_10 (by decide) ?_
      cases h
      exact W.zret hx hb hr rfl (fun _ ht9 _ => ⟨_, rfl, rfl, ht9⟩) (fun _ hq => by cases hq) dX12_isTray_14
theorem dX12_cut_0 : decode cX12_cut 0 = .ok (.iload_n 2, 1) := by decide +kernel
theorem dX12_cut_1 : decode cX12_cut 1 = .ok (.ifCond .ne 10, 3) := by decide +kernel
theorem dX12_cut_4 : decode cX12_cut 4 = .ok (.lload_n 0, 1) := by decide +kernel
theorem dX12_cut_5 : decode cX12_cut 5 = .ok (.l2i, 1) := by decide +kernel
theorem dX12_cut_6 : decode cX12_cut 6 = .ok (.i2b, 1) := by decide +kernel
theorem dX12_cut_7 : decode cX12_cut 7 = .ok (.i2l, 1) := by decide +kernel
theorem dX12_cut_8 : decode cX12_cut 8 = .ok (.goto 27, 3) := by decide +kernel
theorem dX12_cut_11 : decode cX12_cut 11 = .ok (.iload_n 2, 1) := by decide +kernel
theorem dX12_cut_12 : decode cX12_cut 12 = .ok (.iconst 1, 1) := by decide +kernel
theorem dX12_cut_13 : decode cX12_cut 13 = .ok (.if_icmp .ne 10, 3) := by decide +kernel
theorem dX12_cut_16 : decode cX12_cut 16 = .ok (.lload_n 0, 1) := by decide +kernel
theorem dX12_cut_17 : decode cX12_cut 17 = .ok (.l2i, 1) := by decide +kernel
theorem dX12_cut_18 : decode cX12_cut 18 = .ok (.i2s, 1) := by decide +kernel
theorem dX12_cut_19 : decode cX12_cut 19 = .ok (.i2l, 1) := by decide +kernel
theorem dX12_cut_20 : decode cX12_cut 20 = .ok (.goto 15, 3) := by decide +kernel
theorem dX12_cut_23 : decode cX12_cut 23 = .ok (.iload_n 2, 1) := by decide +kernel
theorem dX12_cut_24 : decode cX12_cut 24 = .ok (.iconst 2, 1) := by decide +kernel
theorem dX12_cut_25 : decode cX12_cut 25 = .ok (.if_icmp .ne 9, 3) := by decide +kernel
theorem dX12_cut_28 : decode cX12_cut 28 = .ok (.lload_n 0, 1) := by decide +kernel
theorem dX12_cut_29 : decode cX12_cut 29 = .ok (.l2i, 1) := by decide +kernel
theorem dX12_cut_30 : decode cX12_cut 30 = .ok (.i2l, 1) := by decide +kernel
theorem dX12_cut_31 : decode cX12_cut 31 = .ok (.goto 4, 3) := by decide +kernel
theorem dX12_cut_34 : decode cX12_cut 34 = .ok (.lload_n 0, 1) := by decide +kernel
theorem dX12_cut_35 : decode cX12_cut 35 = .ok (.lreturn, 1) := by decide +kernel
theorem ms_X12_cut : MS yX12_cut cX12_cut 3 (some .long) 2 := ⟨tb_1386, tb_1385, tb_16, by decide +kernel, by decide +kernel, by decide +kernel⟩
def f_X12_cut (fu : Nat) (x0 : Int64) (x2 : Int32) : Option (Int64) := (if x2 = 0 then some (Int32.toInt64 ((Int32.toInt8 (Int64.toInt32 x0)).toInt32)) else (if x2 = 1 then some (Int32.toInt64 ((Int32.toInt16 (Int64.toInt32 x0)).toInt32)) else (if x2 = 2 then some (Int32.toInt64 (Int64.toInt32 x0)) else some (x0))))
abbrev rm_X12_cut : Room := { frames := 0, cells := 0, slots := 0, locals := 0 }
set_option maxHeartbeats 4000000 in
set_option maxRecDepth 100000 in
theorem c_X12_cut (l : Launch) (D : va_G) (cy : Nat → ClassId) (fu : Nat) (x0 : Int64) (x2 : Int32) (res : Int64) (h : f_X12_cut fu x0 x2 = some res) : Met l yX12_cut (WW yX12_cut cX12_cut 3 (some .long)) rm_X12_cut (Rd D cy [.long x0, .int x2] []) (vp_Sl (fun v => v = res)) 0 0 (fun _ => False) := by
  refine Met.ofW (cc := cX12_cut) (maxL := 3) (ret := (some .long)) (by decide) rfl ?_
  intro p e s m args below meth c s₁ B hml hv
  obtain ⟨hargs, hP, hX⟩ := hv
  have hx := B.exec
  have hb := B.bytes
  have hr := B.returns
  have ht : ∀ w ∈ lw_gd, w.before args s = true := fun w hw => atoms_spec (ws := WW yX12_cut cX12_cut 3 (some .long)) B.pre w (List.mem_cons_of_mem _ hw)
  have hown : s.vm.findClass RX12 = some m.cls := findClass_of_methodNamed B.named
  have hlocks := B.notSynchronized
  have hP : PB D [] s.heap := hP
  obtain ⟨ls, hl, hent⟩ := ent (m := m) (n := 3) hargs (Nat.le_of_ble_eq_true rfl) (lv := [(0, .long x0), (2, .int x2)]) rfl
  rw [hent]
  clear hent
  unfold f_X12_cut at h
  refine lv_iload_n hx hb dX12_cut_0 rfl (lv_at hl 1 rfl) ?_
  refine lv_if_ne (tgt := 11) hx hb dX12_cut_1 (by decide) (fun c_4 => ?_) (fun c_4 => ?_)
  · have h := ie c_4 h
    refine lv_iload_n hx hb dX12_cut_11 rfl (lv_at hl 1 rfl) ?_
    refine lv_iconst (v := 1) hx hb dX12_cut_12 (by decide) ?_
    refine lv_icmp_ne (tgt := 23) hx hb dX12_cut_13 (by decide) (fun c_5 => ?_) (fun c_5 => ?_)
    · have h := ie c_5 h
      refine lv_iload_n hx hb dX12_cut_23 rfl (lv_at hl 1 rfl) ?_
      refine lv_iconst (v := 2) hx hb dX12_cut_24 (by decide) ?_
      refine lv_icmp_ne (tgt := 34) hx hb dX12_cut_25 (by decide) (fun c_6 => ?_) (fun c_6 => ?_)
      · have h := ie c_6 h
        refine lv_lload_n hx hb dX12_cut_34 rfl (lv_at hl 0 rfl) ?_
        cases h
        exact W.lret hx hb hr (fun _ ht9 _ => ⟨_, rfl, rfl, ht9⟩) (fun _ hq => by cases hq) dX12_cut_35
      · have h := it c_6 h
        refine lv_lload_n hx hb dX12_cut_28 rfl (lv_at hl 0 rfl) ?_
        refine lv_l2i (v := Int64.toInt32 x0) hx hb dX12_cut_29 rfl ?_
        refine lv_i2l (v := Int32.toInt64 (Int64.toInt32 x0)) hx hb dX12_cut_30 rfl ?_
        refine lv_goto (tgt := 35) hx hb dX12_cut_31 (by decide) ?_
        cases h
        exact W.lret hx hb hr (fun _ ht9 _ => ⟨_, rfl, rfl, ht9⟩) (fun _ hq => by cases hq) dX12_cut_35
    · have h := it c_5 h
      refine lv_lload_n hx hb dX12_cut_16 rfl (lv_at hl 0 rfl) ?_
      refine lv_l2i (v := Int64.toInt32 x0) hx hb dX12_cut_17 rfl ?_
      refine lv_i2s (v := (Int32.toInt16 (Int64.toInt32 x0)).toInt32) hx hb dX12_cut_18 rfl ?_
      refine lv_i2l (v := Int32.toInt64 ((Int32.toInt16 (Int64.toInt32 x0)).toInt32)) hx hb dX12_cut_19 rfl ?_
      refine lv_goto (tgt := 35) hx hb dX12_cut_20 (by decide) ?_
      cases h
      exact W.lret hx hb hr (fun _ ht9 _ => ⟨_, rfl, rfl, ht9⟩) (fun _ hq => by cases hq) dX12_cut_35
  · have h := it c_4 h
    refine lv_lload_n hx hb dX12_cut_4 rfl (lv_at hl 0 rfl) ?_
    refine lv_l2i (v := Int64.toInt32 x0) hx hb dX12_cut_5 rfl ?_
    refine lv_i2b (v := (Int32.toInt8 (Int64.toInt32 x0)).toInt32) hx hb dX12_cut_6 rfl ?_
    refine lv_i2l (v := Int32.toInt64 ((Int32.toInt8 (Int64.toInt32 x0)).toInt32)) hx hb dX12_cut_7 rfl ?_
    refine lv_goto (tgt := 35) hx hb dX12_cut_8 (by decide) ?_
    cases h
    exact W.lret hx hb hr (fun _ ht9 _ => ⟨_, rfl, rfl, ht9⟩) (fun _ hq => by cases hq) dX12_cut_35
theorem dX12_tray_0 : decode cX12_tray 0 = .ok (.iload_n 1, 1) := by decide +kernel
theorem dX12_tray_1 : decode cX12_tray 1 = .ok (.invokestatic 95, 3) := by decide +kernel
theorem dX12_tray_4 : decode cX12_tray 4 = .ok (.ifCond .eq 22, 3) := by decide +kernel
theorem dX12_tray_7 : decode cX12_tray 7 = .ok (.iload_n 2, 1) := by decide +kernel
theorem dX12_tray_8 : decode cX12_tray 8 = .ok (.ifCond .lt 18, 3) := by decide +kernel
theorem dX12_tray_11 : decode cX12_tray 11 = .ok (.iload_n 2, 1) := by decide +kernel
theorem dX12_tray_12 : decode cX12_tray 12 = .ok (.iconst 3, 1) := by decide +kernel
theorem dX12_tray_13 : decode cX12_tray 13 = .ok (.if_icmp .gt 13, 3) := by decide +kernel
theorem dX12_tray_16 : decode cX12_tray 16 = .ok (.iload_n 3, 1) := by decide +kernel
theorem dX12_tray_17 : decode cX12_tray 17 = .ok (.ifCond .lt 9, 3) := by decide +kernel
theorem dX12_tray_20 : decode cX12_tray 20 = .ok (.iload_n 3, 1) := by decide +kernel
theorem dX12_tray_21 : decode cX12_tray 21 = .ok (.bipush 60, 2) := by decide +kernel
theorem dX12_tray_23 : decode cX12_tray 23 = .ok (.if_icmp .le 9, 3) := by decide +kernel
theorem dX12_tray_26 : decode cX12_tray 26 = .ok (.aload_n 0, 1) := by decide +kernel
theorem dX12_tray_27 : decode cX12_tray 27 = .ok (.iconst 1, 1) := by decide +kernel
theorem dX12_tray_28 : decode cX12_tray 28 = .ok (.invokevirtual 91, 3) := by decide +kernel
theorem dX12_tray_31 : decode cX12_tray 31 = .ok (.ireturn, 1) := by decide +kernel
theorem dX12_tray_32 : decode cX12_tray 32 = .ok (.aload_n 0, 1) := by decide +kernel
theorem dX12_tray_33 : decode cX12_tray 33 = .ok (.getfield 21, 3) := by decide +kernel
theorem dX12_tray_36 : decode cX12_tray 36 = .ok (.iload_n 1, 1) := by decide +kernel
theorem dX12_tray_37 : decode cX12_tray 37 = .ok (.iload_n 2, 1) := by decide +kernel
theorem dX12_tray_38 : decode cX12_tray 38 = .ok (.iastore, 1) := by decide +kernel
theorem dX12_tray_39 : decode cX12_tray 39 = .ok (.aload_n 0, 1) := by decide +kernel
theorem dX12_tray_40 : decode cX12_tray 40 = .ok (.getfield 24, 3) := by decide +kernel
theorem dX12_tray_43 : decode cX12_tray 43 = .ok (.iload_n 1, 1) := by decide +kernel
theorem dX12_tray_44 : decode cX12_tray 44 = .ok (.iload_n 3, 1) := by decide +kernel
theorem dX12_tray_45 : decode cX12_tray 45 = .ok (.iastore, 1) := by decide +kernel
theorem dX12_tray_46 : decode cX12_tray 46 = .ok (.iconst 0, 1) := by decide +kernel
theorem dX12_tray_47 : decode cX12_tray 47 = .ok (.istore 4, 2) := by decide +kernel
theorem dX12_tray_49 : decode cX12_tray 49 = .ok (.iload 4, 2) := by decide +kernel
theorem dX12_tray_51 : decode cX12_tray 51 = .ok (.iload_n 3, 1) := by decide +kernel
theorem dX12_tray_52 : decode cX12_tray 52 = .ok (.if_icmp .ge 22, 3) := by decide +kernel
theorem dX12_tray_55 : decode cX12_tray 55 = .ok (.aload_n 0, 1) := by decide +kernel
theorem dX12_tray_56 : decode cX12_tray 56 = .ok (.getfield 27, 3) := by decide +kernel
theorem dX12_tray_59 : decode cX12_tray 59 = .ok (.bipush 60, 2) := by decide +kernel
theorem dX12_tray_61 : decode cX12_tray 61 = .ok (.iload_n 1, 1) := by decide +kernel
theorem dX12_tray_62 : decode cX12_tray 62 = .ok (.imul, 1) := by decide +kernel
theorem dX12_tray_63 : decode cX12_tray 63 = .ok (.iload 4, 2) := by decide +kernel
theorem dX12_tray_65 : decode cX12_tray 65 = .ok (.iadd, 1) := by decide +kernel
theorem dX12_tray_66 : decode cX12_tray 66 = .ok (.lconst 0, 1) := by decide +kernel
theorem dX12_tray_67 : decode cX12_tray 67 = .ok (.lastore, 1) := by decide +kernel
theorem dX12_tray_68 : decode cX12_tray 68 = .ok (.iinc 4 1, 3) := by decide +kernel
theorem dX12_tray_71 : decode cX12_tray 71 = .ok (.goto (-22), 3) := by decide +kernel
theorem dX12_tray_74 : decode cX12_tray 74 = .ok (.aload_n 0, 1) := by decide +kernel
theorem dX12_tray_75 : decode cX12_tray 75 = .ok (.iconst 0, 1) := by decide +kernel
theorem dX12_tray_76 : decode cX12_tray 76 = .ok (.invokevirtual 91, 3) := by decide +kernel
theorem dX12_tray_79 : decode cX12_tray 79 = .ok (.ireturn, 1) := by decide +kernel
theorem mv_X12_tray : MV yX12_tray RX12 cX12_tray 5 (some .boolean) 3 := ⟨tb_1368, tb_1366, tb_1367, tb_16, by decide +kernel, by decide +kernel, by decide +kernel⟩
def f_X12_tray_b49 (fu : Nat) (x1 : Int32) (x2 : Int32) (x3 : Int32) (k49 : Int32 → (Nat → Int32) → (Nat → Int32) → (Nat → Int64) → Int32 → (Option (Int32 × Int32 × (Nat → Int32) × (Nat → Int32) × (Nat → Int64)))) (m_status : Int32) (m_sort : Nat → Int32) (m_trayMany : Nat → Int32) (m_trays : Nat → Int64) (x4 : Int32) : Option (Int32 × Int32 × (Nat → Int32) × (Nat → Int32) × (Nat → Int64)) := (if x3 ≤ x4 then (f_X12_is fu m_status 0).bind fun z_25 => (bz z_25.1).bind fun _ => some (z_25.1, z_25.2, m_sort, m_trayMany, m_trays) else (wrJ m_trays 240 ((60 * x1) + x4) 0).bind fun m_trays_27 => bnd (x4 + 1) fun x4_28 => k49 m_status m_sort m_trayMany m_trays_27 x4_28)
def f_X12_tray_l49 (fu : Nat) (x1 : Int32) (x2 : Int32) (x3 : Int32) : Nat → Int32 → (Nat → Int32) → (Nat → Int32) → (Nat → Int64) → Int32 → (Option (Int32 × Int32 × (Nat → Int32) × (Nat → Int32) × (Nat → Int64)))
  | 0, _, _, _, _, _ => none
  | n + 1, m_status, m_sort, m_trayMany, m_trays, x4 => f_X12_tray_b49 fu x1 x2 x3 (f_X12_tray_l49 fu x1 x2 x3 n) m_status m_sort m_trayMany m_trays x4
def f_X12_tray (fu : Nat) (m_status : Int32) (m_sort : Nat → Int32) (m_trayMany : Nat → Int32) (m_trays : Nat → Int64) (x1 : Int32) (x2 : Int32) (x3 : Int32) : Option (Int32 × Int32 × (Nat → Int32) × (Nat → Int32) × (Nat → Int64)) := (f_X12_isTray fu x1).bind fun z_29 => (if z_29 = 0 then (f_X12_is fu m_status 1).bind fun z_31 => (bz z_31.1).bind fun _ => some (z_31.1, z_31.2, m_sort, m_trayMany, m_trays) else (if x2 < 0 then (f_X12_is fu m_status 1).bind fun z_34 => (bz z_34.1).bind fun _ => some (z_34.1, z_34.2, m_sort, m_trayMany, m_trays) else (if 3 < x2 then (f_X12_is fu m_status 1).bind fun z_37 => (bz z_37.1).bind fun _ => some (z_37.1, z_37.2, m_sort, m_trayMany, m_trays) else (if x3 < 0 then (f_X12_is fu m_status 1).bind fun z_40 => (bz z_40.1).bind fun _ => some (z_40.1, z_40.2, m_sort, m_trayMany, m_trays) else (if x3 ≤ 60 then (wrI m_sort 4 x1 x2).bind fun m_sort_43 => (wrI m_trayMany 4 x1 x3).bind fun m_trayMany_44 => f_X12_tray_l49 fu x1 x2 x3 fu m_status m_sort_43 m_trayMany_44 m_trays 0 else (f_X12_is fu m_status 1).bind fun z_45 => (bz z_45.1).bind fun _ => some (z_45.1, z_45.2, m_sort, m_trayMany, m_trays))))))
abbrev rm_X12_tray : Room := { frames := 1, cells := 0, slots := 0, locals := 21 }
set_option maxHeartbeats 4000000 in
set_option maxRecDepth 100000 in
theorem c_X12_tray (l : Launch) (D : va_G) (cy : Nat → ClassId) (fu : Nat) (A_m : Nat → Nat) (m_at : Nat → Int32) (m_names : Nat → Int64) (m_status : Int32) (m_top : Int64) (m_bottom : Int64) (m_sort : Nat → Int32) (m_trayMany : Nat → Int32) (m_trays : Nat → Int64) (m_tape : Nat → Int32) (m_text : Nat → Int32) (m_taped : Int32) (m_size : Int32) (m_token : Int32) (m_from : Int32) (m_end : Int32) (m_value : Int32) (m_faultKind : Int32) (m_faultPlace : Int32) (m_faults : Int32) (m_seen : Int32) (m_toldParts : Int32) (m_opened : Nat → Int32) (m_depth : Int32) (m_counted : Int32) (m_bestOrder : Int32) (m_standers : Nat → Int32) (m_has : Nat → Int32) (m_bestHas : Nat → Int32) (m_standerMany : Int32) (m_bestCouples : Int32) (m_bestFondness : Int32) (m_cameTo : Nat → Int32) (m_doesStandFirst : Int32) (m_stoodBy : Nat → Int64) (m_drawn : Int32) (m_ranSteps : Int32) (m_loops : Nat → Int32) (m_ran : Nat → Int32) (m_told1 : Nat → Int32) (m_isTold : Int32) (m_marks : Int32) (x1 : Int32) (x2 : Int32) (x3 : Int32) (res : Int32 × Int32 × (Nat → Int32) × (Nat → Int32) × (Nat → Int64)) (h : f_X12_tray fu m_status m_sort m_trayMany m_trays x1 x2 x3 = some res) (A : Nat → Prop) (hA : A = adr [bl_X12 cy A_m m_at m_names m_status m_top m_bottom m_sort m_trayMany m_trays m_tape m_text m_taped m_size m_token m_from m_end m_value m_faultKind m_faultPlace m_faults m_seen m_toldParts m_opened m_depth m_counted m_bestOrder m_standers m_has m_bestHas m_standerMany m_bestCouples m_bestFondness m_cameTo m_doesStandFirst m_stoodBy m_drawn m_ranSteps m_loops m_ran m_told1 m_isTold m_marks]) (W1 : List va_W) (hW1 : W1 = [bl_X12 cy A_m m_at m_names res.2.1 m_top m_bottom res.2.2.1 res.2.2.2.1 res.2.2.2.2 m_tape m_text m_taped m_size m_token m_from m_end m_value m_faultKind m_faultPlace m_faults m_seen m_toldParts m_opened m_depth m_counted m_bestOrder m_standers m_has m_bestHas m_standerMany m_bestCouples m_bestFondness m_cameTo m_doesStandFirst m_stoodBy m_drawn m_ranSteps m_loops m_ran m_told1 m_isTold m_marks]) : Met l yX12_tray (WW yX12_tray cX12_tray 5 (some .boolean)) rm_X12_tray (Ed D cy [.ref (A_m 0), .int x1, .int x2, .int x3] [bl_X12 cy A_m m_at m_names m_status m_top m_bottom m_sort m_trayMany m_trays m_tape m_text m_taped m_size m_token m_from m_end m_value m_faultKind m_faultPlace m_faults m_seen m_toldParts m_opened m_depth m_counted m_bestOrder m_standers m_has m_bestHas m_standerMany m_bestCouples m_bestFondness m_cameTo m_doesStandFirst m_stoodBy m_drawn m_ranSteps m_loops m_ran m_told1 m_isTold m_marks]) (Qei D res.1 A W1) 0 0 A := by
  refine Met.ofW (cc := cX12_tray) (maxL := 5) (ret := (some .boolean)) (by decide) rfl ?_
  intro p e s m args below meth c s₁ B hml hv
  obtain ⟨hargs, hP, hX, hD0⟩ := hv
  have hx := B.exec
  have hb := B.bytes
  have hr := B.returns
  have ht : ∀ w ∈ lw_gd, w.before args s = true := fun w hw => atoms_spec (ws := WW yX12_tray cX12_tray 5 (some .boolean)) B.pre w (List.mem_cons_of_mem _ hw)
  have hown : s.vm.findClass RX12 = some m.cls := findClass_of_methodNamed B.named
  have hlocks := B.notSynchronized
  have hP : PD D A [bl_X12 cy A_m m_at m_names m_status m_top m_bottom m_sort m_trayMany m_trays m_tape m_text m_taped m_size m_token m_from m_end m_value m_faultKind m_faultPlace m_faults m_seen m_toldParts m_opened m_depth m_counted m_bestOrder m_standers m_has m_bestHas m_standerMany m_bestCouples m_bestFondness m_cameTo m_doesStandFirst m_stoodBy m_drawn m_ranSteps m_loops m_ran m_told1 m_isTold m_marks] s.heap := ⟨hP, by rw [hA]; exact hD0.own⟩
  have hS : va_S A s.heap s.heap [] := va_S.rf
  obtain ⟨ls, hl, hent⟩ := ent (m := m) (n := 5) hargs (Nat.le_of_ble_eq_true rfl) (lv := [(0, .ref (A_m 0)), (1, .int x1), (2, .int x2), (3, .int x3)]) rfl
  rw [hent]
  clear hent
  have l49 : ∀ (n49 : Nat) (m_status : Int32) (m_sort : Nat → Int32) (m_trayMany : Nat → Int32) (m_trays : Nat → Int64) (x4 : Int32) (H : Heap) (locs : List Loc) (_ : PD D A [bl_X12 cy A_m m_at m_names m_status m_top m_bottom m_sort m_trayMany m_trays m_tape m_text m_taped m_size m_token m_from m_end m_value m_faultKind m_faultPlace m_faults m_seen m_toldParts m_opened m_depth m_counted m_bestOrder m_standers m_has m_bestHas m_standerMany m_bestCouples m_bestFondness m_cameTo m_doesStandFirst m_stoodBy m_drawn m_ranSteps m_loops m_ran m_told1 m_isTold m_marks] H) (_ : va_S A s.heap H locs) (ls : Array Slot), lv_has ls 5 [(0, .ref (A_m 0)), (1, .int x1), (3, .int x3), (4, .int x4)] → f_X12_tray_l49 fu x1 x2 x3 n49 m_status m_sort m_trayMany m_trays x4 = some res → W p l e (headSpec (WW yX12_tray cX12_tray 5 (some .boolean)) rm_X12_tray).room s m args below meth c H locs 0 0 (MQ below (Qei D res.1 A W1) args s 0 0 A) (F0 m 49 ls []) := by
    intro n49
    induction n49 with
    | zero => intro m_status m_sort m_trayMany m_trays x4 H locs hP hS ls hl h; cases h
    | succ n49 ih49 =>
      intro m_status m_sort m_trayMany m_trays x4 H locs hP hS ls hl h
      have h : f_X12_tray_b49 fu x1 x2 x3 (f_X12_tray_l49 fu x1 x2 x3 n49) m_status m_sort m_trayMany m_trays x4 = some res := h
      unfold f_X12_tray_b49 at h
      refine lv_iload hx hb dX12_tray_49 (lv_at hl 3 rfl) ?_
      refine lv_iload_n hx hb dX12_tray_51 rfl (lv_at hl 2 rfl) ?_
      refine lv_icmp_ge (tgt := 74) hx hb dX12_tray_52 (by decide) (fun c_24 => ?_) (fun c_24 => ?_)
      · have h := it c_24 h
        refine lv_aload_n hx hb dX12_tray_74 rfl (lv_at hl 0 rfl) ?_
        refine lv_iconst (v := 0) hx hb dX12_tray_75 (by decide) ?_
        obtain ⟨z_25, e_z_25, h⟩ := bi h
        refine efVi (rest := []) ⟨hx, hb, hml, hown, ht⟩ (c_X12_is l D cy fu A_m m_at m_names m_status m_top m_bottom m_sort m_trayMany m_trays m_tape m_text m_taped m_size m_token m_from m_end m_value m_faultKind m_faultPlace m_faults m_seen m_toldParts m_opened m_depth m_counted m_bestOrder m_standers m_has m_bestHas m_standerMany m_bestCouples m_bestFondness m_cameTo m_doesStandFirst m_stoodBy m_drawn m_ranSteps m_loops m_ran m_told1 m_isTold m_marks 0 z_25 e_z_25 _ rfl _ rfl) (cV ht mv_X12_is tb_1372 rfl rfl ⟨Nat.le_of_ble_eq_true rfl, Nat.le_of_ble_eq_true rfl⟩) hP hS hX [0] rfl rfl rfl rfl rfl rfl hl.1 rfl (Nat.le_of_ble_eq_true rfl) dX12_tray_76 ⟨Nat.le_of_ble_eq_true rfl, Nat.le_of_ble_eq_true rfl⟩ (fun H locs hP hS => ?_)
        have hP : PD D A [bl_X12 cy A_m m_at m_names z_25.2 m_top m_bottom m_sort m_trayMany m_trays m_tape m_text m_taped m_size m_token m_from m_end m_value m_faultKind m_faultPlace m_faults m_seen m_toldParts m_opened m_depth m_counted m_bestOrder m_standers m_has m_bestHas m_standerMany m_bestCouples m_bestFondness m_cameTo m_doesStandFirst m_stoodBy m_drawn m_ranSteps m_loops m_ran m_told1 m_isTold m_marks] H := hP
        obtain ⟨b_26, e_b_26, h⟩ := bi h
        obtain ⟨-, n_b_26, -⟩ := bz_ok e_b_26
        cases h
        subst hW1
        exact W.zret hx hb hr n_b_26 (fun _ ht9 _ => ⟨⟨_, (), rfl, rfl, hPt ht9 hP.1⟩, hS.F ht9⟩) hS.2.2 dX12_tray_79
      · have h := ie c_24 h
        refine lv_aload_n hx hb dX12_tray_55 rfl (lv_at hl 0 rfl) ?_
        refine xget (i := 0) (j := 0) (k := 7) (T := TX12) hx hb ht tb_iX12 hown hX hP.1 rfl rfl rfl (by decide) tb_1236 rfl dX12_tray_56 ?_
        refine lv_bipush (v := 60) hx hb dX12_tray_59 (by decide) ?_
        refine lv_iload_n hx hb dX12_tray_61 rfl (lv_at hl 1 rfl) ?_
        refine lv_imul hx hb dX12_tray_62 ?_
        refine lv_iload hx hb dX12_tray_63 (lv_at hl 3 rfl) ?_
        refine lv_iadd hx hb dX12_tray_65 ?_
        refine lv_lconst (v := 0) hx hb dX12_tray_66 (by decide) ?_
        obtain ⟨m_trays_27, e_m_trays_27, h⟩ := bi h
        refine xlast (i0 := 0) (j0 := 5) hx hb hX hP hS rfl rfl e_m_trays_27 dX12_tray_67 (fun H locs hP hS => ?_)
        have hP : PD D A [bl_X12 cy A_m m_at m_names m_status m_top m_bottom m_sort m_trayMany m_trays_27 m_tape m_text m_taped m_size m_token m_from m_end m_value m_faultKind m_faultPlace m_faults m_seen m_toldParts m_opened m_depth m_counted m_bestOrder m_standers m_has m_bestHas m_standerMany m_bestCouples m_bestFondness m_cameTo m_doesStandFirst m_stoodBy m_drawn m_ranSteps m_loops m_ran m_told1 m_isTold m_marks] H := hP
        obtain ⟨x4_28, e_x4_28⟩ : ∃ y : Int32, y = x4 + 1 := ⟨_, rfl⟩
        have h := bn e_x4_28 h
        refine lv_iinc (v := x4_28) (lv' := [(4, .int x4_28), (0, .ref (A_m 0)), (1, .int x1), (3, .int x3)]) hx hb dX12_tray_68 hl (k := 3) rfl (by rw [e_x4_28]; rfl) (by decide) rfl (fun ls hl => ?_)
        refine lv_goto (tgt := 49) hx hb dX12_tray_71 (by decide) ?_
        exact ih49 m_status m_sort m_trayMany m_trays_27 x4_28 _ _ hP hS ls (lv_sub hl [1, 2, 3, 0] rfl) h
  unfold f_X12_tray at h
  refine lv_iload_n hx hb dX12_tray_0 rfl (lv_at hl 1 rfl) ?_
  obtain ⟨z_29, e_z_29, h⟩ := bi h
  refine roSi (rest := []) ⟨hx, hb, hml, hown, ht⟩ (c_X12_isTray l D cy fu  x1 z_29 e_z_29) (cS ht ms_X12_isTray tb_1369 rfl rfl ⟨Nat.le_of_ble_eq_true rfl, Nat.le_of_ble_eq_true rfl⟩) (P_sub hP.1 [] rfl) hX rfl hl.1 rfl (Nat.le_of_ble_eq_true rfl) dX12_tray_1 ⟨Nat.le_of_ble_eq_true rfl, Nat.le_of_ble_eq_true rfl⟩ ?_
  refine lv_if_eq (tgt := 26) hx hb dX12_tray_4 (by decide) (fun c_30 => ?_) (fun c_30 => ?_)
  · have h := it c_30 h
    refine lv_aload_n hx hb dX12_tray_26 rfl (lv_at hl 0 rfl) ?_
    refine lv_iconst (v := 1) hx hb dX12_tray_27 (by decide) ?_
    obtain ⟨z_31, e_z_31, h⟩ := bi h
    refine efVi (rest := []) ⟨hx, hb, hml, hown, ht⟩ (c_X12_is l D cy fu A_m m_at m_names m_status m_top m_bottom m_sort m_trayMany m_trays m_tape m_text m_taped m_size m_token m_from m_end m_value m_faultKind m_faultPlace m_faults m_seen m_toldParts m_opened m_depth m_counted m_bestOrder m_standers m_has m_bestHas m_standerMany m_bestCouples m_bestFondness m_cameTo m_doesStandFirst m_stoodBy m_drawn m_ranSteps m_loops m_ran m_told1 m_isTold m_marks 1 z_31 e_z_31 _ rfl _ rfl) (cV ht mv_X12_is tb_1372 rfl rfl ⟨Nat.le_of_ble_eq_true rfl, Nat.le_of_ble_eq_true rfl⟩) hP hS hX [0] rfl rfl rfl rfl rfl rfl hl.1 rfl (Nat.le_of_ble_eq_true rfl) dX12_tray_28 ⟨Nat.le_of_ble_eq_true rfl, Nat.le_of_ble_eq_true rfl⟩ (fun H locs hP hS => ?_)
    have hP : PD D A [bl_X12 cy A_m m_at m_names z_31.2 m_top m_bottom m_sort m_trayMany m_trays m_tape m_text m_taped m_size m_token m_from m_end m_value m_faultKind m_faultPlace m_faults m_seen m_toldParts m_opened m_depth m_counted m_bestOrder m_standers m_has m_bestHas m_standerMany m_bestCouples m_bestFondness m_cameTo m_doesStandFirst m_stoodBy m_drawn m_ranSteps m_loops m_ran m_told1 m_isTold m_marks] H := hP
    obtain ⟨b_32, e_b_32, h⟩ := bi h
    obtain ⟨-, n_b_32, -⟩ := bz_ok e_b_32
    cases h
    subst hW1
    exact W.zret hx hb hr n_b_32 (fun _ ht9 _ => ⟨⟨_, (), rfl, rfl, hPt ht9 hP.1⟩, hS.F ht9⟩) hS.2.2 dX12_tray_31
  · have h := ie c_30 h
    refine lv_iload_n hx hb dX12_tray_7 rfl (lv_at hl 2 rfl) ?_
    refine lv_if_lt (tgt := 26) hx hb dX12_tray_8 (by decide) (fun c_33 => ?_) (fun c_33 => ?_)
    · have h := it c_33 h
      refine lv_aload_n hx hb dX12_tray_26 rfl (lv_at hl 0 rfl) ?_
      refine lv_iconst (v := 1) hx hb dX12_tray_27 (by decide) ?_
      obtain ⟨z_34, e_z_34, h⟩ := bi h
      refine efVi (rest := []) ⟨hx, hb, hml, hown, ht⟩ (c_X12_is l D cy fu A_m m_at m_names m_status m_top m_bottom m_sort m_trayMany m_trays m_tape m_text m_taped m_size m_token m_from m_end m_value m_faultKind m_faultPlace m_faults m_seen m_toldParts m_opened m_depth m_counted m_bestOrder m_standers m_has m_bestHas m_standerMany m_bestCouples m_bestFondness m_cameTo m_doesStandFirst m_stoodBy m_drawn m_ranSteps m_loops m_ran m_told1 m_isTold m_marks 1 z_34 e_z_34 _ rfl _ rfl) (cV ht mv_X12_is tb_1372 rfl rfl ⟨Nat.le_of_ble_eq_true rfl, Nat.le_of_ble_eq_true rfl⟩) hP hS hX [0] rfl rfl rfl rfl rfl rfl hl.1 rfl (Nat.le_of_ble_eq_true rfl) dX12_tray_28 ⟨Nat.le_of_ble_eq_true rfl, Nat.le_of_ble_eq_true rfl⟩ (fun H locs hP hS => ?_)
      have hP : PD D A [bl_X12 cy A_m m_at m_names z_34.2 m_top m_bottom m_sort m_trayMany m_trays m_tape m_text m_taped m_size m_token m_from m_end m_value m_faultKind m_faultPlace m_faults m_seen m_toldParts m_opened m_depth m_counted m_bestOrder m_standers m_has m_bestHas m_standerMany m_bestCouples m_bestFondness m_cameTo m_doesStandFirst m_stoodBy m_drawn m_ranSteps m_loops m_ran m_told1 m_isTold m_marks] H := hP
      obtain ⟨b_35, e_b_35, h⟩ := bi h
      obtain ⟨-, n_b_35, -⟩ := bz_ok e_b_35
      cases h
      subst hW1
      exact W.zret hx hb hr n_b_35 (fun _ ht9 _ => ⟨⟨_, (), rfl, rfl, hPt ht9 hP.1⟩, hS.F ht9⟩) hS.2.2 dX12_tray_31
    · have h := ie c_33 h
      refine lv_iload_n hx hb dX12_tray_11 rfl (lv_at hl 2 rfl) ?_
      refine lv_iconst (v := 3) hx hb dX12_tray_12 (by decide) ?_
      refine lv_icmp_gt (tgt := 26) hx hb dX12_tray_13 (by decide) (fun c_36 => ?_) (fun c_36 => ?_)
      · have h := it c_36 h
        refine lv_aload_n hx hb dX12_tray_26 rfl (lv_at hl 0 rfl) ?_
        refine lv_iconst (v := 1) hx hb dX12_tray_27 (by decide) ?_
        obtain ⟨z_37, e_z_37, h⟩ := bi h
        refine efVi (rest := []) ⟨hx, hb, hml, hown, ht⟩ (c_X12_is l D cy fu A_m m_at m_names m_status m_top m_bottom m_sort m_trayMany m_trays m_tape m_text m_taped m_size m_token m_from m_end m_value m_faultKind m_faultPlace m_faults m_seen m_toldParts m_opened m_depth m_counted m_bestOrder m_standers m_has m_bestHas m_standerMany m_bestCouples m_bestFondness m_cameTo m_doesStandFirst m_stoodBy m_drawn m_ranSteps m_loops m_ran m_told1 m_isTold m_marks 1 z_37 e_z_37 _ rfl _ rfl) (cV ht mv_X12_is tb_1372 rfl rfl ⟨Nat.le_of_ble_eq_true rfl, Nat.le_of_ble_eq_true rfl⟩) hP hS hX [0] rfl rfl rfl rfl rfl rfl hl.1 rfl (Nat.le_of_ble_eq_true rfl) dX12_tray_28 ⟨Nat.le_of_ble_eq_true rfl, Nat.le_of_ble_eq_true rfl⟩ (fun H locs hP hS => ?_)
        have hP : PD D A [bl_X12 cy A_m m_at m_names z_37.2 m_top m_bottom m_sort m_trayMany m_trays m_tape m_text m_taped m_size m_token m_from m_end m_value m_faultKind m_faultPlace m_faults m_seen m_toldParts m_opened m_depth m_counted m_bestOrder m_standers m_has m_bestHas m_standerMany m_bestCouples m_bestFondness m_cameTo m_doesStandFirst m_stoodBy m_drawn m_ranSteps m_loops m_ran m_told1 m_isTold m_marks] H := hP
        obtain ⟨b_38, e_b_38, h⟩ := bi h
        obtain ⟨-, n_b_38, -⟩ := bz_ok e_b_38
        cases h
        subst hW1
        exact W.zret hx hb hr n_b_38 (fun _ ht9 _ => ⟨⟨_, (), rfl, rfl, hPt ht9 hP.1⟩, hS.F ht9⟩) hS.2.2 dX12_tray_31
      · have h := ie c_36 h
        refine lv_iload_n hx hb dX12_tray_16 rfl (lv_at hl 3 rfl) ?_
        refine lv_if_lt (tgt := 26) hx hb dX12_tray_17 (by decide) (fun c_39 => ?_) (fun c_39 => ?_)
        · have h := it c_39 h
          refine lv_aload_n hx hb dX12_tray_26 rfl (lv_at hl 0 rfl) ?_
          refine lv_iconst (v := 1) hx hb dX12_tray_27 (by decide) ?_
          obtain ⟨z_40, e_z_40, h⟩ := bi h
          refine efVi (rest := []) ⟨hx, hb, hml, hown, ht⟩ (c_X12_is l D cy fu A_m m_at m_names m_status m_top m_bottom m_sort m_trayMany m_trays m_tape m_text m_taped m_size m_token m_from m_end m_value m_faultKind m_faultPlace m_faults m_seen m_toldParts m_opened m_depth m_counted m_bestOrder m_standers m_has m_bestHas m_standerMany m_bestCouples m_bestFondness m_cameTo m_doesStandFirst m_stoodBy m_drawn m_ranSteps m_loops m_ran m_told1 m_isTold m_marks 1 z_40 e_z_40 _ rfl _ rfl) (cV ht mv_X12_is tb_1372 rfl rfl ⟨Nat.le_of_ble_eq_true rfl, Nat.le_of_ble_eq_true rfl⟩) hP hS hX [0] rfl rfl rfl rfl rfl rfl hl.1 rfl (Nat.le_of_ble_eq_true rfl) dX12_tray_28 ⟨Nat.le_of_ble_eq_true rfl, Nat.le_of_ble_eq_true rfl⟩ (fun H locs hP hS => ?_)
          have hP : PD D A [bl_X12 cy A_m m_at m_names z_40.2 m_top m_bottom m_sort m_trayMany m_trays m_tape m_text m_taped m_size m_token m_from m_end m_value m_faultKind m_faultPlace m_faults m_seen m_toldParts m_opened m_depth m_counted m_bestOrder m_standers m_has m_bestHas m_standerMany m_bestCouples m_bestFondness m_cameTo m_doesStandFirst m_stoodBy m_drawn m_ranSteps m_loops m_ran m_told1 m_isTold m_marks] H := hP
          obtain ⟨b_41, e_b_41, h⟩ := bi h
          obtain ⟨-, n_b_41, -⟩ := bz_ok e_b_41
          cases h
          subst hW1
          exact W.zret hx hb hr n_b_41 (fun _ ht9 _ => ⟨⟨_, (), rfl, rfl, hPt ht9 hP.1⟩, hS.F ht9⟩) hS.2.2 dX12_tray_31
        · have h := ie c_39 h
          refine lv_iload_n hx hb dX12_tray_20 rfl (lv_at hl 3 rfl) ?_
          refine lv_bipush (v := 60) hx hb dX12_tray_21 (by decide) ?_
          refine lv_icmp_le (tgt := 32) hx hb dX12_tray_23 (by decide) (fun c_42 => ?_) (fun c_42 => ?_)
          · have h := it c_42 h
            refine lv_aload_n hx hb dX12_tray_32 rfl (lv_at hl 0 rfl) ?_
            refine xget (i := 0) (j := 0) (k := 5) (T := TX12) hx hb ht tb_iX12 hown hX hP.1 rfl rfl rfl (by decide) tb_1234 rfl dX12_tray_33 ?_
            refine lv_iload_n hx hb dX12_tray_36 rfl (lv_at hl 1 rfl) ?_
            refine lv_iload_n hx hb dX12_tray_37 rfl (lv_at hl 2 rfl) ?_
            obtain ⟨m_sort_43, e_m_sort_43, h⟩ := bi h
            refine xiast (i0 := 0) (j0 := 3) hx hb hX hP hS rfl rfl e_m_sort_43 dX12_tray_38 (fun H locs hP hS => ?_)
            have hP : PD D A [bl_X12 cy A_m m_at m_names m_status m_top m_bottom m_sort_43 m_trayMany m_trays m_tape m_text m_taped m_size m_token m_from m_end m_value m_faultKind m_faultPlace m_faults m_seen m_toldParts m_opened m_depth m_counted m_bestOrder m_standers m_has m_bestHas m_standerMany m_bestCouples m_bestFondness m_cameTo m_doesStandFirst m_stoodBy m_drawn m_ranSteps m_loops m_ran m_told1 m_isTold m_marks] H := hP
            refine lv_aload_n hx hb dX12_tray_39 rfl (lv_at hl 0 rfl) ?_
            refine xget (i := 0) (j := 0) (k := 6) (T := TX12) hx hb ht tb_iX12 hown hX hP.1 rfl rfl rfl (by decide) tb_1235 rfl dX12_tray_40 ?_
            refine lv_iload_n hx hb dX12_tray_43 rfl (lv_at hl 1 rfl) ?_
            refine lv_iload_n hx hb dX12_tray_44 rfl (lv_at hl 3 rfl) ?_
            obtain ⟨m_trayMany_44, e_m_trayMany_44, h⟩ := bi h
            refine xiast (i0 := 0) (j0 := 4) hx hb hX hP hS rfl rfl e_m_trayMany_44 dX12_tray_45 (fun H locs hP hS => ?_)
            have hP : PD D A [bl_X12 cy A_m m_at m_names m_status m_top m_bottom m_sort_43 m_trayMany_44 m_trays m_tape m_text m_taped m_size m_token m_from m_end m_value m_faultKind m_faultPlace m_faults m_seen m_toldParts m_opened m_depth m_counted m_bestOrder m_standers m_has m_bestHas m_standerMany m_bestCouples m_bestFondness m_cameTo m_doesStandFirst m_stoodBy m_drawn m_ranSteps m_loops m_ran m_told1 m_isTold m_marks] H := hP
            refine lv_iconst (v := 0) hx hb dX12_tray_46 (by decide) ?_
            refine lv_istore (lv' := [(4, .int 0), (0, .ref (A_m 0)), (1, .int x1), (2, .int x2), (3, .int x3)]) hx hb dX12_tray_47 hl (by decide) rfl (fun ls hl => ?_)
            exact l49 fu m_status m_sort_43 m_trayMany_44 m_trays 0 _ _ hP hS ls (lv_sub hl [1, 2, 4, 0] rfl) h
          · have h := ie c_42 h
            refine lv_aload_n hx hb dX12_tray_26 rfl (lv_at hl 0 rfl) ?_
            refine lv_iconst (v := 1) hx hb dX12_tray_27 (by decide) ?_
            obtain ⟨z_45, e_z_45, h⟩ := bi h
            refine efVi (rest := []) ⟨hx, hb, hml, hown, ht⟩ (c_X12_is l D cy fu A_m m_at m_names m_status m_top m_bottom m_sort m_trayMany m_trays m_tape m_text m_taped m_size m_token m_from m_end m_value m_faultKind m_faultPlace m_faults m_seen m_toldParts m_opened m_depth m_counted m_bestOrder m_standers m_has m_bestHas m_standerMany m_bestCouples m_bestFondness m_cameTo m_doesStandFirst m_stoodBy m_drawn m_ranSteps m_loops m_ran m_told1 m_isTold m_marks 1 z_45 e_z_45 _ rfl _ rfl) (cV ht mv_X12_is tb_1372 rfl rfl ⟨Nat.le_of_ble_eq_true rfl, Nat.le_of_ble_eq_true rfl⟩) hP hS hX [0] rfl rfl rfl rfl rfl rfl hl.1 rfl (Nat.le_of_ble_eq_true rfl) dX12_tray_28 ⟨Nat.le_of_ble_eq_true rfl, Nat.le_of_ble_eq_true rfl⟩ (fun H locs hP hS => ?_)
            have hP : PD D A [bl_X12 cy A_m m_at m_names z_45.2 m_top m_bottom m_sort m_trayMany m_trays m_tape m_text m_taped m_size m_token m_from m_end m_value m_faultKind m_faultPlace m_faults m_seen m_toldParts m_opened m_depth m_counted m_bestOrder m_standers m_has m_bestHas m_standerMany m_bestCouples m_bestFondness m_cameTo m_doesStandFirst m_stoodBy m_drawn m_ranSteps m_loops m_ran m_told1 m_isTold m_marks] H := hP
            obtain ⟨b_46, e_b_46, h⟩ := bi h
            obtain ⟨-, n_b_46, -⟩ := bz_ok e_b_46
            cases h
            subst hW1
            exact W.zret hx hb hr n_b_46 (fun _ ht9 _ => ⟨⟨_, (), rfl, rfl, hPt ht9 hP.1⟩, hS.F ht9⟩) hS.2.2 dX12_tray_31
theorem dX12_wrongPlace_0 : decode cX12_wrongPlace 0 = .ok (.iload_n 1, 1) := by decide +kernel
theorem dX12_wrongPlace_1 : decode cX12_wrongPlace 1 = .ok (.invokestatic 95, 3) := by decide +kernel
theorem dX12_wrongPlace_4 : decode cX12_wrongPlace 4 = .ok (.ifCond .ne 7, 3) := by decide +kernel
theorem dX12_wrongPlace_7 : decode cX12_wrongPlace 7 = .ok (.iconst 1, 1) := by decide +kernel
theorem dX12_wrongPlace_8 : decode cX12_wrongPlace 8 = .ok (.goto 36, 3) := by decide +kernel
theorem dX12_wrongPlace_11 : decode cX12_wrongPlace 11 = .ok (.aload_n 0, 1) := by decide +kernel
theorem dX12_wrongPlace_12 : decode cX12_wrongPlace 12 = .ok (.getfield 24, 3) := by decide +kernel
theorem dX12_wrongPlace_15 : decode cX12_wrongPlace 15 = .ok (.iload_n 1, 1) := by decide +kernel
theorem dX12_wrongPlace_16 : decode cX12_wrongPlace 16 = .ok (.iaload, 1) := by decide +kernel
theorem dX12_wrongPlace_17 : decode cX12_wrongPlace 17 = .ok (.iconst (-1), 1) := by decide +kernel
theorem dX12_wrongPlace_18 : decode cX12_wrongPlace 18 = .ok (.if_icmp .ne 7, 3) := by decide +kernel
theorem dX12_wrongPlace_21 : decode cX12_wrongPlace 21 = .ok (.iconst 2, 1) := by decide +kernel
theorem dX12_wrongPlace_22 : decode cX12_wrongPlace 22 = .ok (.goto 22, 3) := by decide +kernel
theorem dX12_wrongPlace_25 : decode cX12_wrongPlace 25 = .ok (.iload_n 2, 1) := by decide +kernel
theorem dX12_wrongPlace_26 : decode cX12_wrongPlace 26 = .ok (.ifCond .lt 13, 3) := by decide +kernel
theorem dX12_wrongPlace_29 : decode cX12_wrongPlace 29 = .ok (.iload_n 2, 1) := by decide +kernel
theorem dX12_wrongPlace_30 : decode cX12_wrongPlace 30 = .ok (.aload_n 0, 1) := by decide +kernel
theorem dX12_wrongPlace_31 : decode cX12_wrongPlace 31 = .ok (.getfield 24, 3) := by decide +kernel
theorem dX12_wrongPlace_34 : decode cX12_wrongPlace 34 = .ok (.iload_n 1, 1) := by decide +kernel
theorem dX12_wrongPlace_35 : decode cX12_wrongPlace 35 = .ok (.iaload, 1) := by decide +kernel
theorem dX12_wrongPlace_36 : decode cX12_wrongPlace 36 = .ok (.if_icmp .lt 7, 3) := by decide +kernel
theorem dX12_wrongPlace_39 : decode cX12_wrongPlace 39 = .ok (.iconst 3, 1) := by decide +kernel
theorem dX12_wrongPlace_40 : decode cX12_wrongPlace 40 = .ok (.goto 4, 3) := by decide +kernel
theorem dX12_wrongPlace_43 : decode cX12_wrongPlace 43 = .ok (.iconst 0, 1) := by decide +kernel
theorem dX12_wrongPlace_44 : decode cX12_wrongPlace 44 = .ok (.ireturn, 1) := by decide +kernel
theorem mv_X12_wrongPlace : MV yX12_wrongPlace RX12 cX12_wrongPlace 3 (some .int) 2 := ⟨tb_1383, tb_1382, ts_41, tb_16, by decide +kernel, by decide +kernel, by decide +kernel⟩
def f_X12_wrongPlace (fu : Nat) (m_trayMany : Nat → Int32) (x1 : Int32) (x2 : Int32) : Option (Int32) := (f_X12_isTray fu x1).bind fun z_8 => (if z_8 = 0 then some (1) else (rdI m_trayMany 4 x1).bind fun y_10 => (if y_10 = (-1) then some (2) else (if x2 < 0 then some (3) else (rdI m_trayMany 4 x1).bind fun y_13 => (if x2 < y_13 then some (0) else some (3)))))
abbrev rm_X12_wrongPlace : Room := { frames := 1, cells := 0, slots := 0, locals := 20 }
set_option maxHeartbeats 4000000 in
set_option maxRecDepth 100000 in
theorem c_X12_wrongPlace (l : Launch) (D : va_G) (cy : Nat → ClassId) (fu : Nat) (A_m : Nat → Nat) (m_at : Nat → Int32) (m_names : Nat → Int64) (m_status : Int32) (m_top : Int64) (m_bottom : Int64) (m_sort : Nat → Int32) (m_trayMany : Nat → Int32) (m_trays : Nat → Int64) (m_tape : Nat → Int32) (m_text : Nat → Int32) (m_taped : Int32) (m_size : Int32) (m_token : Int32) (m_from : Int32) (m_end : Int32) (m_value : Int32) (m_faultKind : Int32) (m_faultPlace : Int32) (m_faults : Int32) (m_seen : Int32) (m_toldParts : Int32) (m_opened : Nat → Int32) (m_depth : Int32) (m_counted : Int32) (m_bestOrder : Int32) (m_standers : Nat → Int32) (m_has : Nat → Int32) (m_bestHas : Nat → Int32) (m_standerMany : Int32) (m_bestCouples : Int32) (m_bestFondness : Int32) (m_cameTo : Nat → Int32) (m_doesStandFirst : Int32) (m_stoodBy : Nat → Int64) (m_drawn : Int32) (m_ranSteps : Int32) (m_loops : Nat → Int32) (m_ran : Nat → Int32) (m_told1 : Nat → Int32) (m_isTold : Int32) (m_marks : Int32) (x1 : Int32) (x2 : Int32) (res : Int32) (h : f_X12_wrongPlace fu m_trayMany x1 x2 = some res) : Met l yX12_wrongPlace (WW yX12_wrongPlace cX12_wrongPlace 3 (some .int)) rm_X12_wrongPlace (Rd D cy [.ref (A_m 0), .int x1, .int x2] [bl_X12 cy A_m m_at m_names m_status m_top m_bottom m_sort m_trayMany m_trays m_tape m_text m_taped m_size m_token m_from m_end m_value m_faultKind m_faultPlace m_faults m_seen m_toldParts m_opened m_depth m_counted m_bestOrder m_standers m_has m_bestHas m_standerMany m_bestCouples m_bestFondness m_cameTo m_doesStandFirst m_stoodBy m_drawn m_ranSteps m_loops m_ran m_told1 m_isTold m_marks]) (vp_Si (fun v => v = res)) 0 0 (fun _ => False) := by
  refine Met.ofW (cc := cX12_wrongPlace) (maxL := 3) (ret := (some .int)) (by decide) rfl ?_
  intro p e s m args below meth c s₁ B hml hv
  obtain ⟨hargs, hP, hX⟩ := hv
  have hx := B.exec
  have hb := B.bytes
  have hr := B.returns
  have ht : ∀ w ∈ lw_gd, w.before args s = true := fun w hw => atoms_spec (ws := WW yX12_wrongPlace cX12_wrongPlace 3 (some .int)) B.pre w (List.mem_cons_of_mem _ hw)
  have hown : s.vm.findClass RX12 = some m.cls := findClass_of_methodNamed B.named
  have hlocks := B.notSynchronized
  have hP : PB D [bl_X12 cy A_m m_at m_names m_status m_top m_bottom m_sort m_trayMany m_trays m_tape m_text m_taped m_size m_token m_from m_end m_value m_faultKind m_faultPlace m_faults m_seen m_toldParts m_opened m_depth m_counted m_bestOrder m_standers m_has m_bestHas m_standerMany m_bestCouples m_bestFondness m_cameTo m_doesStandFirst m_stoodBy m_drawn m_ranSteps m_loops m_ran m_told1 m_isTold m_marks] s.heap := hP
  obtain ⟨ls, hl, hent⟩ := ent (m := m) (n := 3) hargs (Nat.le_of_ble_eq_true rfl) (lv := [(0, .ref (A_m 0)), (1, .int x1), (2, .int x2)]) rfl
  rw [hent]
  clear hent
  unfold f_X12_wrongPlace at h
  refine lv_iload_n hx hb dX12_wrongPlace_0 rfl (lv_at hl 1 rfl) ?_
  obtain ⟨z_8, e_z_8, h⟩ := bi h
  refine roSi (rest := []) ⟨hx, hb, hml, hown, ht⟩ (c_X12_isTray l D cy fu  x1 z_8 e_z_8) (cS ht ms_X12_isTray tb_1369 rfl rfl ⟨Nat.le_of_ble_eq_true rfl, Nat.le_of_ble_eq_true rfl⟩) (P_sub hP [] rfl) hX rfl hl.1 rfl (Nat.le_of_ble_eq_true rfl) dX12_wrongPlace_1 ⟨Nat.le_of_ble_eq_true rfl, Nat.le_of_ble_eq_true rfl⟩ ?_
  refine lv_if_ne (tgt := 11) hx hb dX12_wrongPlace_4 (by decide) (fun c_9 => ?_) (fun c_9 => ?_)
  · have h := ie c_9 h
    refine lv_aload_n hx hb dX12_wrongPlace_11 rfl (lv_at hl 0 rfl) ?_
    refine xget (i := 0) (j := 0) (k := 6) (T := TX12) hx hb ht tb_iX12 hown hX hP rfl rfl rfl (by decide) tb_1235 rfl dX12_wrongPlace_12 ?_
    refine lv_iload_n hx hb dX12_wrongPlace_15 rfl (lv_at hl 1 rfl) ?_
    obtain ⟨y_10, e_y_10, h⟩ := bi h
    refine xiald (i0 := 0) (j0 := 4) hx hb hX hP rfl rfl e_y_10 dX12_wrongPlace_16 ?_
    refine lv_iconst (v := (-1)) hx hb dX12_wrongPlace_17 (by decide) ?_
    refine lv_icmp_ne (tgt := 25) hx hb dX12_wrongPlace_18 (by decide) (fun c_11 => ?_) (fun c_11 => ?_)
    · have h := ie c_11 h
      refine lv_iload_n hx hb dX12_wrongPlace_25 rfl (lv_at hl 2 rfl) ?_
      refine lv_if_lt (tgt := 39) hx hb dX12_wrongPlace_26 (by decide) (fun c_12 => ?_) (fun c_12 => ?_)
      · have h := it c_12 h
        refine lv_iconst (v := 3) hx hb dX12_wrongPlace_39 (by decide) ?_
        refine lv_goto (tgt := 44) hx hb dX12_wrongPlace_40 (by decide) ?_
        cases h
        exact W.iret hx hb hr (fun _ ht9 _ => ⟨_, rfl, rfl, ht9⟩) (fun _ hq => by cases hq) dX12_wrongPlace_44
      · have h := ie c_12 h
        refine lv_iload_n hx hb dX12_wrongPlace_29 rfl (lv_at hl 2 rfl) ?_
        refine lv_aload_n hx hb dX12_wrongPlace_30 rfl (lv_at hl 0 rfl) ?_
        refine xget (i := 0) (j := 0) (k := 6) (T := TX12) hx hb ht tb_iX12 hown hX hP rfl rfl rfl (by decide) tb_1235 rfl dX12_wrongPlace_31 ?_
        refine lv_iload_n hx hb dX12_wrongPlace_34 rfl (lv_at hl 1 rfl) ?_
        obtain ⟨y_13, e_y_13, h⟩ := bi h
        refine xiald (i0 := 0) (j0 := 4) hx hb hX hP rfl rfl e_y_13 dX12_wrongPlace_35 ?_
        refine lv_icmp_lt (tgt := 43) hx hb dX12_wrongPlace_36 (by decide) (fun c_14 => ?_) (fun c_14 => ?_)
        · have h := it c_14 h
          refine lv_iconst (v := 0) hx hb dX12_wrongPlace_43 (by decide) ?_
          cases h
          exact W.iret hx hb hr (fun _ ht9 _ => ⟨_, rfl, rfl, ht9⟩) (fun _ hq => by cases hq) dX12_wrongPlace_44
        · have h := ie c_14 h
          refine lv_iconst (v := 3) hx hb dX12_wrongPlace_39 (by decide) ?_
          refine lv_goto (tgt := 44) hx hb dX12_wrongPlace_40 (by decide) ?_
          cases h
          exact W.iret hx hb hr (fun _ ht9 _ => ⟨_, rfl, rfl, ht9⟩) (fun _ hq => by cases hq) dX12_wrongPlace_44
    · have h := it c_11 h
      refine lv_iconst (v := 2) hx hb dX12_wrongPlace_21 (by decide) ?_
      refine lv_goto (tgt := 44) hx hb dX12_wrongPlace_22 (by decide) ?_
      cases h
      exact W.iret hx hb hr (fun _ ht9 _ => ⟨_, rfl, rfl, ht9⟩) (fun _ hq => by cases hq) dX12_wrongPlace_44
  · have h := it c_9 h
    refine lv_iconst (v := 1) hx hb dX12_wrongPlace_7 (by decide) ?_
    refine lv_goto (tgt := 44) hx hb dX12_wrongPlace_8 (by decide) ?_
    cases h
    exact W.iret hx hb hr (fun _ ht9 _ => ⟨_, rfl, rfl, ht9⟩) (fun _ hq => by cases hq) dX12_wrongPlace_44
theorem dX12_write_0 : decode cX12_write 0 = .ok (.aload_n 0, 1) := by decide +kernel
theorem dX12_write_1 : decode cX12_write 1 = .ok (.iload_n 1, 1) := by decide +kernel
theorem dX12_write_2 : decode cX12_write 2 = .ok (.iload_n 2, 1) := by decide +kernel
theorem dX12_write_3 : decode cX12_write 3 = .ok (.invokevirtual 98, 3) := by decide +kernel
theorem dX12_write_6 : decode cX12_write 6 = .ok (.istore 5, 2) := by decide +kernel
theorem dX12_write_8 : decode cX12_write 8 = .ok (.iload 5, 2) := by decide +kernel
theorem dX12_write_10 : decode cX12_write 10 = .ok (.ifCond .ne 24, 3) := by decide +kernel
theorem dX12_write_13 : decode cX12_write 13 = .ok (.aload_n 0, 1) := by decide +kernel
theorem dX12_write_14 : decode cX12_write 14 = .ok (.getfield 27, 3) := by decide +kernel
theorem dX12_write_17 : decode cX12_write 17 = .ok (.bipush 60, 2) := by decide +kernel
theorem dX12_write_19 : decode cX12_write 19 = .ok (.iload_n 1, 1) := by decide +kernel
theorem dX12_write_20 : decode cX12_write 20 = .ok (.imul, 1) := by decide +kernel
theorem dX12_write_21 : decode cX12_write 21 = .ok (.iload_n 2, 1) := by decide +kernel
theorem dX12_write_22 : decode cX12_write 22 = .ok (.iadd, 1) := by decide +kernel
theorem dX12_write_23 : decode cX12_write 23 = .ok (.lload_n 3, 1) := by decide +kernel
theorem dX12_write_24 : decode cX12_write 24 = .ok (.aload_n 0, 1) := by decide +kernel
theorem dX12_write_25 : decode cX12_write 25 = .ok (.getfield 21, 3) := by decide +kernel
theorem dX12_write_28 : decode cX12_write 28 = .ok (.iload_n 1, 1) := by decide +kernel
theorem dX12_write_29 : decode cX12_write 29 = .ok (.iaload, 1) := by decide +kernel
theorem dX12_write_30 : decode cX12_write 30 = .ok (.invokestatic 102, 3) := by decide +kernel
theorem dX12_write_33 : decode cX12_write 33 = .ok (.lastore, 1) := by decide +kernel
theorem dX12_write_34 : decode cX12_write 34 = .ok (.aload_n 0, 1) := by decide +kernel
theorem dX12_write_35 : decode cX12_write 35 = .ok (.iload 5, 2) := by decide +kernel
theorem dX12_write_37 : decode cX12_write 37 = .ok (.invokevirtual 91, 3) := by decide +kernel
theorem dX12_write_40 : decode cX12_write 40 = .ok (.ireturn, 1) := by decide +kernel
theorem mv_X12_write : MV yX12_write RX12 cX12_write 6 (some .boolean) 3 := ⟨tb_1379, tb_1377, tb_1378, tb_16, by decide +kernel, by decide +kernel, by decide +kernel⟩
def f_X12_write (fu : Nat) (m_status : Int32) (m_sort : Nat → Int32) (m_trayMany : Nat → Int32) (m_trays : Nat → Int64) (x1 : Int32) (x2 : Int32) (x3 : Int64) : Option (Int32 × Int32 × (Nat → Int64)) := (f_X12_wrongPlace fu m_trayMany x1 x2).bind fun z_10 => (if z_10 = 0 then (rdI m_sort 4 x1).bind fun y_14 => (f_X12_cut fu x3 y_14).bind fun z_15 => (wrJ m_trays 240 ((60 * x1) + x2) z_15).bind fun m_trays_16 => (f_X12_is fu m_status z_10).bind fun z_17 => (bz z_17.1).bind fun _ => some (z_17.1, z_17.2, m_trays_16) else (f_X12_is fu m_status z_10).bind fun z_12 => (bz z_12.1).bind fun _ => some (z_12.1, z_12.2, m_trays))
abbrev rm_X12_write : Room := { frames := 2, cells := 0, slots := 0, locals := 42 }
set_option maxHeartbeats 4000000 in
set_option maxRecDepth 100000 in
theorem c_X12_write (l : Launch) (D : va_G) (cy : Nat → ClassId) (fu : Nat) (A_m : Nat → Nat) (m_at : Nat → Int32) (m_names : Nat → Int64) (m_status : Int32) (m_top : Int64) (m_bottom : Int64) (m_sort : Nat → Int32) (m_trayMany : Nat → Int32) (m_trays : Nat → Int64) (m_tape : Nat → Int32) (m_text : Nat → Int32) (m_taped : Int32) (m_size : Int32) (m_token : Int32) (m_from : Int32) (m_end : Int32) (m_value : Int32) (m_faultKind : Int32) (m_faultPlace : Int32) (m_faults : Int32) (m_seen : Int32) (m_toldParts : Int32) (m_opened : Nat → Int32) (m_depth : Int32) (m_counted : Int32) (m_bestOrder : Int32) (m_standers : Nat → Int32) (m_has : Nat → Int32) (m_bestHas : Nat → Int32) (m_standerMany : Int32) (m_bestCouples : Int32) (m_bestFondness : Int32) (m_cameTo : Nat → Int32) (m_doesStandFirst : Int32) (m_stoodBy : Nat → Int64) (m_drawn : Int32) (m_ranSteps : Int32) (m_loops : Nat → Int32) (m_ran : Nat → Int32) (m_told1 : Nat → Int32) (m_isTold : Int32) (m_marks : Int32) (x1 : Int32) (x2 : Int32) (x3 : Int64) (res : Int32 × Int32 × (Nat → Int64)) (h : f_X12_write fu m_status m_sort m_trayMany m_trays x1 x2 x3 = some res) (A : Nat → Prop) (hA : A = adr [bl_X12 cy A_m m_at m_names m_status m_top m_bottom m_sort m_trayMany m_trays m_tape m_text m_taped m_size m_token m_from m_end m_value m_faultKind m_faultPlace m_faults m_seen m_toldParts m_opened m_depth m_counted m_bestOrder m_standers m_has m_bestHas m_standerMany m_bestCouples m_bestFondness m_cameTo m_doesStandFirst m_stoodBy m_drawn m_ranSteps m_loops m_ran m_told1 m_isTold m_marks]) (W1 : List va_W) (hW1 : W1 = [bl_X12 cy A_m m_at m_names res.2.1 m_top m_bottom m_sort m_trayMany res.2.2 m_tape m_text m_taped m_size m_token m_from m_end m_value m_faultKind m_faultPlace m_faults m_seen m_toldParts m_opened m_depth m_counted m_bestOrder m_standers m_has m_bestHas m_standerMany m_bestCouples m_bestFondness m_cameTo m_doesStandFirst m_stoodBy m_drawn m_ranSteps m_loops m_ran m_told1 m_isTold m_marks]) : Met l yX12_write (WW yX12_write cX12_write 6 (some .boolean)) rm_X12_write (Ed D cy [.ref (A_m 0), .int x1, .int x2, .long x3] [bl_X12 cy A_m m_at m_names m_status m_top m_bottom m_sort m_trayMany m_trays m_tape m_text m_taped m_size m_token m_from m_end m_value m_faultKind m_faultPlace m_faults m_seen m_toldParts m_opened m_depth m_counted m_bestOrder m_standers m_has m_bestHas m_standerMany m_bestCouples m_bestFondness m_cameTo m_doesStandFirst m_stoodBy m_drawn m_ranSteps m_loops m_ran m_told1 m_isTold m_marks]) (Qei D res.1 A W1) 0 0 A := by
  refine Met.ofW (cc := cX12_write) (maxL := 6) (ret := (some .boolean)) (by decide) rfl ?_
  intro p e s m args below meth c s₁ B hml hv
  obtain ⟨hargs, hP, hX, hD0⟩ := hv
  have hx := B.exec
  have hb := B.bytes
  have hr := B.returns
  have ht : ∀ w ∈ lw_gd, w.before args s = true := fun w hw => atoms_spec (ws := WW yX12_write cX12_write 6 (some .boolean)) B.pre w (List.mem_cons_of_mem _ hw)
  have hown : s.vm.findClass RX12 = some m.cls := findClass_of_methodNamed B.named
  have hlocks := B.notSynchronized
  have hP : PD D A [bl_X12 cy A_m m_at m_names m_status m_top m_bottom m_sort m_trayMany m_trays m_tape m_text m_taped m_size m_token m_from m_end m_value m_faultKind m_faultPlace m_faults m_seen m_toldParts m_opened m_depth m_counted m_bestOrder m_standers m_has m_bestHas m_standerMany m_bestCouples m_bestFondness m_cameTo m_doesStandFirst m_stoodBy m_drawn m_ranSteps m_loops m_ran m_told1 m_isTold m_marks] s.heap := ⟨hP, by rw [hA]; exact hD0.own⟩
  have hS : va_S A s.heap s.heap [] := va_S.rf
  obtain ⟨ls, hl, hent⟩ := ent (m := m) (n := 6) hargs (Nat.le_of_ble_eq_true rfl) (lv := [(0, .ref (A_m 0)), (1, .int x1), (2, .int x2), (3, .long x3)]) rfl
  rw [hent]
  clear hent
  unfold f_X12_write at h
  refine lv_aload_n hx hb dX12_write_0 rfl (lv_at hl 0 rfl) ?_
  refine lv_iload_n hx hb dX12_write_1 rfl (lv_at hl 1 rfl) ?_
  refine lv_iload_n hx hb dX12_write_2 rfl (lv_at hl 2 rfl) ?_
  obtain ⟨z_10, e_z_10, h⟩ := bi h
  refine roVi (rest := []) ⟨hx, hb, hml, hown, ht⟩ (c_X12_wrongPlace l D cy fu A_m m_at m_names m_status m_top m_bottom m_sort m_trayMany m_trays m_tape m_text m_taped m_size m_token m_from m_end m_value m_faultKind m_faultPlace m_faults m_seen m_toldParts m_opened m_depth m_counted m_bestOrder m_standers m_has m_bestHas m_standerMany m_bestCouples m_bestFondness m_cameTo m_doesStandFirst m_stoodBy m_drawn m_ranSteps m_loops m_ran m_told1 m_isTold m_marks x1 x2 z_10 e_z_10) (cV ht mv_X12_wrongPlace tb_1380 rfl rfl ⟨Nat.le_of_ble_eq_true rfl, Nat.le_of_ble_eq_true rfl⟩) (P_sub hP.1 [0] rfl) hX rfl rfl rfl hl.1 rfl (Nat.le_of_ble_eq_true rfl) dX12_write_3 ⟨Nat.le_of_ble_eq_true rfl, Nat.le_of_ble_eq_true rfl⟩ ?_
  refine lv_istore (lv' := [(5, .int z_10), (0, .ref (A_m 0)), (1, .int x1), (2, .int x2), (3, .long x3)]) hx hb dX12_write_6 hl (by decide) rfl (fun ls hl => ?_)
  refine lv_iload hx hb dX12_write_8 (lv_at hl 0 rfl) ?_
  refine lv_if_ne (tgt := 34) hx hb dX12_write_10 (by decide) (fun c_11 => ?_) (fun c_11 => ?_)
  · have h := ie c_11 h
    refine lv_aload_n hx hb dX12_write_34 rfl (lv_at hl 1 rfl) ?_
    refine lv_iload hx hb dX12_write_35 (lv_at hl 0 rfl) ?_
    obtain ⟨z_12, e_z_12, h⟩ := bi h
    refine efVi (rest := []) ⟨hx, hb, hml, hown, ht⟩ (c_X12_is l D cy fu A_m m_at m_names m_status m_top m_bottom m_sort m_trayMany m_trays m_tape m_text m_taped m_size m_token m_from m_end m_value m_faultKind m_faultPlace m_faults m_seen m_toldParts m_opened m_depth m_counted m_bestOrder m_standers m_has m_bestHas m_standerMany m_bestCouples m_bestFondness m_cameTo m_doesStandFirst m_stoodBy m_drawn m_ranSteps m_loops m_ran m_told1 m_isTold m_marks z_10 z_12 e_z_12 _ rfl _ rfl) (cV ht mv_X12_is tb_1372 rfl rfl ⟨Nat.le_of_ble_eq_true rfl, Nat.le_of_ble_eq_true rfl⟩) hP hS hX [0] rfl rfl rfl rfl rfl rfl hl.1 rfl (Nat.le_of_ble_eq_true rfl) dX12_write_37 ⟨Nat.le_of_ble_eq_true rfl, Nat.le_of_ble_eq_true rfl⟩ (fun H locs hP hS => ?_)
    have hP : PD D A [bl_X12 cy A_m m_at m_names z_12.2 m_top m_bottom m_sort m_trayMany m_trays m_tape m_text m_taped m_size m_token m_from m_end m_value m_faultKind m_faultPlace m_faults m_seen m_toldParts m_opened m_depth m_counted m_bestOrder m_standers m_has m_bestHas m_standerMany m_bestCouples m_bestFondness m_cameTo m_doesStandFirst m_stoodBy m_drawn m_ranSteps m_loops m_ran m_told1 m_isTold m_marks] H := hP
    obtain ⟨b_13, e_b_13, h⟩ := bi h
    obtain ⟨-, n_b_13, -⟩ := bz_ok e_b_13
    cases h
    subst hW1
    exact W.zret hx hb hr n_b_13 (fun _ ht9 _ => ⟨⟨_, (), rfl, rfl, hPt ht9 hP.1⟩, hS.F ht9⟩) hS.2.2 dX12_write_40
  · have h := it c_11 h
    refine lv_aload_n hx hb dX12_write_13 rfl (lv_at hl 1 rfl) ?_
    refine xget (i := 0) (j := 0) (k := 7) (T := TX12) hx hb ht tb_iX12 hown hX hP.1 rfl rfl rfl (by decide) tb_1236 rfl dX12_write_14 ?_
    refine lv_bipush (v := 60) hx hb dX12_write_17 (by decide) ?_
    refine lv_iload_n hx hb dX12_write_19 rfl (lv_at hl 2 rfl) ?_
    refine lv_imul hx hb dX12_write_20 ?_
    refine lv_iload_n hx hb dX12_write_21 rfl (lv_at hl 3 rfl) ?_
    refine lv_iadd hx hb dX12_write_22 ?_
    refine lv_lload_n hx hb dX12_write_23 rfl (lv_at hl 4 rfl) ?_
    refine lv_aload_n hx hb dX12_write_24 rfl (lv_at hl 1 rfl) ?_
    refine xget (i := 0) (j := 0) (k := 5) (T := TX12) hx hb ht tb_iX12 hown hX hP.1 rfl rfl rfl (by decide) tb_1234 rfl dX12_write_25 ?_
    refine lv_iload_n hx hb dX12_write_28 rfl (lv_at hl 2 rfl) ?_
    obtain ⟨y_14, e_y_14, h⟩ := bi h
    refine xiald (i0 := 0) (j0 := 3) hx hb hX hP.1 rfl rfl e_y_14 dX12_write_29 ?_
    obtain ⟨z_15, e_z_15, h⟩ := bi h
    refine roSl (rest := [.int ((60 * x1) + x2), .ref (A_m 5)]) ⟨hx, hb, hml, hown, ht⟩ (c_X12_cut l D cy fu  x3 y_14 z_15 e_z_15) (cS ht ms_X12_cut tb_1384 rfl rfl ⟨Nat.le_of_ble_eq_true rfl, Nat.le_of_ble_eq_true rfl⟩) (P_sub hP.1 [] rfl) hX rfl hl.1 rfl (Nat.le_of_ble_eq_true rfl) dX12_write_30 ⟨Nat.le_of_ble_eq_true rfl, Nat.le_of_ble_eq_true rfl⟩ ?_
    obtain ⟨m_trays_16, e_m_trays_16, h⟩ := bi h
    refine xlast (i0 := 0) (j0 := 5) hx hb hX hP hS rfl rfl e_m_trays_16 dX12_write_33 (fun H locs hP hS => ?_)
    have hP : PD D A [bl_X12 cy A_m m_at m_names m_status m_top m_bottom m_sort m_trayMany m_trays_16 m_tape m_text m_taped m_size m_token m_from m_end m_value m_faultKind m_faultPlace m_faults m_seen m_toldParts m_opened m_depth m_counted m_bestOrder m_standers m_has m_bestHas m_standerMany m_bestCouples m_bestFondness m_cameTo m_doesStandFirst m_stoodBy m_drawn m_ranSteps m_loops m_ran m_told1 m_isTold m_marks] H := hP
    refine lv_aload_n hx hb dX12_write_34 rfl (lv_at hl 1 rfl) ?_
    refine lv_iload hx hb dX12_write_35 (lv_at hl 0 rfl) ?_
    obtain ⟨z_17, e_z_17, h⟩ := bi h
    refine efVi (rest := []) ⟨hx, hb, hml, hown, ht⟩ (c_X12_is l D cy fu A_m m_at m_names m_status m_top m_bottom m_sort m_trayMany m_trays_16 m_tape m_text m_taped m_size m_token m_from m_end m_value m_faultKind m_faultPlace m_faults m_seen m_toldParts m_opened m_depth m_counted m_bestOrder m_standers m_has m_bestHas m_standerMany m_bestCouples m_bestFondness m_cameTo m_doesStandFirst m_stoodBy m_drawn m_ranSteps m_loops m_ran m_told1 m_isTold m_marks z_10 z_17 e_z_17 _ rfl _ rfl) (cV ht mv_X12_is tb_1372 rfl rfl ⟨Nat.le_of_ble_eq_true rfl, Nat.le_of_ble_eq_true rfl⟩) hP hS hX [0] rfl rfl rfl rfl rfl rfl hl.1 rfl (Nat.le_of_ble_eq_true rfl) dX12_write_37 ⟨Nat.le_of_ble_eq_true rfl, Nat.le_of_ble_eq_true rfl⟩ (fun H locs hP hS => ?_)
    have hP : PD D A [bl_X12 cy A_m m_at m_names z_17.2 m_top m_bottom m_sort m_trayMany m_trays_16 m_tape m_text m_taped m_size m_token m_from m_end m_value m_faultKind m_faultPlace m_faults m_seen m_toldParts m_opened m_depth m_counted m_bestOrder m_standers m_has m_bestHas m_standerMany m_bestCouples m_bestFondness m_cameTo m_doesStandFirst m_stoodBy m_drawn m_ranSteps m_loops m_ran m_told1 m_isTold m_marks] H := hP
    obtain ⟨b_18, e_b_18, h⟩ := bi h
    obtain ⟨-, n_b_18, -⟩ := bz_ok e_b_18
    cases h
    subst hW1
    exact W.zret hx hb hr n_b_18 (fun _ ht9 _ => ⟨⟨_, (), rfl, rfl, hPt ht9 hP.1⟩, hS.F ht9⟩) hS.2.2 dX12_write_40
theorem dX12_read_0 : decode cX12_read 0 = .ok (.aload_n 0, 1) := by decide +kernel
theorem dX12_read_1 : decode cX12_read 1 = .ok (.aload_n 0, 1) := by decide +kernel
theorem dX12_read_2 : decode cX12_read 2 = .ok (.iload_n 1, 1) := by decide +kernel
theorem dX12_read_3 : decode cX12_read 3 = .ok (.iload_n 2, 1) := by decide +kernel
theorem dX12_read_4 : decode cX12_read 4 = .ok (.invokevirtual 98, 3) := by decide +kernel
theorem dX12_read_7 : decode cX12_read 7 = .ok (.putfield 79, 3) := by decide +kernel
theorem dX12_read_10 : decode cX12_read 10 = .ok (.aload_n 0, 1) := by decide +kernel
theorem dX12_read_11 : decode cX12_read 11 = .ok (.getfield 79, 3) := by decide +kernel
theorem dX12_read_14 : decode cX12_read 14 = .ok (.ifCond .le 9, 3) := by decide +kernel
theorem dX12_read_17 : decode cX12_read 17 = .ok (.ldc2_w 106, 3) := by decide +kernel
theorem dX12_read_20 : decode cX12_read 20 = .ok (.goto 14, 3) := by decide +kernel
theorem dX12_read_23 : decode cX12_read 23 = .ok (.aload_n 0, 1) := by decide +kernel
theorem dX12_read_24 : decode cX12_read 24 = .ok (.getfield 27, 3) := by decide +kernel
theorem dX12_read_27 : decode cX12_read 27 = .ok (.bipush 60, 2) := by decide +kernel
theorem dX12_read_29 : decode cX12_read 29 = .ok (.iload_n 1, 1) := by decide +kernel
theorem dX12_read_30 : decode cX12_read 30 = .ok (.imul, 1) := by decide +kernel
theorem dX12_read_31 : decode cX12_read 31 = .ok (.iload_n 2, 1) := by decide +kernel
theorem dX12_read_32 : decode cX12_read 32 = .ok (.iadd, 1) := by decide +kernel
theorem dX12_read_33 : decode cX12_read 33 = .ok (.laload, 1) := by decide +kernel
theorem dX12_read_34 : decode cX12_read 34 = .ok (.lreturn, 1) := by decide +kernel
theorem mv_X12_read : MV yX12_read RX12 cX12_read 3 (some .long) 2 := ⟨tb_1390, tb_1388, tb_1389, tb_16, by decide +kernel, by decide +kernel, by decide +kernel⟩
def f_X12_read (fu : Nat) (m_status : Int32) (m_trayMany : Nat → Int32) (m_trays : Nat → Int64) (x1 : Int32) (x2 : Int32) : Option (Int64 × Int32) := (f_X12_wrongPlace fu m_trayMany x1 x2).bind fun z_4 => (if z_4 ≤ 0 then (rdJ m_trays 240 ((60 * x1) + x2)).bind fun y_6 => some (y_6, z_4) else some ((-1), z_4))
abbrev rm_X12_read : Room := { frames := 2, cells := 0, slots := 0, locals := 42 }
set_option maxHeartbeats 4000000 in
set_option maxRecDepth 100000 in
theorem c_X12_read (l : Launch) (D : va_G) (cy : Nat → ClassId) (fu : Nat) (A_m : Nat → Nat) (m_at : Nat → Int32) (m_names : Nat → Int64) (m_status : Int32) (m_top : Int64) (m_bottom : Int64) (m_sort : Nat → Int32) (m_trayMany : Nat → Int32) (m_trays : Nat → Int64) (m_tape : Nat → Int32) (m_text : Nat → Int32) (m_taped : Int32) (m_size : Int32) (m_token : Int32) (m_from : Int32) (m_end : Int32) (m_value : Int32) (m_faultKind : Int32) (m_faultPlace : Int32) (m_faults : Int32) (m_seen : Int32) (m_toldParts : Int32) (m_opened : Nat → Int32) (m_depth : Int32) (m_counted : Int32) (m_bestOrder : Int32) (m_standers : Nat → Int32) (m_has : Nat → Int32) (m_bestHas : Nat → Int32) (m_standerMany : Int32) (m_bestCouples : Int32) (m_bestFondness : Int32) (m_cameTo : Nat → Int32) (m_doesStandFirst : Int32) (m_stoodBy : Nat → Int64) (m_drawn : Int32) (m_ranSteps : Int32) (m_loops : Nat → Int32) (m_ran : Nat → Int32) (m_told1 : Nat → Int32) (m_isTold : Int32) (m_marks : Int32) (x1 : Int32) (x2 : Int32) (res : Int64 × Int32) (h : f_X12_read fu m_status m_trayMany m_trays x1 x2 = some res) (A : Nat → Prop) (hA : A = adr [bl_X12 cy A_m m_at m_names m_status m_top m_bottom m_sort m_trayMany m_trays m_tape m_text m_taped m_size m_token m_from m_end m_value m_faultKind m_faultPlace m_faults m_seen m_toldParts m_opened m_depth m_counted m_bestOrder m_standers m_has m_bestHas m_standerMany m_bestCouples m_bestFondness m_cameTo m_doesStandFirst m_stoodBy m_drawn m_ranSteps m_loops m_ran m_told1 m_isTold m_marks]) (W1 : List va_W) (hW1 : W1 = [bl_X12 cy A_m m_at m_names res.2 m_top m_bottom m_sort m_trayMany m_trays m_tape m_text m_taped m_size m_token m_from m_end m_value m_faultKind m_faultPlace m_faults m_seen m_toldParts m_opened m_depth m_counted m_bestOrder m_standers m_has m_bestHas m_standerMany m_bestCouples m_bestFondness m_cameTo m_doesStandFirst m_stoodBy m_drawn m_ranSteps m_loops m_ran m_told1 m_isTold m_marks]) : Met l yX12_read (WW yX12_read cX12_read 3 (some .long)) rm_X12_read (Ed D cy [.ref (A_m 0), .int x1, .int x2] [bl_X12 cy A_m m_at m_names m_status m_top m_bottom m_sort m_trayMany m_trays m_tape m_text m_taped m_size m_token m_from m_end m_value m_faultKind m_faultPlace m_faults m_seen m_toldParts m_opened m_depth m_counted m_bestOrder m_standers m_has m_bestHas m_standerMany m_bestCouples m_bestFondness m_cameTo m_doesStandFirst m_stoodBy m_drawn m_ranSteps m_loops m_ran m_told1 m_isTold m_marks]) (Qel D res.1 A W1) 0 0 A := by
  refine Met.ofW (cc := cX12_read) (maxL := 3) (ret := (some .long)) (by decide) rfl ?_
  intro p e s m args below meth c s₁ B hml hv
  obtain ⟨hargs, hP, hX, hD0⟩ := hv
  have hx := B.exec
  have hb := B.bytes
  have hr := B.returns
  have ht : ∀ w ∈ lw_gd, w.before args s = true := fun w hw => atoms_spec (ws := WW yX12_read cX12_read 3 (some .long)) B.pre w (List.mem_cons_of_mem _ hw)
  have hown : s.vm.findClass RX12 = some m.cls := findClass_of_methodNamed B.named
  have hlocks := B.notSynchronized
  have hP : PD D A [bl_X12 cy A_m m_at m_names m_status m_top m_bottom m_sort m_trayMany m_trays m_tape m_text m_taped m_size m_token m_from m_end m_value m_faultKind m_faultPlace m_faults m_seen m_toldParts m_opened m_depth m_counted m_bestOrder m_standers m_has m_bestHas m_standerMany m_bestCouples m_bestFondness m_cameTo m_doesStandFirst m_stoodBy m_drawn m_ranSteps m_loops m_ran m_told1 m_isTold m_marks] s.heap := ⟨hP, by rw [hA]; exact hD0.own⟩
  have hS : va_S A s.heap s.heap [] := va_S.rf
  obtain ⟨ls, hl, hent⟩ := ent (m := m) (n := 3) hargs (Nat.le_of_ble_eq_true rfl) (lv := [(0, .ref (A_m 0)), (1, .int x1), (2, .int x2)]) rfl
  rw [hent]
  clear hent
  unfold f_X12_read at h
  refine lv_aload_n hx hb dX12_read_0 rfl (lv_at hl 0 rfl) ?_
  refine lv_aload_n hx hb dX12_read_1 rfl (lv_at hl 0 rfl) ?_
  refine lv_iload_n hx hb dX12_read_2 rfl (lv_at hl 1 rfl) ?_
  refine lv_iload_n hx hb dX12_read_3 rfl (lv_at hl 2 rfl) ?_
  obtain ⟨z_4, e_z_4, h⟩ := bi h
  refine roVi (rest := [.ref (A_m 0)]) ⟨hx, hb, hml, hown, ht⟩ (c_X12_wrongPlace l D cy fu A_m m_at m_names m_status m_top m_bottom m_sort m_trayMany m_trays m_tape m_text m_taped m_size m_token m_from m_end m_value m_faultKind m_faultPlace m_faults m_seen m_toldParts m_opened m_depth m_counted m_bestOrder m_standers m_has m_bestHas m_standerMany m_bestCouples m_bestFondness m_cameTo m_doesStandFirst m_stoodBy m_drawn m_ranSteps m_loops m_ran m_told1 m_isTold m_marks x1 x2 z_4 e_z_4) (cV ht mv_X12_wrongPlace tb_1380 rfl rfl ⟨Nat.le_of_ble_eq_true rfl, Nat.le_of_ble_eq_true rfl⟩) (P_sub hP.1 [0] rfl) hX rfl rfl rfl hl.1 rfl (Nat.le_of_ble_eq_true rfl) dX12_read_4 ⟨Nat.le_of_ble_eq_true rfl, Nat.le_of_ble_eq_true rfl⟩ ?_
  refine xput (i := 0) (j := 0) (k := 2) (T := TX12) tyX12 tyX12_ok nmX12 hx hb ht tb_iX12 hown hX hP hS rfl rfl rfl (by decide) tb_1231 rfl rfl rfl (Nat.le_of_ble_eq_true rfl) dX12_read_7 (fun H locs hP hS => ?_)
  have hP : PD D A [bl_X12 cy A_m m_at m_names z_4 m_top m_bottom m_sort m_trayMany m_trays m_tape m_text m_taped m_size m_token m_from m_end m_value m_faultKind m_faultPlace m_faults m_seen m_toldParts m_opened m_depth m_counted m_bestOrder m_standers m_has m_bestHas m_standerMany m_bestCouples m_bestFondness m_cameTo m_doesStandFirst m_stoodBy m_drawn m_ranSteps m_loops m_ran m_told1 m_isTold m_marks] H := hP
  refine lv_aload_n hx hb dX12_read_10 rfl (lv_at hl 0 rfl) ?_
  refine xget (i := 0) (j := 0) (k := 2) (T := TX12) hx hb ht tb_iX12 hown hX hP.1 rfl rfl rfl (by decide) tb_1231 rfl dX12_read_11 ?_
  refine lv_if_le (tgt := 23) hx hb dX12_read_14 (by decide) (fun c_5 => ?_) (fun c_5 => ?_)
  · have h := it c_5 h
    refine lv_aload_n hx hb dX12_read_23 rfl (lv_at hl 0 rfl) ?_
    refine xget (i := 0) (j := 0) (k := 7) (T := TX12) hx hb ht tb_iX12 hown hX hP.1 rfl rfl rfl (by decide) tb_1236 rfl dX12_read_24 ?_
    refine lv_bipush (v := 60) hx hb dX12_read_27 (by decide) ?_
    refine lv_iload_n hx hb dX12_read_29 rfl (lv_at hl 1 rfl) ?_
    refine lv_imul hx hb dX12_read_30 ?_
    refine lv_iload_n hx hb dX12_read_31 rfl (lv_at hl 2 rfl) ?_
    refine lv_iadd hx hb dX12_read_32 ?_
    obtain ⟨y_6, e_y_6, h⟩ := bi h
    refine xlald (i0 := 0) (j0 := 5) hx hb hX hP.1 rfl rfl e_y_6 dX12_read_33 ?_
    cases h
    subst hW1
    exact W.lret hx hb hr (fun _ ht9 _ => ⟨⟨_, (), rfl, rfl, hPt ht9 hP.1⟩, hS.F ht9⟩) hS.2.2 dX12_read_34
  · have h := ie c_5 h
    refine lv_ldc2 (v := (-1)) hx hb hown (ht _ tb_1391) dX12_read_17 ?_
    refine lv_goto (tgt := 34) hx hb dX12_read_20 (by decide) ?_
    cases h
    subst hW1
    exact W.lret hx hb hr (fun _ ht9 _ => ⟨⟨_, (), rfl, rfl, hPt ht9 hP.1⟩, hS.F ht9⟩) hS.2.2 dX12_read_34
theorem dX12_pour_0 : decode cX12_pour 0 = .ok (.iload_n 1, 1) := by decide +kernel
theorem dX12_pour_1 : decode cX12_pour 1 = .ok (.invokestatic 95, 3) := by decide +kernel
theorem dX12_pour_4 : decode cX12_pour 4 = .ok (.ifCond .eq 24, 3) := by decide +kernel
theorem dX12_pour_7 : decode cX12_pour 7 = .ok (.iload_n 3, 1) := by decide +kernel
theorem dX12_pour_8 : decode cX12_pour 8 = .ok (.invokestatic 95, 3) := by decide +kernel
theorem dX12_pour_11 : decode cX12_pour 11 = .ok (.ifCond .eq 17, 3) := by decide +kernel
theorem dX12_pour_14 : decode cX12_pour 14 = .ok (.iload_n 2, 1) := by decide +kernel
theorem dX12_pour_15 : decode cX12_pour 15 = .ok (.ifCond .lt 13, 3) := by decide +kernel
theorem dX12_pour_18 : decode cX12_pour 18 = .ok (.iload 4, 2) := by decide +kernel
theorem dX12_pour_20 : decode cX12_pour 20 = .ok (.ifCond .lt 8, 3) := by decide +kernel
theorem dX12_pour_23 : decode cX12_pour 23 = .ok (.iload 5, 2) := by decide +kernel
theorem dX12_pour_25 : decode cX12_pour 25 = .ok (.ifCond .ge 9, 3) := by decide +kernel
theorem dX12_pour_28 : decode cX12_pour 28 = .ok (.aload_n 0, 1) := by decide +kernel
theorem dX12_pour_29 : decode cX12_pour 29 = .ok (.iconst 1, 1) := by decide +kernel
theorem dX12_pour_30 : decode cX12_pour 30 = .ok (.invokevirtual 91, 3) := by decide +kernel
theorem dX12_pour_33 : decode cX12_pour 33 = .ok (.ireturn, 1) := by decide +kernel
theorem dX12_pour_34 : decode cX12_pour 34 = .ok (.aload_n 0, 1) := by decide +kernel
theorem dX12_pour_35 : decode cX12_pour 35 = .ok (.getfield 24, 3) := by decide +kernel
theorem dX12_pour_38 : decode cX12_pour 38 = .ok (.iload_n 1, 1) := by decide +kernel
theorem dX12_pour_39 : decode cX12_pour 39 = .ok (.iaload, 1) := by decide +kernel
theorem dX12_pour_40 : decode cX12_pour 40 = .ok (.iconst (-1), 1) := by decide +kernel
theorem dX12_pour_41 : decode cX12_pour 41 = .ok (.if_icmp .eq 13, 3) := by decide +kernel
theorem dX12_pour_44 : decode cX12_pour 44 = .ok (.aload_n 0, 1) := by decide +kernel
theorem dX12_pour_45 : decode cX12_pour 45 = .ok (.getfield 24, 3) := by decide +kernel
theorem dX12_pour_48 : decode cX12_pour 48 = .ok (.iload_n 3, 1) := by decide +kernel
theorem dX12_pour_49 : decode cX12_pour 49 = .ok (.iaload, 1) := by decide +kernel
theorem dX12_pour_50 : decode cX12_pour 50 = .ok (.iconst (-1), 1) := by decide +kernel
theorem dX12_pour_51 : decode cX12_pour 51 = .ok (.if_icmp .ne 9, 3) := by decide +kernel
theorem dX12_pour_54 : decode cX12_pour 54 = .ok (.aload_n 0, 1) := by decide +kernel
theorem dX12_pour_55 : decode cX12_pour 55 = .ok (.iconst 2, 1) := by decide +kernel
theorem dX12_pour_56 : decode cX12_pour 56 = .ok (.invokevirtual 91, 3) := by decide +kernel
theorem dX12_pour_59 : decode cX12_pour 59 = .ok (.ireturn, 1) := by decide +kernel
theorem dX12_pour_60 : decode cX12_pour 60 = .ok (.aload_n 0, 1) := by decide +kernel
theorem dX12_pour_61 : decode cX12_pour 61 = .ok (.getfield 21, 3) := by decide +kernel
theorem dX12_pour_64 : decode cX12_pour 64 = .ok (.iload_n 1, 1) := by decide +kernel
theorem dX12_pour_65 : decode cX12_pour 65 = .ok (.iaload, 1) := by decide +kernel
theorem dX12_pour_66 : decode cX12_pour 66 = .ok (.aload_n 0, 1) := by decide +kernel
theorem dX12_pour_67 : decode cX12_pour 67 = .ok (.getfield 21, 3) := by decide +kernel
theorem dX12_pour_70 : decode cX12_pour 70 = .ok (.iload_n 3, 1) := by decide +kernel
theorem dX12_pour_71 : decode cX12_pour 71 = .ok (.iaload, 1) := by decide +kernel
theorem dX12_pour_72 : decode cX12_pour 72 = .ok (.if_icmp .eq 10, 3) := by decide +kernel
theorem dX12_pour_75 : decode cX12_pour 75 = .ok (.aload_n 0, 1) := by decide +kernel
theorem dX12_pour_76 : decode cX12_pour 76 = .ok (.bipush 8, 2) := by decide +kernel
theorem dX12_pour_78 : decode cX12_pour 78 = .ok (.invokevirtual 91, 3) := by decide +kernel
theorem dX12_pour_81 : decode cX12_pour 81 = .ok (.ireturn, 1) := by decide +kernel
theorem dX12_pour_82 : decode cX12_pour 82 = .ok (.iload 5, 2) := by decide +kernel
theorem dX12_pour_84 : decode cX12_pour 84 = .ok (.aload_n 0, 1) := by decide +kernel
theorem dX12_pour_85 : decode cX12_pour 85 = .ok (.getfield 24, 3) := by decide +kernel
theorem dX12_pour_88 : decode cX12_pour 88 = .ok (.iload_n 1, 1) := by decide +kernel
theorem dX12_pour_89 : decode cX12_pour 89 = .ok (.iaload, 1) := by decide +kernel
theorem dX12_pour_90 : decode cX12_pour 90 = .ok (.iload_n 2, 1) := by decide +kernel
theorem dX12_pour_91 : decode cX12_pour 91 = .ok (.isub, 1) := by decide +kernel
theorem dX12_pour_92 : decode cX12_pour 92 = .ok (.if_icmp .gt 17, 3) := by decide +kernel
theorem dX12_pour_95 : decode cX12_pour 95 = .ok (.iload 5, 2) := by decide +kernel
theorem dX12_pour_97 : decode cX12_pour 97 = .ok (.aload_n 0, 1) := by decide +kernel
theorem dX12_pour_98 : decode cX12_pour 98 = .ok (.getfield 24, 3) := by decide +kernel
theorem dX12_pour_101 : decode cX12_pour 101 = .ok (.iload_n 3, 1) := by decide +kernel
theorem dX12_pour_102 : decode cX12_pour 102 = .ok (.iaload, 1) := by decide +kernel
theorem dX12_pour_103 : decode cX12_pour 103 = .ok (.iload 4, 2) := by decide +kernel
theorem dX12_pour_105 : decode cX12_pour 105 = .ok (.isub, 1) := by decide +kernel
theorem dX12_pour_106 : decode cX12_pour 106 = .ok (.if_icmp .le 9, 3) := by decide +kernel
theorem dX12_pour_109 : decode cX12_pour 109 = .ok (.aload_n 0, 1) := by decide +kernel
theorem dX12_pour_110 : decode cX12_pour 110 = .ok (.iconst 3, 1) := by decide +kernel
theorem dX12_pour_111 : decode cX12_pour 111 = .ok (.invokevirtual 91, 3) := by decide +kernel
theorem dX12_pour_114 : decode cX12_pour 114 = .ok (.ireturn, 1) := by decide +kernel
theorem dX12_pour_115 : decode cX12_pour 115 = .ok (.iconst 0, 1) := by decide +kernel
theorem dX12_pour_116 : decode cX12_pour 116 = .ok (.istore 6, 2) := by decide +kernel
theorem dX12_pour_118 : decode cX12_pour 118 = .ok (.iload 6, 2) := by decide +kernel
theorem dX12_pour_120 : decode cX12_pour 120 = .ok (.iload 5, 2) := by decide +kernel
theorem dX12_pour_122 : decode cX12_pour 122 = .ok (.if_icmp .ge 58, 3) := by decide +kernel
theorem dX12_pour_125 : decode cX12_pour 125 = .ok (.iload_n 2, 1) := by decide +kernel
theorem dX12_pour_126 : decode cX12_pour 126 = .ok (.iload 4, 2) := by decide +kernel
theorem dX12_pour_128 : decode cX12_pour 128 = .ok (.if_icmp .ge 13, 3) := by decide +kernel
theorem dX12_pour_131 : decode cX12_pour 131 = .ok (.iload 5, 2) := by decide +kernel
theorem dX12_pour_133 : decode cX12_pour 133 = .ok (.iconst 1, 1) := by decide +kernel
theorem dX12_pour_134 : decode cX12_pour 134 = .ok (.isub, 1) := by decide +kernel
theorem dX12_pour_135 : decode cX12_pour 135 = .ok (.iload 6, 2) := by decide +kernel
theorem dX12_pour_137 : decode cX12_pour 137 = .ok (.isub, 1) := by decide +kernel
theorem dX12_pour_138 : decode cX12_pour 138 = .ok (.goto 5, 3) := by decide +kernel
theorem dX12_pour_141 : decode cX12_pour 141 = .ok (.iload 6, 2) := by decide +kernel
theorem dX12_pour_143 : decode cX12_pour 143 = .ok (.istore 7, 2) := by decide +kernel
theorem dX12_pour_145 : decode cX12_pour 145 = .ok (.aload_n 0, 1) := by decide +kernel
theorem dX12_pour_146 : decode cX12_pour 146 = .ok (.getfield 27, 3) := by decide +kernel
theorem dX12_pour_149 : decode cX12_pour 149 = .ok (.bipush 60, 2) := by decide +kernel
theorem dX12_pour_151 : decode cX12_pour 151 = .ok (.iload_n 3, 1) := by decide +kernel
theorem dX12_pour_152 : decode cX12_pour 152 = .ok (.imul, 1) := by decide +kernel
theorem dX12_pour_153 : decode cX12_pour 153 = .ok (.iload 4, 2) := by decide +kernel
theorem dX12_pour_155 : decode cX12_pour 155 = .ok (.iadd, 1) := by decide +kernel
theorem dX12_pour_156 : decode cX12_pour 156 = .ok (.iload 7, 2) := by decide +kernel
theorem dX12_pour_158 : decode cX12_pour 158 = .ok (.iadd, 1) := by decide +kernel
theorem dX12_pour_159 : decode cX12_pour 159 = .ok (.aload_n 0, 1) := by decide +kernel
theorem dX12_pour_160 : decode cX12_pour 160 = .ok (.getfield 27, 3) := by decide +kernel
theorem dX12_pour_163 : decode cX12_pour 163 = .ok (.bipush 60, 2) := by decide +kernel
theorem dX12_pour_165 : decode cX12_pour 165 = .ok (.iload_n 1, 1) := by decide +kernel
theorem dX12_pour_166 : decode cX12_pour 166 = .ok (.imul, 1) := by decide +kernel
theorem dX12_pour_167 : decode cX12_pour 167 = .ok (.iload_n 2, 1) := by decide +kernel
theorem dX12_pour_168 : decode cX12_pour 168 = .ok (.iadd, 1) := by decide +kernel
theorem dX12_pour_169 : decode cX12_pour 169 = .ok (.iload 7, 2) := by decide +kernel
theorem dX12_pour_171 : decode cX12_pour 171 = .ok (.iadd, 1) := by decide +kernel
theorem dX12_pour_172 : decode cX12_pour 172 = .ok (.laload, 1) := by decide +kernel
theorem dX12_pour_173 : decode cX12_pour 173 = .ok (.lastore, 1) := by decide +kernel
theorem dX12_pour_174 : decode cX12_pour 174 = .ok (.iinc 6 1, 3) := by decide +kernel
theorem dX12_pour_177 : decode cX12_pour 177 = .ok (.goto (-59), 3) := by decide +kernel
theorem dX12_pour_180 : decode cX12_pour 180 = .ok (.aload_n 0, 1) := by decide +kernel
theorem dX12_pour_181 : decode cX12_pour 181 = .ok (.iconst 0, 1) := by decide +kernel
theorem dX12_pour_182 : decode cX12_pour 182 = .ok (.invokevirtual 91, 3) := by decide +kernel
theorem dX12_pour_185 : decode cX12_pour 185 = .ok (.ireturn, 1) := by decide +kernel
theorem mv_X12_pour : MV yX12_pour RX12 cX12_pour 8 (some .boolean) 5 := ⟨tb_1395, tb_1393, tb_1394, tb_16, by decide +kernel, by decide +kernel, by decide +kernel⟩
def f_X12_pour_j143 (fu : Nat) (m_sort : Nat → Int32) (m_trayMany : Nat → Int32) (x1 : Int32) (x2 : Int32) (x3 : Int32) (x4 : Int32) (x5 : Int32) (k118 : Int32 → (Nat → Int64) → Int32 → (Option (Int32 × Int32 × (Nat → Int64)))) (m_status : Int32) (m_trays : Nat → Int64) (x6 : Int32) (s0 : Int32) : Option (Int32 × Int32 × (Nat → Int64)) := (rdJ m_trays 240 (((60 * x1) + x2) + s0)).bind fun y_46 => (wrJ m_trays 240 (((60 * x3) + x4) + s0) y_46).bind fun m_trays_47 => bnd (x6 + 1) fun x6_48 => k118 m_status m_trays_47 x6_48
def f_X12_pour_b118 (fu : Nat) (m_sort : Nat → Int32) (m_trayMany : Nat → Int32) (x1 : Int32) (x2 : Int32) (x3 : Int32) (x4 : Int32) (x5 : Int32) (k118 : Int32 → (Nat → Int64) → Int32 → (Option (Int32 × Int32 × (Nat → Int64)))) (m_status : Int32) (m_trays : Nat → Int64) (x6 : Int32) : Option (Int32 × Int32 × (Nat → Int64)) := (if x5 ≤ x6 then (f_X12_is fu m_status 0).bind fun z_50 => (bz z_50.1).bind fun _ => some (z_50.1, z_50.2, m_trays) else (if x4 ≤ x2 then f_X12_pour_j143 fu m_sort m_trayMany x1 x2 x3 x4 x5 k118 m_status m_trays x6 x6 else f_X12_pour_j143 fu m_sort m_trayMany x1 x2 x3 x4 x5 k118 m_status m_trays x6 ((x5 - 1) - x6)))
def f_X12_pour_l118 (fu : Nat) (m_sort : Nat → Int32) (m_trayMany : Nat → Int32) (x1 : Int32) (x2 : Int32) (x3 : Int32) (x4 : Int32) (x5 : Int32) : Nat → Int32 → (Nat → Int64) → Int32 → (Option (Int32 × Int32 × (Nat → Int64)))
  | 0, _, _, _ => none
  | n + 1, m_status, m_trays, x6 => f_X12_pour_b118 fu m_sort m_trayMany x1 x2 x3 x4 x5 (f_X12_pour_l118 fu m_sort m_trayMany x1 x2 x3 x4 x5 n) m_status m_trays x6
def f_X12_pour (fu : Nat) (m_status : Int32) (m_sort : Nat → Int32) (m_trayMany : Nat → Int32) (m_trays : Nat → Int64) (x1 : Int32) (x2 : Int32) (x3 : Int32) (x4 : Int32) (x5 : Int32) : Option (Int32 × Int32 × (Nat → Int64)) := (f_X12_isTray fu x1).bind fun z_53 => (if z_53 = 0 then (f_X12_is fu m_status 1).bind fun z_55 => (bz z_55.1).bind fun _ => some (z_55.1, z_55.2, m_trays) else (f_X12_isTray fu x3).bind fun z_57 => (if z_57 = 0 then (f_X12_is fu m_status 1).bind fun z_59 => (bz z_59.1).bind fun _ => some (z_59.1, z_59.2, m_trays) else (if x2 < 0 then (f_X12_is fu m_status 1).bind fun z_62 => (bz z_62.1).bind fun _ => some (z_62.1, z_62.2, m_trays) else (if x4 < 0 then (f_X12_is fu m_status 1).bind fun z_65 => (bz z_65.1).bind fun _ => some (z_65.1, z_65.2, m_trays) else (if 0 ≤ x5 then (rdI m_trayMany 4 x1).bind fun y_68 => (if y_68 = (-1) then (f_X12_is fu m_status 2).bind fun z_70 => (bz z_70.1).bind fun _ => some (z_70.1, z_70.2, m_trays) else (rdI m_trayMany 4 x3).bind fun y_72 => (if y_72 = (-1) then (f_X12_is fu m_status 2).bind fun z_87 => (bz z_87.1).bind fun _ => some (z_87.1, z_87.2, m_trays) else (rdI m_sort 4 x1).bind fun y_74 => (rdI m_sort 4 x3).bind fun y_75 => (if y_74 = y_75 then (rdI m_trayMany 4 x1).bind fun y_77 => (if (y_77 - x2) < x5 then (f_X12_is fu m_status 3).bind fun z_79 => (bz z_79.1).bind fun _ => some (z_79.1, z_79.2, m_trays) else (rdI m_trayMany 4 x3).bind fun y_81 => (if x5 ≤ (y_81 - x4) then f_X12_pour_l118 fu m_sort m_trayMany x1 x2 x3 x4 x5 fu m_status m_trays 0 else (f_X12_is fu m_status 3).bind fun z_83 => (bz z_83.1).bind fun _ => some (z_83.1, z_83.2, m_trays))) else (f_X12_is fu m_status 8).bind fun z_85 => (bz z_85.1).bind fun _ => some (z_85.1, z_85.2, m_trays)))) else (f_X12_is fu m_status 1).bind fun z_89 => (bz z_89.1).bind fun _ => some (z_89.1, z_89.2, m_trays))))))
abbrev rm_X12_pour : Room := { frames := 1, cells := 0, slots := 0, locals := 21 }
set_option maxHeartbeats 4000000 in
set_option maxRecDepth 100000 in
theorem c_X12_pour (l : Launch) (D : va_G) (cy : Nat → ClassId) (fu : Nat) (A_m : Nat → Nat) (m_at : Nat → Int32) (m_names : Nat → Int64) (m_status : Int32) (m_top : Int64) (m_bottom : Int64) (m_sort : Nat → Int32) (m_trayMany : Nat → Int32) (m_trays : Nat → Int64) (m_tape : Nat → Int32) (m_text : Nat → Int32) (m_taped : Int32) (m_size : Int32) (m_token : Int32) (m_from : Int32) (m_end : Int32) (m_value : Int32) (m_faultKind : Int32) (m_faultPlace : Int32) (m_faults : Int32) (m_seen : Int32) (m_toldParts : Int32) (m_opened : Nat → Int32) (m_depth : Int32) (m_counted : Int32) (m_bestOrder : Int32) (m_standers : Nat → Int32) (m_has : Nat → Int32) (m_bestHas : Nat → Int32) (m_standerMany : Int32) (m_bestCouples : Int32) (m_bestFondness : Int32) (m_cameTo : Nat → Int32) (m_doesStandFirst : Int32) (m_stoodBy : Nat → Int64) (m_drawn : Int32) (m_ranSteps : Int32) (m_loops : Nat → Int32) (m_ran : Nat → Int32) (m_told1 : Nat → Int32) (m_isTold : Int32) (m_marks : Int32) (x1 : Int32) (x2 : Int32) (x3 : Int32) (x4 : Int32) (x5 : Int32) (res : Int32 × Int32 × (Nat → Int64)) (h : f_X12_pour fu m_status m_sort m_trayMany m_trays x1 x2 x3 x4 x5 = some res) (A : Nat → Prop) (hA : A = adr [bl_X12 cy A_m m_at m_names m_status m_top m_bottom m_sort m_trayMany m_trays m_tape m_text m_taped m_size m_token m_from m_end m_value m_faultKind m_faultPlace m_faults m_seen m_toldParts m_opened m_depth m_counted m_bestOrder m_standers m_has m_bestHas m_standerMany m_bestCouples m_bestFondness m_cameTo m_doesStandFirst m_stoodBy m_drawn m_ranSteps m_loops m_ran m_told1 m_isTold m_marks]) (W1 : List va_W) (hW1 : W1 = [bl_X12 cy A_m m_at m_names res.2.1 m_top m_bottom m_sort m_trayMany res.2.2 m_tape m_text m_taped m_size m_token m_from m_end m_value m_faultKind m_faultPlace m_faults m_seen m_toldParts m_opened m_depth m_counted m_bestOrder m_standers m_has m_bestHas m_standerMany m_bestCouples m_bestFondness m_cameTo m_doesStandFirst m_stoodBy m_drawn m_ranSteps m_loops m_ran m_told1 m_isTold m_marks]) : Met l yX12_pour (WW yX12_pour cX12_pour 8 (some .boolean)) rm_X12_pour (Ed D cy [.ref (A_m 0), .int x1, .int x2, .int x3, .int x4, .int x5] [bl_X12 cy A_m m_at m_names m_status m_top m_bottom m_sort m_trayMany m_trays m_tape m_text m_taped m_size m_token m_from m_end m_value m_faultKind m_faultPlace m_faults m_seen m_toldParts m_opened m_depth m_counted m_bestOrder m_standers m_has m_bestHas m_standerMany m_bestCouples m_bestFondness m_cameTo m_doesStandFirst m_stoodBy m_drawn m_ranSteps m_loops m_ran m_told1 m_isTold m_marks]) (Qei D res.1 A W1) 0 0 A := by
  refine Met.ofW (cc := cX12_pour) (maxL := 8) (ret := (some .boolean)) (by decide) rfl ?_
  intro p e s m args below meth c s₁ B hml hv
  obtain ⟨hargs, hP, hX, hD0⟩ := hv
  have hx := B.exec
  have hb := B.bytes
  have hr := B.returns
  have ht : ∀ w ∈ lw_gd, w.before args s = true := fun w hw => atoms_spec (ws := WW yX12_pour cX12_pour 8 (some .boolean)) B.pre w (List.mem_cons_of_mem _ hw)
  have hown : s.vm.findClass RX12 = some m.cls := findClass_of_methodNamed B.named
  have hlocks := B.notSynchronized
  have hP : PD D A [bl_X12 cy A_m m_at m_names m_status m_top m_bottom m_sort m_trayMany m_trays m_tape m_text m_taped m_size m_token m_from m_end m_value m_faultKind m_faultPlace m_faults m_seen m_toldParts m_opened m_depth m_counted m_bestOrder m_standers m_has m_bestHas m_standerMany m_bestCouples m_bestFondness m_cameTo m_doesStandFirst m_stoodBy m_drawn m_ranSteps m_loops m_ran m_told1 m_isTold m_marks] s.heap := ⟨hP, by rw [hA]; exact hD0.own⟩
  have hS : va_S A s.heap s.heap [] := va_S.rf
  obtain ⟨ls, hl, hent⟩ := ent (m := m) (n := 8) hargs (Nat.le_of_ble_eq_true rfl) (lv := [(0, .ref (A_m 0)), (1, .int x1), (2, .int x2), (3, .int x3), (4, .int x4), (5, .int x5)]) rfl
  rw [hent]
  clear hent
  have l118 : ∀ (n118 : Nat) (m_status : Int32) (m_trays : Nat → Int64) (x6 : Int32) (H : Heap) (locs : List Loc) (_ : PD D A [bl_X12 cy A_m m_at m_names m_status m_top m_bottom m_sort m_trayMany m_trays m_tape m_text m_taped m_size m_token m_from m_end m_value m_faultKind m_faultPlace m_faults m_seen m_toldParts m_opened m_depth m_counted m_bestOrder m_standers m_has m_bestHas m_standerMany m_bestCouples m_bestFondness m_cameTo m_doesStandFirst m_stoodBy m_drawn m_ranSteps m_loops m_ran m_told1 m_isTold m_marks] H) (_ : va_S A s.heap H locs) (ls : Array Slot), lv_has ls 8 [(0, .ref (A_m 0)), (1, .int x1), (2, .int x2), (3, .int x3), (4, .int x4), (5, .int x5), (6, .int x6)] → f_X12_pour_l118 fu m_sort m_trayMany x1 x2 x3 x4 x5 n118 m_status m_trays x6 = some res → W p l e (headSpec (WW yX12_pour cX12_pour 8 (some .boolean)) rm_X12_pour).room s m args below meth c H locs 0 0 (MQ below (Qei D res.1 A W1) args s 0 0 A) (F0 m 118 ls []) := by
    intro n118
    induction n118 with
    | zero => intro m_status m_trays x6 H locs hP hS ls hl h; cases h
    | succ n118 ih118 =>
      have j143 : ∀ (m_status : Int32) (m_trays : Nat → Int64) (x6 : Int32) (s0 : Int32) (H : Heap) (locs : List Loc) (_ : PD D A [bl_X12 cy A_m m_at m_names m_status m_top m_bottom m_sort m_trayMany m_trays m_tape m_text m_taped m_size m_token m_from m_end m_value m_faultKind m_faultPlace m_faults m_seen m_toldParts m_opened m_depth m_counted m_bestOrder m_standers m_has m_bestHas m_standerMany m_bestCouples m_bestFondness m_cameTo m_doesStandFirst m_stoodBy m_drawn m_ranSteps m_loops m_ran m_told1 m_isTold m_marks] H) (_ : va_S A s.heap H locs) (ls : Array Slot), lv_has ls 8 [(0, .ref (A_m 0)), (1, .int x1), (2, .int x2), (3, .int x3), (4, .int x4), (5, .int x5), (6, .int x6)] → f_X12_pour_j143 fu m_sort m_trayMany x1 x2 x3 x4 x5 (f_X12_pour_l118 fu m_sort m_trayMany x1 x2 x3 x4 x5 n118) m_status m_trays x6 s0 = some res → W p l e (headSpec (WW yX12_pour cX12_pour 8 (some .boolean)) rm_X12_pour).room s m args below meth c H locs 0 0 (MQ below (Qei D res.1 A W1) args s 0 0 A) (F0 m 143 ls [.int s0]) := by
        intro m_status m_trays x6 s0 H locs hP hS ls hl h
        unfold f_X12_pour_j143 at h
        refine lv_istore (lv' := [(7, .int s0), (0, .ref (A_m 0)), (1, .int x1), (2, .int x2), (3, .int x3), (4, .int x4), (5, .int x5), (6, .int x6)]) hx hb dX12_pour_143 hl (by decide) rfl (fun ls hl => ?_)
        refine lv_aload_n hx hb dX12_pour_145 rfl (lv_at hl 1 rfl) ?_
        refine xget (i := 0) (j := 0) (k := 7) (T := TX12) hx hb ht tb_iX12 hown hX hP.1 rfl rfl rfl (by decide) tb_1236 rfl dX12_pour_146 ?_
        refine lv_bipush (v := 60) hx hb dX12_pour_149 (by decide) ?_
        refine lv_iload_n hx hb dX12_pour_151 rfl (lv_at hl 4 rfl) ?_
        refine lv_imul hx hb dX12_pour_152 ?_
        refine lv_iload hx hb dX12_pour_153 (lv_at hl 5 rfl) ?_
        refine lv_iadd hx hb dX12_pour_155 ?_
        refine lv_iload hx hb dX12_pour_156 (lv_at hl 0 rfl) ?_
        refine lv_iadd hx hb dX12_pour_158 ?_
        refine lv_aload_n hx hb dX12_pour_159 rfl (lv_at hl 1 rfl) ?_
        refine xget (i := 0) (j := 0) (k := 7) (T := TX12) hx hb ht tb_iX12 hown hX hP.1 rfl rfl rfl (by decide) tb_1236 rfl dX12_pour_160 ?_
        refine lv_bipush (v := 60) hx hb dX12_pour_163 (by decide) ?_
        refine lv_iload_n hx hb dX12_pour_165 rfl (lv_at hl 2 rfl) ?_
        refine lv_imul hx hb dX12_pour_166 ?_
        refine lv_iload_n hx hb dX12_pour_167 rfl (lv_at hl 3 rfl) ?_
        refine lv_iadd hx hb dX12_pour_168 ?_
        refine lv_iload hx hb dX12_pour_169 (lv_at hl 0 rfl) ?_
        refine lv_iadd hx hb dX12_pour_171 ?_
        obtain ⟨y_46, e_y_46, h⟩ := bi h
        refine xlald (i0 := 0) (j0 := 5) hx hb hX hP.1 rfl rfl e_y_46 dX12_pour_172 ?_
        obtain ⟨m_trays_47, e_m_trays_47, h⟩ := bi h
        refine xlast (i0 := 0) (j0 := 5) hx hb hX hP hS rfl rfl e_m_trays_47 dX12_pour_173 (fun H locs hP hS => ?_)
        have hP : PD D A [bl_X12 cy A_m m_at m_names m_status m_top m_bottom m_sort m_trayMany m_trays_47 m_tape m_text m_taped m_size m_token m_from m_end m_value m_faultKind m_faultPlace m_faults m_seen m_toldParts m_opened m_depth m_counted m_bestOrder m_standers m_has m_bestHas m_standerMany m_bestCouples m_bestFondness m_cameTo m_doesStandFirst m_stoodBy m_drawn m_ranSteps m_loops m_ran m_told1 m_isTold m_marks] H := hP
        obtain ⟨x6_48, e_x6_48⟩ : ∃ y : Int32, y = x6 + 1 := ⟨_, rfl⟩
        have h := bn e_x6_48 h
        refine lv_iinc (v := x6_48) (lv' := [(6, .int x6_48), (7, .int s0), (0, .ref (A_m 0)), (1, .int x1), (2, .int x2), (3, .int x3), (4, .int x4), (5, .int x5)]) hx hb dX12_pour_174 hl (k := 7) rfl (by rw [e_x6_48]; rfl) (by decide) rfl (fun ls hl => ?_)
        refine lv_goto (tgt := 118) hx hb dX12_pour_177 (by decide) ?_
        exact ih118 m_status m_trays_47 x6_48 _ _ hP hS ls (lv_sub hl [2, 3, 4, 5, 6, 7, 0] rfl) h
      intro m_status m_trays x6 H locs hP hS ls hl h
      have h : f_X12_pour_b118 fu m_sort m_trayMany x1 x2 x3 x4 x5 (f_X12_pour_l118 fu m_sort m_trayMany x1 x2 x3 x4 x5 n118) m_status m_trays x6 = some res := h
      unfold f_X12_pour_b118 at h
      refine lv_iload hx hb dX12_pour_118 (lv_at hl 6 rfl) ?_
      refine lv_iload hx hb dX12_pour_120 (lv_at hl 5 rfl) ?_
      refine lv_icmp_ge (tgt := 180) hx hb dX12_pour_122 (by decide) (fun c_49 => ?_) (fun c_49 => ?_)
      · have h := it c_49 h
        refine lv_aload_n hx hb dX12_pour_180 rfl (lv_at hl 0 rfl) ?_
        refine lv_iconst (v := 0) hx hb dX12_pour_181 (by decide) ?_
        obtain ⟨z_50, e_z_50, h⟩ := bi h
        refine efVi (rest := []) ⟨hx, hb, hml, hown, ht⟩ (c_X12_is l D cy fu A_m m_at m_names m_status m_top m_bottom m_sort m_trayMany m_trays m_tape m_text m_taped m_size m_token m_from m_end m_value m_faultKind m_faultPlace m_faults m_seen m_toldParts m_opened m_depth m_counted m_bestOrder m_standers m_has m_bestHas m_standerMany m_bestCouples m_bestFondness m_cameTo m_doesStandFirst m_stoodBy m_drawn m_ranSteps m_loops m_ran m_told1 m_isTold m_marks 0 z_50 e_z_50 _ rfl _ rfl) (cV ht mv_X12_is tb_1372 rfl rfl ⟨Nat.le_of_ble_eq_true rfl, Nat.le_of_ble_eq_true rfl⟩) hP hS hX [0] rfl rfl rfl rfl rfl rfl hl.1 rfl (Nat.le_of_ble_eq_true rfl) dX12_pour_182 ⟨Nat.le_of_ble_eq_true rfl, Nat.le_of_ble_eq_true rfl⟩ (fun H locs hP hS => ?_)
        have hP : PD D A [bl_X12 cy A_m m_at m_names z_50.2 m_top m_bottom m_sort m_trayMany m_trays m_tape m_text m_taped m_size m_token m_from m_end m_value m_faultKind m_faultPlace m_faults m_seen m_toldParts m_opened m_depth m_counted m_bestOrder m_standers m_has m_bestHas m_standerMany m_bestCouples m_bestFondness m_cameTo m_doesStandFirst m_stoodBy m_drawn m_ranSteps m_loops m_ran m_told1 m_isTold m_marks] H := hP
        obtain ⟨b_51, e_b_51, h⟩ := bi h
        obtain ⟨-, n_b_51, -⟩ := bz_ok e_b_51
        cases h
        subst hW1
        exact W.zret hx hb hr n_b_51 (fun _ ht9 _ => ⟨⟨_, (), rfl, rfl, hPt ht9 hP.1⟩, hS.F ht9⟩) hS.2.2 dX12_pour_185
      · have h := ie c_49 h
        refine lv_iload_n hx hb dX12_pour_125 rfl (lv_at hl 2 rfl) ?_
        refine lv_iload hx hb dX12_pour_126 (lv_at hl 4 rfl) ?_
        refine lv_icmp_ge (tgt := 141) hx hb dX12_pour_128 (by decide) (fun c_52 => ?_) (fun c_52 => ?_)
        · have h := it c_52 h
          refine lv_iload hx hb dX12_pour_141 (lv_at hl 6 rfl) ?_
          exact j143 m_status m_trays x6 x6 _ _ hP hS ls (lv_sub hl [0, 1, 2, 3, 4, 5, 6] rfl) h
        · have h := ie c_52 h
          refine lv_iload hx hb dX12_pour_131 (lv_at hl 5 rfl) ?_
          refine lv_iconst (v := 1) hx hb dX12_pour_133 (by decide) ?_
          refine lv_isub hx hb dX12_pour_134 ?_
          refine lv_iload hx hb dX12_pour_135 (lv_at hl 6 rfl) ?_
          refine lv_isub hx hb dX12_pour_137 ?_
          refine lv_goto (tgt := 143) hx hb dX12_pour_138 (by decide) ?_
          exact j143 m_status m_trays x6 ((x5 - 1) - x6) _ _ hP hS ls (lv_sub hl [0, 1, 2, 3, 4, 5, 6] rfl) h
  unfold f_X12_pour at h
  refine lv_iload_n hx hb dX12_pour_0 rfl (lv_at hl 1 rfl) ?_
  obtain ⟨z_53, e_z_53, h⟩ := bi h
  refine roSi (rest := []) ⟨hx, hb, hml, hown, ht⟩ (c_X12_isTray l D cy fu  x1 z_53 e_z_53) (cS ht ms_X12_isTray tb_1369 rfl rfl ⟨Nat.le_of_ble_eq_true rfl, Nat.le_of_ble_eq_true rfl⟩) (P_sub hP.1 [] rfl) hX rfl hl.1 rfl (Nat.le_of_ble_eq_true rfl) dX12_pour_1 ⟨Nat.le_of_ble_eq_true rfl, Nat.le_of_ble_eq_true rfl⟩ ?_
  refine lv_if_eq (tgt := 28) hx hb dX12_pour_4 (by decide) (fun c_54 => ?_) (fun c_54 => ?_)
  · have h := it c_54 h
    refine lv_aload_n hx hb dX12_pour_28 rfl (lv_at hl 0 rfl) ?_
    refine lv_iconst (v := 1) hx hb dX12_pour_29 (by decide) ?_
    obtain ⟨z_55, e_z_55, h⟩ := bi h
    refine efVi (rest := []) ⟨hx, hb, hml, hown, ht⟩ (c_X12_is l D cy fu A_m m_at m_names m_status m_top m_bottom m_sort m_trayMany m_trays m_tape m_text m_taped m_size m_token m_from m_end m_value m_faultKind m_faultPlace m_faults m_seen m_toldParts m_opened m_depth m_counted m_bestOrder m_standers m_has m_bestHas m_standerMany m_bestCouples m_bestFondness m_cameTo m_doesStandFirst m_stoodBy m_drawn m_ranSteps m_loops m_ran m_told1 m_isTold m_marks 1 z_55 e_z_55 _ rfl _ rfl) (cV ht mv_X12_is tb_1372 rfl rfl ⟨Nat.le_of_ble_eq_true rfl, Nat.le_of_ble_eq_true rfl⟩) hP hS hX [0] rfl rfl rfl rfl rfl rfl hl.1 rfl (Nat.le_of_ble_eq_true rfl) dX12_pour_30 ⟨Nat.le_of_ble_eq_true rfl, Nat.le_of_ble_eq_true rfl⟩ (fun H locs hP hS => ?_)
    have hP : PD D A [bl_X12 cy A_m m_at m_names z_55.2 m_top m_bottom m_sort m_trayMany m_trays m_tape m_text m_taped m_size m_token m_from m_end m_value m_faultKind m_faultPlace m_faults m_seen m_toldParts m_opened m_depth m_counted m_bestOrder m_standers m_has m_bestHas m_standerMany m_bestCouples m_bestFondness m_cameTo m_doesStandFirst m_stoodBy m_drawn m_ranSteps m_loops m_ran m_told1 m_isTold m_marks] H := hP
    obtain ⟨b_56, e_b_56, h⟩ := bi h
    obtain ⟨-, n_b_56, -⟩ := bz_ok e_b_56
    cases h
    subst hW1
    exact W.zret hx hb hr n_b_56 (fun _ ht9 _ => ⟨⟨_, (), rfl, rfl, hPt ht9 hP.1⟩, hS.F ht9⟩) hS.2.2 dX12_pour_33
  · have h := ie c_54 h
    refine lv_iload_n hx hb dX12_pour_7 rfl (lv_at hl 3 rfl) ?_
    obtain ⟨z_57, e_z_57, h⟩ := bi h
    refine roSi (rest := []) ⟨hx, hb, hml, hown, ht⟩ (c_X12_isTray l D cy fu  x3 z_57 e_z_57) (cS ht ms_X12_isTray tb_1369 rfl rfl ⟨Nat.le_of_ble_eq_true rfl, Nat.le_of_ble_eq_true rfl⟩) (P_sub hP.1 [] rfl) hX rfl hl.1 rfl (Nat.le_of_ble_eq_true rfl) dX12_pour_8 ⟨Nat.le_of_ble_eq_true rfl, Nat.le_of_ble_eq_true rfl⟩ ?_
    refine lv_if_eq (tgt := 28) hx hb dX12_pour_11 (by decide) (fun c_58 => ?_) (fun c_58 => ?_)
    · have h := it c_58 h
      refine lv_aload_n hx hb dX12_pour_28 rfl (lv_at hl 0 rfl) ?_
      refine lv_iconst (v := 1) hx hb dX12_pour_29 (by decide) ?_
      obtain ⟨z_59, e_z_59, h⟩ := bi h
      refine efVi (rest := []) ⟨hx, hb, hml, hown, ht⟩ (c_X12_is l D cy fu A_m m_at m_names m_status m_top m_bottom m_sort m_trayMany m_trays m_tape m_text m_taped m_size m_token m_from m_end m_value m_faultKind m_faultPlace m_faults m_seen m_toldParts m_opened m_depth m_counted m_bestOrder m_standers m_has m_bestHas m_standerMany m_bestCouples m_bestFondness m_cameTo m_doesStandFirst m_stoodBy m_drawn m_ranSteps m_loops m_ran m_told1 m_isTold m_marks 1 z_59 e_z_59 _ rfl _ rfl) (cV ht mv_X12_is tb_1372 rfl rfl ⟨Nat.le_of_ble_eq_true rfl, Nat.le_of_ble_eq_true rfl⟩) hP hS hX [0] rfl rfl rfl rfl rfl rfl hl.1 rfl (Nat.le_of_ble_eq_true rfl) dX12_pour_30 ⟨Nat.le_of_ble_eq_true rfl, Nat.le_of_ble_eq_true rfl⟩ (fun H locs hP hS => ?_)
      have hP : PD D A [bl_X12 cy A_m m_at m_names z_59.2 m_top m_bottom m_sort m_trayMany m_trays m_tape m_text m_taped m_size m_token m_from m_end m_value m_faultKind m_faultPlace m_faults m_seen m_toldParts m_opened m_depth m_counted m_bestOrder m_standers m_has m_bestHas m_standerMany m_bestCouples m_bestFondness m_cameTo m_doesStandFirst m_stoodBy m_drawn m_ranSteps m_loops m_ran m_told1 m_isTold m_marks] H := hP
      obtain ⟨b_60, e_b_60, h⟩ := bi h
      obtain ⟨-, n_b_60, -⟩ := bz_ok e_b_60
      cases h
      subst hW1
      exact W.zret hx hb hr n_b_60 (fun _ ht9 _ => ⟨⟨_, (), rfl, rfl, hPt ht9 hP.1⟩, hS.F ht9⟩) hS.2.2 dX12_pour_33
    · have h := ie c_58 h
      refine lv_iload_n hx hb dX12_pour_14 rfl (lv_at hl 2 rfl) ?_
      refine lv_if_lt (tgt := 28) hx hb dX12_pour_15 (by decide) (fun c_61 => ?_) (fun c_61 => ?_)
      · have h := it c_61 h
        refine lv_aload_n hx hb dX12_pour_28 rfl (lv_at hl 0 rfl) ?_
        refine lv_iconst (v := 1) hx hb dX12_pour_29 (by decide) ?_
        obtain ⟨z_62, e_z_62, h⟩ := bi h
        refine efVi (rest := []) ⟨hx, hb, hml, hown, ht⟩ (c_X12_is l D cy fu A_m m_at m_names m_status m_top m_bottom m_sort m_trayMany m_trays m_tape m_text m_taped m_size m_token m_from m_end m_value m_faultKind m_faultPlace m_faults m_seen m_toldParts m_opened m_depth m_counted m_bestOrder m_standers m_has m_bestHas m_standerMany m_bestCouples m_bestFondness m_cameTo m_doesStandFirst m_stoodBy m_drawn m_ranSteps m_loops m_ran m_told1 m_isTold m_marks 1 z_62 e_z_62 _ rfl _ rfl) (cV ht mv_X12_is tb_1372 rfl rfl ⟨Nat.le_of_ble_eq_true rfl, Nat.le_of_ble_eq_true rfl⟩) hP hS hX [0] rfl rfl rfl rfl rfl rfl hl.1 rfl (Nat.le_of_ble_eq_true rfl) dX12_pour_30 ⟨Nat.le_of_ble_eq_true rfl, Nat.le_of_ble_eq_true rfl⟩ (fun H locs hP hS => ?_)
        have hP : PD D A [bl_X12 cy A_m m_at m_names z_62.2 m_top m_bottom m_sort m_trayMany m_trays m_tape m_text m_taped m_size m_token m_from m_end m_value m_faultKind m_faultPlace m_faults m_seen m_toldParts m_opened m_depth m_counted m_bestOrder m_standers m_has m_bestHas m_standerMany m_bestCouples m_bestFondness m_cameTo m_doesStandFirst m_stoodBy m_drawn m_ranSteps m_loops m_ran m_told1 m_isTold m_marks] H := hP
        obtain ⟨b_63, e_b_63, h⟩ := bi h
        obtain ⟨-, n_b_63, -⟩ := bz_ok e_b_63
        cases h
        subst hW1
        exact W.zret hx hb hr n_b_63 (fun _ ht9 _ => ⟨⟨_, (), rfl, rfl, hPt ht9 hP.1⟩, hS.F ht9⟩) hS.2.2 dX12_pour_33
      · have h := ie c_61 h
        refine lv_iload hx hb dX12_pour_18 (lv_at hl 4 rfl) ?_
        refine lv_if_lt (tgt := 28) hx hb dX12_pour_20 (by decide) (fun c_64 => ?_) (fun c_64 => ?_)
        · have h := it c_64 h
          refine lv_aload_n hx hb dX12_pour_28 rfl (lv_at hl 0 rfl) ?_
          refine lv_iconst (v := 1) hx hb dX12_pour_29 (by decide) ?_
          obtain ⟨z_65, e_z_65, h⟩ := bi h
          refine efVi (rest := []) ⟨hx, hb, hml, hown, ht⟩ (c_X12_is l D cy fu A_m m_at m_names m_status m_top m_bottom m_sort m_trayMany m_trays m_tape m_text m_taped m_size m_token m_from m_end m_value m_faultKind m_faultPlace m_faults m_seen m_toldParts m_opened m_depth m_counted m_bestOrder m_standers m_has m_bestHas m_standerMany m_bestCouples m_bestFondness m_cameTo m_doesStandFirst m_stoodBy m_drawn m_ranSteps m_loops m_ran m_told1 m_isTold m_marks 1 z_65 e_z_65 _ rfl _ rfl) (cV ht mv_X12_is tb_1372 rfl rfl ⟨Nat.le_of_ble_eq_true rfl, Nat.le_of_ble_eq_true rfl⟩) hP hS hX [0] rfl rfl rfl rfl rfl rfl hl.1 rfl (Nat.le_of_ble_eq_true rfl) dX12_pour_30 ⟨Nat.le_of_ble_eq_true rfl, Nat.le_of_ble_eq_true rfl⟩ (fun H locs hP hS => ?_)
          have hP : PD D A [bl_X12 cy A_m m_at m_names z_65.2 m_top m_bottom m_sort m_trayMany m_trays m_tape m_text m_taped m_size m_token m_from m_end m_value m_faultKind m_faultPlace m_faults m_seen m_toldParts m_opened m_depth m_counted m_bestOrder m_standers m_has m_bestHas m_standerMany m_bestCouples m_bestFondness m_cameTo m_doesStandFirst m_stoodBy m_drawn m_ranSteps m_loops m_ran m_told1 m_isTold m_marks] H := hP
          obtain ⟨b_66, e_b_66, h⟩ := bi h
          obtain ⟨-, n_b_66, -⟩ := bz_ok e_b_66
          cases h
          subst hW1
          exact W.zret hx hb hr n_b_66 (fun _ ht9 _ => ⟨⟨_, (), rfl, rfl, hPt ht9 hP.1⟩, hS.F ht9⟩) hS.2.2 dX12_pour_33
        · have h := ie c_64 h
          refine lv_iload hx hb dX12_pour_23 (lv_at hl 5 rfl) ?_
          refine lv_if_ge (tgt := 34) hx hb dX12_pour_25 (by decide) (fun c_67 => ?_) (fun c_67 => ?_)
          · have h := it c_67 h
            refine lv_aload_n hx hb dX12_pour_34 rfl (lv_at hl 0 rfl) ?_
            refine xget (i := 0) (j := 0) (k := 6) (T := TX12) hx hb ht tb_iX12 hown hX hP.1 rfl rfl rfl (by decide) tb_1235 rfl dX12_pour_35 ?_
            refine lv_iload_n hx hb dX12_pour_38 rfl (lv_at hl 1 rfl) ?_
            obtain ⟨y_68, e_y_68, h⟩ := bi h
            refine xiald (i0 := 0) (j0 := 4) hx hb hX hP.1 rfl rfl e_y_68 dX12_pour_39 ?_
            refine lv_iconst (v := (-1)) hx hb dX12_pour_40 (by decide) ?_
            refine lv_icmp_eq (tgt := 54) hx hb dX12_pour_41 (by decide) (fun c_69 => ?_) (fun c_69 => ?_)
            · have h := it c_69 h
              refine lv_aload_n hx hb dX12_pour_54 rfl (lv_at hl 0 rfl) ?_
              refine lv_iconst (v := 2) hx hb dX12_pour_55 (by decide) ?_
              obtain ⟨z_70, e_z_70, h⟩ := bi h
              refine efVi (rest := []) ⟨hx, hb, hml, hown, ht⟩ (c_X12_is l D cy fu A_m m_at m_names m_status m_top m_bottom m_sort m_trayMany m_trays m_tape m_text m_taped m_size m_token m_from m_end m_value m_faultKind m_faultPlace m_faults m_seen m_toldParts m_opened m_depth m_counted m_bestOrder m_standers m_has m_bestHas m_standerMany m_bestCouples m_bestFondness m_cameTo m_doesStandFirst m_stoodBy m_drawn m_ranSteps m_loops m_ran m_told1 m_isTold m_marks 2 z_70 e_z_70 _ rfl _ rfl) (cV ht mv_X12_is tb_1372 rfl rfl ⟨Nat.le_of_ble_eq_true rfl, Nat.le_of_ble_eq_true rfl⟩) hP hS hX [0] rfl rfl rfl rfl rfl rfl hl.1 rfl (Nat.le_of_ble_eq_true rfl) dX12_pour_56 ⟨Nat.le_of_ble_eq_true rfl, Nat.le_of_ble_eq_true rfl⟩ (fun H locs hP hS => ?_)
              have hP : PD D A [bl_X12 cy A_m m_at m_names z_70.2 m_top m_bottom m_sort m_trayMany m_trays m_tape m_text m_taped m_size m_token m_from m_end m_value m_faultKind m_faultPlace m_faults m_seen m_toldParts m_opened m_depth m_counted m_bestOrder m_standers m_has m_bestHas m_standerMany m_bestCouples m_bestFondness m_cameTo m_doesStandFirst m_stoodBy m_drawn m_ranSteps m_loops m_ran m_told1 m_isTold m_marks] H := hP
              obtain ⟨b_71, e_b_71, h⟩ := bi h
              obtain ⟨-, n_b_71, -⟩ := bz_ok e_b_71
              cases h
              subst hW1
              exact W.zret hx hb hr n_b_71 (fun _ ht9 _ => ⟨⟨_, (), rfl, rfl, hPt ht9 hP.1⟩, hS.F ht9⟩) hS.2.2 dX12_pour_59
            · have h := ie c_69 h
              refine lv_aload_n hx hb dX12_pour_44 rfl (lv_at hl 0 rfl) ?_
              refine xget (i := 0) (j := 0) (k := 6) (T := TX12) hx hb ht tb_iX12 hown hX hP.1 rfl rfl rfl (by decide) tb_1235 rfl dX12_pour_45 ?_
              refine lv_iload_n hx hb dX12_pour_48 rfl (lv_at hl 3 rfl) ?_
              obtain ⟨y_72, e_y_72, h⟩ := bi h
              refine xiald (i0 := 0) (j0 := 4) hx hb hX hP.1 rfl rfl e_y_72 dX12_pour_49 ?_
              refine lv_iconst (v := (-1)) hx hb dX12_pour_50 (by decide) ?_
              refine lv_icmp_ne (tgt := 60) hx hb dX12_pour_51 (by decide) (fun c_73 => ?_) (fun c_73 => ?_)
              · have h := ie c_73 h
                refine lv_aload_n hx hb dX12_pour_60 rfl (lv_at hl 0 rfl) ?_
                refine xget (i := 0) (j := 0) (k := 5) (T := TX12) hx hb ht tb_iX12 hown hX hP.1 rfl rfl rfl (by decide) tb_1234 rfl dX12_pour_61 ?_
                refine lv_iload_n hx hb dX12_pour_64 rfl (lv_at hl 1 rfl) ?_
                obtain ⟨y_74, e_y_74, h⟩ := bi h
                refine xiald (i0 := 0) (j0 := 3) hx hb hX hP.1 rfl rfl e_y_74 dX12_pour_65 ?_
                refine lv_aload_n hx hb dX12_pour_66 rfl (lv_at hl 0 rfl) ?_
                refine xget (i := 0) (j := 0) (k := 5) (T := TX12) hx hb ht tb_iX12 hown hX hP.1 rfl rfl rfl (by decide) tb_1234 rfl dX12_pour_67 ?_
                refine lv_iload_n hx hb dX12_pour_70 rfl (lv_at hl 3 rfl) ?_
                obtain ⟨y_75, e_y_75, h⟩ := bi h
                refine xiald (i0 := 0) (j0 := 3) hx hb hX hP.1 rfl rfl e_y_75 dX12_pour_71 ?_
                refine lv_icmp_eq (tgt := 82) hx hb dX12_pour_72 (by decide) (fun c_76 => ?_) (fun c_76 => ?_)
                · have h := it c_76 h
                  refine lv_iload hx hb dX12_pour_82 (lv_at hl 5 rfl) ?_
                  refine lv_aload_n hx hb dX12_pour_84 rfl (lv_at hl 0 rfl) ?_
                  refine xget (i := 0) (j := 0) (k := 6) (T := TX12) hx hb ht tb_iX12 hown hX hP.1 rfl rfl rfl (by decide) tb_1235 rfl dX12_pour_85 ?_
                  refine lv_iload_n hx hb dX12_pour_88 rfl (lv_at hl 1 rfl) ?_
                  obtain ⟨y_77, e_y_77, h⟩ := bi h
                  refine xiald (i0 := 0) (j0 := 4) hx hb hX hP.1 rfl rfl e_y_77 dX12_pour_89 ?_
                  refine lv_iload_n hx hb dX12_pour_90 rfl (lv_at hl 2 rfl) ?_
                  refine lv_isub hx hb dX12_pour_91 ?_
                  refine lv_icmp_gt (tgt := 109) hx hb dX12_pour_92 (by decide) (fun c_78 => ?_) (fun c_78 => ?_)
                  · have h := it c_78 h
                    refine lv_aload_n hx hb dX12_pour_109 rfl (lv_at hl 0 rfl) ?_
                    refine lv_iconst (v := 3) hx hb dX12_pour_110 (by decide) ?_
                    obtain ⟨z_79, e_z_79, h⟩ := bi h
                    refine efVi (rest := []) ⟨hx, hb, hml, hown, ht⟩ (c_X12_is l D cy fu A_m m_at m_names m_status m_top m_bottom m_sort m_trayMany m_trays m_tape m_text m_taped m_size m_token m_from m_end m_value m_faultKind m_faultPlace m_faults m_seen m_toldParts m_opened m_depth m_counted m_bestOrder m_standers m_has m_bestHas m_standerMany m_bestCouples m_bestFondness m_cameTo m_doesStandFirst m_stoodBy m_drawn m_ranSteps m_loops m_ran m_told1 m_isTold m_marks 3 z_79 e_z_79 _ rfl _ rfl) (cV ht mv_X12_is tb_1372 rfl rfl ⟨Nat.le_of_ble_eq_true rfl, Nat.le_of_ble_eq_true rfl⟩) hP hS hX [0] rfl rfl rfl rfl rfl rfl hl.1 rfl (Nat.le_of_ble_eq_true rfl) dX12_pour_111 ⟨Nat.le_of_ble_eq_true rfl, Nat.le_of_ble_eq_true rfl⟩ (fun H locs hP hS => ?_)
                    have hP : PD D A [bl_X12 cy A_m m_at m_names z_79.2 m_top m_bottom m_sort m_trayMany m_trays m_tape m_text m_taped m_size m_token m_from m_end m_value m_faultKind m_faultPlace m_faults m_seen m_toldParts m_opened m_depth m_counted m_bestOrder m_standers m_has m_bestHas m_standerMany m_bestCouples m_bestFondness m_cameTo m_doesStandFirst m_stoodBy m_drawn m_ranSteps m_loops m_ran m_told1 m_isTold m_marks] H := hP
                    obtain ⟨b_80, e_b_80, h⟩ := bi h
                    obtain ⟨-, n_b_80, -⟩ := bz_ok e_b_80
                    cases h
                    subst hW1
                    exact W.zret hx hb hr n_b_80 (fun _ ht9 _ => ⟨⟨_, (), rfl, rfl, hPt ht9 hP.1⟩, hS.F ht9⟩) hS.2.2 dX12_pour_114
                  · have h := ie c_78 h
                    refine lv_iload hx hb dX12_pour_95 (lv_at hl 5 rfl) ?_
                    refine lv_aload_n hx hb dX12_pour_97 rfl (lv_at hl 0 rfl) ?_
                    refine xget (i := 0) (j := 0) (k := 6) (T := TX12) hx hb ht tb_iX12 hown hX hP.1 rfl rfl rfl (by decide) tb_1235 rfl dX12_pour_98 ?_
                    refine lv_iload_n hx hb dX12_pour_101 rfl (lv_at hl 3 rfl) ?_
                    obtain ⟨y_81, e_y_81, h⟩ := bi h
                    refine xiald (i0 := 0) (j0 := 4) hx hb hX hP.1 rfl rfl e_y_81 dX12_pour_102 ?_
                    refine lv_iload hx hb dX12_pour_103 (lv_at hl 4 rfl) ?_
                    refine lv_isub hx hb dX12_pour_105 ?_
                    refine lv_icmp_le (tgt := 115) hx hb dX12_pour_106 (by decide) (fun c_82 => ?_) (fun c_82 => ?_)
                    · have h := it c_82 h
                      refine lv_iconst (v := 0) hx hb dX12_pour_115 (by decide) ?_
                      refine lv_istore (lv' := [(6, .int 0), (0, .ref (A_m 0)), (1, .int x1), (2, .int x2), (3, .int x3), (4, .int x4), (5, .int x5)]) hx hb dX12_pour_116 hl (by decide) rfl (fun ls hl => ?_)
                      exact l118 fu m_status m_trays 0 _ _ hP hS ls (lv_sub hl [1, 2, 3, 4, 5, 6, 0] rfl) h
                    · have h := ie c_82 h
                      refine lv_aload_n hx hb dX12_pour_109 rfl (lv_at hl 0 rfl) ?_
                      refine lv_iconst (v := 3) hx hb dX12_pour_110 (by decide) ?_
                      obtain ⟨z_83, e_z_83, h⟩ := bi h
                      refine efVi (rest := []) ⟨hx, hb, hml, hown, ht⟩ (c_X12_is l D cy fu A_m m_at m_names m_status m_top m_bottom m_sort m_trayMany m_trays m_tape m_text m_taped m_size m_token m_from m_end m_value m_faultKind m_faultPlace m_faults m_seen m_toldParts m_opened m_depth m_counted m_bestOrder m_standers m_has m_bestHas m_standerMany m_bestCouples m_bestFondness m_cameTo m_doesStandFirst m_stoodBy m_drawn m_ranSteps m_loops m_ran m_told1 m_isTold m_marks 3 z_83 e_z_83 _ rfl _ rfl) (cV ht mv_X12_is tb_1372 rfl rfl ⟨Nat.le_of_ble_eq_true rfl, Nat.le_of_ble_eq_true rfl⟩) hP hS hX [0] rfl rfl rfl rfl rfl rfl hl.1 rfl (Nat.le_of_ble_eq_true rfl) dX12_pour_111 ⟨Nat.le_of_ble_eq_true rfl, Nat.le_of_ble_eq_true rfl⟩ (fun H locs hP hS => ?_)
                      have hP : PD D A [bl_X12 cy A_m m_at m_names z_83.2 m_top m_bottom m_sort m_trayMany m_trays m_tape m_text m_taped m_size m_token m_from m_end m_value m_faultKind m_faultPlace m_faults m_seen m_toldParts m_opened m_depth m_counted m_bestOrder m_standers m_has m_bestHas m_standerMany m_bestCouples m_bestFondness m_cameTo m_doesStandFirst m_stoodBy m_drawn m_ranSteps m_loops m_ran m_told1 m_isTold m_marks] H := hP
                      obtain ⟨b_84, e_b_84, h⟩ := bi h
                      obtain ⟨-, n_b_84, -⟩ := bz_ok e_b_84
                      cases h
                      subst hW1
                      exact W.zret hx hb hr n_b_84 (fun _ ht9 _ => ⟨⟨_, (), rfl, rfl, hPt ht9 hP.1⟩, hS.F ht9⟩) hS.2.2 dX12_pour_114
                · have h := ie c_76 h
                  refine lv_aload_n hx hb dX12_pour_75 rfl (lv_at hl 0 rfl) ?_
                  refine lv_bipush (v := 8) hx hb dX12_pour_76 (by decide) ?_
                  obtain ⟨z_85, e_z_85, h⟩ := bi h
                  refine efVi (rest := []) ⟨hx, hb, hml, hown, ht⟩ (c_X12_is l D cy fu A_m m_at m_names m_status m_top m_bottom m_sort m_trayMany m_trays m_tape m_text m_taped m_size m_token m_from m_end m_value m_faultKind m_faultPlace m_faults m_seen m_toldParts m_opened m_depth m_counted m_bestOrder m_standers m_has m_bestHas m_standerMany m_bestCouples m_bestFondness m_cameTo m_doesStandFirst m_stoodBy m_drawn m_ranSteps m_loops m_ran m_told1 m_isTold m_marks 8 z_85 e_z_85 _ rfl _ rfl) (cV ht mv_X12_is tb_1372 rfl rfl ⟨Nat.le_of_ble_eq_true rfl, Nat.le_of_ble_eq_true rfl⟩) hP hS hX [0] rfl rfl rfl rfl rfl rfl hl.1 rfl (Nat.le_of_ble_eq_true rfl) dX12_pour_78 ⟨Nat.le_of_ble_eq_true rfl, Nat.le_of_ble_eq_true rfl⟩ (fun H locs hP hS => ?_)
                  have hP : PD D A [bl_X12 cy A_m m_at m_names z_85.2 m_top m_bottom m_sort m_trayMany m_trays m_tape m_text m_taped m_size m_token m_from m_end m_value m_faultKind m_faultPlace m_faults m_seen m_toldParts m_opened m_depth m_counted m_bestOrder m_standers m_has m_bestHas m_standerMany m_bestCouples m_bestFondness m_cameTo m_doesStandFirst m_stoodBy m_drawn m_ranSteps m_loops m_ran m_told1 m_isTold m_marks] H := hP
                  obtain ⟨b_86, e_b_86, h⟩ := bi h
                  obtain ⟨-, n_b_86, -⟩ := bz_ok e_b_86
                  cases h
                  subst hW1
                  exact W.zret hx hb hr n_b_86 (fun _ ht9 _ => ⟨⟨_, (), rfl, rfl, hPt ht9 hP.1⟩, hS.F ht9⟩) hS.2.2 dX12_pour_81
              · have h := it c_73 h
                refine lv_aload_n hx hb dX12_pour_54 rfl (lv_at hl 0 rfl) ?_
                refine lv_iconst (v := 2) hx hb dX12_pour_55 (by decide) ?_
                obtain ⟨z_87, e_z_87, h⟩ := bi h
                refine efVi (rest := []) ⟨hx, hb, hml, hown, ht⟩ (c_X12_is l D cy fu A_m m_at m_names m_status m_top m_bottom m_sort m_trayMany m_trays m_tape m_text m_taped m_size m_token m_from m_end m_value m_faultKind m_faultPlace m_faults m_seen m_toldParts m_opened m_depth m_counted m_bestOrder m_standers m_has m_bestHas m_standerMany m_bestCouples m_bestFondness m_cameTo m_doesStandFirst m_stoodBy m_drawn m_ranSteps m_loops m_ran m_told1 m_isTold m_marks 2 z_87 e_z_87 _ rfl _ rfl) (cV ht mv_X12_is tb_1372 rfl rfl ⟨Nat.le_of_ble_eq_true rfl, Nat.le_of_ble_eq_true rfl⟩) hP hS hX [0] rfl rfl rfl rfl rfl rfl hl.1 rfl (Nat.le_of_ble_eq_true rfl) dX12_pour_56 ⟨Nat.le_of_ble_eq_true rfl, Nat.le_of_ble_eq_true rfl⟩ (fun H locs hP hS => ?_)
                have hP : PD D A [bl_X12 cy A_m m_at m_names z_87.2 m_top m_bottom m_sort m_trayMany m_trays m_tape m_text m_taped m_size m_token m_from m_end m_value m_faultKind m_faultPlace m_faults m_seen m_toldParts m_opened m_depth m_counted m_bestOrder m_standers m_has m_bestHas m_standerMany m_bestCouples m_bestFondness m_cameTo m_doesStandFirst m_stoodBy m_drawn m_ranSteps m_loops m_ran m_told1 m_isTold m_marks] H := hP
                obtain ⟨b_88, e_b_88, h⟩ := bi h
                obtain ⟨-, n_b_88, -⟩ := bz_ok e_b_88
                cases h
                subst hW1
                exact W.zret hx hb hr n_b_88 (fun _ ht9 _ => ⟨⟨_, (), rfl, rfl, hPt ht9 hP.1⟩, hS.F ht9⟩) hS.2.2 dX12_pour_59
          · have h := ie c_67 h
            refine lv_aload_n hx hb dX12_pour_28 rfl (lv_at hl 0 rfl) ?_
            refine lv_iconst (v := 1) hx hb dX12_pour_29 (by decide) ?_
            obtain ⟨z_89, e_z_89, h⟩ := bi h
            refine efVi (rest := []) ⟨hx, hb, hml, hown, ht⟩ (c_X12_is l D cy fu A_m m_at m_names m_status m_top m_bottom m_sort m_trayMany m_trays m_tape m_text m_taped m_size m_token m_from m_end m_value m_faultKind m_faultPlace m_faults m_seen m_toldParts m_opened m_depth m_counted m_bestOrder m_standers m_has m_bestHas m_standerMany m_bestCouples m_bestFondness m_cameTo m_doesStandFirst m_stoodBy m_drawn m_ranSteps m_loops m_ran m_told1 m_isTold m_marks 1 z_89 e_z_89 _ rfl _ rfl) (cV ht mv_X12_is tb_1372 rfl rfl ⟨Nat.le_of_ble_eq_true rfl, Nat.le_of_ble_eq_true rfl⟩) hP hS hX [0] rfl rfl rfl rfl rfl rfl hl.1 rfl (Nat.le_of_ble_eq_true rfl) dX12_pour_30 ⟨Nat.le_of_ble_eq_true rfl, Nat.le_of_ble_eq_true rfl⟩ (fun H locs hP hS => ?_)
            have hP : PD D A [bl_X12 cy A_m m_at m_names z_89.2 m_top m_bottom m_sort m_trayMany m_trays m_tape m_text m_taped m_size m_token m_from m_end m_value m_faultKind m_faultPlace m_faults m_seen m_toldParts m_opened m_depth m_counted m_bestOrder m_standers m_has m_bestHas m_standerMany m_bestCouples m_bestFondness m_cameTo m_doesStandFirst m_stoodBy m_drawn m_ranSteps m_loops m_ran m_told1 m_isTold m_marks] H := hP
            obtain ⟨b_90, e_b_90, h⟩ := bi h
            obtain ⟨-, n_b_90, -⟩ := bz_ok e_b_90
            cases h
            subst hW1
            exact W.zret hx hb hr n_b_90 (fun _ ht9 _ => ⟨⟨_, (), rfl, rfl, hPt ht9 hP.1⟩, hS.F ht9⟩) hS.2.2 dX12_pour_33
theorem dX12_isFrom_0 : decode cX12_isFrom 0 = .ok (.lload_n 0, 1) := by decide +kernel
theorem dX12_isFrom_1 : decode cX12_isFrom 1 = .ok (.lload_n 2, 1) := by decide +kernel
theorem dX12_isFrom_2 : decode cX12_isFrom 2 = .ok (.lcmp, 1) := by decide +kernel
theorem dX12_isFrom_3 : decode cX12_isFrom 3 = .ok (.ifCond .lt 14, 3) := by decide +kernel
theorem dX12_isFrom_6 : decode cX12_isFrom 6 = .ok (.lload_n 0, 1) := by decide +kernel
theorem dX12_isFrom_7 : decode cX12_isFrom 7 = .ok (.lload 4, 2) := by decide +kernel
theorem dX12_isFrom_9 : decode cX12_isFrom 9 = .ok (.lcmp, 1) := by decide +kernel
theorem dX12_isFrom_10 : decode cX12_isFrom 10 = .ok (.ifCond .gt 7, 3) := by decide +kernel
theorem dX12_isFrom_13 : decode cX12_isFrom 13 = .ok (.iconst 1, 1) := by decide +kernel
theorem dX12_isFrom_14 : decode cX12_isFrom 14 = .ok (.goto 4, 3) := by decide +kernel
theorem dX12_isFrom_17 : decode cX12_isFrom 17 = .ok (.iconst 0, 1) := by decide +kernel
theorem dX12_isFrom_18 : decode cX12_isFrom 18 = .ok (.ireturn, 1) := by decide +kernel
theorem ms_X12_isFrom : MS yX12_isFrom cX12_isFrom 6 (some .boolean) 3 := ⟨tb_1577, tb_1576, tb_16, by decide +kernel, by decide +kernel, by decide +kernel⟩
def f_X12_isFrom (fu : Nat) (x0 : Int64) (x2 : Int64) (x4 : Int64) : Option (Int32) := (if (lg_cmp x0 x2) < 0 then some (0) else (if 0 < (lg_cmp x0 x4) then some (0) else some (1)))
abbrev rm_X12_isFrom : Room := { frames := 0, cells := 0, slots := 0, locals := 0 }
set_option maxHeartbeats 4000000 in
set_option maxRecDepth 100000 in
theorem c_X12_isFrom (l : Launch) (D : va_G) (cy : Nat → ClassId) (fu : Nat) (x0 : Int64) (x2 : Int64) (x4 : Int64) (res : Int32) (h : f_X12_isFrom fu x0 x2 x4 = some res) : Met l yX12_isFrom (WW yX12_isFrom cX12_isFrom 6 (some .boolean)) rm_X12_isFrom (Rd D cy [.long x0, .long x2, .long x4] []) (vp_Si (fun v => v = res)) 0 0 (fun _ => False) := by
  refine Met.ofW (cc := cX12_isFrom) (maxL := 6) (ret := (some .boolean)) (by decide) rfl ?_
  intro p e s m args below meth c s₁ B hml hv
  obtain ⟨hargs, hP, hX⟩ := hv
  have hx := B.exec
  have hb := B.bytes
  have hr := B.returns
  have ht : ∀ w ∈ lw_gd, w.before args s = true := fun w hw => atoms_spec (ws := WW yX12_isFrom cX12_isFrom 6 (some .boolean)) B.pre w (List.mem_cons_of_mem _ hw)
  have hown : s.vm.findClass RX12 = some m.cls := findClass_of_methodNamed B.named
  have hlocks := B.notSynchronized
  have hP : PB D [] s.heap := hP
  obtain ⟨ls, hl, hent⟩ := ent (m := m) (n := 6) hargs (Nat.le_of_ble_eq_true rfl) (lv := [(0, .long x0), (2, .long x2), (4, .long x4)]) rfl
  rw [hent]
  clear hent
  unfold f_X12_isFrom at h
  refine lv_lload_n hx hb dX12_isFrom_0 rfl (lv_at hl 0 rfl) ?_
  refine lv_lload_n hx hb dX12_isFrom_1 rfl (lv_at hl 1 rfl) ?_
  refine W.lcmp hx hb dX12_isFrom_2 ?_
  refine lv_if_lt (tgt := 17) hx hb dX12_isFrom_3 (by decide) (fun c_3 => ?_) (fun c_3 => ?_)
  · have h := it c_3 h
    refine lv_iconst (v := 0) hx hb dX12_isFrom_17 (by decide) ?_
    cases h
    exact W.zret hx hb hr rfl (fun _ ht9 _ => ⟨_, rfl, rfl, ht9⟩) (fun _ hq => by cases hq) dX12_isFrom_18
  · have h := ie c_3 h
    refine lv_lload_n hx hb dX12_isFrom_6 rfl (lv_at hl 0 rfl) ?_
    refine lv_lload hx hb dX12_isFrom_7 (lv_at hl 2 rfl) ?_
    refine W.lcmp hx hb dX12_isFrom_9 ?_
    refine lv_if_gt (tgt := 17) hx hb dX12_isFrom_10 (by decide) (fun c_4 => ?_) (fun c_4 => ?_)
    · have h := it c_4 h
      refine lv_iconst (v := 0) hx hb dX12_isFrom_17 (by decide) ?_
      cases h
      exact W.zret hx hb hr rfl (fun _ ht9 _ => ⟨_, rfl, rfl, ht9⟩) (fun _ hq => by cases hq) dX12_isFrom_18
    · have h := ie c_4 h
      refine lv_iconst (v := 1) hx hb dX12_isFrom_13 (by decide) ?_
      refine lv_goto (tgt := 18) hx hb dX12_isFrom_14 (by decide) ?_
      cases h
      exact W.zret hx hb hr rfl (fun _ ht9 _ => ⟨_, rfl, rfl, ht9⟩) (fun _ hq => by cases hq) dX12_isFrom_18
theorem dX12_four_0 : decode cX12_four 0 = .ok (.bipush 24, 2) := by decide +kernel
theorem dX12_four_2 : decode cX12_four 2 = .ok (.istore_n 2, 1) := by decide +kernel
theorem dX12_four_3 : decode cX12_four 3 = .ok (.iload_n 2, 1) := by decide +kernel
theorem dX12_four_4 : decode cX12_four 4 = .ok (.ifCond .lt 32, 3) := by decide +kernel
theorem dX12_four_7 : decode cX12_four 7 = .ok (.aload_n 0, 1) := by decide +kernel
theorem dX12_four_8 : decode cX12_four 8 = .ok (.getfield 30, 3) := by decide +kernel
theorem dX12_four_11 : decode cX12_four 11 = .ok (.aload_n 0, 1) := by decide +kernel
theorem dX12_four_12 : decode cX12_four 12 = .ok (.getfield 108, 3) := by decide +kernel
theorem dX12_four_15 : decode cX12_four 15 = .ok (.iload_n 1, 1) := by decide +kernel
theorem dX12_four_16 : decode cX12_four 16 = .ok (.iload_n 2, 1) := by decide +kernel
theorem dX12_four_17 : decode cX12_four 17 = .ok (.ishr, 1) := by decide +kernel
theorem dX12_four_18 : decode cX12_four 18 = .ok (.i2b, 1) := by decide +kernel
theorem dX12_four_19 : decode cX12_four 19 = .ok (.bastore, 1) := by decide +kernel
theorem dX12_four_20 : decode cX12_four 20 = .ok (.aload_n 0, 1) := by decide +kernel
theorem dX12_four_21 : decode cX12_four 21 = .ok (.dup, 1) := by decide +kernel
theorem dX12_four_22 : decode cX12_four 22 = .ok (.getfield 108, 3) := by decide +kernel
theorem dX12_four_25 : decode cX12_four 25 = .ok (.iconst 1, 1) := by decide +kernel
theorem dX12_four_26 : decode cX12_four 26 = .ok (.iadd, 1) := by decide +kernel
theorem dX12_four_27 : decode cX12_four 27 = .ok (.putfield 108, 3) := by decide +kernel
theorem dX12_four_30 : decode cX12_four 30 = .ok (.iinc 2 (-8), 3) := by decide +kernel
theorem dX12_four_33 : decode cX12_four 33 = .ok (.goto (-30), 3) := by decide +kernel
theorem dX12_four_36 : decode cX12_four 36 = .ok (.return_, 1) := by decide +kernel
theorem mv_X12_four : MV yX12_four RX12 cX12_four 3 none 1 := ⟨tb_1403, tb_1402, ts_42, tb_16, by decide +kernel, by decide +kernel, by decide +kernel⟩
def f_X12_four_b3 (fu : Nat) (x1 : Int32) (k3 : (Nat → Int32) → Int32 → Int32 → (Option ((Nat → Int32) × Int32))) (m_tape : Nat → Int32) (m_taped : Int32) (x2 : Int32) : Option ((Nat → Int32) × Int32) := (if x2 < 0 then some (m_tape, m_taped) else (wrI m_tape 900 m_taped (vp_nar .byte ((Int32.toInt8 (x1 >>> (x2 &&& 31))).toInt32))).bind fun m_tape_6 => bnd (m_taped + 1) fun m_taped_7 => bnd (x2 + (-8)) fun x2_8 => k3 m_tape_6 m_taped_7 x2_8)
def f_X12_four_l3 (fu : Nat) (x1 : Int32) : Nat → (Nat → Int32) → Int32 → Int32 → (Option ((Nat → Int32) × Int32))
  | 0, _, _, _ => none
  | n + 1, m_tape, m_taped, x2 => f_X12_four_b3 fu x1 (f_X12_four_l3 fu x1 n) m_tape m_taped x2
def f_X12_four (fu : Nat) (m_tape : Nat → Int32) (m_taped : Int32) (x1 : Int32) : Option ((Nat → Int32) × Int32) := f_X12_four_l3 fu x1 fu m_tape m_taped 24
abbrev rm_X12_four : Room := { frames := 0, cells := 0, slots := 0, locals := 0 }
set_option maxHeartbeats 4000000 in
set_option maxRecDepth 100000 in
theorem c_X12_four (l : Launch) (D : va_G) (cy : Nat → ClassId) (fu : Nat) (A_m : Nat → Nat) (m_at : Nat → Int32) (m_names : Nat → Int64) (m_status : Int32) (m_top : Int64) (m_bottom : Int64) (m_sort : Nat → Int32) (m_trayMany : Nat → Int32) (m_trays : Nat → Int64) (m_tape : Nat → Int32) (m_text : Nat → Int32) (m_taped : Int32) (m_size : Int32) (m_token : Int32) (m_from : Int32) (m_end : Int32) (m_value : Int32) (m_faultKind : Int32) (m_faultPlace : Int32) (m_faults : Int32) (m_seen : Int32) (m_toldParts : Int32) (m_opened : Nat → Int32) (m_depth : Int32) (m_counted : Int32) (m_bestOrder : Int32) (m_standers : Nat → Int32) (m_has : Nat → Int32) (m_bestHas : Nat → Int32) (m_standerMany : Int32) (m_bestCouples : Int32) (m_bestFondness : Int32) (m_cameTo : Nat → Int32) (m_doesStandFirst : Int32) (m_stoodBy : Nat → Int64) (m_drawn : Int32) (m_ranSteps : Int32) (m_loops : Nat → Int32) (m_ran : Nat → Int32) (m_told1 : Nat → Int32) (m_isTold : Int32) (m_marks : Int32) (x1 : Int32) (res : (Nat → Int32) × Int32) (h : f_X12_four fu m_tape m_taped x1 = some res) (A : Nat → Prop) (hA : A = adr [bl_X12 cy A_m m_at m_names m_status m_top m_bottom m_sort m_trayMany m_trays m_tape m_text m_taped m_size m_token m_from m_end m_value m_faultKind m_faultPlace m_faults m_seen m_toldParts m_opened m_depth m_counted m_bestOrder m_standers m_has m_bestHas m_standerMany m_bestCouples m_bestFondness m_cameTo m_doesStandFirst m_stoodBy m_drawn m_ranSteps m_loops m_ran m_told1 m_isTold m_marks]) (W1 : List va_W) (hW1 : W1 = [bl_X12 cy A_m m_at m_names m_status m_top m_bottom m_sort m_trayMany m_trays res.1 m_text res.2 m_size m_token m_from m_end m_value m_faultKind m_faultPlace m_faults m_seen m_toldParts m_opened m_depth m_counted m_bestOrder m_standers m_has m_bestHas m_standerMany m_bestCouples m_bestFondness m_cameTo m_doesStandFirst m_stoodBy m_drawn m_ranSteps m_loops m_ran m_told1 m_isTold m_marks]) : Met l yX12_four (WW yX12_four cX12_four 3 none) rm_X12_four (Ed D cy [.ref (A_m 0), .int x1] [bl_X12 cy A_m m_at m_names m_status m_top m_bottom m_sort m_trayMany m_trays m_tape m_text m_taped m_size m_token m_from m_end m_value m_faultKind m_faultPlace m_faults m_seen m_toldParts m_opened m_depth m_counted m_bestOrder m_standers m_has m_bestHas m_standerMany m_bestCouples m_bestFondness m_cameTo m_doesStandFirst m_stoodBy m_drawn m_ranSteps m_loops m_ran m_told1 m_isTold m_marks]) (Qev D A W1) 0 0 A := by
  refine Met.ofW (cc := cX12_four) (maxL := 3) (ret := none) (by decide) rfl ?_
  intro p e s m args below meth c s₁ B hml hv
  obtain ⟨hargs, hP, hX, hD0⟩ := hv
  have hx := B.exec
  have hb := B.bytes
  have hr := B.returns
  have ht : ∀ w ∈ lw_gd, w.before args s = true := fun w hw => atoms_spec (ws := WW yX12_four cX12_four 3 none) B.pre w (List.mem_cons_of_mem _ hw)
  have hown : s.vm.findClass RX12 = some m.cls := findClass_of_methodNamed B.named
  have hlocks := B.notSynchronized
  have hP : PD D A [bl_X12 cy A_m m_at m_names m_status m_top m_bottom m_sort m_trayMany m_trays m_tape m_text m_taped m_size m_token m_from m_end m_value m_faultKind m_faultPlace m_faults m_seen m_toldParts m_opened m_depth m_counted m_bestOrder m_standers m_has m_bestHas m_standerMany m_bestCouples m_bestFondness m_cameTo m_doesStandFirst m_stoodBy m_drawn m_ranSteps m_loops m_ran m_told1 m_isTold m_marks] s.heap := ⟨hP, by rw [hA]; exact hD0.own⟩
  have hS : va_S A s.heap s.heap [] := va_S.rf
  obtain ⟨ls, hl, hent⟩ := ent (m := m) (n := 3) hargs (Nat.le_of_ble_eq_true rfl) (lv := [(0, .ref (A_m 0)), (1, .int x1)]) rfl
  rw [hent]
  clear hent
  have l3 : ∀ (n3 : Nat) (m_tape : Nat → Int32) (m_taped : Int32) (x2 : Int32) (H : Heap) (locs : List Loc) (_ : PD D A [bl_X12 cy A_m m_at m_names m_status m_top m_bottom m_sort m_trayMany m_trays m_tape m_text m_taped m_size m_token m_from m_end m_value m_faultKind m_faultPlace m_faults m_seen m_toldParts m_opened m_depth m_counted m_bestOrder m_standers m_has m_bestHas m_standerMany m_bestCouples m_bestFondness m_cameTo m_doesStandFirst m_stoodBy m_drawn m_ranSteps m_loops m_ran m_told1 m_isTold m_marks] H) (_ : va_S A s.heap H locs) (ls : Array Slot), lv_has ls 3 [(0, .ref (A_m 0)), (1, .int x1), (2, .int x2)] → f_X12_four_l3 fu x1 n3 m_tape m_taped x2 = some res → W p l e (headSpec (WW yX12_four cX12_four 3 none) rm_X12_four).room s m args below meth c H locs 0 0 (MQ below (Qev D A W1) args s 0 0 A) (F0 m 3 ls []) := by
    intro n3
    induction n3 with
    | zero => intro m_tape m_taped x2 H locs hP hS ls hl h; cases h
    | succ n3 ih3 =>
      intro m_tape m_taped x2 H locs hP hS ls hl h
      have h : f_X12_four_b3 fu x1 (f_X12_four_l3 fu x1 n3) m_tape m_taped x2 = some res := h
      unfold f_X12_four_b3 at h
      refine lv_iload_n hx hb dX12_four_3 rfl (lv_at hl 2 rfl) ?_
      refine lv_if_lt (tgt := 36) hx hb dX12_four_4 (by decide) (fun c_5 => ?_) (fun c_5 => ?_)
      · have h := it c_5 h
        cases h
        subst hW1
        exact W.vret hx hb hr (fun _ ht9 _ => ⟨⟨(), rfl, trivial, hPt ht9 hP.1⟩, hS.F ht9⟩) hS.2.2 dX12_four_36
      · have h := ie c_5 h
        refine lv_aload_n hx hb dX12_four_7 rfl (lv_at hl 0 rfl) ?_
        refine xget (i := 0) (j := 0) (k := 8) (T := TX12) hx hb ht tb_iX12 hown hX hP.1 rfl rfl rfl (by decide) tb_1237 rfl dX12_four_8 ?_
        refine lv_aload_n hx hb dX12_four_11 rfl (lv_at hl 0 rfl) ?_
        refine xget (i := 0) (j := 0) (k := 10) (T := TX12) hx hb ht tb_iX12 hown hX hP.1 rfl rfl rfl (by decide) tb_1239 rfl dX12_four_12 ?_
        refine lv_iload_n hx hb dX12_four_15 rfl (lv_at hl 1 rfl) ?_
        refine lv_iload_n hx hb dX12_four_16 rfl (lv_at hl 2 rfl) ?_
        refine lv_ishr hx hb dX12_four_17 ?_
        refine lv_i2b (v := (Int32.toInt8 (x1 >>> (x2 &&& 31))).toInt32) hx hb dX12_four_18 rfl ?_
        obtain ⟨m_tape_6, e_m_tape_6, h⟩ := bi h
        refine xbast (i0 := 0) (j0 := 6) hx hb hX hP hS rfl rfl e_m_tape_6 dX12_four_19 (fun H locs hP hS => ?_)
        have hP : PD D A [bl_X12 cy A_m m_at m_names m_status m_top m_bottom m_sort m_trayMany m_trays m_tape_6 m_text m_taped m_size m_token m_from m_end m_value m_faultKind m_faultPlace m_faults m_seen m_toldParts m_opened m_depth m_counted m_bestOrder m_standers m_has m_bestHas m_standerMany m_bestCouples m_bestFondness m_cameTo m_doesStandFirst m_stoodBy m_drawn m_ranSteps m_loops m_ran m_told1 m_isTold m_marks] H := hP
        refine lv_aload_n hx hb dX12_four_20 rfl (lv_at hl 0 rfl) ?_
        refine lv_dup hx hb dX12_four_21 rfl ?_
        refine xget (i := 0) (j := 0) (k := 10) (T := TX12) hx hb ht tb_iX12 hown hX hP.1 rfl rfl rfl (by decide) tb_1239 rfl dX12_four_22 ?_
        refine lv_iconst (v := 1) hx hb dX12_four_25 (by decide) ?_
        refine lv_iadd hx hb dX12_four_26 ?_
        refine lv_topi (fun m_taped_7 e_m_taped_7 => ?_)
        have h := bn e_m_taped_7 h
        refine xput (i := 0) (j := 0) (k := 10) (T := TX12) tyX12 tyX12_ok nmX12 hx hb ht tb_iX12 hown hX hP hS rfl rfl rfl (by decide) tb_1239 rfl rfl rfl (Nat.le_of_ble_eq_true rfl) dX12_four_27 (fun H locs hP hS => ?_)
        have hP : PD D A [bl_X12 cy A_m m_at m_names m_status m_top m_bottom m_sort m_trayMany m_trays m_tape_6 m_text m_taped_7 m_size m_token m_from m_end m_value m_faultKind m_faultPlace m_faults m_seen m_toldParts m_opened m_depth m_counted m_bestOrder m_standers m_has m_bestHas m_standerMany m_bestCouples m_bestFondness m_cameTo m_doesStandFirst m_stoodBy m_drawn m_ranSteps m_loops m_ran m_told1 m_isTold m_marks] H := hP
        obtain ⟨x2_8, e_x2_8⟩ : ∃ y : Int32, y = x2 + (-8) := ⟨_, rfl⟩
        have h := bn e_x2_8 h
        refine lv_iinc (v := x2_8) (lv' := [(2, .int x2_8), (0, .ref (A_m 0)), (1, .int x1)]) hx hb dX12_four_30 hl (k := 2) rfl (by rw [e_x2_8]; rfl) (by decide) rfl (fun ls hl => ?_)
        refine lv_goto (tgt := 3) hx hb dX12_four_33 (by decide) ?_
        exact ih3 m_tape_6 m_taped_7 x2_8 _ _ hP hS ls (lv_sub hl [1, 2, 0] rfl) h
  unfold f_X12_four at h
  refine lv_bipush (v := 24) hx hb dX12_four_0 (by decide) ?_
  refine lv_istore_n (lv' := [(2, .int 24), (0, .ref (A_m 0)), (1, .int x1)]) hx hb dX12_four_2 rfl hl (by decide) rfl (fun ls hl => ?_)
  exact l3 fu m_tape m_taped 24 _ _ hP hS ls (lv_sub hl [1, 2, 0] rfl) h
theorem dX12_feed_0 : decode cX12_feed 0 = .ok (.aload_n 0, 1) := by decide +kernel
theorem dX12_feed_1 : decode cX12_feed 1 = .ok (.getfield 108, 3) := by decide +kernel
theorem dX12_feed_4 : decode cX12_feed 4 = .ok (.bipush 20, 2) := by decide +kernel
theorem dX12_feed_6 : decode cX12_feed 6 = .ok (.iadd, 1) := by decide +kernel
theorem dX12_feed_7 : decode cX12_feed 7 = .ok (.sipush 900, 3) := by decide +kernel
theorem dX12_feed_10 : decode cX12_feed 10 = .ok (.if_icmp .le 5, 3) := by decide +kernel
theorem dX12_feed_13 : decode cX12_feed 13 = .ok (.iconst (-1), 1) := by decide +kernel
theorem dX12_feed_14 : decode cX12_feed 14 = .ok (.ireturn, 1) := by decide +kernel
theorem dX12_feed_15 : decode cX12_feed 15 = .ok (.aload_n 0, 1) := by decide +kernel
theorem dX12_feed_16 : decode cX12_feed 16 = .ok (.iload_n 1, 1) := by decide +kernel
theorem dX12_feed_17 : decode cX12_feed 17 = .ok (.invokevirtual 111, 3) := by decide +kernel
theorem dX12_feed_20 : decode cX12_feed 20 = .ok (.aload_n 0, 1) := by decide +kernel
theorem dX12_feed_21 : decode cX12_feed 21 = .ok (.iload_n 2, 1) := by decide +kernel
theorem dX12_feed_22 : decode cX12_feed 22 = .ok (.invokevirtual 111, 3) := by decide +kernel
theorem dX12_feed_25 : decode cX12_feed 25 = .ok (.aload_n 0, 1) := by decide +kernel
theorem dX12_feed_26 : decode cX12_feed 26 = .ok (.iload_n 3, 1) := by decide +kernel
theorem dX12_feed_27 : decode cX12_feed 27 = .ok (.invokevirtual 111, 3) := by decide +kernel
theorem dX12_feed_30 : decode cX12_feed 30 = .ok (.aload_n 0, 1) := by decide +kernel
theorem dX12_feed_31 : decode cX12_feed 31 = .ok (.iload 4, 2) := by decide +kernel
theorem dX12_feed_33 : decode cX12_feed 33 = .ok (.invokevirtual 111, 3) := by decide +kernel
theorem dX12_feed_36 : decode cX12_feed 36 = .ok (.aload_n 0, 1) := by decide +kernel
theorem dX12_feed_37 : decode cX12_feed 37 = .ok (.iload 5, 2) := by decide +kernel
theorem dX12_feed_39 : decode cX12_feed 39 = .ok (.invokevirtual 111, 3) := by decide +kernel
theorem dX12_feed_42 : decode cX12_feed 42 = .ok (.aload_n 0, 1) := by decide +kernel
theorem dX12_feed_43 : decode cX12_feed 43 = .ok (.getfield 108, 3) := by decide +kernel
theorem dX12_feed_46 : decode cX12_feed 46 = .ok (.ireturn, 1) := by decide +kernel
theorem mv_X12_feed : MV yX12_feed RX12 cX12_feed 6 (some .int) 5 := ⟨tb_1399, tb_1397, tb_1398, tb_16, by decide +kernel, by decide +kernel, by decide +kernel⟩
def f_X12_feed (fu : Nat) (m_tape : Nat → Int32) (m_taped : Int32) (x1 : Int32) (x2 : Int32) (x3 : Int32) (x4 : Int32) (x5 : Int32) : Option (Int32 × (Nat → Int32) × Int32) := (if (m_taped + 20) ≤ 900 then (f_X12_four fu m_tape m_taped x1).bind fun z_8 => (f_X12_four fu z_8.1 z_8.2 x2).bind fun z_9 => (f_X12_four fu z_9.1 z_9.2 x3).bind fun z_10 => (f_X12_four fu z_10.1 z_10.2 x4).bind fun z_11 => (f_X12_four fu z_11.1 z_11.2 x5).bind fun z_12 => some (z_12.2, z_12.1, z_12.2) else some ((-1), m_tape, m_taped))
abbrev rm_X12_feed : Room := { frames := 1, cells := 0, slots := 0, locals := 22 }
set_option maxHeartbeats 4000000 in
set_option maxRecDepth 100000 in
theorem c_X12_feed (l : Launch) (D : va_G) (cy : Nat → ClassId) (fu : Nat) (A_m : Nat → Nat) (m_at : Nat → Int32) (m_names : Nat → Int64) (m_status : Int32) (m_top : Int64) (m_bottom : Int64) (m_sort : Nat → Int32) (m_trayMany : Nat → Int32) (m_trays : Nat → Int64) (m_tape : Nat → Int32) (m_text : Nat → Int32) (m_taped : Int32) (m_size : Int32) (m_token : Int32) (m_from : Int32) (m_end : Int32) (m_value : Int32) (m_faultKind : Int32) (m_faultPlace : Int32) (m_faults : Int32) (m_seen : Int32) (m_toldParts : Int32) (m_opened : Nat → Int32) (m_depth : Int32) (m_counted : Int32) (m_bestOrder : Int32) (m_standers : Nat → Int32) (m_has : Nat → Int32) (m_bestHas : Nat → Int32) (m_standerMany : Int32) (m_bestCouples : Int32) (m_bestFondness : Int32) (m_cameTo : Nat → Int32) (m_doesStandFirst : Int32) (m_stoodBy : Nat → Int64) (m_drawn : Int32) (m_ranSteps : Int32) (m_loops : Nat → Int32) (m_ran : Nat → Int32) (m_told1 : Nat → Int32) (m_isTold : Int32) (m_marks : Int32) (x1 : Int32) (x2 : Int32) (x3 : Int32) (x4 : Int32) (x5 : Int32) (res : Int32 × (Nat → Int32) × Int32) (h : f_X12_feed fu m_tape m_taped x1 x2 x3 x4 x5 = some res) (A : Nat → Prop) (hA : A = adr [bl_X12 cy A_m m_at m_names m_status m_top m_bottom m_sort m_trayMany m_trays m_tape m_text m_taped m_size m_token m_from m_end m_value m_faultKind m_faultPlace m_faults m_seen m_toldParts m_opened m_depth m_counted m_bestOrder m_standers m_has m_bestHas m_standerMany m_bestCouples m_bestFondness m_cameTo m_doesStandFirst m_stoodBy m_drawn m_ranSteps m_loops m_ran m_told1 m_isTold m_marks]) (W1 : List va_W) (hW1 : W1 = [bl_X12 cy A_m m_at m_names m_status m_top m_bottom m_sort m_trayMany m_trays res.2.1 m_text res.2.2 m_size m_token m_from m_end m_value m_faultKind m_faultPlace m_faults m_seen m_toldParts m_opened m_depth m_counted m_bestOrder m_standers m_has m_bestHas m_standerMany m_bestCouples m_bestFondness m_cameTo m_doesStandFirst m_stoodBy m_drawn m_ranSteps m_loops m_ran m_told1 m_isTold m_marks]) : Met l yX12_feed (WW yX12_feed cX12_feed 6 (some .int)) rm_X12_feed (Ed D cy [.ref (A_m 0), .int x1, .int x2, .int x3, .int x4, .int x5] [bl_X12 cy A_m m_at m_names m_status m_top m_bottom m_sort m_trayMany m_trays m_tape m_text m_taped m_size m_token m_from m_end m_value m_faultKind m_faultPlace m_faults m_seen m_toldParts m_opened m_depth m_counted m_bestOrder m_standers m_has m_bestHas m_standerMany m_bestCouples m_bestFondness m_cameTo m_doesStandFirst m_stoodBy m_drawn m_ranSteps m_loops m_ran m_told1 m_isTold m_marks]) (Qei D res.1 A W1) 0 0 A := by
  refine Met.ofW (cc := cX12_feed) (maxL := 6) (ret := (some .int)) (by decide) rfl ?_
  intro p e s m args below meth c s₁ B hml hv
  obtain ⟨hargs, hP, hX, hD0⟩ := hv
  have hx := B.exec
  have hb := B.bytes
  have hr := B.returns
  have ht : ∀ w ∈ lw_gd, w.before args s = true := fun w hw => atoms_spec (ws := WW yX12_feed cX12_feed 6 (some .int)) B.pre w (List.mem_cons_of_mem _ hw)
  have hown : s.vm.findClass RX12 = some m.cls := findClass_of_methodNamed B.named
  have hlocks := B.notSynchronized
  have hP : PD D A [bl_X12 cy A_m m_at m_names m_status m_top m_bottom m_sort m_trayMany m_trays m_tape m_text m_taped m_size m_token m_from m_end m_value m_faultKind m_faultPlace m_faults m_seen m_toldParts m_opened m_depth m_counted m_bestOrder m_standers m_has m_bestHas m_standerMany m_bestCouples m_bestFondness m_cameTo m_doesStandFirst m_stoodBy m_drawn m_ranSteps m_loops m_ran m_told1 m_isTold m_marks] s.heap := ⟨hP, by rw [hA]; exact hD0.own⟩
  have hS : va_S A s.heap s.heap [] := va_S.rf
  obtain ⟨ls, hl, hent⟩ := ent (m := m) (n := 6) hargs (Nat.le_of_ble_eq_true rfl) (lv := [(0, .ref (A_m 0)), (1, .int x1), (2, .int x2), (3, .int x3), (4, .int x4), (5, .int x5)]) rfl
  rw [hent]
  clear hent
  unfold f_X12_feed at h
  refine lv_aload_n hx hb dX12_feed_0 rfl (lv_at hl 0 rfl) ?_
  refine xget (i := 0) (j := 0) (k := 10) (T := TX12) hx hb ht tb_iX12 hown hX hP.1 rfl rfl rfl (by decide) tb_1239 rfl dX12_feed_1 ?_
  refine lv_bipush (v := 20) hx hb dX12_feed_4 (by decide) ?_
  refine lv_iadd hx hb dX12_feed_6 ?_
  refine lv_sipush (v := 900) hx hb dX12_feed_7 (by decide) ?_
  refine lv_icmp_le (tgt := 15) hx hb dX12_feed_10 (by decide) (fun c_7 => ?_) (fun c_7 => ?_)
  · have h := it c_7 h
    refine lv_aload_n hx hb dX12_feed_15 rfl (lv_at hl 0 rfl) ?_
    refine lv_iload_n hx hb dX12_feed_16 rfl (lv_at hl 1 rfl) ?_
    obtain ⟨z_8, e_z_8, h⟩ := bi h
    refine efVv (rest := []) ⟨hx, hb, hml, hown, ht⟩ (c_X12_four l D cy fu A_m m_at m_names m_status m_top m_bottom m_sort m_trayMany m_trays m_tape m_text m_taped m_size m_token m_from m_end m_value m_faultKind m_faultPlace m_faults m_seen m_toldParts m_opened m_depth m_counted m_bestOrder m_standers m_has m_bestHas m_standerMany m_bestCouples m_bestFondness m_cameTo m_doesStandFirst m_stoodBy m_drawn m_ranSteps m_loops m_ran m_told1 m_isTold m_marks x1 z_8 e_z_8 _ rfl _ rfl) (cV ht mv_X12_four tb_1400 rfl rfl ⟨Nat.le_of_ble_eq_true rfl, Nat.le_of_ble_eq_true rfl⟩) hP hS hX [0] rfl rfl rfl rfl rfl rfl hl.1 rfl (Nat.le_of_ble_eq_true rfl) dX12_feed_17 ⟨Nat.le_of_ble_eq_true rfl, Nat.le_of_ble_eq_true rfl⟩ (fun H locs hP hS => ?_)
    have hP : PD D A [bl_X12 cy A_m m_at m_names m_status m_top m_bottom m_sort m_trayMany m_trays z_8.1 m_text z_8.2 m_size m_token m_from m_end m_value m_faultKind m_faultPlace m_faults m_seen m_toldParts m_opened m_depth m_counted m_bestOrder m_standers m_has m_bestHas m_standerMany m_bestCouples m_bestFondness m_cameTo m_doesStandFirst m_stoodBy m_drawn m_ranSteps m_loops m_ran m_told1 m_isTold m_marks] H := hP
    refine lv_aload_n hx hb dX12_feed_20 rfl (lv_at hl 0 rfl) ?_
    refine lv_iload_n hx hb dX12_feed_21 rfl (lv_at hl 2 rfl) ?_
    obtain ⟨z_9, e_z_9, h⟩ := bi h
    refine efVv (rest := []) ⟨hx, hb, hml, hown, ht⟩ (c_X12_four l D cy fu A_m m_at m_names m_status m_top m_bottom m_sort m_trayMany m_trays z_8.1 m_text z_8.2 m_size m_token m_from m_end m_value m_faultKind m_faultPlace m_faults m_seen m_toldParts m_opened m_depth m_counted m_bestOrder m_standers m_has m_bestHas m_standerMany m_bestCouples m_bestFondness m_cameTo m_doesStandFirst m_stoodBy m_drawn m_ranSteps m_loops m_ran m_told1 m_isTold m_marks x2 z_9 e_z_9 _ rfl _ rfl) (cV ht mv_X12_four tb_1400 rfl rfl ⟨Nat.le_of_ble_eq_true rfl, Nat.le_of_ble_eq_true rfl⟩) hP hS hX [0] rfl rfl rfl rfl rfl rfl hl.1 rfl (Nat.le_of_ble_eq_true rfl) dX12_feed_22 ⟨Nat.le_of_ble_eq_true rfl, Nat.le_of_ble_eq_true rfl⟩ (fun H locs hP hS => ?_)
    have hP : PD D A [bl_X12 cy A_m m_at m_names m_status m_top m_bottom m_sort m_trayMany m_trays z_9.1 m_text z_9.2 m_size m_token m_from m_end m_value m_faultKind m_faultPlace m_faults m_seen m_toldParts m_opened m_depth m_counted m_bestOrder m_standers m_has m_bestHas m_standerMany m_bestCouples m_bestFondness m_cameTo m_doesStandFirst m_stoodBy m_drawn m_ranSteps m_loops m_ran m_told1 m_isTold m_marks] H := hP
    refine lv_aload_n hx hb dX12_feed_25 rfl (lv_at hl 0 rfl) ?_
    refine lv_iload_n hx hb dX12_feed_26 rfl (lv_at hl 3 rfl) ?_
    obtain ⟨z_10, e_z_10, h⟩ := bi h
    refine efVv (rest := []) ⟨hx, hb, hml, hown, ht⟩ (c_X12_four l D cy fu A_m m_at m_names m_status m_top m_bottom m_sort m_trayMany m_trays z_9.1 m_text z_9.2 m_size m_token m_from m_end m_value m_faultKind m_faultPlace m_faults m_seen m_toldParts m_opened m_depth m_counted m_bestOrder m_standers m_has m_bestHas m_standerMany m_bestCouples m_bestFondness m_cameTo m_doesStandFirst m_stoodBy m_drawn m_ranSteps m_loops m_ran m_told1 m_isTold m_marks x3 z_10 e_z_10 _ rfl _ rfl) (cV ht mv_X12_four tb_1400 rfl rfl ⟨Nat.le_of_ble_eq_true rfl, Nat.le_of_ble_eq_true rfl⟩) hP hS hX [0] rfl rfl rfl rfl rfl rfl hl.1 rfl (Nat.le_of_ble_eq_true rfl) dX12_feed_27 ⟨Nat.le_of_ble_eq_true rfl, Nat.le_of_ble_eq_true rfl⟩ (fun H locs hP hS => ?_)
    have hP : PD D A [bl_X12 cy A_m m_at m_names m_status m_top m_bottom m_sort m_trayMany m_trays z_10.1 m_text z_10.2 m_size m_token m_from m_end m_value m_faultKind m_faultPlace m_faults m_seen m_toldParts m_opened m_depth m_counted m_bestOrder m_standers m_has m_bestHas m_standerMany m_bestCouples m_bestFondness m_cameTo m_doesStandFirst m_stoodBy m_drawn m_ranSteps m_loops m_ran m_told1 m_isTold m_marks] H := hP
    refine lv_aload_n hx hb dX12_feed_30 rfl (lv_at hl 0 rfl) ?_
    refine lv_iload hx hb dX12_feed_31 (lv_at hl 4 rfl) ?_
    obtain ⟨z_11, e_z_11, h⟩ := bi h
    refine efVv (rest := []) ⟨hx, hb, hml, hown, ht⟩ (c_X12_four l D cy fu A_m m_at m_names m_status m_top m_bottom m_sort m_trayMany m_trays z_10.1 m_text z_10.2 m_size m_token m_from m_end m_value m_faultKind m_faultPlace m_faults m_seen m_toldParts m_opened m_depth m_counted m_bestOrder m_standers m_has m_bestHas m_standerMany m_bestCouples m_bestFondness m_cameTo m_doesStandFirst m_stoodBy m_drawn m_ranSteps m_loops m_ran m_told1 m_isTold m_marks x4 z_11 e_z_11 _ rfl _ rfl) (cV ht mv_X12_four tb_1400 rfl rfl ⟨Nat.le_of_ble_eq_true rfl, Nat.le_of_ble_eq_true rfl⟩) hP hS hX [0] rfl rfl rfl rfl rfl rfl hl.1 rfl (Nat.le_of_ble_eq_true rfl) dX12_feed_33 ⟨Nat.le_of_ble_eq_true rfl, Nat.le_of_ble_eq_true rfl⟩ (fun H locs hP hS => ?_)
    have hP : PD D A [bl_X12 cy A_m m_at m_names m_status m_top m_bottom m_sort m_trayMany m_trays z_11.1 m_text z_11.2 m_size m_token m_from m_end m_value m_faultKind m_faultPlace m_faults m_seen m_toldParts m_opened m_depth m_counted m_bestOrder m_standers m_has m_bestHas m_standerMany m_bestCouples m_bestFondness m_cameTo m_doesStandFirst m_stoodBy m_drawn m_ranSteps m_loops m_ran m_told1 m_isTold m_marks] H := hP
    refine lv_aload_n hx hb dX12_feed_36 rfl (lv_at hl 0 rfl) ?_
    refine lv_iload hx hb dX12_feed_37 (lv_at hl 5 rfl) ?_
    obtain ⟨z_12, e_z_12, h⟩ := bi h
    refine efVv (rest := []) ⟨hx, hb, hml, hown, ht⟩ (c_X12_four l D cy fu A_m m_at m_names m_status m_top m_bottom m_sort m_trayMany m_trays z_11.1 m_text z_11.2 m_size m_token m_from m_end m_value m_faultKind m_faultPlace m_faults m_seen m_toldParts m_opened m_depth m_counted m_bestOrder m_standers m_has m_bestHas m_standerMany m_bestCouples m_bestFondness m_cameTo m_doesStandFirst m_stoodBy m_drawn m_ranSteps m_loops m_ran m_told1 m_isTold m_marks x5 z_12 e_z_12 _ rfl _ rfl) (cV ht mv_X12_four tb_1400 rfl rfl ⟨Nat.le_of_ble_eq_true rfl, Nat.le_of_ble_eq_true rfl⟩) hP hS hX [0] rfl rfl rfl rfl rfl rfl hl.1 rfl (Nat.le_of_ble_eq_true rfl) dX12_feed_39 ⟨Nat.le_of_ble_eq_true rfl, Nat.le_of_ble_eq_true rfl⟩ (fun H locs hP hS => ?_)
    have hP : PD D A [bl_X12 cy A_m m_at m_names m_status m_top m_bottom m_sort m_trayMany m_trays z_12.1 m_text z_12.2 m_size m_token m_from m_end m_value m_faultKind m_faultPlace m_faults m_seen m_toldParts m_opened m_depth m_counted m_bestOrder m_standers m_has m_bestHas m_standerMany m_bestCouples m_bestFondness m_cameTo m_doesStandFirst m_stoodBy m_drawn m_ranSteps m_loops m_ran m_told1 m_isTold m_marks] H := hP
    refine lv_aload_n hx hb dX12_feed_42 rfl (lv_at hl 0 rfl) ?_
    refine xget (i := 0) (j := 0) (k := 10) (T := TX12) hx hb ht tb_iX12 hown hX hP.1 rfl rfl rfl (by decide) tb_1239 rfl dX12_feed_43 ?_
    cases h
    subst hW1
    exact W.iret hx hb hr (fun _ ht9 _ => ⟨⟨_, (), rfl, rfl, hPt ht9 hP.1⟩, hS.F ht9⟩) hS.2.2 dX12_feed_46
  · have h := ie c_7 h
    refine lv_iconst (v := (-1)) hx hb dX12_feed_13 (by decide) ?_
    cases h
    subst hW1
    exact W.iret hx hb hr (fun _ ht9 _ => ⟨⟨_, (), rfl, rfl, hPt ht9 hP.1⟩, hS.F ht9⟩) hS.2.2 dX12_feed_14
theorem dX12_byteAt_0 : decode cX12_byteAt 0 = .ok (.iload_n 1, 1) := by decide +kernel
theorem dX12_byteAt_1 : decode cX12_byteAt 1 = .ok (.aload_n 0, 1) := by decide +kernel
theorem dX12_byteAt_2 : decode cX12_byteAt 2 = .ok (.getfield 114, 3) := by decide +kernel
theorem dX12_byteAt_5 : decode cX12_byteAt 5 = .ok (.if_icmp .ge 16, 3) := by decide +kernel
theorem dX12_byteAt_8 : decode cX12_byteAt 8 = .ok (.aload_n 0, 1) := by decide +kernel
theorem dX12_byteAt_9 : decode cX12_byteAt 9 = .ok (.getfield 34, 3) := by decide +kernel
theorem dX12_byteAt_12 : decode cX12_byteAt 12 = .ok (.iload_n 1, 1) := by decide +kernel
theorem dX12_byteAt_13 : decode cX12_byteAt 13 = .ok (.baload, 1) := by decide +kernel
theorem dX12_byteAt_14 : decode cX12_byteAt 14 = .ok (.sipush 255, 3) := by decide +kernel
theorem dX12_byteAt_17 : decode cX12_byteAt 17 = .ok (.iand, 1) := by decide +kernel
theorem dX12_byteAt_18 : decode cX12_byteAt 18 = .ok (.goto 4, 3) := by decide +kernel
theorem dX12_byteAt_21 : decode cX12_byteAt 21 = .ok (.iconst (-1), 1) := by decide +kernel
theorem dX12_byteAt_22 : decode cX12_byteAt 22 = .ok (.ireturn, 1) := by decide +kernel
theorem mv_X12_byteAt : MV yX12_byteAt RX12 cX12_byteAt 2 (some .int) 1 := ⟨tb_1423, tb_1422, ts_45, tb_16, by decide +kernel, by decide +kernel, by decide +kernel⟩
def f_X12_byteAt (fu : Nat) (m_text : Nat → Int32) (m_size : Int32) (x1 : Int32) : Option (Int32) := (if m_size ≤ x1 then some ((-1)) else (rdI m_text 900 x1).bind fun y_4 => some (y_4 &&& 255))
abbrev rm_X12_byteAt : Room := { frames := 0, cells := 0, slots := 0, locals := 0 }
set_option maxHeartbeats 4000000 in
set_option maxRecDepth 100000 in
theorem c_X12_byteAt (l : Launch) (D : va_G) (cy : Nat → ClassId) (fu : Nat) (A_m : Nat → Nat) (m_at : Nat → Int32) (m_names : Nat → Int64) (m_status : Int32) (m_top : Int64) (m_bottom : Int64) (m_sort : Nat → Int32) (m_trayMany : Nat → Int32) (m_trays : Nat → Int64) (m_tape : Nat → Int32) (m_text : Nat → Int32) (m_taped : Int32) (m_size : Int32) (m_token : Int32) (m_from : Int32) (m_end : Int32) (m_value : Int32) (m_faultKind : Int32) (m_faultPlace : Int32) (m_faults : Int32) (m_seen : Int32) (m_toldParts : Int32) (m_opened : Nat → Int32) (m_depth : Int32) (m_counted : Int32) (m_bestOrder : Int32) (m_standers : Nat → Int32) (m_has : Nat → Int32) (m_bestHas : Nat → Int32) (m_standerMany : Int32) (m_bestCouples : Int32) (m_bestFondness : Int32) (m_cameTo : Nat → Int32) (m_doesStandFirst : Int32) (m_stoodBy : Nat → Int64) (m_drawn : Int32) (m_ranSteps : Int32) (m_loops : Nat → Int32) (m_ran : Nat → Int32) (m_told1 : Nat → Int32) (m_isTold : Int32) (m_marks : Int32) (x1 : Int32) (res : Int32) (h : f_X12_byteAt fu m_text m_size x1 = some res) : Met l yX12_byteAt (WW yX12_byteAt cX12_byteAt 2 (some .int)) rm_X12_byteAt (Rd D cy [.ref (A_m 0), .int x1] [bl_X12 cy A_m m_at m_names m_status m_top m_bottom m_sort m_trayMany m_trays m_tape m_text m_taped m_size m_token m_from m_end m_value m_faultKind m_faultPlace m_faults m_seen m_toldParts m_opened m_depth m_counted m_bestOrder m_standers m_has m_bestHas m_standerMany m_bestCouples m_bestFondness m_cameTo m_doesStandFirst m_stoodBy m_drawn m_ranSteps m_loops m_ran m_told1 m_isTold m_marks]) (vp_Si (fun v => v = res)) 0 0 (fun _ => False) := by
  refine Met.ofW (cc := cX12_byteAt) (maxL := 2) (ret := (some .int)) (by decide) rfl ?_
  intro p e s m args below meth c s₁ B hml hv
  obtain ⟨hargs, hP, hX⟩ := hv
  have hx := B.exec
  have hb := B.bytes
  have hr := B.returns
  have ht : ∀ w ∈ lw_gd, w.before args s = true := fun w hw => atoms_spec (ws := WW yX12_byteAt cX12_byteAt 2 (some .int)) B.pre w (List.mem_cons_of_mem _ hw)
  have hown : s.vm.findClass RX12 = some m.cls := findClass_of_methodNamed B.named
  have hlocks := B.notSynchronized
  have hP : PB D [bl_X12 cy A_m m_at m_names m_status m_top m_bottom m_sort m_trayMany m_trays m_tape m_text m_taped m_size m_token m_from m_end m_value m_faultKind m_faultPlace m_faults m_seen m_toldParts m_opened m_depth m_counted m_bestOrder m_standers m_has m_bestHas m_standerMany m_bestCouples m_bestFondness m_cameTo m_doesStandFirst m_stoodBy m_drawn m_ranSteps m_loops m_ran m_told1 m_isTold m_marks] s.heap := hP
  obtain ⟨ls, hl, hent⟩ := ent (m := m) (n := 2) hargs (Nat.le_of_ble_eq_true rfl) (lv := [(0, .ref (A_m 0)), (1, .int x1)]) rfl
  rw [hent]
  clear hent
  unfold f_X12_byteAt at h
  refine lv_iload_n hx hb dX12_byteAt_0 rfl (lv_at hl 1 rfl) ?_
  refine lv_aload_n hx hb dX12_byteAt_1 rfl (lv_at hl 0 rfl) ?_
  refine xget (i := 0) (j := 0) (k := 11) (T := TX12) hx hb ht tb_iX12 hown hX hP rfl rfl rfl (by decide) tb_1240 rfl dX12_byteAt_2 ?_
  refine lv_icmp_ge (tgt := 21) hx hb dX12_byteAt_5 (by decide) (fun c_3 => ?_) (fun c_3 => ?_)
  · have h := it c_3 h
    refine lv_iconst (v := (-1)) hx hb dX12_byteAt_21 (by decide) ?_
    cases h
    exact W.iret hx hb hr (fun _ ht9 _ => ⟨_, rfl, rfl, ht9⟩) (fun _ hq => by cases hq) dX12_byteAt_22
  · have h := ie c_3 h
    refine lv_aload_n hx hb dX12_byteAt_8 rfl (lv_at hl 0 rfl) ?_
    refine xget (i := 0) (j := 0) (k := 9) (T := TX12) hx hb ht tb_iX12 hown hX hP rfl rfl rfl (by decide) tb_1238 rfl dX12_byteAt_9 ?_
    refine lv_iload_n hx hb dX12_byteAt_12 rfl (lv_at hl 1 rfl) ?_
    obtain ⟨y_4, e_y_4, h⟩ := bi h
    refine xbald (i0 := 0) (j0 := 7) hx hb hX hP rfl rfl e_y_4 dX12_byteAt_13 ?_
    refine lv_sipush (v := 255) hx hb dX12_byteAt_14 (by decide) ?_
    refine lv_iand hx hb dX12_byteAt_17 ?_
    refine lv_goto (tgt := 22) hx hb dX12_byteAt_18 (by decide) ?_
    cases h
    exact W.iret hx hb hr (fun _ ht9 _ => ⟨_, rfl, rfl, ht9⟩) (fun _ hq => by cases hq) dX12_byteAt_22
theorem dX12_isSmall_0 : decode cX12_isSmall 0 = .ok (.iload_n 0, 1) := by decide +kernel
theorem dX12_isSmall_1 : decode cX12_isSmall 1 = .ok (.bipush 97, 2) := by decide +kernel
theorem dX12_isSmall_3 : decode cX12_isSmall 3 = .ok (.if_icmp .lt 13, 3) := by decide +kernel
theorem dX12_isSmall_6 : decode cX12_isSmall 6 = .ok (.iload_n 0, 1) := by decide +kernel
theorem dX12_isSmall_7 : decode cX12_isSmall 7 = .ok (.bipush 122, 2) := by decide +kernel
theorem dX12_isSmall_9 : decode cX12_isSmall 9 = .ok (.if_icmp .gt 7, 3) := by decide +kernel
theorem dX12_isSmall_12 : decode cX12_isSmall 12 = .ok (.iconst 1, 1) := by decide +kernel
theorem dX12_isSmall_13 : decode cX12_isSmall 13 = .ok (.goto 4, 3) := by decide +kernel
theorem dX12_isSmall_16 : decode cX12_isSmall 16 = .ok (.iconst 0, 1) := by decide +kernel
theorem dX12_isSmall_17 : decode cX12_isSmall 17 = .ok (.ireturn, 1) := by decide +kernel
theorem ms_X12_isSmall : MS yX12_isSmall cX12_isSmall 1 (some .boolean) 1 := ⟨tb_1426, tb_1425, tb_16, by decide +kernel, by decide +kernel, by decide +kernel⟩
def f_X12_isSmall (fu : Nat) (x0 : Int32) : Option (Int32) := (if x0 < 97 then some (0) else (if 122 < x0 then some (0) else some (1)))
abbrev rm_X12_isSmall : Room := { frames := 0, cells := 0, slots := 0, locals := 0 }
set_option maxHeartbeats 4000000 in
set_option maxRecDepth 100000 in
theorem c_X12_isSmall (l : Launch) (D : va_G) (cy : Nat → ClassId) (fu : Nat) (x0 : Int32) (res : Int32) (h : f_X12_isSmall fu x0 = some res) : Met l yX12_isSmall (WW yX12_isSmall cX12_isSmall 1 (some .boolean)) rm_X12_isSmall (Rd D cy [.int x0] []) (vp_Si (fun v => v = res)) 0 0 (fun _ => False) := by
  refine Met.ofW (cc := cX12_isSmall) (maxL := 1) (ret := (some .boolean)) (by decide) rfl ?_
  intro p e s m args below meth c s₁ B hml hv
  obtain ⟨hargs, hP, hX⟩ := hv
  have hx := B.exec
  have hb := B.bytes
  have hr := B.returns
  have ht : ∀ w ∈ lw_gd, w.before args s = true := fun w hw => atoms_spec (ws := WW yX12_isSmall cX12_isSmall 1 (some .boolean)) B.pre w (List.mem_cons_of_mem _ hw)
  have hown : s.vm.findClass RX12 = some m.cls := findClass_of_methodNamed B.named
  have hlocks := B.notSynchronized
  have hP : PB D [] s.heap := hP
  obtain ⟨ls, hl, hent⟩ := ent (m := m) (n := 1) hargs (Nat.le_of_ble_eq_true rfl) (lv := [(0, .int x0)]) rfl
  rw [hent]
  clear hent
  unfold f_X12_isSmall at h
  refine lv_iload_n hx hb dX12_isSmall_0 rfl (lv_at hl 0 rfl) ?_
  refine lv_bipush (v := 97) hx hb dX12_isSmall_1 (by decide) ?_
  refine lv_icmp_lt (tgt := 16) hx hb dX12_isSmall_3 (by decide) (fun c_3 => ?_) (fun c_3 => ?_)
  · have h := it c_3 h
    refine lv_iconst (v := 0) hx hb dX12_isSmall_16 (by decide) ?_
    cases h
    exact W.zret hx hb hr rfl (fun _ ht9 _ => ⟨_, rfl, rfl, ht9⟩) (fun _ hq => by cases hq) dX12_isSmall_17
  · have h := ie c_3 h
    refine lv_iload_n hx hb dX12_isSmall_6 rfl (lv_at hl 0 rfl) ?_
    refine lv_bipush (v := 122) hx hb dX12_isSmall_7 (by decide) ?_
    refine lv_icmp_gt (tgt := 16) hx hb dX12_isSmall_9 (by decide) (fun c_4 => ?_) (fun c_4 => ?_)
    · have h := it c_4 h
      refine lv_iconst (v := 0) hx hb dX12_isSmall_16 (by decide) ?_
      cases h
      exact W.zret hx hb hr rfl (fun _ ht9 _ => ⟨_, rfl, rfl, ht9⟩) (fun _ hq => by cases hq) dX12_isSmall_17
    · have h := ie c_4 h
      refine lv_iconst (v := 1) hx hb dX12_isSmall_12 (by decide) ?_
      refine lv_goto (tgt := 17) hx hb dX12_isSmall_13 (by decide) ?_
      cases h
      exact W.zret hx hb hr rfl (fun _ ht9 _ => ⟨_, rfl, rfl, ht9⟩) (fun _ hq => by cases hq) dX12_isSmall_17
theorem dX12_isDigit_0 : decode cX12_isDigit 0 = .ok (.iload_n 0, 1) := by decide +kernel
theorem dX12_isDigit_1 : decode cX12_isDigit 1 = .ok (.bipush 48, 2) := by decide +kernel
theorem dX12_isDigit_3 : decode cX12_isDigit 3 = .ok (.if_icmp .lt 13, 3) := by decide +kernel
theorem dX12_isDigit_6 : decode cX12_isDigit 6 = .ok (.iload_n 0, 1) := by decide +kernel
theorem dX12_isDigit_7 : decode cX12_isDigit 7 = .ok (.bipush 57, 2) := by decide +kernel
theorem dX12_isDigit_9 : decode cX12_isDigit 9 = .ok (.if_icmp .gt 7, 3) := by decide +kernel
theorem dX12_isDigit_12 : decode cX12_isDigit 12 = .ok (.iconst 1, 1) := by decide +kernel
theorem dX12_isDigit_13 : decode cX12_isDigit 13 = .ok (.goto 4, 3) := by decide +kernel
theorem dX12_isDigit_16 : decode cX12_isDigit 16 = .ok (.iconst 0, 1) := by decide +kernel
theorem dX12_isDigit_17 : decode cX12_isDigit 17 = .ok (.ireturn, 1) := by decide +kernel
theorem ms_X12_isDigit : MS yX12_isDigit cX12_isDigit 1 (some .boolean) 1 := ⟨tb_1429, tb_1428, tb_16, by decide +kernel, by decide +kernel, by decide +kernel⟩
def f_X12_isDigit (fu : Nat) (x0 : Int32) : Option (Int32) := (if x0 < 48 then some (0) else (if 57 < x0 then some (0) else some (1)))
abbrev rm_X12_isDigit : Room := { frames := 0, cells := 0, slots := 0, locals := 0 }
set_option maxHeartbeats 4000000 in
set_option maxRecDepth 100000 in
theorem c_X12_isDigit (l : Launch) (D : va_G) (cy : Nat → ClassId) (fu : Nat) (x0 : Int32) (res : Int32) (h : f_X12_isDigit fu x0 = some res) : Met l yX12_isDigit (WW yX12_isDigit cX12_isDigit 1 (some .boolean)) rm_X12_isDigit (Rd D cy [.int x0] []) (vp_Si (fun v => v = res)) 0 0 (fun _ => False) := by
  refine Met.ofW (cc := cX12_isDigit) (maxL := 1) (ret := (some .boolean)) (by decide) rfl ?_
  intro p e s m args below meth c s₁ B hml hv
  obtain ⟨hargs, hP, hX⟩ := hv
  have hx := B.exec
  have hb := B.bytes
  have hr := B.returns
  have ht : ∀ w ∈ lw_gd, w.before args s = true := fun w hw => atoms_spec (ws := WW yX12_isDigit cX12_isDigit 1 (some .boolean)) B.pre w (List.mem_cons_of_mem _ hw)
  have hown : s.vm.findClass RX12 = some m.cls := findClass_of_methodNamed B.named
  have hlocks := B.notSynchronized
  have hP : PB D [] s.heap := hP
  obtain ⟨ls, hl, hent⟩ := ent (m := m) (n := 1) hargs (Nat.le_of_ble_eq_true rfl) (lv := [(0, .int x0)]) rfl
  rw [hent]
  clear hent
  unfold f_X12_isDigit at h
  refine lv_iload_n hx hb dX12_isDigit_0 rfl (lv_at hl 0 rfl) ?_
  refine lv_bipush (v := 48) hx hb dX12_isDigit_1 (by decide) ?_
  refine lv_icmp_lt (tgt := 16) hx hb dX12_isDigit_3 (by decide) (fun c_3 => ?_) (fun c_3 => ?_)
  · have h := it c_3 h
    refine lv_iconst (v := 0) hx hb dX12_isDigit_16 (by decide) ?_
    cases h
    exact W.zret hx hb hr rfl (fun _ ht9 _ => ⟨_, rfl, rfl, ht9⟩) (fun _ hq => by cases hq) dX12_isDigit_17
  · have h := ie c_3 h
    refine lv_iload_n hx hb dX12_isDigit_6 rfl (lv_at hl 0 rfl) ?_
    refine lv_bipush (v := 57) hx hb dX12_isDigit_7 (by decide) ?_
    refine lv_icmp_gt (tgt := 16) hx hb dX12_isDigit_9 (by decide) (fun c_4 => ?_) (fun c_4 => ?_)
    · have h := it c_4 h
      refine lv_iconst (v := 0) hx hb dX12_isDigit_16 (by decide) ?_
      cases h
      exact W.zret hx hb hr rfl (fun _ ht9 _ => ⟨_, rfl, rfl, ht9⟩) (fun _ hq => by cases hq) dX12_isDigit_17
    · have h := ie c_4 h
      refine lv_iconst (v := 1) hx hb dX12_isDigit_12 (by decide) ?_
      refine lv_goto (tgt := 17) hx hb dX12_isDigit_13 (by decide) ?_
      cases h
      exact W.zret hx hb hr rfl (fun _ ht9 _ => ⟨_, rfl, rfl, ht9⟩) (fun _ hq => by cases hq) dX12_isDigit_17
theorem dX12_ahead_0 : decode cX12_ahead 0 = .ok (.aload_n 0, 1) := by decide +kernel
theorem dX12_ahead_1 : decode cX12_ahead 1 = .ok (.aload_n 0, 1) := by decide +kernel
theorem dX12_ahead_2 : decode cX12_ahead 2 = .ok (.getfield 117, 3) := by decide +kernel
theorem dX12_ahead_5 : decode cX12_ahead 5 = .ok (.invokevirtual 120, 3) := by decide +kernel
theorem dX12_ahead_8 : decode cX12_ahead 8 = .ok (.bipush 32, 2) := by decide +kernel
theorem dX12_ahead_10 : decode cX12_ahead 10 = .ok (.if_icmp .eq 16, 3) := by decide +kernel
theorem dX12_ahead_13 : decode cX12_ahead 13 = .ok (.aload_n 0, 1) := by decide +kernel
theorem dX12_ahead_14 : decode cX12_ahead 14 = .ok (.aload_n 0, 1) := by decide +kernel
theorem dX12_ahead_15 : decode cX12_ahead 15 = .ok (.getfield 117, 3) := by decide +kernel
theorem dX12_ahead_18 : decode cX12_ahead 18 = .ok (.invokevirtual 120, 3) := by decide +kernel
theorem dX12_ahead_21 : decode cX12_ahead 21 = .ok (.bipush 10, 2) := by decide +kernel
theorem dX12_ahead_23 : decode cX12_ahead 23 = .ok (.if_icmp .ne 16, 3) := by decide +kernel
theorem dX12_ahead_26 : decode cX12_ahead 26 = .ok (.aload_n 0, 1) := by decide +kernel
theorem dX12_ahead_27 : decode cX12_ahead 27 = .ok (.dup, 1) := by decide +kernel
theorem dX12_ahead_28 : decode cX12_ahead 28 = .ok (.getfield 117, 3) := by decide +kernel
theorem dX12_ahead_31 : decode cX12_ahead 31 = .ok (.iconst 1, 1) := by decide +kernel
theorem dX12_ahead_32 : decode cX12_ahead 32 = .ok (.iadd, 1) := by decide +kernel
theorem dX12_ahead_33 : decode cX12_ahead 33 = .ok (.putfield 117, 3) := by decide +kernel
theorem dX12_ahead_36 : decode cX12_ahead 36 = .ok (.goto (-36), 3) := by decide +kernel
theorem dX12_ahead_39 : decode cX12_ahead 39 = .ok (.aload_n 0, 1) := by decide +kernel
theorem dX12_ahead_40 : decode cX12_ahead 40 = .ok (.aload_n 0, 1) := by decide +kernel
theorem dX12_ahead_41 : decode cX12_ahead 41 = .ok (.getfield 117, 3) := by decide +kernel
theorem dX12_ahead_44 : decode cX12_ahead 44 = .ok (.putfield 123, 3) := by decide +kernel
theorem dX12_ahead_47 : decode cX12_ahead 47 = .ok (.aload_n 0, 1) := by decide +kernel
theorem dX12_ahead_48 : decode cX12_ahead 48 = .ok (.aload_n 0, 1) := by decide +kernel
theorem dX12_ahead_49 : decode cX12_ahead 49 = .ok (.getfield 117, 3) := by decide +kernel
theorem dX12_ahead_52 : decode cX12_ahead 52 = .ok (.invokevirtual 120, 3) := by decide +kernel
theorem dX12_ahead_55 : decode cX12_ahead 55 = .ok (.istore_n 1, 1) := by decide +kernel
theorem dX12_ahead_56 : decode cX12_ahead 56 = .ok (.aload_n 0, 1) := by decide +kernel
theorem dX12_ahead_57 : decode cX12_ahead 57 = .ok (.iload_n 1, 1) := by decide +kernel
theorem dX12_ahead_58 : decode cX12_ahead 58 = .ok (.putfield 126, 3) := by decide +kernel
theorem dX12_ahead_61 : decode cX12_ahead 61 = .ok (.iload_n 1, 1) := by decide +kernel
theorem dX12_ahead_62 : decode cX12_ahead 62 = .ok (.iconst (-1), 1) := by decide +kernel
theorem dX12_ahead_63 : decode cX12_ahead 63 = .ok (.if_icmp .ne 11, 3) := by decide +kernel
theorem dX12_ahead_66 : decode cX12_ahead 66 = .ok (.aload_n 0, 1) := by decide +kernel
theorem dX12_ahead_67 : decode cX12_ahead 67 = .ok (.iconst 0, 1) := by decide +kernel
theorem dX12_ahead_68 : decode cX12_ahead 68 = .ok (.putfield 129, 3) := by decide +kernel
theorem dX12_ahead_71 : decode cX12_ahead 71 = .ok (.goto 180, 3) := by decide +kernel
theorem dX12_ahead_74 : decode cX12_ahead 74 = .ok (.iload_n 1, 1) := by decide +kernel
theorem dX12_ahead_75 : decode cX12_ahead 75 = .ok (.invokestatic 132, 3) := by decide +kernel
theorem dX12_ahead_78 : decode cX12_ahead 78 = .ok (.ifCond .eq 38, 3) := by decide +kernel
theorem dX12_ahead_81 : decode cX12_ahead 81 = .ok (.aload_n 0, 1) := by decide +kernel
theorem dX12_ahead_82 : decode cX12_ahead 82 = .ok (.aload_n 0, 1) := by decide +kernel
theorem dX12_ahead_83 : decode cX12_ahead 83 = .ok (.getfield 117, 3) := by decide +kernel
theorem dX12_ahead_86 : decode cX12_ahead 86 = .ok (.invokevirtual 120, 3) := by decide +kernel
theorem dX12_ahead_89 : decode cX12_ahead 89 = .ok (.invokestatic 132, 3) := by decide +kernel
theorem dX12_ahead_92 : decode cX12_ahead 92 = .ok (.ifCond .eq 16, 3) := by decide +kernel
theorem dX12_ahead_95 : decode cX12_ahead 95 = .ok (.aload_n 0, 1) := by decide +kernel
theorem dX12_ahead_96 : decode cX12_ahead 96 = .ok (.dup, 1) := by decide +kernel
theorem dX12_ahead_97 : decode cX12_ahead 97 = .ok (.getfield 117, 3) := by decide +kernel
theorem dX12_ahead_100 : decode cX12_ahead 100 = .ok (.iconst 1, 1) := by decide +kernel
theorem dX12_ahead_101 : decode cX12_ahead 101 = .ok (.iadd, 1) := by decide +kernel
theorem dX12_ahead_102 : decode cX12_ahead 102 = .ok (.putfield 117, 3) := by decide +kernel
theorem dX12_ahead_105 : decode cX12_ahead 105 = .ok (.goto (-24), 3) := by decide +kernel
theorem dX12_ahead_108 : decode cX12_ahead 108 = .ok (.aload_n 0, 1) := by decide +kernel
theorem dX12_ahead_109 : decode cX12_ahead 109 = .ok (.iconst 2, 1) := by decide +kernel
theorem dX12_ahead_110 : decode cX12_ahead 110 = .ok (.putfield 129, 3) := by decide +kernel
theorem dX12_ahead_113 : decode cX12_ahead 113 = .ok (.goto 138, 3) := by decide +kernel
theorem dX12_ahead_116 : decode cX12_ahead 116 = .ok (.iload_n 1, 1) := by decide +kernel
theorem dX12_ahead_117 : decode cX12_ahead 117 = .ok (.invokestatic 135, 3) := by decide +kernel
theorem dX12_ahead_120 : decode cX12_ahead 120 = .ok (.ifCond .eq 88, 3) := by decide +kernel
theorem dX12_ahead_123 : decode cX12_ahead 123 = .ok (.aload_n 0, 1) := by decide +kernel
theorem dX12_ahead_124 : decode cX12_ahead 124 = .ok (.iconst 0, 1) := by decide +kernel
theorem dX12_ahead_125 : decode cX12_ahead 125 = .ok (.putfield 126, 3) := by decide +kernel
theorem dX12_ahead_128 : decode cX12_ahead 128 = .ok (.aload_n 0, 1) := by decide +kernel
theorem dX12_ahead_129 : decode cX12_ahead 129 = .ok (.aload_n 0, 1) := by decide +kernel
theorem dX12_ahead_130 : decode cX12_ahead 130 = .ok (.getfield 117, 3) := by decide +kernel
theorem dX12_ahead_133 : decode cX12_ahead 133 = .ok (.invokevirtual 120, 3) := by decide +kernel
theorem dX12_ahead_136 : decode cX12_ahead 136 = .ok (.invokestatic 135, 3) := by decide +kernel
theorem dX12_ahead_139 : decode cX12_ahead 139 = .ok (.ifCond .eq 44, 3) := by decide +kernel
theorem dX12_ahead_142 : decode cX12_ahead 142 = .ok (.aload_n 0, 1) := by decide +kernel
theorem dX12_ahead_143 : decode cX12_ahead 143 = .ok (.ldc 138, 2) := by decide +kernel
theorem dX12_ahead_145 : decode cX12_ahead 145 = .ok (.bipush 10, 2) := by decide +kernel
theorem dX12_ahead_147 : decode cX12_ahead 147 = .ok (.aload_n 0, 1) := by decide +kernel
theorem dX12_ahead_148 : decode cX12_ahead 148 = .ok (.getfield 126, 3) := by decide +kernel
theorem dX12_ahead_151 : decode cX12_ahead 151 = .ok (.imul, 1) := by decide +kernel
theorem dX12_ahead_152 : decode cX12_ahead 152 = .ok (.aload_n 0, 1) := by decide +kernel
theorem dX12_ahead_153 : decode cX12_ahead 153 = .ok (.aload_n 0, 1) := by decide +kernel
theorem dX12_ahead_154 : decode cX12_ahead 154 = .ok (.getfield 117, 3) := by decide +kernel
theorem dX12_ahead_157 : decode cX12_ahead 157 = .ok (.invokevirtual 120, 3) := by decide +kernel
theorem dX12_ahead_160 : decode cX12_ahead 160 = .ok (.iadd, 1) := by decide +kernel
theorem dX12_ahead_161 : decode cX12_ahead 161 = .ok (.bipush 48, 2) := by decide +kernel
theorem dX12_ahead_163 : decode cX12_ahead 163 = .ok (.isub, 1) := by decide +kernel
theorem dX12_ahead_164 : decode cX12_ahead 164 = .ok (.invokestatic 139, 3) := by decide +kernel
theorem dX12_ahead_167 : decode cX12_ahead 167 = .ok (.putfield 126, 3) := by decide +kernel
theorem dX12_ahead_170 : decode cX12_ahead 170 = .ok (.aload_n 0, 1) := by decide +kernel
theorem dX12_ahead_171 : decode cX12_ahead 171 = .ok (.dup, 1) := by decide +kernel
theorem dX12_ahead_172 : decode cX12_ahead 172 = .ok (.getfield 117, 3) := by decide +kernel
theorem dX12_ahead_175 : decode cX12_ahead 175 = .ok (.iconst 1, 1) := by decide +kernel
theorem dX12_ahead_176 : decode cX12_ahead 176 = .ok (.iadd, 1) := by decide +kernel
theorem dX12_ahead_177 : decode cX12_ahead 177 = .ok (.putfield 117, 3) := by decide +kernel
theorem dX12_ahead_180 : decode cX12_ahead 180 = .ok (.goto (-52), 3) := by decide +kernel
theorem dX12_ahead_183 : decode cX12_ahead 183 = .ok (.aload_n 0, 1) := by decide +kernel
theorem dX12_ahead_184 : decode cX12_ahead 184 = .ok (.aload_n 0, 1) := by decide +kernel
theorem dX12_ahead_185 : decode cX12_ahead 185 = .ok (.getfield 117, 3) := by decide +kernel
theorem dX12_ahead_188 : decode cX12_ahead 188 = .ok (.aload_n 0, 1) := by decide +kernel
theorem dX12_ahead_189 : decode cX12_ahead 189 = .ok (.getfield 123, 3) := by decide +kernel
theorem dX12_ahead_192 : decode cX12_ahead 192 = .ok (.isub, 1) := by decide +kernel
theorem dX12_ahead_193 : decode cX12_ahead 193 = .ok (.iconst 4, 1) := by decide +kernel
theorem dX12_ahead_194 : decode cX12_ahead 194 = .ok (.if_icmp .le 7, 3) := by decide +kernel
theorem dX12_ahead_197 : decode cX12_ahead 197 = .ok (.iconst 1, 1) := by decide +kernel
theorem dX12_ahead_198 : decode cX12_ahead 198 = .ok (.goto 4, 3) := by decide +kernel
theorem dX12_ahead_201 : decode cX12_ahead 201 = .ok (.iconst 3, 1) := by decide +kernel
theorem dX12_ahead_202 : decode cX12_ahead 202 = .ok (.putfield 129, 3) := by decide +kernel
theorem dX12_ahead_205 : decode cX12_ahead 205 = .ok (.goto 46, 3) := by decide +kernel
theorem dX12_ahead_208 : decode cX12_ahead 208 = .ok (.aload_n 0, 1) := by decide +kernel
theorem dX12_ahead_209 : decode cX12_ahead 209 = .ok (.dup, 1) := by decide +kernel
theorem dX12_ahead_210 : decode cX12_ahead 210 = .ok (.getfield 117, 3) := by decide +kernel
theorem dX12_ahead_213 : decode cX12_ahead 213 = .ok (.iconst 1, 1) := by decide +kernel
theorem dX12_ahead_214 : decode cX12_ahead 214 = .ok (.iadd, 1) := by decide +kernel
theorem dX12_ahead_215 : decode cX12_ahead 215 = .ok (.putfield 117, 3) := by decide +kernel
theorem dX12_ahead_218 : decode cX12_ahead 218 = .ok (.aload_n 0, 1) := by decide +kernel
theorem dX12_ahead_219 : decode cX12_ahead 219 = .ok (.iload_n 1, 1) := by decide +kernel
theorem dX12_ahead_220 : decode cX12_ahead 220 = .ok (.bipush 59, 2) := by decide +kernel
theorem dX12_ahead_222 : decode cX12_ahead 222 = .ok (.if_icmp .eq 21, 3) := by decide +kernel
theorem dX12_ahead_225 : decode cX12_ahead 225 = .ok (.iload_n 1, 1) := by decide +kernel
theorem dX12_ahead_226 : decode cX12_ahead 226 = .ok (.bipush 60, 2) := by decide +kernel
theorem dX12_ahead_228 : decode cX12_ahead 228 = .ok (.if_icmp .eq 15, 3) := by decide +kernel
theorem dX12_ahead_231 : decode cX12_ahead 231 = .ok (.iload_n 1, 1) := by decide +kernel
theorem dX12_ahead_232 : decode cX12_ahead 232 = .ok (.bipush 62, 2) := by decide +kernel
theorem dX12_ahead_234 : decode cX12_ahead 234 = .ok (.if_icmp .eq 9, 3) := by decide +kernel
theorem dX12_ahead_237 : decode cX12_ahead 237 = .ok (.iload_n 1, 1) := by decide +kernel
theorem dX12_ahead_238 : decode cX12_ahead 238 = .ok (.bipush 61, 2) := by decide +kernel
theorem dX12_ahead_240 : decode cX12_ahead 240 = .ok (.if_icmp .ne 7, 3) := by decide +kernel
theorem dX12_ahead_243 : decode cX12_ahead 243 = .ok (.iconst 4, 1) := by decide +kernel
theorem dX12_ahead_244 : decode cX12_ahead 244 = .ok (.goto 4, 3) := by decide +kernel
theorem dX12_ahead_247 : decode cX12_ahead 247 = .ok (.iconst 1, 1) := by decide +kernel
theorem dX12_ahead_248 : decode cX12_ahead 248 = .ok (.putfield 129, 3) := by decide +kernel
theorem dX12_ahead_251 : decode cX12_ahead 251 = .ok (.return_, 1) := by decide +kernel
theorem mv_X12_ahead : MV yX12_ahead RX12 cX12_ahead 2 none 0 := ⟨tb_1419, tb_1418, ts_44, tb_16, by decide +kernel, by decide +kernel, by decide +kernel⟩
def f_X12_ahead_b128 (fu : Nat) (m_text : Nat → Int32) (m_size : Int32) (k128 : Int32 → Int32 → Int32 → Int32 → Option (Int32 × Int32 × Int32 × Int32)) (m_token : Int32) (m_from : Int32) (m_end : Int32) (m_value : Int32) : Option (Int32 × Int32 × Int32 × Int32) := (f_X12_byteAt fu m_text m_size m_end).bind fun z_46 => (f_X12_isDigit fu z_46).bind fun z_47 => (if z_47 = 0 then (if (m_end - m_from) ≤ 4 then some (3, m_from, m_end, m_value) else some (1, m_from, m_end, m_value)) else (f_X12_byteAt fu m_text m_size m_end).bind fun z_50 => bnd (if (((10 * m_value) + z_50) - 48) < 100000 then (((10 * m_value) + z_50) - 48) else 100000) fun m_value_51 => bnd (m_end + 1) fun m_end_52 => k128 m_token m_from m_end_52 m_value_51)
def f_X12_ahead_l128 (fu : Nat) (m_text : Nat → Int32) (m_size : Int32) : Nat → Int32 → Int32 → Int32 → Int32 → Option (Int32 × Int32 × Int32 × Int32)
  | 0, _, _, _, _ => none
  | n + 1, m_token, m_from, m_end, m_value => f_X12_ahead_b128 fu m_text m_size (f_X12_ahead_l128 fu m_text m_size n) m_token m_from m_end m_value
def f_X12_ahead_b81 (fu : Nat) (m_text : Nat → Int32) (m_size : Int32) (k81 : Int32 → Int32 → Int32 → Int32 → Option (Int32 × Int32 × Int32 × Int32)) (m_token : Int32) (m_from : Int32) (m_end : Int32) (m_value : Int32) : Option (Int32 × Int32 × Int32 × Int32) := (f_X12_byteAt fu m_text m_size m_end).bind fun z_53 => (f_X12_isSmall fu z_53).bind fun z_54 => (if z_54 = 0 then some (2, m_from, m_end, m_value) else bnd (m_end + 1) fun m_end_56 => k81 m_token m_from m_end_56 m_value)
def f_X12_ahead_l81 (fu : Nat) (m_text : Nat → Int32) (m_size : Int32) : Nat → Int32 → Int32 → Int32 → Int32 → Option (Int32 × Int32 × Int32 × Int32)
  | 0, _, _, _, _ => none
  | n + 1, m_token, m_from, m_end, m_value => f_X12_ahead_b81 fu m_text m_size (f_X12_ahead_l81 fu m_text m_size n) m_token m_from m_end m_value
def f_X12_ahead_b0 (fu : Nat) (m_text : Nat → Int32) (m_size : Int32) (k0 : Int32 → Int32 → Int32 → Int32 → Option (Int32 × Int32 × Int32 × Int32)) (m_token : Int32) (m_from : Int32) (m_end : Int32) (m_value : Int32) : Option (Int32 × Int32 × Int32 × Int32) := (f_X12_byteAt fu m_text m_size m_end).bind fun z_57 => (if z_57 = 32 then bnd (m_end + 1) fun m_end_59 => k0 m_token m_from m_end_59 m_value else (f_X12_byteAt fu m_text m_size m_end).bind fun z_60 => (if z_60 = 10 then bnd (m_end + 1) fun m_end_73 => k0 m_token m_from m_end_73 m_value else (f_X12_byteAt fu m_text m_size m_end).bind fun z_62 => (if z_62 = (-1) then some (0, m_end, m_end, z_62) else (f_X12_isSmall fu z_62).bind fun z_64 => (if z_64 = 0 then (f_X12_isDigit fu z_62).bind fun z_66 => (if z_66 = 0 then bnd (m_end + 1) fun m_end_68 => (if z_62 = 59 then some (4, m_end, m_end_68, z_62) else (if z_62 = 60 then some (4, m_end, m_end_68, z_62) else (if z_62 = 62 then some (4, m_end, m_end_68, z_62) else (if z_62 = 61 then some (4, m_end, m_end_68, z_62) else some (1, m_end, m_end_68, z_62))))) else f_X12_ahead_l128 fu m_text m_size fu m_token m_end m_end 0) else f_X12_ahead_l81 fu m_text m_size fu m_token m_end m_end z_62))))
def f_X12_ahead_l0 (fu : Nat) (m_text : Nat → Int32) (m_size : Int32) : Nat → Int32 → Int32 → Int32 → Int32 → Option (Int32 × Int32 × Int32 × Int32)
  | 0, _, _, _, _ => none
  | n + 1, m_token, m_from, m_end, m_value => f_X12_ahead_b0 fu m_text m_size (f_X12_ahead_l0 fu m_text m_size n) m_token m_from m_end m_value
def f_X12_ahead (fu : Nat) (m_text : Nat → Int32) (m_size : Int32) (m_token : Int32) (m_from : Int32) (m_end : Int32) (m_value : Int32) : Option (Int32 × Int32 × Int32 × Int32) := f_X12_ahead_l0 fu m_text m_size fu m_token m_from m_end m_value
abbrev rm_X12_ahead : Room := { frames := 1, cells := 0, slots := 0, locals := 40 }
set_option maxHeartbeats 4000000 in
set_option maxRecDepth 100000 in
theorem c_X12_ahead (l : Launch) (D : va_G) (cy : Nat → ClassId) (fu : Nat) (A_m : Nat → Nat) (m_at : Nat → Int32) (m_names : Nat → Int64) (m_status : Int32) (m_top : Int64) (m_bottom : Int64) (m_sort : Nat → Int32) (m_trayMany : Nat → Int32) (m_trays : Nat → Int64) (m_tape : Nat → Int32) (m_text : Nat → Int32) (m_taped : Int32) (m_size : Int32) (m_token : Int32) (m_from : Int32) (m_end : Int32) (m_value : Int32) (m_faultKind : Int32) (m_faultPlace : Int32) (m_faults : Int32) (m_seen : Int32) (m_toldParts : Int32) (m_opened : Nat → Int32) (m_depth : Int32) (m_counted : Int32) (m_bestOrder : Int32) (m_standers : Nat → Int32) (m_has : Nat → Int32) (m_bestHas : Nat → Int32) (m_standerMany : Int32) (m_bestCouples : Int32) (m_bestFondness : Int32) (m_cameTo : Nat → Int32) (m_doesStandFirst : Int32) (m_stoodBy : Nat → Int64) (m_drawn : Int32) (m_ranSteps : Int32) (m_loops : Nat → Int32) (m_ran : Nat → Int32) (m_told1 : Nat → Int32) (m_isTold : Int32) (m_marks : Int32) (res : Int32 × Int32 × Int32 × Int32) (h : f_X12_ahead fu m_text m_size m_token m_from m_end m_value = some res) (A : Nat → Prop) (hA : A = adr [bl_X12 cy A_m m_at m_names m_status m_top m_bottom m_sort m_trayMany m_trays m_tape m_text m_taped m_size m_token m_from m_end m_value m_faultKind m_faultPlace m_faults m_seen m_toldParts m_opened m_depth m_counted m_bestOrder m_standers m_has m_bestHas m_standerMany m_bestCouples m_bestFondness m_cameTo m_doesStandFirst m_stoodBy m_drawn m_ranSteps m_loops m_ran m_told1 m_isTold m_marks]) (W1 : List va_W) (hW1 : W1 = [bl_X12 cy A_m m_at m_names m_status m_top m_bottom m_sort m_trayMany m_trays m_tape m_text m_taped m_size res.1 res.2.1 res.2.2.1 res.2.2.2 m_faultKind m_faultPlace m_faults m_seen m_toldParts m_opened m_depth m_counted m_bestOrder m_standers m_has m_bestHas m_standerMany m_bestCouples m_bestFondness m_cameTo m_doesStandFirst m_stoodBy m_drawn m_ranSteps m_loops m_ran m_told1 m_isTold m_marks]) : Met l yX12_ahead (WW yX12_ahead cX12_ahead 2 none) rm_X12_ahead (Ed D cy [.ref (A_m 0)] [bl_X12 cy A_m m_at m_names m_status m_top m_bottom m_sort m_trayMany m_trays m_tape m_text m_taped m_size m_token m_from m_end m_value m_faultKind m_faultPlace m_faults m_seen m_toldParts m_opened m_depth m_counted m_bestOrder m_standers m_has m_bestHas m_standerMany m_bestCouples m_bestFondness m_cameTo m_doesStandFirst m_stoodBy m_drawn m_ranSteps m_loops m_ran m_told1 m_isTold m_marks]) (Qev D A W1) 0 0 A := by
  refine Met.ofW (cc := cX12_ahead) (maxL := 2) (ret := none) (by decide) rfl ?_
  intro p e s m args below meth c s₁ B hml hv
  obtain ⟨hargs, hP, hX, hD0⟩ := hv
  have hx := B.exec
  have hb := B.bytes
  have hr := B.returns
  have ht : ∀ w ∈ lw_gd, w.before args s = true := fun w hw => atoms_spec (ws := WW yX12_ahead cX12_ahead 2 none) B.pre w (List.mem_cons_of_mem _ hw)
  have hown : s.vm.findClass RX12 = some m.cls := findClass_of_methodNamed B.named
  have hlocks := B.notSynchronized
  have hP : PD D A [bl_X12 cy A_m m_at m_names m_status m_top m_bottom m_sort m_trayMany m_trays m_tape m_text m_taped m_size m_token m_from m_end m_value m_faultKind m_faultPlace m_faults m_seen m_toldParts m_opened m_depth m_counted m_bestOrder m_standers m_has m_bestHas m_standerMany m_bestCouples m_bestFondness m_cameTo m_doesStandFirst m_stoodBy m_drawn m_ranSteps m_loops m_ran m_told1 m_isTold m_marks] s.heap := ⟨hP, by rw [hA]; exact hD0.own⟩
  have hS : va_S A s.heap s.heap [] := va_S.rf
  obtain ⟨ls, hl, hent⟩ := ent (m := m) (n := 2) hargs (Nat.le_of_ble_eq_true rfl) (lv := [(0, .ref (A_m 0))]) rfl
  rw [hent]
  clear hent
  have l128 : ∀ (n128 : Nat) (m_token : Int32) (m_from : Int32) (m_end : Int32) (m_value : Int32) (H : Heap) (locs : List Loc) (_ : PD D A [bl_X12 cy A_m m_at m_names m_status m_top m_bottom m_sort m_trayMany m_trays m_tape m_text m_taped m_size m_token m_from m_end m_value m_faultKind m_faultPlace m_faults m_seen m_toldParts m_opened m_depth m_counted m_bestOrder m_standers m_has m_bestHas m_standerMany m_bestCouples m_bestFondness m_cameTo m_doesStandFirst m_stoodBy m_drawn m_ranSteps m_loops m_ran m_told1 m_isTold m_marks] H) (_ : va_S A s.heap H locs) (ls : Array Slot), lv_has ls 2 [(0, .ref (A_m 0))] → f_X12_ahead_l128 fu m_text m_size n128 m_token m_from m_end m_value = some res → W p l e (headSpec (WW yX12_ahead cX12_ahead 2 none) rm_X12_ahead).room s m args below meth c H locs 0 0 (MQ below (Qev D A W1) args s 0 0 A) (F0 m 128 ls []) := by
    intro n128
    induction n128 with
    | zero => intro m_token m_from m_end m_value H locs hP hS ls hl h; cases h
    | succ n128 ih128 =>
      intro m_token m_from m_end m_value H locs hP hS ls hl h
      have h : f_X12_ahead_b128 fu m_text m_size (f_X12_ahead_l128 fu m_text m_size n128) m_token m_from m_end m_value = some res := h
      unfold f_X12_ahead_b128 at h
      refine lv_aload_n hx hb dX12_ahead_128 rfl (lv_at hl 0 rfl) ?_
      refine lv_aload_n hx hb dX12_ahead_129 rfl (lv_at hl 0 rfl) ?_
      refine xget (i := 0) (j := 0) (k := 14) (T := TX12) hx hb ht tb_iX12 hown hX hP.1 rfl rfl rfl (by decide) tb_1243 rfl dX12_ahead_130 ?_
      obtain ⟨z_46, e_z_46, h⟩ := bi h
      refine roVi (rest := []) ⟨hx, hb, hml, hown, ht⟩ (c_X12_byteAt l D cy fu A_m m_at m_names m_status m_top m_bottom m_sort m_trayMany m_trays m_tape m_text m_taped m_size m_token m_from m_end m_value m_faultKind m_faultPlace m_faults m_seen m_toldParts m_opened m_depth m_counted m_bestOrder m_standers m_has m_bestHas m_standerMany m_bestCouples m_bestFondness m_cameTo m_doesStandFirst m_stoodBy m_drawn m_ranSteps m_loops m_ran m_told1 m_isTold m_marks m_end z_46 e_z_46) (cV ht mv_X12_byteAt tb_1420 rfl rfl ⟨Nat.le_of_ble_eq_true rfl, Nat.le_of_ble_eq_true rfl⟩) (P_sub hP.1 [0] rfl) hX rfl rfl rfl hl.1 rfl (Nat.le_of_ble_eq_true rfl) dX12_ahead_133 ⟨Nat.le_of_ble_eq_true rfl, Nat.le_of_ble_eq_true rfl⟩ ?_
      obtain ⟨z_47, e_z_47, h⟩ := bi h
      refine roSi (rest := []) ⟨hx, hb, hml, hown, ht⟩ (c_X12_isDigit l D cy fu  z_46 z_47 e_z_47) (cS ht ms_X12_isDigit tb_1427 rfl rfl ⟨Nat.le_of_ble_eq_true rfl, Nat.le_of_ble_eq_true rfl⟩) (P_sub hP.1 [] rfl) hX rfl hl.1 rfl (Nat.le_of_ble_eq_true rfl) dX12_ahead_136 ⟨Nat.le_of_ble_eq_true rfl, Nat.le_of_ble_eq_true rfl⟩ ?_
      refine lv_if_eq (tgt := 183) hx hb dX12_ahead_139 (by decide) (fun c_48 => ?_) (fun c_48 => ?_)
      · have h := it c_48 h
        refine lv_aload_n hx hb dX12_ahead_183 rfl (lv_at hl 0 rfl) ?_
        refine lv_aload_n hx hb dX12_ahead_184 rfl (lv_at hl 0 rfl) ?_
        refine xget (i := 0) (j := 0) (k := 14) (T := TX12) hx hb ht tb_iX12 hown hX hP.1 rfl rfl rfl (by decide) tb_1243 rfl dX12_ahead_185 ?_
        refine lv_aload_n hx hb dX12_ahead_188 rfl (lv_at hl 0 rfl) ?_
        refine xget (i := 0) (j := 0) (k := 13) (T := TX12) hx hb ht tb_iX12 hown hX hP.1 rfl rfl rfl (by decide) tb_1242 rfl dX12_ahead_189 ?_
        refine lv_isub hx hb dX12_ahead_192 ?_
        refine lv_iconst (v := 4) hx hb dX12_ahead_193 (by decide) ?_
        refine lv_icmp_le (tgt := 201) hx hb dX12_ahead_194 (by decide) (fun c_49 => ?_) (fun c_49 => ?_)
        · have h := it c_49 h
          refine lv_iconst (v := 3) hx hb dX12_ahead_201 (by decide) ?_
          refine xput (i := 0) (j := 0) (k := 12) (T := TX12) tyX12 tyX12_ok nmX12 hx hb ht tb_iX12 hown hX hP hS rfl rfl rfl (by decide) tb_1241 rfl rfl rfl (Nat.le_of_ble_eq_true rfl) dX12_ahead_202 (fun H locs hP hS => ?_)
          have hP : PD D A [bl_X12 cy A_m m_at m_names m_status m_top m_bottom m_sort m_trayMany m_trays m_tape m_text m_taped m_size 3 m_from m_end m_value m_faultKind m_faultPlace m_faults m_seen m_toldParts m_opened m_depth m_counted m_bestOrder m_standers m_has m_bestHas m_standerMany m_bestCouples m_bestFondness m_cameTo m_doesStandFirst m_stoodBy m_drawn m_ranSteps m_loops m_ran m_told1 m_isTold m_marks] H := hP
          refine lv_goto (tgt := 251) hx hb dX12_ahead_205 (by decide) ?_
          cases h
          subst hW1
          exact W.vret hx hb hr (fun _ ht9 _ => ⟨⟨(), rfl, trivial, hPt ht9 hP.1⟩, hS.F ht9⟩) hS.2.2 dX12_ahead_251
        · have h := ie c_49 h
          refine lv_iconst (v := 1) hx hb dX12_ahead_197 (by decide) ?_
          refine lv_goto (tgt := 202) hx hb dX12_ahead_198 (by decide) ?_
          refine xput (i := 0) (j := 0) (k := 12) (T := TX12) tyX12 tyX12_ok nmX12 hx hb ht tb_iX12 hown hX hP hS rfl rfl rfl (by decide) tb_1241 rfl rfl rfl (Nat.le_of_ble_eq_true rfl) dX12_ahead_202 (fun H locs hP hS => ?_)
          have hP : PD D A [bl_X12 cy A_m m_at m_names m_status m_top m_bottom m_sort m_trayMany m_trays m_tape m_text m_taped m_size 1 m_from m_end m_value m_faultKind m_faultPlace m_faults m_seen m_toldParts m_opened m_depth m_counted m_bestOrder m_standers m_has m_bestHas m_standerMany m_bestCouples m_bestFondness m_cameTo m_doesStandFirst m_stoodBy m_drawn m_ranSteps m_loops m_ran m_told1 m_isTold m_marks] H := hP
          refine lv_goto (tgt := 251) hx hb dX12_ahead_205 (by decide) ?_
          cases h
          subst hW1
          exact W.vret hx hb hr (fun _ ht9 _ => ⟨⟨(), rfl, trivial, hPt ht9 hP.1⟩, hS.F ht9⟩) hS.2.2 dX12_ahead_251
      · have h := ie c_48 h
        refine lv_aload_n hx hb dX12_ahead_142 rfl (lv_at hl 0 rfl) ?_
        refine lv_ldc (v := 100000) hx hb hown (ht _ tb_1430) dX12_ahead_143 ?_
        refine lv_bipush (v := 10) hx hb dX12_ahead_145 (by decide) ?_
        refine lv_aload_n hx hb dX12_ahead_147 rfl (lv_at hl 0 rfl) ?_
        refine xget (i := 0) (j := 0) (k := 15) (T := TX12) hx hb ht tb_iX12 hown hX hP.1 rfl rfl rfl (by decide) tb_1244 rfl dX12_ahead_148 ?_
        refine lv_imul hx hb dX12_ahead_151 ?_
        refine lv_aload_n hx hb dX12_ahead_152 rfl (lv_at hl 0 rfl) ?_
        refine lv_aload_n hx hb dX12_ahead_153 rfl (lv_at hl 0 rfl) ?_
        refine xget (i := 0) (j := 0) (k := 14) (T := TX12) hx hb ht tb_iX12 hown hX hP.1 rfl rfl rfl (by decide) tb_1243 rfl dX12_ahead_154 ?_
        obtain ⟨z_50, e_z_50, h⟩ := bi h
        refine roVi (rest := [.int (10 * m_value), .int 100000, .ref (A_m 0)]) ⟨hx, hb, hml, hown, ht⟩ (c_X12_byteAt l D cy fu A_m m_at m_names m_status m_top m_bottom m_sort m_trayMany m_trays m_tape m_text m_taped m_size m_token m_from m_end m_value m_faultKind m_faultPlace m_faults m_seen m_toldParts m_opened m_depth m_counted m_bestOrder m_standers m_has m_bestHas m_standerMany m_bestCouples m_bestFondness m_cameTo m_doesStandFirst m_stoodBy m_drawn m_ranSteps m_loops m_ran m_told1 m_isTold m_marks m_end z_50 e_z_50) (cV ht mv_X12_byteAt tb_1420 rfl rfl ⟨Nat.le_of_ble_eq_true rfl, Nat.le_of_ble_eq_true rfl⟩) (P_sub hP.1 [0] rfl) hX rfl rfl rfl hl.1 rfl (Nat.le_of_ble_eq_true rfl) dX12_ahead_157 ⟨Nat.le_of_ble_eq_true rfl, Nat.le_of_ble_eq_true rfl⟩ ?_
        refine lv_iadd hx hb dX12_ahead_160 ?_
        refine lv_bipush (v := 48) hx hb dX12_ahead_161 (by decide) ?_
        refine lv_isub hx hb dX12_ahead_163 ?_
        refine va_mmin hx hb (hml.trans hl.1.symm) hown (ht _ tb_1431) (ht _ tb_583) (ht _ tb_19) (ht _ tb_584) (Nat.le_of_ble_eq_true rfl) (Nat.le_of_ble_eq_true rfl) (Nat.le_of_ble_eq_true rfl) (Nat.le_of_ble_eq_true rfl) dX12_ahead_164 ?_
        refine lv_topi (fun m_value_51 e_m_value_51 => ?_)
        have h := bn e_m_value_51 h
        refine xput (i := 0) (j := 0) (k := 15) (T := TX12) tyX12 tyX12_ok nmX12 hx hb ht tb_iX12 hown hX hP hS rfl rfl rfl (by decide) tb_1244 rfl rfl rfl (Nat.le_of_ble_eq_true rfl) dX12_ahead_167 (fun H locs hP hS => ?_)
        have hP : PD D A [bl_X12 cy A_m m_at m_names m_status m_top m_bottom m_sort m_trayMany m_trays m_tape m_text m_taped m_size m_token m_from m_end m_value_51 m_faultKind m_faultPlace m_faults m_seen m_toldParts m_opened m_depth m_counted m_bestOrder m_standers m_has m_bestHas m_standerMany m_bestCouples m_bestFondness m_cameTo m_doesStandFirst m_stoodBy m_drawn m_ranSteps m_loops m_ran m_told1 m_isTold m_marks] H := hP
        refine lv_aload_n hx hb dX12_ahead_170 rfl (lv_at hl 0 rfl) ?_
        refine lv_dup hx hb dX12_ahead_171 rfl ?_
        refine xget (i := 0) (j := 0) (k := 14) (T := TX12) hx hb ht tb_iX12 hown hX hP.1 rfl rfl rfl (by decide) tb_1243 rfl dX12_ahead_172 ?_
        refine lv_iconst (v := 1) hx hb dX12_ahead_175 (by decide) ?_
        refine lv_iadd hx hb dX12_ahead_176 ?_
        refine lv_topi (fun m_end_52 e_m_end_52 => ?_)
        have h := bn e_m_end_52 h
        refine xput (i := 0) (j := 0) (k := 14) (T := TX12) tyX12 tyX12_ok nmX12 hx hb ht tb_iX12 hown hX hP hS rfl rfl rfl (by decide) tb_1243 rfl rfl rfl (Nat.le_of_ble_eq_true rfl) dX12_ahead_177 (fun H locs hP hS => ?_)
        have hP : PD D A [bl_X12 cy A_m m_at m_names m_status m_top m_bottom m_sort m_trayMany m_trays m_tape m_text m_taped m_size m_token m_from m_end_52 m_value_51 m_faultKind m_faultPlace m_faults m_seen m_toldParts m_opened m_depth m_counted m_bestOrder m_standers m_has m_bestHas m_standerMany m_bestCouples m_bestFondness m_cameTo m_doesStandFirst m_stoodBy m_drawn m_ranSteps m_loops m_ran m_told1 m_isTold m_marks] H := hP
        refine lv_goto (tgt := 128) hx hb dX12_ahead_180 (by decide) ?_
        exact ih128 m_token m_from m_end_52 m_value_51 _ _ hP hS ls (lv_sub hl [0] rfl) h
  have l81 : ∀ (n81 : Nat) (m_token : Int32) (m_from : Int32) (m_end : Int32) (m_value : Int32) (H : Heap) (locs : List Loc) (_ : PD D A [bl_X12 cy A_m m_at m_names m_status m_top m_bottom m_sort m_trayMany m_trays m_tape m_text m_taped m_size m_token m_from m_end m_value m_faultKind m_faultPlace m_faults m_seen m_toldParts m_opened m_depth m_counted m_bestOrder m_standers m_has m_bestHas m_standerMany m_bestCouples m_bestFondness m_cameTo m_doesStandFirst m_stoodBy m_drawn m_ranSteps m_loops m_ran m_told1 m_isTold m_marks] H) (_ : va_S A s.heap H locs) (ls : Array Slot), lv_has ls 2 [(0, .ref (A_m 0))] → f_X12_ahead_l81 fu m_text m_size n81 m_token m_from m_end m_value = some res → W p l e (headSpec (WW yX12_ahead cX12_ahead 2 none) rm_X12_ahead).room s m args below meth c H locs 0 0 (MQ below (Qev D A W1) args s 0 0 A) (F0 m 81 ls []) := by
    intro n81
    induction n81 with
    | zero => intro m_token m_from m_end m_value H locs hP hS ls hl h; cases h
    | succ n81 ih81 =>
      intro m_token m_from m_end m_value H locs hP hS ls hl h
      have h : f_X12_ahead_b81 fu m_text m_size (f_X12_ahead_l81 fu m_text m_size n81) m_token m_from m_end m_value = some res := h
      unfold f_X12_ahead_b81 at h
      refine lv_aload_n hx hb dX12_ahead_81 rfl (lv_at hl 0 rfl) ?_
      refine lv_aload_n hx hb dX12_ahead_82 rfl (lv_at hl 0 rfl) ?_
      refine xget (i := 0) (j := 0) (k := 14) (T := TX12) hx hb ht tb_iX12 hown hX hP.1 rfl rfl rfl (by decide) tb_1243 rfl dX12_ahead_83 ?_
      obtain ⟨z_53, e_z_53, h⟩ := bi h
      refine roVi (rest := []) ⟨hx, hb, hml, hown, ht⟩ (c_X12_byteAt l D cy fu A_m m_at m_names m_status m_top m_bottom m_sort m_trayMany m_trays m_tape m_text m_taped m_size m_token m_from m_end m_value m_faultKind m_faultPlace m_faults m_seen m_toldParts m_opened m_depth m_counted m_bestOrder m_standers m_has m_bestHas m_standerMany m_bestCouples m_bestFondness m_cameTo m_doesStandFirst m_stoodBy m_drawn m_ranSteps m_loops m_ran m_told1 m_isTold m_marks m_end z_53 e_z_53) (cV ht mv_X12_byteAt tb_1420 rfl rfl ⟨Nat.le_of_ble_eq_true rfl, Nat.le_of_ble_eq_true rfl⟩) (P_sub hP.1 [0] rfl) hX rfl rfl rfl hl.1 rfl (Nat.le_of_ble_eq_true rfl) dX12_ahead_86 ⟨Nat.le_of_ble_eq_true rfl, Nat.le_of_ble_eq_true rfl⟩ ?_
      obtain ⟨z_54, e_z_54, h⟩ := bi h
      refine roSi (rest := []) ⟨hx, hb, hml, hown, ht⟩ (c_X12_isSmall l D cy fu  z_53 z_54 e_z_54) (cS ht ms_X12_isSmall tb_1424 rfl rfl ⟨Nat.le_of_ble_eq_true rfl, Nat.le_of_ble_eq_true rfl⟩) (P_sub hP.1 [] rfl) hX rfl hl.1 rfl (Nat.le_of_ble_eq_true rfl) dX12_ahead_89 ⟨Nat.le_of_ble_eq_true rfl, Nat.le_of_ble_eq_true rfl⟩ ?_
      refine lv_if_eq (tgt := 108) hx hb dX12_ahead_92 (by decide) (fun c_55 => ?_) (fun c_55 => ?_)
      · have h := it c_55 h
        refine lv_aload_n hx hb dX12_ahead_108 rfl (lv_at hl 0 rfl) ?_
        refine lv_iconst (v := 2) hx hb dX12_ahead_109 (by decide) ?_
        refine xput (i := 0) (j := 0) (k := 12) (T := TX12) tyX12 tyX12_ok nmX12 hx hb ht tb_iX12 hown hX hP hS rfl rfl rfl (by decide) tb_1241 rfl rfl rfl (Nat.le_of_ble_eq_true rfl) dX12_ahead_110 (fun H locs hP hS => ?_)
        have hP : PD D A [bl_X12 cy A_m m_at m_names m_status m_top m_bottom m_sort m_trayMany m_trays m_tape m_text m_taped m_size 2 m_from m_end m_value m_faultKind m_faultPlace m_faults m_seen m_toldParts m_opened m_depth m_counted m_bestOrder m_standers m_has m_bestHas m_standerMany m_bestCouples m_bestFondness m_cameTo m_doesStandFirst m_stoodBy m_drawn m_ranSteps m_loops m_ran m_told1 m_isTold m_marks] H := hP
        refine lv_goto (tgt := 251) hx hb dX12_ahead_113 (by decide) ?_
        cases h
        subst hW1
        exact W.vret hx hb hr (fun _ ht9 _ => ⟨⟨(), rfl, trivial, hPt ht9 hP.1⟩, hS.F ht9⟩) hS.2.2 dX12_ahead_251
      · have h := ie c_55 h
        refine lv_aload_n hx hb dX12_ahead_95 rfl (lv_at hl 0 rfl) ?_
        refine lv_dup hx hb dX12_ahead_96 rfl ?_
        refine xget (i := 0) (j := 0) (k := 14) (T := TX12) hx hb ht tb_iX12 hown hX hP.1 rfl rfl rfl (by decide) tb_1243 rfl dX12_ahead_97 ?_
        refine lv_iconst (v := 1) hx hb dX12_ahead_100 (by decide) ?_
        refine lv_iadd hx hb dX12_ahead_101 ?_
        refine lv_topi (fun m_end_56 e_m_end_56 => ?_)
        have h := bn e_m_end_56 h
        refine xput (i := 0) (j := 0) (k := 14) (T := TX12) tyX12 tyX12_ok nmX12 hx hb ht tb_iX12 hown hX hP hS rfl rfl rfl (by decide) tb_1243 rfl rfl rfl (Nat.le_of_ble_eq_true rfl) dX12_ahead_102 (fun H locs hP hS => ?_)
        have hP : PD D A [bl_X12 cy A_m m_at m_names m_status m_top m_bottom m_sort m_trayMany m_trays m_tape m_text m_taped m_size m_token m_from m_end_56 m_value m_faultKind m_faultPlace m_faults m_seen m_toldParts m_opened m_depth m_counted m_bestOrder m_standers m_has m_bestHas m_standerMany m_bestCouples m_bestFondness m_cameTo m_doesStandFirst m_stoodBy m_drawn m_ranSteps m_loops m_ran m_told1 m_isTold m_marks] H := hP
        refine lv_goto (tgt := 81) hx hb dX12_ahead_105 (by decide) ?_
        exact ih81 m_token m_from m_end_56 m_value _ _ hP hS ls (lv_sub hl [0] rfl) h
  have l0 : ∀ (n0 : Nat) (m_token : Int32) (m_from : Int32) (m_end : Int32) (m_value : Int32) (H : Heap) (locs : List Loc) (_ : PD D A [bl_X12 cy A_m m_at m_names m_status m_top m_bottom m_sort m_trayMany m_trays m_tape m_text m_taped m_size m_token m_from m_end m_value m_faultKind m_faultPlace m_faults m_seen m_toldParts m_opened m_depth m_counted m_bestOrder m_standers m_has m_bestHas m_standerMany m_bestCouples m_bestFondness m_cameTo m_doesStandFirst m_stoodBy m_drawn m_ranSteps m_loops m_ran m_told1 m_isTold m_marks] H) (_ : va_S A s.heap H locs) (ls : Array Slot), lv_has ls 2 [(0, .ref (A_m 0))] → f_X12_ahead_l0 fu m_text m_size n0 m_token m_from m_end m_value = some res → W p l e (headSpec (WW yX12_ahead cX12_ahead 2 none) rm_X12_ahead).room s m args below meth c H locs 0 0 (MQ below (Qev D A W1) args s 0 0 A) (F0 m 0 ls []) := by
    intro n0
    induction n0 with
    | zero => intro m_token m_from m_end m_value H locs hP hS ls hl h; cases h
    | succ n0 ih0 =>
      intro m_token m_from m_end m_value H locs hP hS ls hl h
      have h : f_X12_ahead_b0 fu m_text m_size (f_X12_ahead_l0 fu m_text m_size n0) m_token m_from m_end m_value = some res := h
      unfold f_X12_ahead_b0 at h
      refine lv_aload_n hx hb dX12_ahead_0 rfl (lv_at hl 0 rfl) ?_
      refine lv_aload_n hx hb dX12_ahead_1 rfl (lv_at hl 0 rfl) ?_
      refine xget (i := 0) (j := 0) (k := 14) (T := TX12) hx hb ht tb_iX12 hown hX hP.1 rfl rfl rfl (by decide) tb_1243 rfl dX12_ahead_2 ?_
      obtain ⟨z_57, e_z_57, h⟩ := bi h
      refine roVi (rest := []) ⟨hx, hb, hml, hown, ht⟩ (c_X12_byteAt l D cy fu A_m m_at m_names m_status m_top m_bottom m_sort m_trayMany m_trays m_tape m_text m_taped m_size m_token m_from m_end m_value m_faultKind m_faultPlace m_faults m_seen m_toldParts m_opened m_depth m_counted m_bestOrder m_standers m_has m_bestHas m_standerMany m_bestCouples m_bestFondness m_cameTo m_doesStandFirst m_stoodBy m_drawn m_ranSteps m_loops m_ran m_told1 m_isTold m_marks m_end z_57 e_z_57) (cV ht mv_X12_byteAt tb_1420 rfl rfl ⟨Nat.le_of_ble_eq_true rfl, Nat.le_of_ble_eq_true rfl⟩) (P_sub hP.1 [0] rfl) hX rfl rfl rfl hl.1 rfl (Nat.le_of_ble_eq_true rfl) dX12_ahead_5 ⟨Nat.le_of_ble_eq_true rfl, Nat.le_of_ble_eq_true rfl⟩ ?_
      refine lv_bipush (v := 32) hx hb dX12_ahead_8 (by decide) ?_
      refine lv_icmp_eq (tgt := 26) hx hb dX12_ahead_10 (by decide) (fun c_58 => ?_) (fun c_58 => ?_)
      · have h := it c_58 h
        refine lv_aload_n hx hb dX12_ahead_26 rfl (lv_at hl 0 rfl) ?_
        refine lv_dup hx hb dX12_ahead_27 rfl ?_
        refine xget (i := 0) (j := 0) (k := 14) (T := TX12) hx hb ht tb_iX12 hown hX hP.1 rfl rfl rfl (by decide) tb_1243 rfl dX12_ahead_28 ?_
        refine lv_iconst (v := 1) hx hb dX12_ahead_31 (by decide) ?_
        refine lv_iadd hx hb dX12_ahead_32 ?_
        refine lv_topi (fun m_end_59 e_m_end_59 => ?_)
        have h := bn e_m_end_59 h
        refine xput (i := 0) (j := 0) (k := 14) (T := TX12) tyX12 tyX12_ok nmX12 hx hb ht tb_iX12 hown hX hP hS rfl rfl rfl (by decide) tb_1243 rfl rfl rfl (Nat.le_of_ble_eq_true rfl) dX12_ahead_33 (fun H locs hP hS => ?_)
        have hP : PD D A [bl_X12 cy A_m m_at m_names m_status m_top m_bottom m_sort m_trayMany m_trays m_tape m_text m_taped m_size m_token m_from m_end_59 m_value m_faultKind m_faultPlace m_faults m_seen m_toldParts m_opened m_depth m_counted m_bestOrder m_standers m_has m_bestHas m_standerMany m_bestCouples m_bestFondness m_cameTo m_doesStandFirst m_stoodBy m_drawn m_ranSteps m_loops m_ran m_told1 m_isTold m_marks] H := hP
        refine lv_goto (tgt := 0) hx hb dX12_ahead_36 (by decide) ?_
        exact ih0 m_token m_from m_end_59 m_value _ _ hP hS ls (lv_sub hl [0] rfl) h
      · have h := ie c_58 h
        refine lv_aload_n hx hb dX12_ahead_13 rfl (lv_at hl 0 rfl) ?_
        refine lv_aload_n hx hb dX12_ahead_14 rfl (lv_at hl 0 rfl) ?_
        refine xget (i := 0) (j := 0) (k := 14) (T := TX12) hx hb ht tb_iX12 hown hX hP.1 rfl rfl rfl (by decide) tb_1243 rfl dX12_ahead_15 ?_
        obtain ⟨z_60, e_z_60, h⟩ := bi h
        refine roVi (rest := []) ⟨hx, hb, hml, hown, ht⟩ (c_X12_byteAt l D cy fu A_m m_at m_names m_status m_top m_bottom m_sort m_trayMany m_trays m_tape m_text m_taped m_size m_token m_from m_end m_value m_faultKind m_faultPlace m_faults m_seen m_toldParts m_opened m_depth m_counted m_bestOrder m_standers m_has m_bestHas m_standerMany m_bestCouples m_bestFondness m_cameTo m_doesStandFirst m_stoodBy m_drawn m_ranSteps m_loops m_ran m_told1 m_isTold m_marks m_end z_60 e_z_60) (cV ht mv_X12_byteAt tb_1420 rfl rfl ⟨Nat.le_of_ble_eq_true rfl, Nat.le_of_ble_eq_true rfl⟩) (P_sub hP.1 [0] rfl) hX rfl rfl rfl hl.1 rfl (Nat.le_of_ble_eq_true rfl) dX12_ahead_18 ⟨Nat.le_of_ble_eq_true rfl, Nat.le_of_ble_eq_true rfl⟩ ?_
        refine lv_bipush (v := 10) hx hb dX12_ahead_21 (by decide) ?_
        refine lv_icmp_ne (tgt := 39) hx hb dX12_ahead_23 (by decide) (fun c_61 => ?_) (fun c_61 => ?_)
        · have h := ie c_61 h
          refine lv_aload_n hx hb dX12_ahead_39 rfl (lv_at hl 0 rfl) ?_
          refine lv_aload_n hx hb dX12_ahead_40 rfl (lv_at hl 0 rfl) ?_
          refine xget (i := 0) (j := 0) (k := 14) (T := TX12) hx hb ht tb_iX12 hown hX hP.1 rfl rfl rfl (by decide) tb_1243 rfl dX12_ahead_41 ?_
          refine xput (i := 0) (j := 0) (k := 13) (T := TX12) tyX12 tyX12_ok nmX12 hx hb ht tb_iX12 hown hX hP hS rfl rfl rfl (by decide) tb_1242 rfl rfl rfl (Nat.le_of_ble_eq_true rfl) dX12_ahead_44 (fun H locs hP hS => ?_)
          have hP : PD D A [bl_X12 cy A_m m_at m_names m_status m_top m_bottom m_sort m_trayMany m_trays m_tape m_text m_taped m_size m_token m_end m_end m_value m_faultKind m_faultPlace m_faults m_seen m_toldParts m_opened m_depth m_counted m_bestOrder m_standers m_has m_bestHas m_standerMany m_bestCouples m_bestFondness m_cameTo m_doesStandFirst m_stoodBy m_drawn m_ranSteps m_loops m_ran m_told1 m_isTold m_marks] H := hP
          refine lv_aload_n hx hb dX12_ahead_47 rfl (lv_at hl 0 rfl) ?_
          refine lv_aload_n hx hb dX12_ahead_48 rfl (lv_at hl 0 rfl) ?_
          refine xget (i := 0) (j := 0) (k := 14) (T := TX12) hx hb ht tb_iX12 hown hX hP.1 rfl rfl rfl (by decide) tb_1243 rfl dX12_ahead_49 ?_
          obtain ⟨z_62, e_z_62, h⟩ := bi h
          refine roVi (rest := []) ⟨hx, hb, hml, hown, ht⟩ (c_X12_byteAt l D cy fu A_m m_at m_names m_status m_top m_bottom m_sort m_trayMany m_trays m_tape m_text m_taped m_size m_token m_end m_end m_value m_faultKind m_faultPlace m_faults m_seen m_toldParts m_opened m_depth m_counted m_bestOrder m_standers m_has m_bestHas m_standerMany m_bestCouples m_bestFondness m_cameTo m_doesStandFirst m_stoodBy m_drawn m_ranSteps m_loops m_ran m_told1 m_isTold m_marks m_end z_62 e_z_62) (cV ht mv_X12_byteAt tb_1420 rfl rfl ⟨Nat.le_of_ble_eq_true rfl, Nat.le_of_ble_eq_true rfl⟩) (P_sub hP.1 [0] rfl) hX rfl rfl rfl hl.1 rfl (Nat.le_of_ble_eq_true rfl) dX12_ahead_52 ⟨Nat.le_of_ble_eq_true rfl, Nat.le_of_ble_eq_true rfl⟩ ?_
          refine lv_istore_n (lv' := [(1, .int z_62), (0, .ref (A_m 0))]) hx hb dX12_ahead_55 rfl hl (by decide) rfl (fun ls hl => ?_)
          refine lv_aload_n hx hb dX12_ahead_56 rfl (lv_at hl 1 rfl) ?_
          refine lv_iload_n hx hb dX12_ahead_57 rfl (lv_at hl 0 rfl) ?_
          refine xput (i := 0) (j := 0) (k := 15) (T := TX12) tyX12 tyX12_ok nmX12 hx hb ht tb_iX12 hown hX hP hS rfl rfl rfl (by decide) tb_1244 rfl rfl rfl (Nat.le_of_ble_eq_true rfl) dX12_ahead_58 (fun H locs hP hS => ?_)
          have hP : PD D A [bl_X12 cy A_m m_at m_names m_status m_top m_bottom m_sort m_trayMany m_trays m_tape m_text m_taped m_size m_token m_end m_end z_62 m_faultKind m_faultPlace m_faults m_seen m_toldParts m_opened m_depth m_counted m_bestOrder m_standers m_has m_bestHas m_standerMany m_bestCouples m_bestFondness m_cameTo m_doesStandFirst m_stoodBy m_drawn m_ranSteps m_loops m_ran m_told1 m_isTold m_marks] H := hP
          refine lv_iload_n hx hb dX12_ahead_61 rfl (lv_at hl 0 rfl) ?_
          refine lv_iconst (v := (-1)) hx hb dX12_ahead_62 (by decide) ?_
          refine lv_icmp_ne (tgt := 74) hx hb dX12_ahead_63 (by decide) (fun c_63 => ?_) (fun c_63 => ?_)
          · have h := ie c_63 h
            refine lv_iload_n hx hb dX12_ahead_74 rfl (lv_at hl 0 rfl) ?_
            obtain ⟨z_64, e_z_64, h⟩ := bi h
            refine roSi (rest := []) ⟨hx, hb, hml, hown, ht⟩ (c_X12_isSmall l D cy fu  z_62 z_64 e_z_64) (cS ht ms_X12_isSmall tb_1424 rfl rfl ⟨Nat.le_of_ble_eq_true rfl, Nat.le_of_ble_eq_true rfl⟩) (P_sub hP.1 [] rfl) hX rfl hl.1 rfl (Nat.le_of_ble_eq_true rfl) dX12_ahead_75 ⟨Nat.le_of_ble_eq_true rfl, Nat.le_of_ble_eq_true rfl⟩ ?_
            refine lv_if_eq (tgt := 116) hx hb dX12_ahead_78 (by decide) (fun c_65 => ?_) (fun c_65 => ?_)
            · have h := it c_65 h
              refine lv_iload_n hx hb dX12_ahead_116 rfl (lv_at hl 0 rfl) ?_
              obtain ⟨z_66, e_z_66, h⟩ := bi h
              refine roSi (rest := []) ⟨hx, hb, hml, hown, ht⟩ (c_X12_isDigit l D cy fu  z_62 z_66 e_z_66) (cS ht ms_X12_isDigit tb_1427 rfl rfl ⟨Nat.le_of_ble_eq_true rfl, Nat.le_of_ble_eq_true rfl⟩) (P_sub hP.1 [] rfl) hX rfl hl.1 rfl (Nat.le_of_ble_eq_true rfl) dX12_ahead_117 ⟨Nat.le_of_ble_eq_true rfl, Nat.le_of_ble_eq_true rfl⟩ ?_
              refine lv_if_eq (tgt := 208) hx hb dX12_ahead_120 (by decide) (fun c_67 => ?_) (fun c_67 => ?_)
              · have h := it c_67 h
                refine lv_aload_n hx hb dX12_ahead_208 rfl (lv_at hl 1 rfl) ?_
                refine lv_dup hx hb dX12_ahead_209 rfl ?_
                refine xget (i := 0) (j := 0) (k := 14) (T := TX12) hx hb ht tb_iX12 hown hX hP.1 rfl rfl rfl (by decide) tb_1243 rfl dX12_ahead_210 ?_
                refine lv_iconst (v := 1) hx hb dX12_ahead_213 (by decide) ?_
                refine lv_iadd hx hb dX12_ahead_214 ?_
                refine lv_topi (fun m_end_68 e_m_end_68 => ?_)
                have h := bn e_m_end_68 h
                refine xput (i := 0) (j := 0) (k := 14) (T := TX12) tyX12 tyX12_ok nmX12 hx hb ht tb_iX12 hown hX hP hS rfl rfl rfl (by decide) tb_1243 rfl rfl rfl (Nat.le_of_ble_eq_true rfl) dX12_ahead_215 (fun H locs hP hS => ?_)
                have hP : PD D A [bl_X12 cy A_m m_at m_names m_status m_top m_bottom m_sort m_trayMany m_trays m_tape m_text m_taped m_size m_token m_end m_end_68 z_62 m_faultKind m_faultPlace m_faults m_seen m_toldParts m_opened m_depth m_counted m_bestOrder m_standers m_has m_bestHas m_standerMany m_bestCouples m_bestFondness m_cameTo m_doesStandFirst m_stoodBy m_drawn m_ranSteps m_loops m_ran m_told1 m_isTold m_marks] H := hP
                refine lv_aload_n hx hb dX12_ahead_218 rfl (lv_at hl 1 rfl) ?_
                refine lv_iload_n hx hb dX12_ahead_219 rfl (lv_at hl 0 rfl) ?_
                refine lv_bipush (v := 59) hx hb dX12_ahead_220 (by decide) ?_
                refine lv_icmp_eq (tgt := 243) hx hb dX12_ahead_222 (by decide) (fun c_69 => ?_) (fun c_69 => ?_)
                · have h := it c_69 h
                  refine lv_iconst (v := 4) hx hb dX12_ahead_243 (by decide) ?_
                  refine lv_goto (tgt := 248) hx hb dX12_ahead_244 (by decide) ?_
                  refine xput (i := 0) (j := 0) (k := 12) (T := TX12) tyX12 tyX12_ok nmX12 hx hb ht tb_iX12 hown hX hP hS rfl rfl rfl (by decide) tb_1241 rfl rfl rfl (Nat.le_of_ble_eq_true rfl) dX12_ahead_248 (fun H locs hP hS => ?_)
                  have hP : PD D A [bl_X12 cy A_m m_at m_names m_status m_top m_bottom m_sort m_trayMany m_trays m_tape m_text m_taped m_size 4 m_end m_end_68 z_62 m_faultKind m_faultPlace m_faults m_seen m_toldParts m_opened m_depth m_counted m_bestOrder m_standers m_has m_bestHas m_standerMany m_bestCouples m_bestFondness m_cameTo m_doesStandFirst m_stoodBy m_drawn m_ranSteps m_loops m_ran m_told1 m_isTold m_marks] H := hP
                  cases h
                  subst hW1
                  exact W.vret hx hb hr (fun _ ht9 _ => ⟨⟨(), rfl, trivial, hPt ht9 hP.1⟩, hS.F ht9⟩) hS.2.2 dX12_ahead_251
                · have h := ie c_69 h
                  refine lv_iload_n hx hb dX12_ahead_225 rfl (lv_at hl 0 rfl) ?_
                  refine lv_bipush (v := 60) hx hb dX12_ahead_226 (by decide) ?_
                  refine lv_icmp_eq (tgt := 243) hx hb dX12_ahead_228 (by decide) (fun c_70 => ?_) (fun c_70 => ?_)
                  · have h := it c_70 h
                    refine lv_iconst (v := 4) hx hb dX12_ahead_243 (by decide) ?_
                    refine lv_goto (tgt := 248) hx hb dX12_ahead_244 (by decide) ?_
                    refine xput (i := 0) (j := 0) (k := 12) (T := TX12) tyX12 tyX12_ok nmX12 hx hb ht tb_iX12 hown hX hP hS rfl rfl rfl (by decide) tb_1241 rfl rfl rfl (Nat.le_of_ble_eq_true rfl) dX12_ahead_248 (fun H locs hP hS => ?_)
                    have hP : PD D A [bl_X12 cy A_m m_at m_names m_status m_top m_bottom m_sort m_trayMany m_trays m_tape m_text m_taped m_size 4 m_end m_end_68 z_62 m_faultKind m_faultPlace m_faults m_seen m_toldParts m_opened m_depth m_counted m_bestOrder m_standers m_has m_bestHas m_standerMany m_bestCouples m_bestFondness m_cameTo m_doesStandFirst m_stoodBy m_drawn m_ranSteps m_loops m_ran m_told1 m_isTold m_marks] H := hP
                    cases h
                    subst hW1
                    exact W.vret hx hb hr (fun _ ht9 _ => ⟨⟨(), rfl, trivial, hPt ht9 hP.1⟩, hS.F ht9⟩) hS.2.2 dX12_ahead_251
                  · have h := ie c_70 h
                    refine lv_iload_n hx hb dX12_ahead_231 rfl (lv_at hl 0 rfl) ?_
                    refine lv_bipush (v := 62) hx hb dX12_ahead_232 (by decide) ?_
                    refine lv_icmp_eq (tgt := 243) hx hb dX12_ahead_234 (by decide) (fun c_71 => ?_) (fun c_71 => ?_)
                    · have h := it c_71 h
                      refine lv_iconst (v := 4) hx hb dX12_ahead_243 (by decide) ?_
                      refine lv_goto (tgt := 248) hx hb dX12_ahead_244 (by decide) ?_
                      refine xput (i := 0) (j := 0) (k := 12) (T := TX12) tyX12 tyX12_ok nmX12 hx hb ht tb_iX12 hown hX hP hS rfl rfl rfl (by decide) tb_1241 rfl rfl rfl (Nat.le_of_ble_eq_true rfl) dX12_ahead_248 (fun H locs hP hS => ?_)
                      have hP : PD D A [bl_X12 cy A_m m_at m_names m_status m_top m_bottom m_sort m_trayMany m_trays m_tape m_text m_taped m_size 4 m_end m_end_68 z_62 m_faultKind m_faultPlace m_faults m_seen m_toldParts m_opened m_depth m_counted m_bestOrder m_standers m_has m_bestHas m_standerMany m_bestCouples m_bestFondness m_cameTo m_doesStandFirst m_stoodBy m_drawn m_ranSteps m_loops m_ran m_told1 m_isTold m_marks] H := hP
                      cases h
                      subst hW1
                      exact W.vret hx hb hr (fun _ ht9 _ => ⟨⟨(), rfl, trivial, hPt ht9 hP.1⟩, hS.F ht9⟩) hS.2.2 dX12_ahead_251
                    · have h := ie c_71 h
                      refine lv_iload_n hx hb dX12_ahead_237 rfl (lv_at hl 0 rfl) ?_
                      refine lv_bipush (v := 61) hx hb dX12_ahead_238 (by decide) ?_
                      refine lv_icmp_ne (tgt := 247) hx hb dX12_ahead_240 (by decide) (fun c_72 => ?_) (fun c_72 => ?_)
                      · have h := ie c_72 h
                        refine lv_iconst (v := 1) hx hb dX12_ahead_247 (by decide) ?_
                        refine xput (i := 0) (j := 0) (k := 12) (T := TX12) tyX12 tyX12_ok nmX12 hx hb ht tb_iX12 hown hX hP hS rfl rfl rfl (by decide) tb_1241 rfl rfl rfl (Nat.le_of_ble_eq_true rfl) dX12_ahead_248 (fun H locs hP hS => ?_)
                        have hP : PD D A [bl_X12 cy A_m m_at m_names m_status m_top m_bottom m_sort m_trayMany m_trays m_tape m_text m_taped m_size 1 m_end m_end_68 z_62 m_faultKind m_faultPlace m_faults m_seen m_toldParts m_opened m_depth m_counted m_bestOrder m_standers m_has m_bestHas m_standerMany m_bestCouples m_bestFondness m_cameTo m_doesStandFirst m_stoodBy m_drawn m_ranSteps m_loops m_ran m_told1 m_isTold m_marks] H := hP
                        cases h
                        subst hW1
                        exact W.vret hx hb hr (fun _ ht9 _ => ⟨⟨(), rfl, trivial, hPt ht9 hP.1⟩, hS.F ht9⟩) hS.2.2 dX12_ahead_251
                      · have h := it c_72 h
                        refine lv_iconst (v := 4) hx hb dX12_ahead_243 (by decide) ?_
                        refine lv_goto (tgt := 248) hx hb dX12_ahead_244 (by decide) ?_
                        refine xput (i := 0) (j := 0) (k := 12) (T := TX12) tyX12 tyX12_ok nmX12 hx hb ht tb_iX12 hown hX hP hS rfl rfl rfl (by decide) tb_1241 rfl rfl rfl (Nat.le_of_ble_eq_true rfl) dX12_ahead_248 (fun H locs hP hS => ?_)
                        have hP : PD D A [bl_X12 cy A_m m_at m_names m_status m_top m_bottom m_sort m_trayMany m_trays m_tape m_text m_taped m_size 4 m_end m_end_68 z_62 m_faultKind m_faultPlace m_faults m_seen m_toldParts m_opened m_depth m_counted m_bestOrder m_standers m_has m_bestHas m_standerMany m_bestCouples m_bestFondness m_cameTo m_doesStandFirst m_stoodBy m_drawn m_ranSteps m_loops m_ran m_told1 m_isTold m_marks] H := hP
                        cases h
                        subst hW1
                        exact W.vret hx hb hr (fun _ ht9 _ => ⟨⟨(), rfl, trivial, hPt ht9 hP.1⟩, hS.F ht9⟩) hS.2.2 dX12_ahead_251
              · have h := ie c_67 h
                refine lv_aload_n hx hb dX12_ahead_123 rfl (lv_at hl 1 rfl) ?_
                refine lv_iconst (v := 0) hx hb dX12_ahead_124 (by decide) ?_
                refine xput (i := 0) (j := 0) (k := 15) (T := TX12) tyX12 tyX12_ok nmX12 hx hb ht tb_iX12 hown hX hP hS rfl rfl rfl (by decide) tb_1244 rfl rfl rfl (Nat.le_of_ble_eq_true rfl) dX12_ahead_125 (fun H locs hP hS => ?_)
                have hP : PD D A [bl_X12 cy A_m m_at m_names m_status m_top m_bottom m_sort m_trayMany m_trays m_tape m_text m_taped m_size m_token m_end m_end 0 m_faultKind m_faultPlace m_faults m_seen m_toldParts m_opened m_depth m_counted m_bestOrder m_standers m_has m_bestHas m_standerMany m_bestCouples m_bestFondness m_cameTo m_doesStandFirst m_stoodBy m_drawn m_ranSteps m_loops m_ran m_told1 m_isTold m_marks] H := hP
                exact l128 fu m_token m_end m_end 0 _ _ hP hS ls (lv_sub hl [1] rfl) h
            · have h := ie c_65 h
              exact l81 fu m_token m_end m_end z_62 _ _ hP hS ls (lv_sub hl [1] rfl) h
          · have h := it c_63 h
            refine lv_aload_n hx hb dX12_ahead_66 rfl (lv_at hl 1 rfl) ?_
            refine lv_iconst (v := 0) hx hb dX12_ahead_67 (by decide) ?_
            refine xput (i := 0) (j := 0) (k := 12) (T := TX12) tyX12 tyX12_ok nmX12 hx hb ht tb_iX12 hown hX hP hS rfl rfl rfl (by decide) tb_1241 rfl rfl rfl (Nat.le_of_ble_eq_true rfl) dX12_ahead_68 (fun H locs hP hS => ?_)
            have hP : PD D A [bl_X12 cy A_m m_at m_names m_status m_top m_bottom m_sort m_trayMany m_trays m_tape m_text m_taped m_size 0 m_end m_end z_62 m_faultKind m_faultPlace m_faults m_seen m_toldParts m_opened m_depth m_counted m_bestOrder m_standers m_has m_bestHas m_standerMany m_bestCouples m_bestFondness m_cameTo m_doesStandFirst m_stoodBy m_drawn m_ranSteps m_loops m_ran m_told1 m_isTold m_marks] H := hP
            refine lv_goto (tgt := 251) hx hb dX12_ahead_71 (by decide) ?_
            cases h
            subst hW1
            exact W.vret hx hb hr (fun _ ht9 _ => ⟨⟨(), rfl, trivial, hPt ht9 hP.1⟩, hS.F ht9⟩) hS.2.2 dX12_ahead_251
        · have h := it c_61 h
          refine lv_aload_n hx hb dX12_ahead_26 rfl (lv_at hl 0 rfl) ?_
          refine lv_dup hx hb dX12_ahead_27 rfl ?_
          refine xget (i := 0) (j := 0) (k := 14) (T := TX12) hx hb ht tb_iX12 hown hX hP.1 rfl rfl rfl (by decide) tb_1243 rfl dX12_ahead_28 ?_
          refine lv_iconst (v := 1) hx hb dX12_ahead_31 (by decide) ?_
          refine lv_iadd hx hb dX12_ahead_32 ?_
          refine lv_topi (fun m_end_73 e_m_end_73 => ?_)
          have h := bn e_m_end_73 h
          refine xput (i := 0) (j := 0) (k := 14) (T := TX12) tyX12 tyX12_ok nmX12 hx hb ht tb_iX12 hown hX hP hS rfl rfl rfl (by decide) tb_1243 rfl rfl rfl (Nat.le_of_ble_eq_true rfl) dX12_ahead_33 (fun H locs hP hS => ?_)
          have hP : PD D A [bl_X12 cy A_m m_at m_names m_status m_top m_bottom m_sort m_trayMany m_trays m_tape m_text m_taped m_size m_token m_from m_end_73 m_value m_faultKind m_faultPlace m_faults m_seen m_toldParts m_opened m_depth m_counted m_bestOrder m_standers m_has m_bestHas m_standerMany m_bestCouples m_bestFondness m_cameTo m_doesStandFirst m_stoodBy m_drawn m_ranSteps m_loops m_ran m_told1 m_isTold m_marks] H := hP
          refine lv_goto (tgt := 0) hx hb dX12_ahead_36 (by decide) ?_
          exact ih0 m_token m_from m_end_73 m_value _ _ hP hS ls (lv_sub hl [0] rfl) h
  unfold f_X12_ahead at h
  exact l0 fu m_token m_from m_end m_value _ _ hP hS ls (lv_sub hl [0] rfl) h
theorem dX12_isSign_0 : decode cX12_isSign 0 = .ok (.aload_n 0, 1) := by decide +kernel
theorem dX12_isSign_1 : decode cX12_isSign 1 = .ok (.getfield 129, 3) := by decide +kernel
theorem dX12_isSign_4 : decode cX12_isSign 4 = .ok (.iconst 4, 1) := by decide +kernel
theorem dX12_isSign_5 : decode cX12_isSign 5 = .ok (.if_icmp .ne 15, 3) := by decide +kernel
theorem dX12_isSign_8 : decode cX12_isSign 8 = .ok (.aload_n 0, 1) := by decide +kernel
theorem dX12_isSign_9 : decode cX12_isSign 9 = .ok (.getfield 126, 3) := by decide +kernel
theorem dX12_isSign_12 : decode cX12_isSign 12 = .ok (.iload_n 1, 1) := by decide +kernel
theorem dX12_isSign_13 : decode cX12_isSign 13 = .ok (.if_icmp .ne 7, 3) := by decide +kernel
theorem dX12_isSign_16 : decode cX12_isSign 16 = .ok (.iconst 1, 1) := by decide +kernel
theorem dX12_isSign_17 : decode cX12_isSign 17 = .ok (.goto 4, 3) := by decide +kernel
theorem dX12_isSign_20 : decode cX12_isSign 20 = .ok (.iconst 0, 1) := by decide +kernel
theorem dX12_isSign_21 : decode cX12_isSign 21 = .ok (.ireturn, 1) := by decide +kernel
theorem mv_X12_isSign : MV yX12_isSign RX12 cX12_isSign 2 (some .boolean) 1 := ⟨tb_1494, tb_1493, ts_60, tb_16, by decide +kernel, by decide +kernel, by decide +kernel⟩
def f_X12_isSign (fu : Nat) (m_token : Int32) (m_value : Int32) (x1 : Int32) : Option (Int32) := (if m_token = 4 then (if m_value = x1 then some (1) else some (0)) else some (0))
abbrev rm_X12_isSign : Room := { frames := 0, cells := 0, slots := 0, locals := 0 }
set_option maxHeartbeats 4000000 in
set_option maxRecDepth 100000 in
theorem c_X12_isSign (l : Launch) (D : va_G) (cy : Nat → ClassId) (fu : Nat) (A_m : Nat → Nat) (m_at : Nat → Int32) (m_names : Nat → Int64) (m_status : Int32) (m_top : Int64) (m_bottom : Int64) (m_sort : Nat → Int32) (m_trayMany : Nat → Int32) (m_trays : Nat → Int64) (m_tape : Nat → Int32) (m_text : Nat → Int32) (m_taped : Int32) (m_size : Int32) (m_token : Int32) (m_from : Int32) (m_end : Int32) (m_value : Int32) (m_faultKind : Int32) (m_faultPlace : Int32) (m_faults : Int32) (m_seen : Int32) (m_toldParts : Int32) (m_opened : Nat → Int32) (m_depth : Int32) (m_counted : Int32) (m_bestOrder : Int32) (m_standers : Nat → Int32) (m_has : Nat → Int32) (m_bestHas : Nat → Int32) (m_standerMany : Int32) (m_bestCouples : Int32) (m_bestFondness : Int32) (m_cameTo : Nat → Int32) (m_doesStandFirst : Int32) (m_stoodBy : Nat → Int64) (m_drawn : Int32) (m_ranSteps : Int32) (m_loops : Nat → Int32) (m_ran : Nat → Int32) (m_told1 : Nat → Int32) (m_isTold : Int32) (m_marks : Int32) (x1 : Int32) (res : Int32) (h : f_X12_isSign fu m_token m_value x1 = some res) : Met l yX12_isSign (WW yX12_isSign cX12_isSign 2 (some .boolean)) rm_X12_isSign (Rd D cy [.ref (A_m 0), .int x1] [bl_X12 cy A_m m_at m_names m_status m_top m_bottom m_sort m_trayMany m_trays m_tape m_text m_taped m_size m_token m_from m_end m_value m_faultKind m_faultPlace m_faults m_seen m_toldParts m_opened m_depth m_counted m_bestOrder m_standers m_has m_bestHas m_standerMany m_bestCouples m_bestFondness m_cameTo m_doesStandFirst m_stoodBy m_drawn m_ranSteps m_loops m_ran m_told1 m_isTold m_marks]) (vp_Si (fun v => v = res)) 0 0 (fun _ => False) := by
  refine Met.ofW (cc := cX12_isSign) (maxL := 2) (ret := (some .boolean)) (by decide) rfl ?_
  intro p e s m args below meth c s₁ B hml hv
  obtain ⟨hargs, hP, hX⟩ := hv
  have hx := B.exec
  have hb := B.bytes
  have hr := B.returns
  have ht : ∀ w ∈ lw_gd, w.before args s = true := fun w hw => atoms_spec (ws := WW yX12_isSign cX12_isSign 2 (some .boolean)) B.pre w (List.mem_cons_of_mem _ hw)
  have hown : s.vm.findClass RX12 = some m.cls := findClass_of_methodNamed B.named
  have hlocks := B.notSynchronized
  have hP : PB D [bl_X12 cy A_m m_at m_names m_status m_top m_bottom m_sort m_trayMany m_trays m_tape m_text m_taped m_size m_token m_from m_end m_value m_faultKind m_faultPlace m_faults m_seen m_toldParts m_opened m_depth m_counted m_bestOrder m_standers m_has m_bestHas m_standerMany m_bestCouples m_bestFondness m_cameTo m_doesStandFirst m_stoodBy m_drawn m_ranSteps m_loops m_ran m_told1 m_isTold m_marks] s.heap := hP
  obtain ⟨ls, hl, hent⟩ := ent (m := m) (n := 2) hargs (Nat.le_of_ble_eq_true rfl) (lv := [(0, .ref (A_m 0)), (1, .int x1)]) rfl
  rw [hent]
  clear hent
  unfold f_X12_isSign at h
  refine lv_aload_n hx hb dX12_isSign_0 rfl (lv_at hl 0 rfl) ?_
  refine xget (i := 0) (j := 0) (k := 12) (T := TX12) hx hb ht tb_iX12 hown hX hP rfl rfl rfl (by decide) tb_1241 rfl dX12_isSign_1 ?_
  refine lv_iconst (v := 4) hx hb dX12_isSign_4 (by decide) ?_
  refine lv_icmp_ne (tgt := 20) hx hb dX12_isSign_5 (by decide) (fun c_3 => ?_) (fun c_3 => ?_)
  · have h := ie c_3 h
    refine lv_iconst (v := 0) hx hb dX12_isSign_20 (by decide) ?_
    cases h
    exact W.zret hx hb hr rfl (fun _ ht9 _ => ⟨_, rfl, rfl, ht9⟩) (fun _ hq => by cases hq) dX12_isSign_21
  · have h := it c_3 h
    refine lv_aload_n hx hb dX12_isSign_8 rfl (lv_at hl 0 rfl) ?_
    refine xget (i := 0) (j := 0) (k := 15) (T := TX12) hx hb ht tb_iX12 hown hX hP rfl rfl rfl (by decide) tb_1244 rfl dX12_isSign_9 ?_
    refine lv_iload_n hx hb dX12_isSign_12 rfl (lv_at hl 1 rfl) ?_
    refine lv_icmp_ne (tgt := 20) hx hb dX12_isSign_13 (by decide) (fun c_4 => ?_) (fun c_4 => ?_)
    · have h := ie c_4 h
      refine lv_iconst (v := 0) hx hb dX12_isSign_20 (by decide) ?_
      cases h
      exact W.zret hx hb hr rfl (fun _ ht9 _ => ⟨_, rfl, rfl, ht9⟩) (fun _ hq => by cases hq) dX12_isSign_21
    · have h := it c_4 h
      refine lv_iconst (v := 1) hx hb dX12_isSign_16 (by decide) ?_
      refine lv_goto (tgt := 21) hx hb dX12_isSign_17 (by decide) ?_
      cases h
      exact W.zret hx hb hr rfl (fun _ ht9 _ => ⟨_, rfl, rfl, ht9⟩) (fun _ hq => by cases hq) dX12_isSign_21
theorem dX12_fails_0 : decode cX12_fails 0 = .ok (.aload_n 0, 1) := by decide +kernel
theorem dX12_fails_1 : decode cX12_fails 1 = .ok (.getfield 154, 3) := by decide +kernel
theorem dX12_fails_4 : decode cX12_fails 4 = .ok (.ifCond .ne 28, 3) := by decide +kernel
theorem dX12_fails_7 : decode cX12_fails 7 = .ok (.aload_n 0, 1) := by decide +kernel
theorem dX12_fails_8 : decode cX12_fails 8 = .ok (.aload_n 0, 1) := by decide +kernel
theorem dX12_fails_9 : decode cX12_fails 9 = .ok (.getfield 129, 3) := by decide +kernel
theorem dX12_fails_12 : decode cX12_fails 12 = .ok (.iconst 1, 1) := by decide +kernel
theorem dX12_fails_13 : decode cX12_fails 13 = .ok (.if_icmp .ne 7, 3) := by decide +kernel
theorem dX12_fails_16 : decode cX12_fails 16 = .ok (.iconst 1, 1) := by decide +kernel
theorem dX12_fails_17 : decode cX12_fails 17 = .ok (.goto 4, 3) := by decide +kernel
theorem dX12_fails_20 : decode cX12_fails 20 = .ok (.iload_n 1, 1) := by decide +kernel
theorem dX12_fails_21 : decode cX12_fails 21 = .ok (.putfield 154, 3) := by decide +kernel
theorem dX12_fails_24 : decode cX12_fails 24 = .ok (.aload_n 0, 1) := by decide +kernel
theorem dX12_fails_25 : decode cX12_fails 25 = .ok (.aload_n 0, 1) := by decide +kernel
theorem dX12_fails_26 : decode cX12_fails 26 = .ok (.getfield 123, 3) := by decide +kernel
theorem dX12_fails_29 : decode cX12_fails 29 = .ok (.putfield 41, 3) := by decide +kernel
theorem dX12_fails_32 : decode cX12_fails 32 = .ok (.iconst 0, 1) := by decide +kernel
theorem dX12_fails_33 : decode cX12_fails 33 = .ok (.ireturn, 1) := by decide +kernel
theorem mv_X12_fails : MV yX12_fails RX12 cX12_fails 2 (some .boolean) 1 := ⟨tb_1450, tb_1449, ts_49, tb_16, by decide +kernel, by decide +kernel, by decide +kernel⟩
def f_X12_fails (fu : Nat) (m_token : Int32) (m_from : Int32) (m_faultPlace : Int32) (m_faults : Int32) (x1 : Int32) : Option (Int32 × Int32 × Int32) := (if m_faults = 0 then (if m_token = 1 then some (0, m_from, 1) else some (0, m_from, x1)) else some (0, m_faultPlace, m_faults))
abbrev rm_X12_fails : Room := { frames := 0, cells := 0, slots := 0, locals := 0 }
set_option maxHeartbeats 4000000 in
set_option maxRecDepth 100000 in
theorem c_X12_fails (l : Launch) (D : va_G) (cy : Nat → ClassId) (fu : Nat) (A_m : Nat → Nat) (m_at : Nat → Int32) (m_names : Nat → Int64) (m_status : Int32) (m_top : Int64) (m_bottom : Int64) (m_sort : Nat → Int32) (m_trayMany : Nat → Int32) (m_trays : Nat → Int64) (m_tape : Nat → Int32) (m_text : Nat → Int32) (m_taped : Int32) (m_size : Int32) (m_token : Int32) (m_from : Int32) (m_end : Int32) (m_value : Int32) (m_faultKind : Int32) (m_faultPlace : Int32) (m_faults : Int32) (m_seen : Int32) (m_toldParts : Int32) (m_opened : Nat → Int32) (m_depth : Int32) (m_counted : Int32) (m_bestOrder : Int32) (m_standers : Nat → Int32) (m_has : Nat → Int32) (m_bestHas : Nat → Int32) (m_standerMany : Int32) (m_bestCouples : Int32) (m_bestFondness : Int32) (m_cameTo : Nat → Int32) (m_doesStandFirst : Int32) (m_stoodBy : Nat → Int64) (m_drawn : Int32) (m_ranSteps : Int32) (m_loops : Nat → Int32) (m_ran : Nat → Int32) (m_told1 : Nat → Int32) (m_isTold : Int32) (m_marks : Int32) (x1 : Int32) (res : Int32 × Int32 × Int32) (h : f_X12_fails fu m_token m_from m_faultPlace m_faults x1 = some res) (A : Nat → Prop) (hA : A = adr [bl_X12 cy A_m m_at m_names m_status m_top m_bottom m_sort m_trayMany m_trays m_tape m_text m_taped m_size m_token m_from m_end m_value m_faultKind m_faultPlace m_faults m_seen m_toldParts m_opened m_depth m_counted m_bestOrder m_standers m_has m_bestHas m_standerMany m_bestCouples m_bestFondness m_cameTo m_doesStandFirst m_stoodBy m_drawn m_ranSteps m_loops m_ran m_told1 m_isTold m_marks]) (W1 : List va_W) (hW1 : W1 = [bl_X12 cy A_m m_at m_names m_status m_top m_bottom m_sort m_trayMany m_trays m_tape m_text m_taped m_size m_token m_from m_end m_value m_faultKind res.2.1 res.2.2 m_seen m_toldParts m_opened m_depth m_counted m_bestOrder m_standers m_has m_bestHas m_standerMany m_bestCouples m_bestFondness m_cameTo m_doesStandFirst m_stoodBy m_drawn m_ranSteps m_loops m_ran m_told1 m_isTold m_marks]) : Met l yX12_fails (WW yX12_fails cX12_fails 2 (some .boolean)) rm_X12_fails (Ed D cy [.ref (A_m 0), .int x1] [bl_X12 cy A_m m_at m_names m_status m_top m_bottom m_sort m_trayMany m_trays m_tape m_text m_taped m_size m_token m_from m_end m_value m_faultKind m_faultPlace m_faults m_seen m_toldParts m_opened m_depth m_counted m_bestOrder m_standers m_has m_bestHas m_standerMany m_bestCouples m_bestFondness m_cameTo m_doesStandFirst m_stoodBy m_drawn m_ranSteps m_loops m_ran m_told1 m_isTold m_marks]) (Qei D res.1 A W1) 0 0 A := by
  refine Met.ofW (cc := cX12_fails) (maxL := 2) (ret := (some .boolean)) (by decide) rfl ?_
  intro p e s m args below meth c s₁ B hml hv
  obtain ⟨hargs, hP, hX, hD0⟩ := hv
  have hx := B.exec
  have hb := B.bytes
  have hr := B.returns
  have ht : ∀ w ∈ lw_gd, w.before args s = true := fun w hw => atoms_spec (ws := WW yX12_fails cX12_fails 2 (some .boolean)) B.pre w (List.mem_cons_of_mem _ hw)
  have hown : s.vm.findClass RX12 = some m.cls := findClass_of_methodNamed B.named
  have hlocks := B.notSynchronized
  have hP : PD D A [bl_X12 cy A_m m_at m_names m_status m_top m_bottom m_sort m_trayMany m_trays m_tape m_text m_taped m_size m_token m_from m_end m_value m_faultKind m_faultPlace m_faults m_seen m_toldParts m_opened m_depth m_counted m_bestOrder m_standers m_has m_bestHas m_standerMany m_bestCouples m_bestFondness m_cameTo m_doesStandFirst m_stoodBy m_drawn m_ranSteps m_loops m_ran m_told1 m_isTold m_marks] s.heap := ⟨hP, by rw [hA]; exact hD0.own⟩
  have hS : va_S A s.heap s.heap [] := va_S.rf
  obtain ⟨ls, hl, hent⟩ := ent (m := m) (n := 2) hargs (Nat.le_of_ble_eq_true rfl) (lv := [(0, .ref (A_m 0)), (1, .int x1)]) rfl
  rw [hent]
  clear hent
  unfold f_X12_fails at h
  refine lv_aload_n hx hb dX12_fails_0 rfl (lv_at hl 0 rfl) ?_
  refine xget (i := 0) (j := 0) (k := 18) (T := TX12) hx hb ht tb_iX12 hown hX hP.1 rfl rfl rfl (by decide) tb_1247 rfl dX12_fails_1 ?_
  refine lv_if_ne (tgt := 32) hx hb dX12_fails_4 (by decide) (fun c_3 => ?_) (fun c_3 => ?_)
  · have h := ie c_3 h
    refine lv_iconst (v := 0) hx hb dX12_fails_32 (by decide) ?_
    cases h
    subst hW1
    exact W.zret hx hb hr rfl (fun _ ht9 _ => ⟨⟨_, (), rfl, rfl, hPt ht9 hP.1⟩, hS.F ht9⟩) hS.2.2 dX12_fails_33
  · have h := it c_3 h
    refine lv_aload_n hx hb dX12_fails_7 rfl (lv_at hl 0 rfl) ?_
    refine lv_aload_n hx hb dX12_fails_8 rfl (lv_at hl 0 rfl) ?_
    refine xget (i := 0) (j := 0) (k := 12) (T := TX12) hx hb ht tb_iX12 hown hX hP.1 rfl rfl rfl (by decide) tb_1241 rfl dX12_fails_9 ?_
    refine lv_iconst (v := 1) hx hb dX12_fails_12 (by decide) ?_
    refine lv_icmp_ne (tgt := 20) hx hb dX12_fails_13 (by decide) (fun c_4 => ?_) (fun c_4 => ?_)
    · have h := ie c_4 h
      refine lv_iload_n hx hb dX12_fails_20 rfl (lv_at hl 1 rfl) ?_
      refine xput (i := 0) (j := 0) (k := 18) (T := TX12) tyX12 tyX12_ok nmX12 hx hb ht tb_iX12 hown hX hP hS rfl rfl rfl (by decide) tb_1247 rfl rfl rfl (Nat.le_of_ble_eq_true rfl) dX12_fails_21 (fun H locs hP hS => ?_)
      have hP : PD D A [bl_X12 cy A_m m_at m_names m_status m_top m_bottom m_sort m_trayMany m_trays m_tape m_text m_taped m_size m_token m_from m_end m_value m_faultKind m_faultPlace x1 m_seen m_toldParts m_opened m_depth m_counted m_bestOrder m_standers m_has m_bestHas m_standerMany m_bestCouples m_bestFondness m_cameTo m_doesStandFirst m_stoodBy m_drawn m_ranSteps m_loops m_ran m_told1 m_isTold m_marks] H := hP
      refine lv_aload_n hx hb dX12_fails_24 rfl (lv_at hl 0 rfl) ?_
      refine lv_aload_n hx hb dX12_fails_25 rfl (lv_at hl 0 rfl) ?_
      refine xget (i := 0) (j := 0) (k := 13) (T := TX12) hx hb ht tb_iX12 hown hX hP.1 rfl rfl rfl (by decide) tb_1242 rfl dX12_fails_26 ?_
      refine xput (i := 0) (j := 0) (k := 17) (T := TX12) tyX12 tyX12_ok nmX12 hx hb ht tb_iX12 hown hX hP hS rfl rfl rfl (by decide) tb_1246 rfl rfl rfl (Nat.le_of_ble_eq_true rfl) dX12_fails_29 (fun H locs hP hS => ?_)
      have hP : PD D A [bl_X12 cy A_m m_at m_names m_status m_top m_bottom m_sort m_trayMany m_trays m_tape m_text m_taped m_size m_token m_from m_end m_value m_faultKind m_from x1 m_seen m_toldParts m_opened m_depth m_counted m_bestOrder m_standers m_has m_bestHas m_standerMany m_bestCouples m_bestFondness m_cameTo m_doesStandFirst m_stoodBy m_drawn m_ranSteps m_loops m_ran m_told1 m_isTold m_marks] H := hP
      refine lv_iconst (v := 0) hx hb dX12_fails_32 (by decide) ?_
      cases h
      subst hW1
      exact W.zret hx hb hr rfl (fun _ ht9 _ => ⟨⟨_, (), rfl, rfl, hPt ht9 hP.1⟩, hS.F ht9⟩) hS.2.2 dX12_fails_33
    · have h := it c_4 h
      refine lv_iconst (v := 1) hx hb dX12_fails_16 (by decide) ?_
      refine lv_goto (tgt := 21) hx hb dX12_fails_17 (by decide) ?_
      refine xput (i := 0) (j := 0) (k := 18) (T := TX12) tyX12 tyX12_ok nmX12 hx hb ht tb_iX12 hown hX hP hS rfl rfl rfl (by decide) tb_1247 rfl rfl rfl (Nat.le_of_ble_eq_true rfl) dX12_fails_21 (fun H locs hP hS => ?_)
      have hP : PD D A [bl_X12 cy A_m m_at m_names m_status m_top m_bottom m_sort m_trayMany m_trays m_tape m_text m_taped m_size m_token m_from m_end m_value m_faultKind m_faultPlace 1 m_seen m_toldParts m_opened m_depth m_counted m_bestOrder m_standers m_has m_bestHas m_standerMany m_bestCouples m_bestFondness m_cameTo m_doesStandFirst m_stoodBy m_drawn m_ranSteps m_loops m_ran m_told1 m_isTold m_marks] H := hP
      refine lv_aload_n hx hb dX12_fails_24 rfl (lv_at hl 0 rfl) ?_
      refine lv_aload_n hx hb dX12_fails_25 rfl (lv_at hl 0 rfl) ?_
      refine xget (i := 0) (j := 0) (k := 13) (T := TX12) hx hb ht tb_iX12 hown hX hP.1 rfl rfl rfl (by decide) tb_1242 rfl dX12_fails_26 ?_
      refine xput (i := 0) (j := 0) (k := 17) (T := TX12) tyX12 tyX12_ok nmX12 hx hb ht tb_iX12 hown hX hP hS rfl rfl rfl (by decide) tb_1246 rfl rfl rfl (Nat.le_of_ble_eq_true rfl) dX12_fails_29 (fun H locs hP hS => ?_)
      have hP : PD D A [bl_X12 cy A_m m_at m_names m_status m_top m_bottom m_sort m_trayMany m_trays m_tape m_text m_taped m_size m_token m_from m_end m_value m_faultKind m_from 1 m_seen m_toldParts m_opened m_depth m_counted m_bestOrder m_standers m_has m_bestHas m_standerMany m_bestCouples m_bestFondness m_cameTo m_doesStandFirst m_stoodBy m_drawn m_ranSteps m_loops m_ran m_told1 m_isTold m_marks] H := hP
      refine lv_iconst (v := 0) hx hb dX12_fails_32 (by decide) ?_
      cases h
      subst hW1
      exact W.zret hx hb hr rfl (fun _ ht9 _ => ⟨⟨_, (), rfl, rfl, hPt ht9 hP.1⟩, hS.F ht9⟩) hS.2.2 dX12_fails_33
