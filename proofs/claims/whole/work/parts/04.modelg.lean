theorem dX12_lives_0 : decode cX12_lives 0 = .ok (.aload_n 0, 1) := by decide +kernel
theorem dX12_lives_1 : decode cX12_lives 1 = .ok (.iload_n 1, 1) := by decide +kernel
theorem dX12_lives_2 : decode cX12_lives 2 = .ok (.putfield 418, 3) := by decide +kernel
theorem dX12_lives_5 : decode cX12_lives 5 = .ok (.aload_n 0, 1) := by decide +kernel
theorem dX12_lives_6 : decode cX12_lives 6 = .ok (.iconst 0, 1) := by decide +kernel
theorem dX12_lives_7 : decode cX12_lives 7 = .ok (.putfield 431, 3) := by decide +kernel
theorem dX12_lives_10 : decode cX12_lives 10 = .ok (.iconst 0, 1) := by decide +kernel
theorem dX12_lives_11 : decode cX12_lives 11 = .ok (.istore_n 2, 1) := by decide +kernel
theorem dX12_lives_12 : decode cX12_lives 12 = .ok (.iload_n 2, 1) := by decide +kernel
theorem dX12_lives_13 : decode cX12_lives 13 = .ok (.iconst 5, 1) := by decide +kernel
theorem dX12_lives_14 : decode cX12_lives 14 = .ok (.if_icmp .ge 16, 3) := by decide +kernel
theorem dX12_lives_17 : decode cX12_lives 17 = .ok (.aload_n 0, 1) := by decide +kernel
theorem dX12_lives_18 : decode cX12_lives 18 = .ok (.getfield 65, 3) := by decide +kernel
theorem dX12_lives_21 : decode cX12_lives 21 = .ok (.iload_n 2, 1) := by decide +kernel
theorem dX12_lives_22 : decode cX12_lives 22 = .ok (.iconst 0, 1) := by decide +kernel
theorem dX12_lives_23 : decode cX12_lives 23 = .ok (.iastore, 1) := by decide +kernel
theorem dX12_lives_24 : decode cX12_lives 24 = .ok (.iinc 2 1, 3) := by decide +kernel
theorem dX12_lives_27 : decode cX12_lives 27 = .ok (.goto (-15), 3) := by decide +kernel
theorem dX12_lives_30 : decode cX12_lives 30 = .ok (.iconst 0, 1) := by decide +kernel
theorem dX12_lives_31 : decode cX12_lives 31 = .ok (.istore_n 2, 1) := by decide +kernel
theorem dX12_lives_32 : decode cX12_lives 32 = .ok (.iload_n 2, 1) := by decide +kernel
theorem dX12_lives_33 : decode cX12_lives 33 = .ok (.aload_n 0, 1) := by decide +kernel
theorem dX12_lives_34 : decode cX12_lives 34 = .ok (.getfield 7, 3) := by decide +kernel
theorem dX12_lives_37 : decode cX12_lives 37 = .ok (.iconst 5, 1) := by decide +kernel
theorem dX12_lives_38 : decode cX12_lives 38 = .ok (.iaload, 1) := by decide +kernel
theorem dX12_lives_39 : decode cX12_lives 39 = .ok (.if_icmp .ge 144, 3) := by decide +kernel
theorem dX12_lives_42 : decode cX12_lives 42 = .ok (.aload_n 0, 1) := by decide +kernel
theorem dX12_lives_43 : decode cX12_lives 43 = .ok (.getfield 431, 3) := by decide +kernel
theorem dX12_lives_46 : decode cX12_lives 46 = .ok (.sipush 300, 3) := by decide +kernel
theorem dX12_lives_49 : decode cX12_lives 49 = .ok (.if_icmp .ne 11, 3) := by decide +kernel
theorem dX12_lives_52 : decode cX12_lives 52 = .ok (.aload_n 0, 1) := by decide +kernel
theorem dX12_lives_53 : decode cX12_lives 53 = .ok (.getfield 65, 3) := by decide +kernel
theorem dX12_lives_56 : decode cX12_lives 56 = .ok (.iconst 4, 1) := by decide +kernel
theorem dX12_lives_57 : decode cX12_lives 57 = .ok (.iconst 1, 1) := by decide +kernel
theorem dX12_lives_58 : decode cX12_lives 58 = .ok (.iastore, 1) := by decide +kernel
theorem dX12_lives_59 : decode cX12_lives 59 = .ok (.return_, 1) := by decide +kernel
theorem dX12_lives_60 : decode cX12_lives 60 = .ok (.bipush 120, 2) := by decide +kernel
theorem dX12_lives_62 : decode cX12_lives 62 = .ok (.bipush 6, 2) := by decide +kernel
theorem dX12_lives_64 : decode cX12_lives 64 = .ok (.iload_n 2, 1) := by decide +kernel
theorem dX12_lives_65 : decode cX12_lives 65 = .ok (.imul, 1) := by decide +kernel
theorem dX12_lives_66 : decode cX12_lives 66 = .ok (.iadd, 1) := by decide +kernel
theorem dX12_lives_67 : decode cX12_lives 67 = .ok (.istore_n 3, 1) := by decide +kernel
theorem dX12_lives_68 : decode cX12_lives 68 = .ok (.aload_n 0, 1) := by decide +kernel
theorem dX12_lives_69 : decode cX12_lives 69 = .ok (.dup, 1) := by decide +kernel
theorem dX12_lives_70 : decode cX12_lives 70 = .ok (.getfield 431, 3) := by decide +kernel
theorem dX12_lives_73 : decode cX12_lives 73 = .ok (.iconst 1, 1) := by decide +kernel
theorem dX12_lives_74 : decode cX12_lives 74 = .ok (.iadd, 1) := by decide +kernel
theorem dX12_lives_75 : decode cX12_lives 75 = .ok (.putfield 431, 3) := by decide +kernel
theorem dX12_lives_78 : decode cX12_lives 78 = .ok (.aload_n 0, 1) := by decide +kernel
theorem dX12_lives_79 : decode cX12_lives 79 = .ok (.getfield 7, 3) := by decide +kernel
theorem dX12_lives_82 : decode cX12_lives 82 = .ok (.iload_n 3, 1) := by decide +kernel
theorem dX12_lives_83 : decode cX12_lives 83 = .ok (.iaload, 1) := by decide +kernel
theorem dX12_lives_84 : decode cX12_lives 84 = .ok (.bipush 15, 2) := by decide +kernel
theorem dX12_lives_86 : decode cX12_lives 86 = .ok (.if_icmp .ne 4, 3) := by decide +kernel
theorem dX12_lives_89 : decode cX12_lives 89 = .ok (.return_, 1) := by decide +kernel
theorem dX12_lives_90 : decode cX12_lives 90 = .ok (.aload_n 0, 1) := by decide +kernel
theorem dX12_lives_91 : decode cX12_lives 91 = .ok (.getfield 65, 3) := by decide +kernel
theorem dX12_lives_94 : decode cX12_lives 94 = .ok (.iconst 0, 1) := by decide +kernel
theorem dX12_lives_95 : decode cX12_lives 95 = .ok (.dup2, 1) := by decide +kernel
theorem dX12_lives_96 : decode cX12_lives 96 = .ok (.iaload, 1) := by decide +kernel
theorem dX12_lives_97 : decode cX12_lives 97 = .ok (.aload_n 0, 1) := by decide +kernel
theorem dX12_lives_98 : decode cX12_lives 98 = .ok (.iload_n 3, 1) := by decide +kernel
theorem dX12_lives_99 : decode cX12_lives 99 = .ok (.invokevirtual 434, 3) := by decide +kernel
theorem dX12_lives_102 : decode cX12_lives 102 = .ok (.ifCond .eq 7, 3) := by decide +kernel
theorem dX12_lives_105 : decode cX12_lives 105 = .ok (.iconst 0, 1) := by decide +kernel
theorem dX12_lives_106 : decode cX12_lives 106 = .ok (.goto 4, 3) := by decide +kernel
theorem dX12_lives_109 : decode cX12_lives 109 = .ok (.iconst 1, 1) := by decide +kernel
theorem dX12_lives_110 : decode cX12_lives 110 = .ok (.iadd, 1) := by decide +kernel
theorem dX12_lives_111 : decode cX12_lives 111 = .ok (.iastore, 1) := by decide +kernel
theorem dX12_lives_112 : decode cX12_lives 112 = .ok (.aload_n 0, 1) := by decide +kernel
theorem dX12_lives_113 : decode cX12_lives 113 = .ok (.getfield 7, 3) := by decide +kernel
theorem dX12_lives_116 : decode cX12_lives 116 = .ok (.iload_n 3, 1) := by decide +kernel
theorem dX12_lives_117 : decode cX12_lives 117 = .ok (.iaload, 1) := by decide +kernel
theorem dX12_lives_118 : decode cX12_lives 118 = .ok (.bipush 13, 2) := by decide +kernel
theorem dX12_lives_120 : decode cX12_lives 120 = .ok (.if_icmp .ne 19, 3) := by decide +kernel
theorem dX12_lives_123 : decode cX12_lives 123 = .ok (.aload_n 0, 1) := by decide +kernel
theorem dX12_lives_124 : decode cX12_lives 124 = .ok (.getfield 62, 3) := by decide +kernel
theorem dX12_lives_127 : decode cX12_lives 127 = .ok (.iload_n 2, 1) := by decide +kernel
theorem dX12_lives_128 : decode cX12_lives 128 = .ok (.aload_n 0, 1) := by decide +kernel
theorem dX12_lives_129 : decode cX12_lives 129 = .ok (.getfield 7, 3) := by decide +kernel
theorem dX12_lives_132 : decode cX12_lives 132 = .ok (.iload_n 3, 1) := by decide +kernel
theorem dX12_lives_133 : decode cX12_lives 133 = .ok (.iconst 1, 1) := by decide +kernel
theorem dX12_lives_134 : decode cX12_lives 134 = .ok (.iadd, 1) := by decide +kernel
theorem dX12_lives_135 : decode cX12_lives 135 = .ok (.iaload, 1) := by decide +kernel
theorem dX12_lives_136 : decode cX12_lives 136 = .ok (.iconst 1, 1) := by decide +kernel
theorem dX12_lives_137 : decode cX12_lives 137 = .ok (.isub, 1) := by decide +kernel
theorem dX12_lives_138 : decode cX12_lives 138 = .ok (.iastore, 1) := by decide +kernel
theorem dX12_lives_139 : decode cX12_lives 139 = .ok (.aload_n 0, 1) := by decide +kernel
theorem dX12_lives_140 : decode cX12_lives 140 = .ok (.aload_n 0, 1) := by decide +kernel
theorem dX12_lives_141 : decode cX12_lives 141 = .ok (.getfield 7, 3) := by decide +kernel
theorem dX12_lives_144 : decode cX12_lives 144 = .ok (.iload_n 3, 1) := by decide +kernel
theorem dX12_lives_145 : decode cX12_lives 145 = .ok (.iaload, 1) := by decide +kernel
theorem dX12_lives_146 : decode cX12_lives 146 = .ok (.sipush 1200, 3) := by decide +kernel
theorem dX12_lives_149 : decode cX12_lives 149 = .ok (.if_icmp .lt 24, 3) := by decide +kernel
theorem dX12_lives_152 : decode cX12_lives 152 = .ok (.aload_n 0, 1) := by decide +kernel
theorem dX12_lives_153 : decode cX12_lives 153 = .ok (.iload_n 3, 1) := by decide +kernel
theorem dX12_lives_154 : decode cX12_lives 154 = .ok (.invokevirtual 437, 3) := by decide +kernel
theorem dX12_lives_157 : decode cX12_lives 157 = .ok (.ifCond .ne 16, 3) := by decide +kernel
theorem dX12_lives_160 : decode cX12_lives 160 = .ok (.aload_n 0, 1) := by decide +kernel
theorem dX12_lives_161 : decode cX12_lives 161 = .ok (.getfield 7, 3) := by decide +kernel
theorem dX12_lives_164 : decode cX12_lives 164 = .ok (.iload_n 3, 1) := by decide +kernel
theorem dX12_lives_165 : decode cX12_lives 165 = .ok (.iconst 4, 1) := by decide +kernel
theorem dX12_lives_166 : decode cX12_lives 166 = .ok (.iadd, 1) := by decide +kernel
theorem dX12_lives_167 : decode cX12_lives 167 = .ok (.iaload, 1) := by decide +kernel
theorem dX12_lives_168 : decode cX12_lives 168 = .ok (.iconst 1, 1) := by decide +kernel
theorem dX12_lives_169 : decode cX12_lives 169 = .ok (.iadd, 1) := by decide +kernel
theorem dX12_lives_170 : decode cX12_lives 170 = .ok (.goto 6, 3) := by decide +kernel
theorem dX12_lives_173 : decode cX12_lives 173 = .ok (.iload_n 2, 1) := by decide +kernel
theorem dX12_lives_174 : decode cX12_lives 174 = .ok (.iconst 1, 1) := by decide +kernel
theorem dX12_lives_175 : decode cX12_lives 175 = .ok (.iadd, 1) := by decide +kernel
theorem dX12_lives_176 : decode cX12_lives 176 = .ok (.invokevirtual 440, 3) := by decide +kernel
theorem dX12_lives_179 : decode cX12_lives 179 = .ok (.istore_n 2, 1) := by decide +kernel
theorem dX12_lives_180 : decode cX12_lives 180 = .ok (.goto (-148), 3) := by decide +kernel
theorem dX12_lives_183 : decode cX12_lives 183 = .ok (.return_, 1) := by decide +kernel
theorem mv_X12_lives : MV yX12_lives RX12 cX12_lives 4 none 1 := ⟨tb_1874, tb_1873, ts_110, tb_16, by decide +kernel, by decide +kernel, by decide +kernel⟩
def f_X12_lives_j139 (fu : Nat) (x1 : Int32) (k32 : (Nat → Int32) → Int32 → Int32 → (Nat → Int32) → (Nat → Int32) → Int32 → (Option ((Nat → Int32) × Int32 × Int32 × (Nat → Int32) × (Nat → Int32)))) (m_at : Nat → Int32) (m_drawn : Int32) (m_ranSteps : Int32) (m_loops : Nat → Int32) (m_ran : Nat → Int32) (x2 : Int32) (x3 : Int32) : Option ((Nat → Int32) × Int32 × Int32 × (Nat → Int32) × (Nat → Int32)) := (rdI m_at 3648 x3).bind fun y_28 => (if y_28 < 1200 then (f_X12_behindEnds fu m_at m_loops (x2 + 1)).bind fun z_30 => k32 m_at m_drawn m_ranSteps z_30.2 m_ran z_30.1 else (f_X12_holds fu m_at x3).bind fun z_31 => (if z_31 = 0 then (rdI m_at 3648 (x3 + 4)).bind fun y_34 => (f_X12_behindEnds fu m_at m_loops (y_34 + 1)).bind fun z_35 => k32 m_at m_drawn m_ranSteps z_35.2 m_ran z_35.1 else (f_X12_behindEnds fu m_at m_loops (x2 + 1)).bind fun z_33 => k32 m_at m_drawn m_ranSteps z_33.2 m_ran z_33.1))
def f_X12_lives_j110 (fu : Nat) (x1 : Int32) (k32 : (Nat → Int32) → Int32 → Int32 → (Nat → Int32) → (Nat → Int32) → Int32 → (Option ((Nat → Int32) × Int32 × Int32 × (Nat → Int32) × (Nat → Int32)))) (m_at : Nat → Int32) (m_drawn : Int32) (m_ranSteps : Int32) (m_loops : Nat → Int32) (m_ran : Nat → Int32) (x2 : Int32) (x3 : Int32) (s1 : Int32) (s2 : Int32) (s3 : Int32) : Option ((Nat → Int32) × Int32 × Int32 × (Nat → Int32) × (Nat → Int32)) := (wrI m_ran 5 s1 (s2 + s3)).bind fun m_ran_36 => (rdI m_at 3648 x3).bind fun y_37 => (if y_37 = 13 then (rdI m_at 3648 (x3 + 1)).bind fun y_39 => (wrI m_loops 80 x2 (y_39 - 1)).bind fun m_loops_40 => f_X12_lives_j139 fu x1 k32 m_at m_drawn m_ranSteps m_loops_40 m_ran_36 x2 x3 else f_X12_lives_j139 fu x1 k32 m_at m_drawn m_ranSteps m_loops m_ran_36 x2 x3)
def f_X12_lives_b32 (fu : Nat) (x1 : Int32) (k32 : (Nat → Int32) → Int32 → Int32 → (Nat → Int32) → (Nat → Int32) → Int32 → (Option ((Nat → Int32) × Int32 × Int32 × (Nat → Int32) × (Nat → Int32)))) (m_at : Nat → Int32) (m_drawn : Int32) (m_ranSteps : Int32) (m_loops : Nat → Int32) (m_ran : Nat → Int32) (x2 : Int32) : Option ((Nat → Int32) × Int32 × Int32 × (Nat → Int32) × (Nat → Int32)) := (rdI m_at 3648 5).bind fun y_41 => (if y_41 ≤ x2 then some (m_at, m_drawn, m_ranSteps, m_loops, m_ran) else (if m_ranSteps = 300 then (wrI m_ran 5 4 1).bind fun m_ran_51 => some (m_at, m_drawn, m_ranSteps, m_loops, m_ran_51) else bnd (120 + (6 * x2)) fun x3_44 => bnd (m_ranSteps + 1) fun m_ranSteps_45 => (rdI m_at 3648 x3_44).bind fun y_46 => (if y_46 = 15 then some (m_at, m_drawn, m_ranSteps_45, m_loops, m_ran) else (rdI m_ran 5 0).bind fun y_48 => (f_X12_does fu m_at m_drawn m_ran x3_44).bind fun z_49 => (if z_49.1 = 0 then f_X12_lives_j110 fu x1 k32 z_49.2.1 z_49.2.2.1 m_ranSteps_45 m_loops z_49.2.2.2 x2 x3_44 0 y_48 1 else f_X12_lives_j110 fu x1 k32 z_49.2.1 z_49.2.2.1 m_ranSteps_45 m_loops z_49.2.2.2 x2 x3_44 0 y_48 0))))
def f_X12_lives_l32 (fu : Nat) (x1 : Int32) : Nat → (Nat → Int32) → Int32 → Int32 → (Nat → Int32) → (Nat → Int32) → Int32 → (Option ((Nat → Int32) × Int32 × Int32 × (Nat → Int32) × (Nat → Int32)))
  | 0, _, _, _, _, _, _ => none
  | n + 1, m_at, m_drawn, m_ranSteps, m_loops, m_ran, x2 => f_X12_lives_b32 fu x1 (f_X12_lives_l32 fu x1 n) m_at m_drawn m_ranSteps m_loops m_ran x2
def f_X12_lives_b12 (fu : Nat) (x1 : Int32) (k12 : (Nat → Int32) → Int32 → Int32 → (Nat → Int32) → (Nat → Int32) → Int32 → (Option ((Nat → Int32) × Int32 × Int32 × (Nat → Int32) × (Nat → Int32)))) (m_at : Nat → Int32) (m_drawn : Int32) (m_ranSteps : Int32) (m_loops : Nat → Int32) (m_ran : Nat → Int32) (x2 : Int32) : Option ((Nat → Int32) × Int32 × Int32 × (Nat → Int32) × (Nat → Int32)) := (if 5 ≤ x2 then f_X12_lives_l32 fu x1 fu m_at m_drawn m_ranSteps m_loops m_ran 0 else (wrI m_ran 5 x2 0).bind fun m_ran_53 => bnd (x2 + 1) fun x2_54 => k12 m_at m_drawn m_ranSteps m_loops m_ran_53 x2_54)
def f_X12_lives_l12 (fu : Nat) (x1 : Int32) : Nat → (Nat → Int32) → Int32 → Int32 → (Nat → Int32) → (Nat → Int32) → Int32 → (Option ((Nat → Int32) × Int32 × Int32 × (Nat → Int32) × (Nat → Int32)))
  | 0, _, _, _, _, _, _ => none
  | n + 1, m_at, m_drawn, m_ranSteps, m_loops, m_ran, x2 => f_X12_lives_b12 fu x1 (f_X12_lives_l12 fu x1 n) m_at m_drawn m_ranSteps m_loops m_ran x2
def f_X12_lives (fu : Nat) (m_at : Nat → Int32) (m_drawn : Int32) (m_ranSteps : Int32) (m_loops : Nat → Int32) (m_ran : Nat → Int32) (x1 : Int32) : Option ((Nat → Int32) × Int32 × Int32 × (Nat → Int32) × (Nat → Int32)) := f_X12_lives_l12 fu x1 fu m_at x1 0 m_loops m_ran 0
abbrev rm_X12_lives : Room := { frames := 11, cells := 0, slots := 0, locals := 251 }
set_option maxHeartbeats 4000000 in
set_option maxRecDepth 100000 in
theorem c_X12_lives (l : Launch) (D : va_G) (cy : Nat → ClassId) (fu : Nat) (A_m : Nat → Nat) (m_at : Nat → Int32) (m_names : Nat → Int64) (m_status : Int32) (m_top : Int64) (m_bottom : Int64) (m_sort : Nat → Int32) (m_trayMany : Nat → Int32) (m_trays : Nat → Int64) (m_tape : Nat → Int32) (m_text : Nat → Int32) (m_taped : Int32) (m_size : Int32) (m_token : Int32) (m_from : Int32) (m_end : Int32) (m_value : Int32) (m_faultKind : Int32) (m_faultPlace : Int32) (m_faults : Int32) (m_seen : Int32) (m_toldParts : Int32) (m_opened : Nat → Int32) (m_depth : Int32) (m_counted : Int32) (m_bestOrder : Int32) (m_standers : Nat → Int32) (m_has : Nat → Int32) (m_bestHas : Nat → Int32) (m_standerMany : Int32) (m_bestCouples : Int32) (m_bestFondness : Int32) (m_cameTo : Nat → Int32) (m_doesStandFirst : Int32) (m_stoodBy : Nat → Int64) (m_drawn : Int32) (m_ranSteps : Int32) (m_loops : Nat → Int32) (m_ran : Nat → Int32) (m_told1 : Nat → Int32) (m_isTold : Int32) (m_marks : Int32) (x1 : Int32) (res : (Nat → Int32) × Int32 × Int32 × (Nat → Int32) × (Nat → Int32)) (h : f_X12_lives fu m_at m_drawn m_ranSteps m_loops m_ran x1 = some res) (A : Nat → Prop) (hA : A = adr [bl_X12 cy A_m m_at m_names m_status m_top m_bottom m_sort m_trayMany m_trays m_tape m_text m_taped m_size m_token m_from m_end m_value m_faultKind m_faultPlace m_faults m_seen m_toldParts m_opened m_depth m_counted m_bestOrder m_standers m_has m_bestHas m_standerMany m_bestCouples m_bestFondness m_cameTo m_doesStandFirst m_stoodBy m_drawn m_ranSteps m_loops m_ran m_told1 m_isTold m_marks]) (W1 : List va_W) (hW1 : W1 = [bl_X12 cy A_m res.1 m_names m_status m_top m_bottom m_sort m_trayMany m_trays m_tape m_text m_taped m_size m_token m_from m_end m_value m_faultKind m_faultPlace m_faults m_seen m_toldParts m_opened m_depth m_counted m_bestOrder m_standers m_has m_bestHas m_standerMany m_bestCouples m_bestFondness m_cameTo m_doesStandFirst m_stoodBy res.2.1 res.2.2.1 res.2.2.2.1 res.2.2.2.2 m_told1 m_isTold m_marks]) : Met l yX12_lives (WW yX12_lives cX12_lives 4 none) rm_X12_lives (Ed D cy [.ref (A_m 0), .int x1] [bl_X12 cy A_m m_at m_names m_status m_top m_bottom m_sort m_trayMany m_trays m_tape m_text m_taped m_size m_token m_from m_end m_value m_faultKind m_faultPlace m_faults m_seen m_toldParts m_opened m_depth m_counted m_bestOrder m_standers m_has m_bestHas m_standerMany m_bestCouples m_bestFondness m_cameTo m_doesStandFirst m_stoodBy m_drawn m_ranSteps m_loops m_ran m_told1 m_isTold m_marks]) (Qev D A W1) 0 0 A := by
  refine Met.ofW (cc := cX12_lives) (maxL := 4) (ret := none) (by decide) rfl ?_
  intro p e s m args below meth c s₁ B hml hv
  obtain ⟨hargs, hP, hX, hD0⟩ := hv
  have hx := B.exec
  have hb := B.bytes
  have hr := B.returns
  have ht : ∀ w ∈ lw_gd, w.before args s = true := fun w hw => atoms_spec (ws := WW yX12_lives cX12_lives 4 none) B.pre w (List.mem_cons_of_mem _ hw)
  have hown : s.vm.findClass RX12 = some m.cls := findClass_of_methodNamed B.named
  have hlocks := B.notSynchronized
  have hP : PD D A [bl_X12 cy A_m m_at m_names m_status m_top m_bottom m_sort m_trayMany m_trays m_tape m_text m_taped m_size m_token m_from m_end m_value m_faultKind m_faultPlace m_faults m_seen m_toldParts m_opened m_depth m_counted m_bestOrder m_standers m_has m_bestHas m_standerMany m_bestCouples m_bestFondness m_cameTo m_doesStandFirst m_stoodBy m_drawn m_ranSteps m_loops m_ran m_told1 m_isTold m_marks] s.heap := ⟨hP, by rw [hA]; exact hD0.own⟩
  have hS : va_S A s.heap s.heap [] := va_S.rf
  obtain ⟨ls, hl, hent⟩ := ent (m := m) (n := 4) hargs (Nat.le_of_ble_eq_true rfl) (lv := [(0, .ref (A_m 0)), (1, .int x1)]) rfl
  rw [hent]
  clear hent
  have l32 : ∀ (n32 : Nat) (m_at : Nat → Int32) (m_drawn : Int32) (m_ranSteps : Int32) (m_loops : Nat → Int32) (m_ran : Nat → Int32) (x2 : Int32) (H : Heap) (locs : List Loc) (_ : PD D A [bl_X12 cy A_m m_at m_names m_status m_top m_bottom m_sort m_trayMany m_trays m_tape m_text m_taped m_size m_token m_from m_end m_value m_faultKind m_faultPlace m_faults m_seen m_toldParts m_opened m_depth m_counted m_bestOrder m_standers m_has m_bestHas m_standerMany m_bestCouples m_bestFondness m_cameTo m_doesStandFirst m_stoodBy m_drawn m_ranSteps m_loops m_ran m_told1 m_isTold m_marks] H) (_ : va_S A s.heap H locs) (ls : Array Slot), lv_has ls 4 [(0, .ref (A_m 0)), (2, .int x2)] → f_X12_lives_l32 fu x1 n32 m_at m_drawn m_ranSteps m_loops m_ran x2 = some res → W p l e (headSpec (WW yX12_lives cX12_lives 4 none) rm_X12_lives).room s m args below meth c H locs 0 0 (MQ below (Qev D A W1) args s 0 0 A) (F0 m 32 ls []) := by
    intro n32
    induction n32 with
    | zero => intro m_at m_drawn m_ranSteps m_loops m_ran x2 H locs hP hS ls hl h; cases h
    | succ n32 ih32 =>
      have j139 : ∀ (m_at : Nat → Int32) (m_drawn : Int32) (m_ranSteps : Int32) (m_loops : Nat → Int32) (m_ran : Nat → Int32) (x2 : Int32) (x3 : Int32) (H : Heap) (locs : List Loc) (_ : PD D A [bl_X12 cy A_m m_at m_names m_status m_top m_bottom m_sort m_trayMany m_trays m_tape m_text m_taped m_size m_token m_from m_end m_value m_faultKind m_faultPlace m_faults m_seen m_toldParts m_opened m_depth m_counted m_bestOrder m_standers m_has m_bestHas m_standerMany m_bestCouples m_bestFondness m_cameTo m_doesStandFirst m_stoodBy m_drawn m_ranSteps m_loops m_ran m_told1 m_isTold m_marks] H) (_ : va_S A s.heap H locs) (ls : Array Slot), lv_has ls 4 [(0, .ref (A_m 0)), (2, .int x2), (3, .int x3)] → f_X12_lives_j139 fu x1 (f_X12_lives_l32 fu x1 n32) m_at m_drawn m_ranSteps m_loops m_ran x2 x3 = some res → W p l e (headSpec (WW yX12_lives cX12_lives 4 none) rm_X12_lives).room s m args below meth c H locs 0 0 (MQ below (Qev D A W1) args s 0 0 A) (F0 m 139 ls []) := by
        intro m_at m_drawn m_ranSteps m_loops m_ran x2 x3 H locs hP hS ls hl h
        unfold f_X12_lives_j139 at h
        refine lv_aload_n hx hb dX12_lives_139 rfl (lv_at hl 0 rfl) ?_
        refine lv_aload_n hx hb dX12_lives_140 rfl (lv_at hl 0 rfl) ?_
        refine xget (i := 0) (j := 0) (k := 0) (T := TX12) hx hb ht tb_iX12 hown hX hP.1 rfl rfl rfl (by decide) tb_1229 rfl dX12_lives_141 ?_
        refine lv_iload_n hx hb dX12_lives_144 rfl (lv_at hl 2 rfl) ?_
        obtain ⟨y_28, e_y_28, h⟩ := bi h
        refine xiald (i0 := 0) (j0 := 1) hx hb hX hP.1 rfl rfl e_y_28 dX12_lives_145 ?_
        refine lv_sipush (v := 1200) hx hb dX12_lives_146 (by decide) ?_
        refine lv_icmp_lt (tgt := 173) hx hb dX12_lives_149 (by decide) (fun c_29 => ?_) (fun c_29 => ?_)
        · have h := it c_29 h
          refine lv_iload_n hx hb dX12_lives_173 rfl (lv_at hl 1 rfl) ?_
          refine lv_iconst (v := 1) hx hb dX12_lives_174 (by decide) ?_
          refine lv_iadd hx hb dX12_lives_175 ?_
          obtain ⟨z_30, e_z_30, h⟩ := bi h
          refine efVi (rest := []) ⟨hx, hb, hml, hown, ht⟩ (c_X12_behindEnds l D cy fu A_m m_at m_names m_status m_top m_bottom m_sort m_trayMany m_trays m_tape m_text m_taped m_size m_token m_from m_end m_value m_faultKind m_faultPlace m_faults m_seen m_toldParts m_opened m_depth m_counted m_bestOrder m_standers m_has m_bestHas m_standerMany m_bestCouples m_bestFondness m_cameTo m_doesStandFirst m_stoodBy m_drawn m_ranSteps m_loops m_ran m_told1 m_isTold m_marks (x2 + 1) z_30 e_z_30 _ rfl _ rfl) (cV ht mv_X12_behindEnds tb_1896 rfl rfl ⟨Nat.le_of_ble_eq_true rfl, Nat.le_of_ble_eq_true rfl⟩) hP hS hX [0] rfl rfl rfl rfl rfl rfl hl.1 rfl (Nat.le_of_ble_eq_true rfl) dX12_lives_176 ⟨Nat.le_of_ble_eq_true rfl, Nat.le_of_ble_eq_true rfl⟩ (fun H locs hP hS => ?_)
          have hP : PD D A [bl_X12 cy A_m m_at m_names m_status m_top m_bottom m_sort m_trayMany m_trays m_tape m_text m_taped m_size m_token m_from m_end m_value m_faultKind m_faultPlace m_faults m_seen m_toldParts m_opened m_depth m_counted m_bestOrder m_standers m_has m_bestHas m_standerMany m_bestCouples m_bestFondness m_cameTo m_doesStandFirst m_stoodBy m_drawn m_ranSteps z_30.2 m_ran m_told1 m_isTold m_marks] H := hP
          refine lv_istore_n (lv' := [(2, .int z_30.1), (0, .ref (A_m 0)), (3, .int x3)]) hx hb dX12_lives_179 rfl hl (by decide) rfl (fun ls hl => ?_)
          refine lv_goto (tgt := 32) hx hb dX12_lives_180 (by decide) ?_
          exact ih32 m_at m_drawn m_ranSteps z_30.2 m_ran z_30.1 _ _ hP hS ls (lv_sub hl [1, 0] rfl) h
        · have h := ie c_29 h
          refine lv_aload_n hx hb dX12_lives_152 rfl (lv_at hl 0 rfl) ?_
          refine lv_iload_n hx hb dX12_lives_153 rfl (lv_at hl 2 rfl) ?_
          obtain ⟨z_31, e_z_31, h⟩ := bi h
          refine roVi (rest := [.ref (A_m 0)]) ⟨hx, hb, hml, hown, ht⟩ (c_X12_holds l D cy fu A_m m_at m_names m_status m_top m_bottom m_sort m_trayMany m_trays m_tape m_text m_taped m_size m_token m_from m_end m_value m_faultKind m_faultPlace m_faults m_seen m_toldParts m_opened m_depth m_counted m_bestOrder m_standers m_has m_bestHas m_standerMany m_bestCouples m_bestFondness m_cameTo m_doesStandFirst m_stoodBy m_drawn m_ranSteps m_loops m_ran m_told1 m_isTold m_marks x3 z_31 e_z_31) (cV ht mv_X12_holds tb_1892 rfl rfl ⟨Nat.le_of_ble_eq_true rfl, Nat.le_of_ble_eq_true rfl⟩) (P_sub hP.1 [0] rfl) hX rfl rfl rfl hl.1 rfl (Nat.le_of_ble_eq_true rfl) dX12_lives_154 ⟨Nat.le_of_ble_eq_true rfl, Nat.le_of_ble_eq_true rfl⟩ ?_
          refine lv_if_ne (tgt := 173) hx hb dX12_lives_157 (by decide) (fun c_32 => ?_) (fun c_32 => ?_)
          · have h := ie c_32 h
            refine lv_iload_n hx hb dX12_lives_173 rfl (lv_at hl 1 rfl) ?_
            refine lv_iconst (v := 1) hx hb dX12_lives_174 (by decide) ?_
            refine lv_iadd hx hb dX12_lives_175 ?_
            obtain ⟨z_33, e_z_33, h⟩ := bi h
            refine efVi (rest := []) ⟨hx, hb, hml, hown, ht⟩ (c_X12_behindEnds l D cy fu A_m m_at m_names m_status m_top m_bottom m_sort m_trayMany m_trays m_tape m_text m_taped m_size m_token m_from m_end m_value m_faultKind m_faultPlace m_faults m_seen m_toldParts m_opened m_depth m_counted m_bestOrder m_standers m_has m_bestHas m_standerMany m_bestCouples m_bestFondness m_cameTo m_doesStandFirst m_stoodBy m_drawn m_ranSteps m_loops m_ran m_told1 m_isTold m_marks (x2 + 1) z_33 e_z_33 _ rfl _ rfl) (cV ht mv_X12_behindEnds tb_1896 rfl rfl ⟨Nat.le_of_ble_eq_true rfl, Nat.le_of_ble_eq_true rfl⟩) hP hS hX [0] rfl rfl rfl rfl rfl rfl hl.1 rfl (Nat.le_of_ble_eq_true rfl) dX12_lives_176 ⟨Nat.le_of_ble_eq_true rfl, Nat.le_of_ble_eq_true rfl⟩ (fun H locs hP hS => ?_)
            have hP : PD D A [bl_X12 cy A_m m_at m_names m_status m_top m_bottom m_sort m_trayMany m_trays m_tape m_text m_taped m_size m_token m_from m_end m_value m_faultKind m_faultPlace m_faults m_seen m_toldParts m_opened m_depth m_counted m_bestOrder m_standers m_has m_bestHas m_standerMany m_bestCouples m_bestFondness m_cameTo m_doesStandFirst m_stoodBy m_drawn m_ranSteps z_33.2 m_ran m_told1 m_isTold m_marks] H := hP
            refine lv_istore_n (lv' := [(2, .int z_33.1), (0, .ref (A_m 0)), (3, .int x3)]) hx hb dX12_lives_179 rfl hl (by decide) rfl (fun ls hl => ?_)
            refine lv_goto (tgt := 32) hx hb dX12_lives_180 (by decide) ?_
            exact ih32 m_at m_drawn m_ranSteps z_33.2 m_ran z_33.1 _ _ hP hS ls (lv_sub hl [1, 0] rfl) h
          · have h := it c_32 h
            refine lv_aload_n hx hb dX12_lives_160 rfl (lv_at hl 0 rfl) ?_
            refine xget (i := 0) (j := 0) (k := 0) (T := TX12) hx hb ht tb_iX12 hown hX hP.1 rfl rfl rfl (by decide) tb_1229 rfl dX12_lives_161 ?_
            refine lv_iload_n hx hb dX12_lives_164 rfl (lv_at hl 2 rfl) ?_
            refine lv_iconst (v := 4) hx hb dX12_lives_165 (by decide) ?_
            refine lv_iadd hx hb dX12_lives_166 ?_
            obtain ⟨y_34, e_y_34, h⟩ := bi h
            refine xiald (i0 := 0) (j0 := 1) hx hb hX hP.1 rfl rfl e_y_34 dX12_lives_167 ?_
            refine lv_iconst (v := 1) hx hb dX12_lives_168 (by decide) ?_
            refine lv_iadd hx hb dX12_lives_169 ?_
            refine lv_goto (tgt := 176) hx hb dX12_lives_170 (by decide) ?_
            obtain ⟨z_35, e_z_35, h⟩ := bi h
            refine efVi (rest := []) ⟨hx, hb, hml, hown, ht⟩ (c_X12_behindEnds l D cy fu A_m m_at m_names m_status m_top m_bottom m_sort m_trayMany m_trays m_tape m_text m_taped m_size m_token m_from m_end m_value m_faultKind m_faultPlace m_faults m_seen m_toldParts m_opened m_depth m_counted m_bestOrder m_standers m_has m_bestHas m_standerMany m_bestCouples m_bestFondness m_cameTo m_doesStandFirst m_stoodBy m_drawn m_ranSteps m_loops m_ran m_told1 m_isTold m_marks (y_34 + 1) z_35 e_z_35 _ rfl _ rfl) (cV ht mv_X12_behindEnds tb_1896 rfl rfl ⟨Nat.le_of_ble_eq_true rfl, Nat.le_of_ble_eq_true rfl⟩) hP hS hX [0] rfl rfl rfl rfl rfl rfl hl.1 rfl (Nat.le_of_ble_eq_true rfl) dX12_lives_176 ⟨Nat.le_of_ble_eq_true rfl, Nat.le_of_ble_eq_true rfl⟩ (fun H locs hP hS => ?_)
            have hP : PD D A [bl_X12 cy A_m m_at m_names m_status m_top m_bottom m_sort m_trayMany m_trays m_tape m_text m_taped m_size m_token m_from m_end m_value m_faultKind m_faultPlace m_faults m_seen m_toldParts m_opened m_depth m_counted m_bestOrder m_standers m_has m_bestHas m_standerMany m_bestCouples m_bestFondness m_cameTo m_doesStandFirst m_stoodBy m_drawn m_ranSteps z_35.2 m_ran m_told1 m_isTold m_marks] H := hP
            refine lv_istore_n (lv' := [(2, .int z_35.1), (0, .ref (A_m 0)), (3, .int x3)]) hx hb dX12_lives_179 rfl hl (by decide) rfl (fun ls hl => ?_)
            refine lv_goto (tgt := 32) hx hb dX12_lives_180 (by decide) ?_
            exact ih32 m_at m_drawn m_ranSteps z_35.2 m_ran z_35.1 _ _ hP hS ls (lv_sub hl [1, 0] rfl) h
      have j110 : ∀ (m_at : Nat → Int32) (m_drawn : Int32) (m_ranSteps : Int32) (m_loops : Nat → Int32) (m_ran : Nat → Int32) (x2 : Int32) (x3 : Int32) (s1 : Int32) (s2 : Int32) (s3 : Int32) (H : Heap) (locs : List Loc) (_ : PD D A [bl_X12 cy A_m m_at m_names m_status m_top m_bottom m_sort m_trayMany m_trays m_tape m_text m_taped m_size m_token m_from m_end m_value m_faultKind m_faultPlace m_faults m_seen m_toldParts m_opened m_depth m_counted m_bestOrder m_standers m_has m_bestHas m_standerMany m_bestCouples m_bestFondness m_cameTo m_doesStandFirst m_stoodBy m_drawn m_ranSteps m_loops m_ran m_told1 m_isTold m_marks] H) (_ : va_S A s.heap H locs) (ls : Array Slot), lv_has ls 4 [(0, .ref (A_m 0)), (2, .int x2), (3, .int x3)] → f_X12_lives_j110 fu x1 (f_X12_lives_l32 fu x1 n32) m_at m_drawn m_ranSteps m_loops m_ran x2 x3 s1 s2 s3 = some res → W p l e (headSpec (WW yX12_lives cX12_lives 4 none) rm_X12_lives).room s m args below meth c H locs 0 0 (MQ below (Qev D A W1) args s 0 0 A) (F0 m 110 ls [.int s3, .int s2, .int s1, .ref (A_m 15)]) := by
        intro m_at m_drawn m_ranSteps m_loops m_ran x2 x3 s1 s2 s3 H locs hP hS ls hl h
        unfold f_X12_lives_j110 at h
        refine lv_iadd hx hb dX12_lives_110 ?_
        obtain ⟨m_ran_36, e_m_ran_36, h⟩ := bi h
        refine xiast (i0 := 0) (j0 := 15) hx hb hX hP hS rfl rfl e_m_ran_36 dX12_lives_111 (fun H locs hP hS => ?_)
        have hP : PD D A [bl_X12 cy A_m m_at m_names m_status m_top m_bottom m_sort m_trayMany m_trays m_tape m_text m_taped m_size m_token m_from m_end m_value m_faultKind m_faultPlace m_faults m_seen m_toldParts m_opened m_depth m_counted m_bestOrder m_standers m_has m_bestHas m_standerMany m_bestCouples m_bestFondness m_cameTo m_doesStandFirst m_stoodBy m_drawn m_ranSteps m_loops m_ran_36 m_told1 m_isTold m_marks] H := hP
        refine lv_aload_n hx hb dX12_lives_112 rfl (lv_at hl 0 rfl) ?_
        refine xget (i := 0) (j := 0) (k := 0) (T := TX12) hx hb ht tb_iX12 hown hX hP.1 rfl rfl rfl (by decide) tb_1229 rfl dX12_lives_113 ?_
        refine lv_iload_n hx hb dX12_lives_116 rfl (lv_at hl 2 rfl) ?_
        obtain ⟨y_37, e_y_37, h⟩ := bi h
        refine xiald (i0 := 0) (j0 := 1) hx hb hX hP.1 rfl rfl e_y_37 dX12_lives_117 ?_
        refine lv_bipush (v := 13) hx hb dX12_lives_118 (by decide) ?_
        refine lv_icmp_ne (tgt := 139) hx hb dX12_lives_120 (by decide) (fun c_38 => ?_) (fun c_38 => ?_)
        · have h := ie c_38 h
          exact j139 m_at m_drawn m_ranSteps m_loops m_ran_36 x2 x3 _ _ hP hS ls (lv_sub hl [0, 1, 2] rfl) h
        · have h := it c_38 h
          refine lv_aload_n hx hb dX12_lives_123 rfl (lv_at hl 0 rfl) ?_
          refine xget (i := 0) (j := 0) (k := 36) (T := TX12) hx hb ht tb_iX12 hown hX hP.1 rfl rfl rfl (by decide) tb_1265 rfl dX12_lives_124 ?_
          refine lv_iload_n hx hb dX12_lives_127 rfl (lv_at hl 1 rfl) ?_
          refine lv_aload_n hx hb dX12_lives_128 rfl (lv_at hl 0 rfl) ?_
          refine xget (i := 0) (j := 0) (k := 0) (T := TX12) hx hb ht tb_iX12 hown hX hP.1 rfl rfl rfl (by decide) tb_1229 rfl dX12_lives_129 ?_
          refine lv_iload_n hx hb dX12_lives_132 rfl (lv_at hl 2 rfl) ?_
          refine lv_iconst (v := 1) hx hb dX12_lives_133 (by decide) ?_
          refine lv_iadd hx hb dX12_lives_134 ?_
          obtain ⟨y_39, e_y_39, h⟩ := bi h
          refine xiald (i0 := 0) (j0 := 1) hx hb hX hP.1 rfl rfl e_y_39 dX12_lives_135 ?_
          refine lv_iconst (v := 1) hx hb dX12_lives_136 (by decide) ?_
          refine lv_isub hx hb dX12_lives_137 ?_
          obtain ⟨m_loops_40, e_m_loops_40, h⟩ := bi h
          refine xiast (i0 := 0) (j0 := 14) hx hb hX hP hS rfl rfl e_m_loops_40 dX12_lives_138 (fun H locs hP hS => ?_)
          have hP : PD D A [bl_X12 cy A_m m_at m_names m_status m_top m_bottom m_sort m_trayMany m_trays m_tape m_text m_taped m_size m_token m_from m_end m_value m_faultKind m_faultPlace m_faults m_seen m_toldParts m_opened m_depth m_counted m_bestOrder m_standers m_has m_bestHas m_standerMany m_bestCouples m_bestFondness m_cameTo m_doesStandFirst m_stoodBy m_drawn m_ranSteps m_loops_40 m_ran_36 m_told1 m_isTold m_marks] H := hP
          exact j139 m_at m_drawn m_ranSteps m_loops_40 m_ran_36 x2 x3 _ _ hP hS ls (lv_sub hl [0, 1, 2] rfl) h
      intro m_at m_drawn m_ranSteps m_loops m_ran x2 H locs hP hS ls hl h
      have h : f_X12_lives_b32 fu x1 (f_X12_lives_l32 fu x1 n32) m_at m_drawn m_ranSteps m_loops m_ran x2 = some res := h
      unfold f_X12_lives_b32 at h
      refine lv_iload_n hx hb dX12_lives_32 rfl (lv_at hl 1 rfl) ?_
      refine lv_aload_n hx hb dX12_lives_33 rfl (lv_at hl 0 rfl) ?_
      refine xget (i := 0) (j := 0) (k := 0) (T := TX12) hx hb ht tb_iX12 hown hX hP.1 rfl rfl rfl (by decide) tb_1229 rfl dX12_lives_34 ?_
      refine lv_iconst (v := 5) hx hb dX12_lives_37 (by decide) ?_
      obtain ⟨y_41, e_y_41, h⟩ := bi h
      refine xiald (i0 := 0) (j0 := 1) hx hb hX hP.1 rfl rfl e_y_41 dX12_lives_38 ?_
      refine lv_icmp_ge (tgt := 183) hx hb dX12_lives_39 (by decide) (fun c_42 => ?_) (fun c_42 => ?_)
      · have h := it c_42 h
        cases h
        subst hW1
        exact W.vret hx hb hr (fun _ ht9 _ => ⟨⟨(), rfl, trivial, hPt ht9 hP.1⟩, hS.F ht9⟩) hS.2.2 dX12_lives_183
      · have h := ie c_42 h
        refine lv_aload_n hx hb dX12_lives_42 rfl (lv_at hl 0 rfl) ?_
        refine xget (i := 0) (j := 0) (k := 35) (T := TX12) hx hb ht tb_iX12 hown hX hP.1 rfl rfl rfl (by decide) tb_1264 rfl dX12_lives_43 ?_
        refine lv_sipush (v := 300) hx hb dX12_lives_46 (by decide) ?_
        refine lv_icmp_ne (tgt := 60) hx hb dX12_lives_49 (by decide) (fun c_43 => ?_) (fun c_43 => ?_)
        · have h := ie c_43 h
          refine lv_bipush (v := 120) hx hb dX12_lives_60 (by decide) ?_
          refine lv_bipush (v := 6) hx hb dX12_lives_62 (by decide) ?_
          refine lv_iload_n hx hb dX12_lives_64 rfl (lv_at hl 1 rfl) ?_
          refine lv_imul hx hb dX12_lives_65 ?_
          refine lv_iadd hx hb dX12_lives_66 ?_
          refine lv_topi (fun x3_44 e_x3_44 => ?_)
          have h := bn e_x3_44 h
          refine lv_istore_n (lv' := [(3, .int x3_44), (0, .ref (A_m 0)), (2, .int x2)]) hx hb dX12_lives_67 rfl hl (by decide) rfl (fun ls hl => ?_)
          refine lv_aload_n hx hb dX12_lives_68 rfl (lv_at hl 1 rfl) ?_
          refine lv_dup hx hb dX12_lives_69 rfl ?_
          refine xget (i := 0) (j := 0) (k := 35) (T := TX12) hx hb ht tb_iX12 hown hX hP.1 rfl rfl rfl (by decide) tb_1264 rfl dX12_lives_70 ?_
          refine lv_iconst (v := 1) hx hb dX12_lives_73 (by decide) ?_
          refine lv_iadd hx hb dX12_lives_74 ?_
          refine lv_topi (fun m_ranSteps_45 e_m_ranSteps_45 => ?_)
          have h := bn e_m_ranSteps_45 h
          refine xput (i := 0) (j := 0) (k := 35) (T := TX12) tyX12 tyX12_ok nmX12 hx hb ht tb_iX12 hown hX hP hS rfl rfl rfl (by decide) tb_1264 rfl rfl rfl (Nat.le_of_ble_eq_true rfl) dX12_lives_75 (fun H locs hP hS => ?_)
          have hP : PD D A [bl_X12 cy A_m m_at m_names m_status m_top m_bottom m_sort m_trayMany m_trays m_tape m_text m_taped m_size m_token m_from m_end m_value m_faultKind m_faultPlace m_faults m_seen m_toldParts m_opened m_depth m_counted m_bestOrder m_standers m_has m_bestHas m_standerMany m_bestCouples m_bestFondness m_cameTo m_doesStandFirst m_stoodBy m_drawn m_ranSteps_45 m_loops m_ran m_told1 m_isTold m_marks] H := hP
          refine lv_aload_n hx hb dX12_lives_78 rfl (lv_at hl 1 rfl) ?_
          refine xget (i := 0) (j := 0) (k := 0) (T := TX12) hx hb ht tb_iX12 hown hX hP.1 rfl rfl rfl (by decide) tb_1229 rfl dX12_lives_79 ?_
          refine lv_iload_n hx hb dX12_lives_82 rfl (lv_at hl 0 rfl) ?_
          obtain ⟨y_46, e_y_46, h⟩ := bi h
          refine xiald (i0 := 0) (j0 := 1) hx hb hX hP.1 rfl rfl e_y_46 dX12_lives_83 ?_
          refine lv_bipush (v := 15) hx hb dX12_lives_84 (by decide) ?_
          refine lv_icmp_ne (tgt := 90) hx hb dX12_lives_86 (by decide) (fun c_47 => ?_) (fun c_47 => ?_)
          · have h := ie c_47 h
            refine lv_aload_n hx hb dX12_lives_90 rfl (lv_at hl 1 rfl) ?_
            refine xget (i := 0) (j := 0) (k := 37) (T := TX12) hx hb ht tb_iX12 hown hX hP.1 rfl rfl rfl (by decide) tb_1266 rfl dX12_lives_91 ?_
            refine lv_iconst (v := 0) hx hb dX12_lives_94 (by decide) ?_
            refine lv_dup2_11 hx hb dX12_lives_95 rfl rfl ?_
            obtain ⟨y_48, e_y_48, h⟩ := bi h
            refine xiald (i0 := 0) (j0 := 15) hx hb hX hP.1 rfl rfl e_y_48 dX12_lives_96 ?_
            refine lv_aload_n hx hb dX12_lives_97 rfl (lv_at hl 1 rfl) ?_
            refine lv_iload_n hx hb dX12_lives_98 rfl (lv_at hl 0 rfl) ?_
            obtain ⟨z_49, e_z_49, h⟩ := bi h
            refine efVi (rest := [.int y_48, .int 0, .ref (A_m 15)]) ⟨hx, hb, hml, hown, ht⟩ (c_X12_does l D cy fu A_m m_at m_names m_status m_top m_bottom m_sort m_trayMany m_trays m_tape m_text m_taped m_size m_token m_from m_end m_value m_faultKind m_faultPlace m_faults m_seen m_toldParts m_opened m_depth m_counted m_bestOrder m_standers m_has m_bestHas m_standerMany m_bestCouples m_bestFondness m_cameTo m_doesStandFirst m_stoodBy m_drawn m_ranSteps_45 m_loops m_ran m_told1 m_isTold m_marks x3_44 z_49 e_z_49 _ rfl _ rfl) (cV ht mv_X12_does tb_1875 rfl rfl ⟨Nat.le_of_ble_eq_true rfl, Nat.le_of_ble_eq_true rfl⟩) hP hS hX [0] rfl rfl rfl rfl rfl rfl hl.1 rfl (Nat.le_of_ble_eq_true rfl) dX12_lives_99 ⟨Nat.le_of_ble_eq_true rfl, Nat.le_of_ble_eq_true rfl⟩ (fun H locs hP hS => ?_)
            have hP : PD D A [bl_X12 cy A_m z_49.2.1 m_names m_status m_top m_bottom m_sort m_trayMany m_trays m_tape m_text m_taped m_size m_token m_from m_end m_value m_faultKind m_faultPlace m_faults m_seen m_toldParts m_opened m_depth m_counted m_bestOrder m_standers m_has m_bestHas m_standerMany m_bestCouples m_bestFondness m_cameTo m_doesStandFirst m_stoodBy z_49.2.2.1 m_ranSteps_45 m_loops z_49.2.2.2 m_told1 m_isTold m_marks] H := hP
            refine lv_if_eq (tgt := 109) hx hb dX12_lives_102 (by decide) (fun c_50 => ?_) (fun c_50 => ?_)
            · have h := it c_50 h
              refine lv_iconst (v := 1) hx hb dX12_lives_109 (by decide) ?_
              exact j110 z_49.2.1 z_49.2.2.1 m_ranSteps_45 m_loops z_49.2.2.2 x2 x3_44 0 y_48 1 _ _ hP hS ls (lv_sub hl [1, 2, 0] rfl) h
            · have h := ie c_50 h
              refine lv_iconst (v := 0) hx hb dX12_lives_105 (by decide) ?_
              refine lv_goto (tgt := 110) hx hb dX12_lives_106 (by decide) ?_
              exact j110 z_49.2.1 z_49.2.2.1 m_ranSteps_45 m_loops z_49.2.2.2 x2 x3_44 0 y_48 0 _ _ hP hS ls (lv_sub hl [1, 2, 0] rfl) h
          · have h := it c_47 h
            cases h
            subst hW1
            exact W.vret hx hb hr (fun _ ht9 _ => ⟨⟨(), rfl, trivial, hPt ht9 hP.1⟩, hS.F ht9⟩) hS.2.2 dX12_lives_89
        · have h := it c_43 h
          refine lv_aload_n hx hb dX12_lives_52 rfl (lv_at hl 0 rfl) ?_
          refine xget (i := 0) (j := 0) (k := 37) (T := TX12) hx hb ht tb_iX12 hown hX hP.1 rfl rfl rfl (by decide) tb_1266 rfl dX12_lives_53 ?_
          refine lv_iconst (v := 4) hx hb dX12_lives_56 (by decide) ?_
          refine lv_iconst (v := 1) hx hb dX12_lives_57 (by decide) ?_
          obtain ⟨m_ran_51, e_m_ran_51, h⟩ := bi h
          refine xiast (i0 := 0) (j0 := 15) hx hb hX hP hS rfl rfl e_m_ran_51 dX12_lives_58 (fun H locs hP hS => ?_)
          have hP : PD D A [bl_X12 cy A_m m_at m_names m_status m_top m_bottom m_sort m_trayMany m_trays m_tape m_text m_taped m_size m_token m_from m_end m_value m_faultKind m_faultPlace m_faults m_seen m_toldParts m_opened m_depth m_counted m_bestOrder m_standers m_has m_bestHas m_standerMany m_bestCouples m_bestFondness m_cameTo m_doesStandFirst m_stoodBy m_drawn m_ranSteps m_loops m_ran_51 m_told1 m_isTold m_marks] H := hP
          cases h
          subst hW1
          exact W.vret hx hb hr (fun _ ht9 _ => ⟨⟨(), rfl, trivial, hPt ht9 hP.1⟩, hS.F ht9⟩) hS.2.2 dX12_lives_59
  have l12 : ∀ (n12 : Nat) (m_at : Nat → Int32) (m_drawn : Int32) (m_ranSteps : Int32) (m_loops : Nat → Int32) (m_ran : Nat → Int32) (x2 : Int32) (H : Heap) (locs : List Loc) (_ : PD D A [bl_X12 cy A_m m_at m_names m_status m_top m_bottom m_sort m_trayMany m_trays m_tape m_text m_taped m_size m_token m_from m_end m_value m_faultKind m_faultPlace m_faults m_seen m_toldParts m_opened m_depth m_counted m_bestOrder m_standers m_has m_bestHas m_standerMany m_bestCouples m_bestFondness m_cameTo m_doesStandFirst m_stoodBy m_drawn m_ranSteps m_loops m_ran m_told1 m_isTold m_marks] H) (_ : va_S A s.heap H locs) (ls : Array Slot), lv_has ls 4 [(0, .ref (A_m 0)), (2, .int x2)] → f_X12_lives_l12 fu x1 n12 m_at m_drawn m_ranSteps m_loops m_ran x2 = some res → W p l e (headSpec (WW yX12_lives cX12_lives 4 none) rm_X12_lives).room s m args below meth c H locs 0 0 (MQ below (Qev D A W1) args s 0 0 A) (F0 m 12 ls []) := by
    intro n12
    induction n12 with
    | zero => intro m_at m_drawn m_ranSteps m_loops m_ran x2 H locs hP hS ls hl h; cases h
    | succ n12 ih12 =>
      intro m_at m_drawn m_ranSteps m_loops m_ran x2 H locs hP hS ls hl h
      have h : f_X12_lives_b12 fu x1 (f_X12_lives_l12 fu x1 n12) m_at m_drawn m_ranSteps m_loops m_ran x2 = some res := h
      unfold f_X12_lives_b12 at h
      refine lv_iload_n hx hb dX12_lives_12 rfl (lv_at hl 1 rfl) ?_
      refine lv_iconst (v := 5) hx hb dX12_lives_13 (by decide) ?_
      refine lv_icmp_ge (tgt := 30) hx hb dX12_lives_14 (by decide) (fun c_52 => ?_) (fun c_52 => ?_)
      · have h := it c_52 h
        refine lv_iconst (v := 0) hx hb dX12_lives_30 (by decide) ?_
        refine lv_istore_n (lv' := [(2, .int 0), (0, .ref (A_m 0))]) hx hb dX12_lives_31 rfl hl (by decide) rfl (fun ls hl => ?_)
        exact l32 fu m_at m_drawn m_ranSteps m_loops m_ran 0 _ _ hP hS ls (lv_sub hl [1, 0] rfl) h
      · have h := ie c_52 h
        refine lv_aload_n hx hb dX12_lives_17 rfl (lv_at hl 0 rfl) ?_
        refine xget (i := 0) (j := 0) (k := 37) (T := TX12) hx hb ht tb_iX12 hown hX hP.1 rfl rfl rfl (by decide) tb_1266 rfl dX12_lives_18 ?_
        refine lv_iload_n hx hb dX12_lives_21 rfl (lv_at hl 1 rfl) ?_
        refine lv_iconst (v := 0) hx hb dX12_lives_22 (by decide) ?_
        obtain ⟨m_ran_53, e_m_ran_53, h⟩ := bi h
        refine xiast (i0 := 0) (j0 := 15) hx hb hX hP hS rfl rfl e_m_ran_53 dX12_lives_23 (fun H locs hP hS => ?_)
        have hP : PD D A [bl_X12 cy A_m m_at m_names m_status m_top m_bottom m_sort m_trayMany m_trays m_tape m_text m_taped m_size m_token m_from m_end m_value m_faultKind m_faultPlace m_faults m_seen m_toldParts m_opened m_depth m_counted m_bestOrder m_standers m_has m_bestHas m_standerMany m_bestCouples m_bestFondness m_cameTo m_doesStandFirst m_stoodBy m_drawn m_ranSteps m_loops m_ran_53 m_told1 m_isTold m_marks] H := hP
        obtain ⟨x2_54, e_x2_54⟩ : ∃ y : Int32, y = x2 + 1 := ⟨_, rfl⟩
        have h := bn e_x2_54 h
        refine lv_iinc (v := x2_54) (lv' := [(2, .int x2_54), (0, .ref (A_m 0))]) hx hb dX12_lives_24 hl (k := 1) rfl (by rw [e_x2_54]; rfl) (by decide) rfl (fun ls hl => ?_)
        refine lv_goto (tgt := 12) hx hb dX12_lives_27 (by decide) ?_
        exact ih12 m_at m_drawn m_ranSteps m_loops m_ran_53 x2_54 _ _ hP hS ls (lv_sub hl [1, 0] rfl) h
  unfold f_X12_lives at h
  refine lv_aload_n hx hb dX12_lives_0 rfl (lv_at hl 0 rfl) ?_
  refine lv_iload_n hx hb dX12_lives_1 rfl (lv_at hl 1 rfl) ?_
  refine xput (i := 0) (j := 0) (k := 34) (T := TX12) tyX12 tyX12_ok nmX12 hx hb ht tb_iX12 hown hX hP hS rfl rfl rfl (by decide) tb_1263 rfl rfl rfl (Nat.le_of_ble_eq_true rfl) dX12_lives_2 (fun H locs hP hS => ?_)
  have hP : PD D A [bl_X12 cy A_m m_at m_names m_status m_top m_bottom m_sort m_trayMany m_trays m_tape m_text m_taped m_size m_token m_from m_end m_value m_faultKind m_faultPlace m_faults m_seen m_toldParts m_opened m_depth m_counted m_bestOrder m_standers m_has m_bestHas m_standerMany m_bestCouples m_bestFondness m_cameTo m_doesStandFirst m_stoodBy x1 m_ranSteps m_loops m_ran m_told1 m_isTold m_marks] H := hP
  refine lv_aload_n hx hb dX12_lives_5 rfl (lv_at hl 0 rfl) ?_
  refine lv_iconst (v := 0) hx hb dX12_lives_6 (by decide) ?_
  refine xput (i := 0) (j := 0) (k := 35) (T := TX12) tyX12 tyX12_ok nmX12 hx hb ht tb_iX12 hown hX hP hS rfl rfl rfl (by decide) tb_1264 rfl rfl rfl (Nat.le_of_ble_eq_true rfl) dX12_lives_7 (fun H locs hP hS => ?_)
  have hP : PD D A [bl_X12 cy A_m m_at m_names m_status m_top m_bottom m_sort m_trayMany m_trays m_tape m_text m_taped m_size m_token m_from m_end m_value m_faultKind m_faultPlace m_faults m_seen m_toldParts m_opened m_depth m_counted m_bestOrder m_standers m_has m_bestHas m_standerMany m_bestCouples m_bestFondness m_cameTo m_doesStandFirst m_stoodBy x1 0 m_loops m_ran m_told1 m_isTold m_marks] H := hP
  refine lv_iconst (v := 0) hx hb dX12_lives_10 (by decide) ?_
  refine lv_istore_n (lv' := [(2, .int 0), (0, .ref (A_m 0)), (1, .int x1)]) hx hb dX12_lives_11 rfl hl (by decide) rfl (fun ls hl => ?_)
  exact l12 fu m_at x1 0 m_loops m_ran 0 _ _ hP hS ls (lv_sub hl [1, 0] rfl) h
theorem dX12_live_0 : decode cX12_live 0 = .ok (.iload_n 1, 1) := by decide +kernel
theorem dX12_live_1 : decode cX12_live 1 = .ok (.i2l, 1) := by decide +kernel
theorem dX12_live_2 : decode cX12_live 2 = .ok (.lconst 0, 1) := by decide +kernel
theorem dX12_live_3 : decode cX12_live 3 = .ok (.ldc2_w 443, 3) := by decide +kernel
theorem dX12_live_6 : decode cX12_live 6 = .ok (.invokestatic 246, 3) := by decide +kernel
theorem dX12_live_9 : decode cX12_live 9 = .ok (.ifCond .ne 9, 3) := by decide +kernel
theorem dX12_live_12 : decode cX12_live 12 = .ok (.aload_n 0, 1) := by decide +kernel
theorem dX12_live_13 : decode cX12_live 13 = .ok (.iconst 1, 1) := by decide +kernel
theorem dX12_live_14 : decode cX12_live 14 = .ok (.invokevirtual 85, 3) := by decide +kernel
theorem dX12_live_17 : decode cX12_live 17 = .ok (.ireturn, 1) := by decide +kernel
theorem dX12_live_18 : decode cX12_live 18 = .ok (.aload_n 0, 1) := by decide +kernel
theorem dX12_live_19 : decode cX12_live 19 = .ok (.getfield 7, 3) := by decide +kernel
theorem dX12_live_22 : decode cX12_live 22 = .ok (.iconst 5, 1) := by decide +kernel
theorem dX12_live_23 : decode cX12_live 23 = .ok (.iaload, 1) := by decide +kernel
theorem dX12_live_24 : decode cX12_live 24 = .ok (.iconst (-1), 1) := by decide +kernel
theorem dX12_live_25 : decode cX12_live 25 = .ok (.if_icmp .ne 10, 3) := by decide +kernel
theorem dX12_live_28 : decode cX12_live 28 = .ok (.aload_n 0, 1) := by decide +kernel
theorem dX12_live_29 : decode cX12_live 29 = .ok (.bipush 6, 2) := by decide +kernel
theorem dX12_live_31 : decode cX12_live 31 = .ok (.invokevirtual 85, 3) := by decide +kernel
theorem dX12_live_34 : decode cX12_live 34 = .ok (.ireturn, 1) := by decide +kernel
theorem dX12_live_35 : decode cX12_live 35 = .ok (.aload_n 0, 1) := by decide +kernel
theorem dX12_live_36 : decode cX12_live 36 = .ok (.iload_n 1, 1) := by decide +kernel
theorem dX12_live_37 : decode cX12_live 37 = .ok (.invokevirtual 445, 3) := by decide +kernel
theorem dX12_live_40 : decode cX12_live 40 = .ok (.iconst 0, 1) := by decide +kernel
theorem dX12_live_41 : decode cX12_live 41 = .ok (.istore_n 2, 1) := by decide +kernel
theorem dX12_live_42 : decode cX12_live 42 = .ok (.iload_n 2, 1) := by decide +kernel
theorem dX12_live_43 : decode cX12_live 43 = .ok (.iconst 5, 1) := by decide +kernel
theorem dX12_live_44 : decode cX12_live 44 = .ok (.if_icmp .ge 21, 3) := by decide +kernel
theorem dX12_live_47 : decode cX12_live 47 = .ok (.aload_n 0, 1) := by decide +kernel
theorem dX12_live_48 : decode cX12_live 48 = .ok (.getfield 68, 3) := by decide +kernel
theorem dX12_live_51 : decode cX12_live 51 = .ok (.iload_n 2, 1) := by decide +kernel
theorem dX12_live_52 : decode cX12_live 52 = .ok (.aload_n 0, 1) := by decide +kernel
theorem dX12_live_53 : decode cX12_live 53 = .ok (.getfield 65, 3) := by decide +kernel
theorem dX12_live_56 : decode cX12_live 56 = .ok (.iload_n 2, 1) := by decide +kernel
theorem dX12_live_57 : decode cX12_live 57 = .ok (.iaload, 1) := by decide +kernel
theorem dX12_live_58 : decode cX12_live 58 = .ok (.iastore, 1) := by decide +kernel
theorem dX12_live_59 : decode cX12_live 59 = .ok (.iinc 2 1, 3) := by decide +kernel
theorem dX12_live_62 : decode cX12_live 62 = .ok (.goto (-20), 3) := by decide +kernel
theorem dX12_live_65 : decode cX12_live 65 = .ok (.aload_n 0, 1) := by decide +kernel
theorem dX12_live_66 : decode cX12_live 66 = .ok (.iconst 1, 1) := by decide +kernel
theorem dX12_live_67 : decode cX12_live 67 = .ok (.putfield 448, 3) := by decide +kernel
theorem dX12_live_70 : decode cX12_live 70 = .ok (.aload_n 0, 1) := by decide +kernel
theorem dX12_live_71 : decode cX12_live 71 = .ok (.aload_n 0, 1) := by decide +kernel
theorem dX12_live_72 : decode cX12_live 72 = .ok (.getfield 431, 3) := by decide +kernel
theorem dX12_live_75 : decode cX12_live 75 = .ok (.invokevirtual 88, 3) := by decide +kernel
theorem dX12_live_78 : decode cX12_live 78 = .ok (.ireturn, 1) := by decide +kernel
theorem mv_X12_live : MV yX12_live RX12 cX12_live 3 (some .int) 1 := ⟨tb_1869, tb_1867, tb_1868, tb_16, by decide +kernel, by decide +kernel, by decide +kernel⟩
def f_X12_live_b42 (fu : Nat) (x1 : Int32) (k42 : (Nat → Int32) → Int32 → Int32 → Int32 → (Nat → Int32) → (Nat → Int32) → (Nat → Int32) → Int32 → Int32 → (Option (Int32 × (Nat → Int32) × Int32 × Int32 × Int32 × (Nat → Int32) × (Nat → Int32) × (Nat → Int32) × Int32))) (m_at : Nat → Int32) (m_status : Int32) (m_drawn : Int32) (m_ranSteps : Int32) (m_loops : Nat → Int32) (m_ran : Nat → Int32) (m_told1 : Nat → Int32) (m_isTold : Int32) (x2 : Int32) : Option (Int32 × (Nat → Int32) × Int32 × Int32 × Int32 × (Nat → Int32) × (Nat → Int32) × (Nat → Int32) × Int32) := (if 5 ≤ x2 then (f_X12_gives fu m_status m_ranSteps).bind fun z_14 => some (z_14.1, m_at, z_14.2, m_drawn, m_ranSteps, m_loops, m_ran, m_told1, 1) else (rdI m_ran 5 x2).bind fun y_15 => (wrI m_told1 5 x2 y_15).bind fun m_told1_16 => bnd (x2 + 1) fun x2_17 => k42 m_at m_status m_drawn m_ranSteps m_loops m_ran m_told1_16 m_isTold x2_17)
def f_X12_live_l42 (fu : Nat) (x1 : Int32) : Nat → (Nat → Int32) → Int32 → Int32 → Int32 → (Nat → Int32) → (Nat → Int32) → (Nat → Int32) → Int32 → Int32 → (Option (Int32 × (Nat → Int32) × Int32 × Int32 × Int32 × (Nat → Int32) × (Nat → Int32) × (Nat → Int32) × Int32))
  | 0, _, _, _, _, _, _, _, _, _ => none
  | n + 1, m_at, m_status, m_drawn, m_ranSteps, m_loops, m_ran, m_told1, m_isTold, x2 => f_X12_live_b42 fu x1 (f_X12_live_l42 fu x1 n) m_at m_status m_drawn m_ranSteps m_loops m_ran m_told1 m_isTold x2
def f_X12_live (fu : Nat) (m_at : Nat → Int32) (m_status : Int32) (m_drawn : Int32) (m_ranSteps : Int32) (m_loops : Nat → Int32) (m_ran : Nat → Int32) (m_told1 : Nat → Int32) (m_isTold : Int32) (x1 : Int32) : Option (Int32 × (Nat → Int32) × Int32 × Int32 × Int32 × (Nat → Int32) × (Nat → Int32) × (Nat → Int32) × Int32) := (f_X12_isFrom fu (Int32.toInt64 x1) 0 9999).bind fun z_18 => (if z_18 = 0 then (f_X12_refuse fu m_status 1).bind fun z_24 => some (z_24.1, m_at, z_24.2, m_drawn, m_ranSteps, m_loops, m_ran, m_told1, m_isTold) else (rdI m_at 3648 5).bind fun y_20 => (if y_20 = (-1) then (f_X12_refuse fu m_status 6).bind fun z_23 => some (z_23.1, m_at, z_23.2, m_drawn, m_ranSteps, m_loops, m_ran, m_told1, m_isTold) else (f_X12_lives fu m_at m_drawn m_ranSteps m_loops m_ran x1).bind fun z_22 => f_X12_live_l42 fu x1 fu z_22.1 m_status z_22.2.1 z_22.2.2.1 z_22.2.2.2.1 z_22.2.2.2.2 m_told1 m_isTold 0))
abbrev rm_X12_live : Room := { frames := 12, cells := 0, slots := 0, locals := 274 }
set_option maxHeartbeats 4000000 in
set_option maxRecDepth 100000 in
theorem c_X12_live (l : Launch) (D : va_G) (cy : Nat → ClassId) (fu : Nat) (A_m : Nat → Nat) (m_at : Nat → Int32) (m_names : Nat → Int64) (m_status : Int32) (m_top : Int64) (m_bottom : Int64) (m_sort : Nat → Int32) (m_trayMany : Nat → Int32) (m_trays : Nat → Int64) (m_tape : Nat → Int32) (m_text : Nat → Int32) (m_taped : Int32) (m_size : Int32) (m_token : Int32) (m_from : Int32) (m_end : Int32) (m_value : Int32) (m_faultKind : Int32) (m_faultPlace : Int32) (m_faults : Int32) (m_seen : Int32) (m_toldParts : Int32) (m_opened : Nat → Int32) (m_depth : Int32) (m_counted : Int32) (m_bestOrder : Int32) (m_standers : Nat → Int32) (m_has : Nat → Int32) (m_bestHas : Nat → Int32) (m_standerMany : Int32) (m_bestCouples : Int32) (m_bestFondness : Int32) (m_cameTo : Nat → Int32) (m_doesStandFirst : Int32) (m_stoodBy : Nat → Int64) (m_drawn : Int32) (m_ranSteps : Int32) (m_loops : Nat → Int32) (m_ran : Nat → Int32) (m_told1 : Nat → Int32) (m_isTold : Int32) (m_marks : Int32) (x1 : Int32) (res : Int32 × (Nat → Int32) × Int32 × Int32 × Int32 × (Nat → Int32) × (Nat → Int32) × (Nat → Int32) × Int32) (h : f_X12_live fu m_at m_status m_drawn m_ranSteps m_loops m_ran m_told1 m_isTold x1 = some res) (A : Nat → Prop) (hA : A = adr [bl_X12 cy A_m m_at m_names m_status m_top m_bottom m_sort m_trayMany m_trays m_tape m_text m_taped m_size m_token m_from m_end m_value m_faultKind m_faultPlace m_faults m_seen m_toldParts m_opened m_depth m_counted m_bestOrder m_standers m_has m_bestHas m_standerMany m_bestCouples m_bestFondness m_cameTo m_doesStandFirst m_stoodBy m_drawn m_ranSteps m_loops m_ran m_told1 m_isTold m_marks]) (W1 : List va_W) (hW1 : W1 = [bl_X12 cy A_m res.2.1 m_names res.2.2.1 m_top m_bottom m_sort m_trayMany m_trays m_tape m_text m_taped m_size m_token m_from m_end m_value m_faultKind m_faultPlace m_faults m_seen m_toldParts m_opened m_depth m_counted m_bestOrder m_standers m_has m_bestHas m_standerMany m_bestCouples m_bestFondness m_cameTo m_doesStandFirst m_stoodBy res.2.2.2.1 res.2.2.2.2.1 res.2.2.2.2.2.1 res.2.2.2.2.2.2.1 res.2.2.2.2.2.2.2.1 res.2.2.2.2.2.2.2.2 m_marks]) : Met l yX12_live (WW yX12_live cX12_live 3 (some .int)) rm_X12_live (Ed D cy [.ref (A_m 0), .int x1] [bl_X12 cy A_m m_at m_names m_status m_top m_bottom m_sort m_trayMany m_trays m_tape m_text m_taped m_size m_token m_from m_end m_value m_faultKind m_faultPlace m_faults m_seen m_toldParts m_opened m_depth m_counted m_bestOrder m_standers m_has m_bestHas m_standerMany m_bestCouples m_bestFondness m_cameTo m_doesStandFirst m_stoodBy m_drawn m_ranSteps m_loops m_ran m_told1 m_isTold m_marks]) (Qei D res.1 A W1) 0 0 A := by
  refine Met.ofW (cc := cX12_live) (maxL := 3) (ret := (some .int)) (by decide) rfl ?_
  intro p e s m args below meth c s₁ B hml hv
  obtain ⟨hargs, hP, hX, hD0⟩ := hv
  have hx := B.exec
  have hb := B.bytes
  have hr := B.returns
  have ht : ∀ w ∈ lw_gd, w.before args s = true := fun w hw => atoms_spec (ws := WW yX12_live cX12_live 3 (some .int)) B.pre w (List.mem_cons_of_mem _ hw)
  have hown : s.vm.findClass RX12 = some m.cls := findClass_of_methodNamed B.named
  have hlocks := B.notSynchronized
  have hP : PD D A [bl_X12 cy A_m m_at m_names m_status m_top m_bottom m_sort m_trayMany m_trays m_tape m_text m_taped m_size m_token m_from m_end m_value m_faultKind m_faultPlace m_faults m_seen m_toldParts m_opened m_depth m_counted m_bestOrder m_standers m_has m_bestHas m_standerMany m_bestCouples m_bestFondness m_cameTo m_doesStandFirst m_stoodBy m_drawn m_ranSteps m_loops m_ran m_told1 m_isTold m_marks] s.heap := ⟨hP, by rw [hA]; exact hD0.own⟩
  have hS : va_S A s.heap s.heap [] := va_S.rf
  obtain ⟨ls, hl, hent⟩ := ent (m := m) (n := 3) hargs (Nat.le_of_ble_eq_true rfl) (lv := [(0, .ref (A_m 0)), (1, .int x1)]) rfl
  rw [hent]
  clear hent
  have l42 : ∀ (n42 : Nat) (m_at : Nat → Int32) (m_status : Int32) (m_drawn : Int32) (m_ranSteps : Int32) (m_loops : Nat → Int32) (m_ran : Nat → Int32) (m_told1 : Nat → Int32) (m_isTold : Int32) (x2 : Int32) (H : Heap) (locs : List Loc) (_ : PD D A [bl_X12 cy A_m m_at m_names m_status m_top m_bottom m_sort m_trayMany m_trays m_tape m_text m_taped m_size m_token m_from m_end m_value m_faultKind m_faultPlace m_faults m_seen m_toldParts m_opened m_depth m_counted m_bestOrder m_standers m_has m_bestHas m_standerMany m_bestCouples m_bestFondness m_cameTo m_doesStandFirst m_stoodBy m_drawn m_ranSteps m_loops m_ran m_told1 m_isTold m_marks] H) (_ : va_S A s.heap H locs) (ls : Array Slot), lv_has ls 3 [(0, .ref (A_m 0)), (2, .int x2)] → f_X12_live_l42 fu x1 n42 m_at m_status m_drawn m_ranSteps m_loops m_ran m_told1 m_isTold x2 = some res → W p l e (headSpec (WW yX12_live cX12_live 3 (some .int)) rm_X12_live).room s m args below meth c H locs 0 0 (MQ below (Qei D res.1 A W1) args s 0 0 A) (F0 m 42 ls []) := by
    intro n42
    induction n42 with
    | zero => intro m_at m_status m_drawn m_ranSteps m_loops m_ran m_told1 m_isTold x2 H locs hP hS ls hl h; cases h
    | succ n42 ih42 =>
      intro m_at m_status m_drawn m_ranSteps m_loops m_ran m_told1 m_isTold x2 H locs hP hS ls hl h
      have h : f_X12_live_b42 fu x1 (f_X12_live_l42 fu x1 n42) m_at m_status m_drawn m_ranSteps m_loops m_ran m_told1 m_isTold x2 = some res := h
      unfold f_X12_live_b42 at h
      refine lv_iload_n hx hb dX12_live_42 rfl (lv_at hl 1 rfl) ?_
      refine lv_iconst (v := 5) hx hb dX12_live_43 (by decide) ?_
      refine lv_icmp_ge (tgt := 65) hx hb dX12_live_44 (by decide) (fun c_13 => ?_) (fun c_13 => ?_)
      · have h := it c_13 h
        refine lv_aload_n hx hb dX12_live_65 rfl (lv_at hl 0 rfl) ?_
        refine lv_iconst (v := 1) hx hb dX12_live_66 (by decide) ?_
        refine xput (i := 0) (j := 0) (k := 39) (T := TX12) tyX12 tyX12_ok nmX12 hx hb ht tb_iX12 hown hX hP hS rfl rfl rfl (by decide) tb_1268 rfl rfl rfl (Nat.le_of_ble_eq_true rfl) dX12_live_67 (fun H locs hP hS => ?_)
        have hP : PD D A [bl_X12 cy A_m m_at m_names m_status m_top m_bottom m_sort m_trayMany m_trays m_tape m_text m_taped m_size m_token m_from m_end m_value m_faultKind m_faultPlace m_faults m_seen m_toldParts m_opened m_depth m_counted m_bestOrder m_standers m_has m_bestHas m_standerMany m_bestCouples m_bestFondness m_cameTo m_doesStandFirst m_stoodBy m_drawn m_ranSteps m_loops m_ran m_told1 1 m_marks] H := hP
        refine lv_aload_n hx hb dX12_live_70 rfl (lv_at hl 0 rfl) ?_
        refine lv_aload_n hx hb dX12_live_71 rfl (lv_at hl 0 rfl) ?_
        refine xget (i := 0) (j := 0) (k := 35) (T := TX12) hx hb ht tb_iX12 hown hX hP.1 rfl rfl rfl (by decide) tb_1264 rfl dX12_live_72 ?_
        obtain ⟨z_14, e_z_14, h⟩ := bi h
        refine efVi (rest := []) ⟨hx, hb, hml, hown, ht⟩ (c_X12_gives l D cy fu A_m m_at m_names m_status m_top m_bottom m_sort m_trayMany m_trays m_tape m_text m_taped m_size m_token m_from m_end m_value m_faultKind m_faultPlace m_faults m_seen m_toldParts m_opened m_depth m_counted m_bestOrder m_standers m_has m_bestHas m_standerMany m_bestCouples m_bestFondness m_cameTo m_doesStandFirst m_stoodBy m_drawn m_ranSteps m_loops m_ran m_told1 1 m_marks m_ranSteps z_14 e_z_14 _ rfl _ rfl) (cV ht mv_X12_gives tb_1499 rfl rfl ⟨Nat.le_of_ble_eq_true rfl, Nat.le_of_ble_eq_true rfl⟩) hP hS hX [0] rfl rfl rfl rfl rfl rfl hl.1 rfl (Nat.le_of_ble_eq_true rfl) dX12_live_75 ⟨Nat.le_of_ble_eq_true rfl, Nat.le_of_ble_eq_true rfl⟩ (fun H locs hP hS => ?_)
        have hP : PD D A [bl_X12 cy A_m m_at m_names z_14.2 m_top m_bottom m_sort m_trayMany m_trays m_tape m_text m_taped m_size m_token m_from m_end m_value m_faultKind m_faultPlace m_faults m_seen m_toldParts m_opened m_depth m_counted m_bestOrder m_standers m_has m_bestHas m_standerMany m_bestCouples m_bestFondness m_cameTo m_doesStandFirst m_stoodBy m_drawn m_ranSteps m_loops m_ran m_told1 1 m_marks] H := hP
        cases h
        subst hW1
        exact W.iret hx hb hr (fun _ ht9 _ => ⟨⟨_, (), rfl, rfl, hPt ht9 hP.1⟩, hS.F ht9⟩) hS.2.2 dX12_live_78
      · have h := ie c_13 h
        refine lv_aload_n hx hb dX12_live_47 rfl (lv_at hl 0 rfl) ?_
        refine xget (i := 0) (j := 0) (k := 38) (T := TX12) hx hb ht tb_iX12 hown hX hP.1 rfl rfl rfl (by decide) tb_1267 rfl dX12_live_48 ?_
        refine lv_iload_n hx hb dX12_live_51 rfl (lv_at hl 1 rfl) ?_
        refine lv_aload_n hx hb dX12_live_52 rfl (lv_at hl 0 rfl) ?_
        refine xget (i := 0) (j := 0) (k := 37) (T := TX12) hx hb ht tb_iX12 hown hX hP.1 rfl rfl rfl (by decide) tb_1266 rfl dX12_live_53 ?_
        refine lv_iload_n hx hb dX12_live_56 rfl (lv_at hl 1 rfl) ?_
        obtain ⟨y_15, e_y_15, h⟩ := bi h
        refine xiald (i0 := 0) (j0 := 15) hx hb hX hP.1 rfl rfl e_y_15 dX12_live_57 ?_
        obtain ⟨m_told1_16, e_m_told1_16, h⟩ := bi h
        refine xiast (i0 := 0) (j0 := 16) hx hb hX hP hS rfl rfl e_m_told1_16 dX12_live_58 (fun H locs hP hS => ?_)
        have hP : PD D A [bl_X12 cy A_m m_at m_names m_status m_top m_bottom m_sort m_trayMany m_trays m_tape m_text m_taped m_size m_token m_from m_end m_value m_faultKind m_faultPlace m_faults m_seen m_toldParts m_opened m_depth m_counted m_bestOrder m_standers m_has m_bestHas m_standerMany m_bestCouples m_bestFondness m_cameTo m_doesStandFirst m_stoodBy m_drawn m_ranSteps m_loops m_ran m_told1_16 m_isTold m_marks] H := hP
        obtain ⟨x2_17, e_x2_17⟩ : ∃ y : Int32, y = x2 + 1 := ⟨_, rfl⟩
        have h := bn e_x2_17 h
        refine lv_iinc (v := x2_17) (lv' := [(2, .int x2_17), (0, .ref (A_m 0))]) hx hb dX12_live_59 hl (k := 1) rfl (by rw [e_x2_17]; rfl) (by decide) rfl (fun ls hl => ?_)
        refine lv_goto (tgt := 42) hx hb dX12_live_62 (by decide) ?_
        exact ih42 m_at m_status m_drawn m_ranSteps m_loops m_ran m_told1_16 m_isTold x2_17 _ _ hP hS ls (lv_sub hl [1, 0] rfl) h
  unfold f_X12_live at h
  refine lv_iload_n hx hb dX12_live_0 rfl (lv_at hl 1 rfl) ?_
  refine lv_i2l (v := Int32.toInt64 x1) hx hb dX12_live_1 rfl ?_
  refine lv_lconst (v := 0) hx hb dX12_live_2 (by decide) ?_
  refine lv_ldc2 (v := 9999) hx hb hown (ht _ tb_1870) dX12_live_3 ?_
  obtain ⟨z_18, e_z_18, h⟩ := bi h
  refine roSi (rest := []) ⟨hx, hb, hml, hown, ht⟩ (c_X12_isFrom l D cy fu  (Int32.toInt64 x1) 0 9999 z_18 e_z_18) (cS ht ms_X12_isFrom tb_1575 rfl rfl ⟨Nat.le_of_ble_eq_true rfl, Nat.le_of_ble_eq_true rfl⟩) (P_sub hP.1 [] rfl) hX rfl hl.1 rfl (Nat.le_of_ble_eq_true rfl) dX12_live_6 ⟨Nat.le_of_ble_eq_true rfl, Nat.le_of_ble_eq_true rfl⟩ ?_
  refine lv_if_ne (tgt := 18) hx hb dX12_live_9 (by decide) (fun c_19 => ?_) (fun c_19 => ?_)
  · have h := ie c_19 h
    refine lv_aload_n hx hb dX12_live_18 rfl (lv_at hl 0 rfl) ?_
    refine xget (i := 0) (j := 0) (k := 0) (T := TX12) hx hb ht tb_iX12 hown hX hP.1 rfl rfl rfl (by decide) tb_1229 rfl dX12_live_19 ?_
    refine lv_iconst (v := 5) hx hb dX12_live_22 (by decide) ?_
    obtain ⟨y_20, e_y_20, h⟩ := bi h
    refine xiald (i0 := 0) (j0 := 1) hx hb hX hP.1 rfl rfl e_y_20 dX12_live_23 ?_
    refine lv_iconst (v := (-1)) hx hb dX12_live_24 (by decide) ?_
    refine lv_icmp_ne (tgt := 35) hx hb dX12_live_25 (by decide) (fun c_21 => ?_) (fun c_21 => ?_)
    · have h := ie c_21 h
      refine lv_aload_n hx hb dX12_live_35 rfl (lv_at hl 0 rfl) ?_
      refine lv_iload_n hx hb dX12_live_36 rfl (lv_at hl 1 rfl) ?_
      obtain ⟨z_22, e_z_22, h⟩ := bi h
      refine efVv (rest := []) ⟨hx, hb, hml, hown, ht⟩ (c_X12_lives l D cy fu A_m m_at m_names m_status m_top m_bottom m_sort m_trayMany m_trays m_tape m_text m_taped m_size m_token m_from m_end m_value m_faultKind m_faultPlace m_faults m_seen m_toldParts m_opened m_depth m_counted m_bestOrder m_standers m_has m_bestHas m_standerMany m_bestCouples m_bestFondness m_cameTo m_doesStandFirst m_stoodBy m_drawn m_ranSteps m_loops m_ran m_told1 m_isTold m_marks x1 z_22 e_z_22 _ rfl _ rfl) (cV ht mv_X12_lives tb_1871 rfl rfl ⟨Nat.le_of_ble_eq_true rfl, Nat.le_of_ble_eq_true rfl⟩) hP hS hX [0] rfl rfl rfl rfl rfl rfl hl.1 rfl (Nat.le_of_ble_eq_true rfl) dX12_live_37 ⟨Nat.le_of_ble_eq_true rfl, Nat.le_of_ble_eq_true rfl⟩ (fun H locs hP hS => ?_)
      have hP : PD D A [bl_X12 cy A_m z_22.1 m_names m_status m_top m_bottom m_sort m_trayMany m_trays m_tape m_text m_taped m_size m_token m_from m_end m_value m_faultKind m_faultPlace m_faults m_seen m_toldParts m_opened m_depth m_counted m_bestOrder m_standers m_has m_bestHas m_standerMany m_bestCouples m_bestFondness m_cameTo m_doesStandFirst m_stoodBy z_22.2.1 z_22.2.2.1 z_22.2.2.2.1 z_22.2.2.2.2 m_told1 m_isTold m_marks] H := hP
      refine lv_iconst (v := 0) hx hb dX12_live_40 (by decide) ?_
      refine lv_istore_n (lv' := [(2, .int 0), (0, .ref (A_m 0)), (1, .int x1)]) hx hb dX12_live_41 rfl hl (by decide) rfl (fun ls hl => ?_)
      exact l42 fu z_22.1 m_status z_22.2.1 z_22.2.2.1 z_22.2.2.2.1 z_22.2.2.2.2 m_told1 m_isTold 0 _ _ hP hS ls (lv_sub hl [1, 0] rfl) h
    · have h := it c_21 h
      refine lv_aload_n hx hb dX12_live_28 rfl (lv_at hl 0 rfl) ?_
      refine lv_bipush (v := 6) hx hb dX12_live_29 (by decide) ?_
      obtain ⟨z_23, e_z_23, h⟩ := bi h
      refine efVi (rest := []) ⟨hx, hb, hml, hown, ht⟩ (c_X12_refuse l D cy fu A_m m_at m_names m_status m_top m_bottom m_sort m_trayMany m_trays m_tape m_text m_taped m_size m_token m_from m_end m_value m_faultKind m_faultPlace m_faults m_seen m_toldParts m_opened m_depth m_counted m_bestOrder m_standers m_has m_bestHas m_standerMany m_bestCouples m_bestFondness m_cameTo m_doesStandFirst m_stoodBy m_drawn m_ranSteps m_loops m_ran m_told1 m_isTold m_marks 6 z_23 e_z_23 _ rfl _ rfl) (cV ht mv_X12_refuse tb_1432 rfl rfl ⟨Nat.le_of_ble_eq_true rfl, Nat.le_of_ble_eq_true rfl⟩) hP hS hX [0] rfl rfl rfl rfl rfl rfl hl.1 rfl (Nat.le_of_ble_eq_true rfl) dX12_live_31 ⟨Nat.le_of_ble_eq_true rfl, Nat.le_of_ble_eq_true rfl⟩ (fun H locs hP hS => ?_)
      have hP : PD D A [bl_X12 cy A_m m_at m_names z_23.2 m_top m_bottom m_sort m_trayMany m_trays m_tape m_text m_taped m_size m_token m_from m_end m_value m_faultKind m_faultPlace m_faults m_seen m_toldParts m_opened m_depth m_counted m_bestOrder m_standers m_has m_bestHas m_standerMany m_bestCouples m_bestFondness m_cameTo m_doesStandFirst m_stoodBy m_drawn m_ranSteps m_loops m_ran m_told1 m_isTold m_marks] H := hP
      cases h
      subst hW1
      exact W.iret hx hb hr (fun _ ht9 _ => ⟨⟨_, (), rfl, rfl, hPt ht9 hP.1⟩, hS.F ht9⟩) hS.2.2 dX12_live_34
  · have h := it c_19 h
    refine lv_aload_n hx hb dX12_live_12 rfl (lv_at hl 0 rfl) ?_
    refine lv_iconst (v := 1) hx hb dX12_live_13 (by decide) ?_
    obtain ⟨z_24, e_z_24, h⟩ := bi h
    refine efVi (rest := []) ⟨hx, hb, hml, hown, ht⟩ (c_X12_refuse l D cy fu A_m m_at m_names m_status m_top m_bottom m_sort m_trayMany m_trays m_tape m_text m_taped m_size m_token m_from m_end m_value m_faultKind m_faultPlace m_faults m_seen m_toldParts m_opened m_depth m_counted m_bestOrder m_standers m_has m_bestHas m_standerMany m_bestCouples m_bestFondness m_cameTo m_doesStandFirst m_stoodBy m_drawn m_ranSteps m_loops m_ran m_told1 m_isTold m_marks 1 z_24 e_z_24 _ rfl _ rfl) (cV ht mv_X12_refuse tb_1432 rfl rfl ⟨Nat.le_of_ble_eq_true rfl, Nat.le_of_ble_eq_true rfl⟩) hP hS hX [0] rfl rfl rfl rfl rfl rfl hl.1 rfl (Nat.le_of_ble_eq_true rfl) dX12_live_14 ⟨Nat.le_of_ble_eq_true rfl, Nat.le_of_ble_eq_true rfl⟩ (fun H locs hP hS => ?_)
    have hP : PD D A [bl_X12 cy A_m m_at m_names z_24.2 m_top m_bottom m_sort m_trayMany m_trays m_tape m_text m_taped m_size m_token m_from m_end m_value m_faultKind m_faultPlace m_faults m_seen m_toldParts m_opened m_depth m_counted m_bestOrder m_standers m_has m_bestHas m_standerMany m_bestCouples m_bestFondness m_cameTo m_doesStandFirst m_stoodBy m_drawn m_ranSteps m_loops m_ran m_told1 m_isTold m_marks] H := hP
    cases h
    subst hW1
    exact W.iret hx hb hr (fun _ ht9 _ => ⟨⟨_, (), rfl, rfl, hPt ht9 hP.1⟩, hS.F ht9⟩) hS.2.2 dX12_live_17
theorem dX12_lived_0 : decode cX12_lived 0 = .ok (.iload_n 1, 1) := by decide +kernel
theorem dX12_lived_1 : decode cX12_lived 1 = .ok (.ifCond .lt 8, 3) := by decide +kernel
theorem dX12_lived_4 : decode cX12_lived 4 = .ok (.iload_n 1, 1) := by decide +kernel
theorem dX12_lived_5 : decode cX12_lived 5 = .ok (.iconst 4, 1) := by decide +kernel
theorem dX12_lived_6 : decode cX12_lived 6 = .ok (.if_icmp .le 11, 3) := by decide +kernel
theorem dX12_lived_9 : decode cX12_lived 9 = .ok (.aload_n 0, 1) := by decide +kernel
theorem dX12_lived_10 : decode cX12_lived 10 = .ok (.iconst 1, 1) := by decide +kernel
theorem dX12_lived_11 : decode cX12_lived 11 = .ok (.invokevirtual 85, 3) := by decide +kernel
theorem dX12_lived_14 : decode cX12_lived 14 = .ok (.goto 29, 3) := by decide +kernel
theorem dX12_lived_17 : decode cX12_lived 17 = .ok (.aload_n 0, 1) := by decide +kernel
theorem dX12_lived_18 : decode cX12_lived 18 = .ok (.getfield 448, 3) := by decide +kernel
theorem dX12_lived_21 : decode cX12_lived 21 = .ok (.ifCond .eq 16, 3) := by decide +kernel
theorem dX12_lived_24 : decode cX12_lived 24 = .ok (.aload_n 0, 1) := by decide +kernel
theorem dX12_lived_25 : decode cX12_lived 25 = .ok (.aload_n 0, 1) := by decide +kernel
theorem dX12_lived_26 : decode cX12_lived 26 = .ok (.getfield 68, 3) := by decide +kernel
theorem dX12_lived_29 : decode cX12_lived 29 = .ok (.iload_n 1, 1) := by decide +kernel
theorem dX12_lived_30 : decode cX12_lived 30 = .ok (.iaload, 1) := by decide +kernel
theorem dX12_lived_31 : decode cX12_lived 31 = .ok (.invokevirtual 88, 3) := by decide +kernel
theorem dX12_lived_34 : decode cX12_lived 34 = .ok (.goto 9, 3) := by decide +kernel
theorem dX12_lived_37 : decode cX12_lived 37 = .ok (.aload_n 0, 1) := by decide +kernel
theorem dX12_lived_38 : decode cX12_lived 38 = .ok (.bipush 6, 2) := by decide +kernel
theorem dX12_lived_40 : decode cX12_lived 40 = .ok (.invokevirtual 85, 3) := by decide +kernel
theorem dX12_lived_43 : decode cX12_lived 43 = .ok (.ireturn, 1) := by decide +kernel
theorem mv_X12_lived : MV yX12_lived RX12 cX12_lived 2 (some .int) 1 := ⟨tb_1903, tb_1901, tb_1902, tb_16, by decide +kernel, by decide +kernel, by decide +kernel⟩
def f_X12_lived (fu : Nat) (m_status : Int32) (m_told1 : Nat → Int32) (m_isTold : Int32) (x1 : Int32) : Option (Int32 × Int32) := (if x1 < 0 then (f_X12_refuse fu m_status 1).bind fun z_10 => some (z_10.1, z_10.2) else (if x1 ≤ 4 then (if m_isTold = 0 then (f_X12_refuse fu m_status 6).bind fun z_13 => some (z_13.1, z_13.2) else (rdI m_told1 5 x1).bind fun y_14 => (f_X12_gives fu m_status y_14).bind fun z_15 => some (z_15.1, z_15.2)) else (f_X12_refuse fu m_status 1).bind fun z_16 => some (z_16.1, z_16.2)))
abbrev rm_X12_lived : Room := { frames := 1, cells := 0, slots := 0, locals := 21 }
set_option maxHeartbeats 4000000 in
set_option maxRecDepth 100000 in
theorem c_X12_lived (l : Launch) (D : va_G) (cy : Nat → ClassId) (fu : Nat) (A_m : Nat → Nat) (m_at : Nat → Int32) (m_names : Nat → Int64) (m_status : Int32) (m_top : Int64) (m_bottom : Int64) (m_sort : Nat → Int32) (m_trayMany : Nat → Int32) (m_trays : Nat → Int64) (m_tape : Nat → Int32) (m_text : Nat → Int32) (m_taped : Int32) (m_size : Int32) (m_token : Int32) (m_from : Int32) (m_end : Int32) (m_value : Int32) (m_faultKind : Int32) (m_faultPlace : Int32) (m_faults : Int32) (m_seen : Int32) (m_toldParts : Int32) (m_opened : Nat → Int32) (m_depth : Int32) (m_counted : Int32) (m_bestOrder : Int32) (m_standers : Nat → Int32) (m_has : Nat → Int32) (m_bestHas : Nat → Int32) (m_standerMany : Int32) (m_bestCouples : Int32) (m_bestFondness : Int32) (m_cameTo : Nat → Int32) (m_doesStandFirst : Int32) (m_stoodBy : Nat → Int64) (m_drawn : Int32) (m_ranSteps : Int32) (m_loops : Nat → Int32) (m_ran : Nat → Int32) (m_told1 : Nat → Int32) (m_isTold : Int32) (m_marks : Int32) (x1 : Int32) (res : Int32 × Int32) (h : f_X12_lived fu m_status m_told1 m_isTold x1 = some res) (A : Nat → Prop) (hA : A = adr [bl_X12 cy A_m m_at m_names m_status m_top m_bottom m_sort m_trayMany m_trays m_tape m_text m_taped m_size m_token m_from m_end m_value m_faultKind m_faultPlace m_faults m_seen m_toldParts m_opened m_depth m_counted m_bestOrder m_standers m_has m_bestHas m_standerMany m_bestCouples m_bestFondness m_cameTo m_doesStandFirst m_stoodBy m_drawn m_ranSteps m_loops m_ran m_told1 m_isTold m_marks]) (W1 : List va_W) (hW1 : W1 = [bl_X12 cy A_m m_at m_names res.2 m_top m_bottom m_sort m_trayMany m_trays m_tape m_text m_taped m_size m_token m_from m_end m_value m_faultKind m_faultPlace m_faults m_seen m_toldParts m_opened m_depth m_counted m_bestOrder m_standers m_has m_bestHas m_standerMany m_bestCouples m_bestFondness m_cameTo m_doesStandFirst m_stoodBy m_drawn m_ranSteps m_loops m_ran m_told1 m_isTold m_marks]) : Met l yX12_lived (WW yX12_lived cX12_lived 2 (some .int)) rm_X12_lived (Ed D cy [.ref (A_m 0), .int x1] [bl_X12 cy A_m m_at m_names m_status m_top m_bottom m_sort m_trayMany m_trays m_tape m_text m_taped m_size m_token m_from m_end m_value m_faultKind m_faultPlace m_faults m_seen m_toldParts m_opened m_depth m_counted m_bestOrder m_standers m_has m_bestHas m_standerMany m_bestCouples m_bestFondness m_cameTo m_doesStandFirst m_stoodBy m_drawn m_ranSteps m_loops m_ran m_told1 m_isTold m_marks]) (Qei D res.1 A W1) 0 0 A := by
  refine Met.ofW (cc := cX12_lived) (maxL := 2) (ret := (some .int)) (by decide) rfl ?_
  intro p e s m args below meth c s₁ B hml hv
  obtain ⟨hargs, hP, hX, hD0⟩ := hv
  have hx := B.exec
  have hb := B.bytes
  have hr := B.returns
  have ht : ∀ w ∈ lw_gd, w.before args s = true := fun w hw => atoms_spec (ws := WW yX12_lived cX12_lived 2 (some .int)) B.pre w (List.mem_cons_of_mem _ hw)
  have hown : s.vm.findClass RX12 = some m.cls := findClass_of_methodNamed B.named
  have hlocks := B.notSynchronized
  have hP : PD D A [bl_X12 cy A_m m_at m_names m_status m_top m_bottom m_sort m_trayMany m_trays m_tape m_text m_taped m_size m_token m_from m_end m_value m_faultKind m_faultPlace m_faults m_seen m_toldParts m_opened m_depth m_counted m_bestOrder m_standers m_has m_bestHas m_standerMany m_bestCouples m_bestFondness m_cameTo m_doesStandFirst m_stoodBy m_drawn m_ranSteps m_loops m_ran m_told1 m_isTold m_marks] s.heap := ⟨hP, by rw [hA]; exact hD0.own⟩
  have hS : va_S A s.heap s.heap [] := va_S.rf
  obtain ⟨ls, hl, hent⟩ := ent (m := m) (n := 2) hargs (Nat.le_of_ble_eq_true rfl) (lv := [(0, .ref (A_m 0)), (1, .int x1)]) rfl
  rw [hent]
  clear hent
  unfold f_X12_lived at h
  refine lv_iload_n hx hb dX12_lived_0 rfl (lv_at hl 1 rfl) ?_
  refine lv_if_lt (tgt := 9) hx hb dX12_lived_1 (by decide) (fun c_9 => ?_) (fun c_9 => ?_)
  · have h := it c_9 h
    refine lv_aload_n hx hb dX12_lived_9 rfl (lv_at hl 0 rfl) ?_
    refine lv_iconst (v := 1) hx hb dX12_lived_10 (by decide) ?_
    obtain ⟨z_10, e_z_10, h⟩ := bi h
    refine efVi (rest := []) ⟨hx, hb, hml, hown, ht⟩ (c_X12_refuse l D cy fu A_m m_at m_names m_status m_top m_bottom m_sort m_trayMany m_trays m_tape m_text m_taped m_size m_token m_from m_end m_value m_faultKind m_faultPlace m_faults m_seen m_toldParts m_opened m_depth m_counted m_bestOrder m_standers m_has m_bestHas m_standerMany m_bestCouples m_bestFondness m_cameTo m_doesStandFirst m_stoodBy m_drawn m_ranSteps m_loops m_ran m_told1 m_isTold m_marks 1 z_10 e_z_10 _ rfl _ rfl) (cV ht mv_X12_refuse tb_1432 rfl rfl ⟨Nat.le_of_ble_eq_true rfl, Nat.le_of_ble_eq_true rfl⟩) hP hS hX [0] rfl rfl rfl rfl rfl rfl hl.1 rfl (Nat.le_of_ble_eq_true rfl) dX12_lived_11 ⟨Nat.le_of_ble_eq_true rfl, Nat.le_of_ble_eq_true rfl⟩ (fun H locs hP hS => ?_)
    have hP : PD D A [bl_X12 cy A_m m_at m_names z_10.2 m_top m_bottom m_sort m_trayMany m_trays m_tape m_text m_taped m_size m_token m_from m_end m_value m_faultKind m_faultPlace m_faults m_seen m_toldParts m_opened m_depth m_counted m_bestOrder m_standers m_has m_bestHas m_standerMany m_bestCouples m_bestFondness m_cameTo m_doesStandFirst m_stoodBy m_drawn m_ranSteps m_loops m_ran m_told1 m_isTold m_marks] H := hP
    refine lv_goto (tgt := 43) hx hb dX12_lived_14 (by decide) ?_
    cases h
    subst hW1
    exact W.iret hx hb hr (fun _ ht9 _ => ⟨⟨_, (), rfl, rfl, hPt ht9 hP.1⟩, hS.F ht9⟩) hS.2.2 dX12_lived_43
  · have h := ie c_9 h
    refine lv_iload_n hx hb dX12_lived_4 rfl (lv_at hl 1 rfl) ?_
    refine lv_iconst (v := 4) hx hb dX12_lived_5 (by decide) ?_
    refine lv_icmp_le (tgt := 17) hx hb dX12_lived_6 (by decide) (fun c_11 => ?_) (fun c_11 => ?_)
    · have h := it c_11 h
      refine lv_aload_n hx hb dX12_lived_17 rfl (lv_at hl 0 rfl) ?_
      refine xget (i := 0) (j := 0) (k := 39) (T := TX12) hx hb ht tb_iX12 hown hX hP.1 rfl rfl rfl (by decide) tb_1268 rfl dX12_lived_18 ?_
      refine lv_if_eq (tgt := 37) hx hb dX12_lived_21 (by decide) (fun c_12 => ?_) (fun c_12 => ?_)
      · have h := it c_12 h
        refine lv_aload_n hx hb dX12_lived_37 rfl (lv_at hl 0 rfl) ?_
        refine lv_bipush (v := 6) hx hb dX12_lived_38 (by decide) ?_
        obtain ⟨z_13, e_z_13, h⟩ := bi h
        refine efVi (rest := []) ⟨hx, hb, hml, hown, ht⟩ (c_X12_refuse l D cy fu A_m m_at m_names m_status m_top m_bottom m_sort m_trayMany m_trays m_tape m_text m_taped m_size m_token m_from m_end m_value m_faultKind m_faultPlace m_faults m_seen m_toldParts m_opened m_depth m_counted m_bestOrder m_standers m_has m_bestHas m_standerMany m_bestCouples m_bestFondness m_cameTo m_doesStandFirst m_stoodBy m_drawn m_ranSteps m_loops m_ran m_told1 m_isTold m_marks 6 z_13 e_z_13 _ rfl _ rfl) (cV ht mv_X12_refuse tb_1432 rfl rfl ⟨Nat.le_of_ble_eq_true rfl, Nat.le_of_ble_eq_true rfl⟩) hP hS hX [0] rfl rfl rfl rfl rfl rfl hl.1 rfl (Nat.le_of_ble_eq_true rfl) dX12_lived_40 ⟨Nat.le_of_ble_eq_true rfl, Nat.le_of_ble_eq_true rfl⟩ (fun H locs hP hS => ?_)
        have hP : PD D A [bl_X12 cy A_m m_at m_names z_13.2 m_top m_bottom m_sort m_trayMany m_trays m_tape m_text m_taped m_size m_token m_from m_end m_value m_faultKind m_faultPlace m_faults m_seen m_toldParts m_opened m_depth m_counted m_bestOrder m_standers m_has m_bestHas m_standerMany m_bestCouples m_bestFondness m_cameTo m_doesStandFirst m_stoodBy m_drawn m_ranSteps m_loops m_ran m_told1 m_isTold m_marks] H := hP
        cases h
        subst hW1
        exact W.iret hx hb hr (fun _ ht9 _ => ⟨⟨_, (), rfl, rfl, hPt ht9 hP.1⟩, hS.F ht9⟩) hS.2.2 dX12_lived_43
      · have h := ie c_12 h
        refine lv_aload_n hx hb dX12_lived_24 rfl (lv_at hl 0 rfl) ?_
        refine lv_aload_n hx hb dX12_lived_25 rfl (lv_at hl 0 rfl) ?_
        refine xget (i := 0) (j := 0) (k := 38) (T := TX12) hx hb ht tb_iX12 hown hX hP.1 rfl rfl rfl (by decide) tb_1267 rfl dX12_lived_26 ?_
        refine lv_iload_n hx hb dX12_lived_29 rfl (lv_at hl 1 rfl) ?_
        obtain ⟨y_14, e_y_14, h⟩ := bi h
        refine xiald (i0 := 0) (j0 := 16) hx hb hX hP.1 rfl rfl e_y_14 dX12_lived_30 ?_
        obtain ⟨z_15, e_z_15, h⟩ := bi h
        refine efVi (rest := []) ⟨hx, hb, hml, hown, ht⟩ (c_X12_gives l D cy fu A_m m_at m_names m_status m_top m_bottom m_sort m_trayMany m_trays m_tape m_text m_taped m_size m_token m_from m_end m_value m_faultKind m_faultPlace m_faults m_seen m_toldParts m_opened m_depth m_counted m_bestOrder m_standers m_has m_bestHas m_standerMany m_bestCouples m_bestFondness m_cameTo m_doesStandFirst m_stoodBy m_drawn m_ranSteps m_loops m_ran m_told1 m_isTold m_marks y_14 z_15 e_z_15 _ rfl _ rfl) (cV ht mv_X12_gives tb_1499 rfl rfl ⟨Nat.le_of_ble_eq_true rfl, Nat.le_of_ble_eq_true rfl⟩) hP hS hX [0] rfl rfl rfl rfl rfl rfl hl.1 rfl (Nat.le_of_ble_eq_true rfl) dX12_lived_31 ⟨Nat.le_of_ble_eq_true rfl, Nat.le_of_ble_eq_true rfl⟩ (fun H locs hP hS => ?_)
        have hP : PD D A [bl_X12 cy A_m m_at m_names z_15.2 m_top m_bottom m_sort m_trayMany m_trays m_tape m_text m_taped m_size m_token m_from m_end m_value m_faultKind m_faultPlace m_faults m_seen m_toldParts m_opened m_depth m_counted m_bestOrder m_standers m_has m_bestHas m_standerMany m_bestCouples m_bestFondness m_cameTo m_doesStandFirst m_stoodBy m_drawn m_ranSteps m_loops m_ran m_told1 m_isTold m_marks] H := hP
        refine lv_goto (tgt := 43) hx hb dX12_lived_34 (by decide) ?_
        cases h
        subst hW1
        exact W.iret hx hb hr (fun _ ht9 _ => ⟨⟨_, (), rfl, rfl, hPt ht9 hP.1⟩, hS.F ht9⟩) hS.2.2 dX12_lived_43
    · have h := ie c_11 h
      refine lv_aload_n hx hb dX12_lived_9 rfl (lv_at hl 0 rfl) ?_
      refine lv_iconst (v := 1) hx hb dX12_lived_10 (by decide) ?_
      obtain ⟨z_16, e_z_16, h⟩ := bi h
      refine efVi (rest := []) ⟨hx, hb, hml, hown, ht⟩ (c_X12_refuse l D cy fu A_m m_at m_names m_status m_top m_bottom m_sort m_trayMany m_trays m_tape m_text m_taped m_size m_token m_from m_end m_value m_faultKind m_faultPlace m_faults m_seen m_toldParts m_opened m_depth m_counted m_bestOrder m_standers m_has m_bestHas m_standerMany m_bestCouples m_bestFondness m_cameTo m_doesStandFirst m_stoodBy m_drawn m_ranSteps m_loops m_ran m_told1 m_isTold m_marks 1 z_16 e_z_16 _ rfl _ rfl) (cV ht mv_X12_refuse tb_1432 rfl rfl ⟨Nat.le_of_ble_eq_true rfl, Nat.le_of_ble_eq_true rfl⟩) hP hS hX [0] rfl rfl rfl rfl rfl rfl hl.1 rfl (Nat.le_of_ble_eq_true rfl) dX12_lived_11 ⟨Nat.le_of_ble_eq_true rfl, Nat.le_of_ble_eq_true rfl⟩ (fun H locs hP hS => ?_)
      have hP : PD D A [bl_X12 cy A_m m_at m_names z_16.2 m_top m_bottom m_sort m_trayMany m_trays m_tape m_text m_taped m_size m_token m_from m_end m_value m_faultKind m_faultPlace m_faults m_seen m_toldParts m_opened m_depth m_counted m_bestOrder m_standers m_has m_bestHas m_standerMany m_bestCouples m_bestFondness m_cameTo m_doesStandFirst m_stoodBy m_drawn m_ranSteps m_loops m_ran m_told1 m_isTold m_marks] H := hP
      refine lv_goto (tgt := 43) hx hb dX12_lived_14 (by decide) ?_
      cases h
      subst hW1
      exact W.iret hx hb hr (fun _ ht9 _ => ⟨⟨_, (), rfl, rfl, hPt ht9 hP.1⟩, hS.F ht9⟩) hS.2.2 dX12_lived_43
theorem dX12_mean_0 : decode cX12_mean 0 = .ok (.aload_n 0, 1) := by decide +kernel
theorem dX12_mean_1 : decode cX12_mean 1 = .ok (.iload_n 1, 1) := by decide +kernel
theorem dX12_mean_2 : decode cX12_mean 2 = .ok (.invokevirtual 241, 3) := by decide +kernel
theorem dX12_mean_5 : decode cX12_mean 5 = .ok (.ifCond .eq 38, 3) := by decide +kernel
theorem dX12_mean_8 : decode cX12_mean 8 = .ok (.iload_n 2, 1) := by decide +kernel
theorem dX12_mean_9 : decode cX12_mean 9 = .ok (.i2l, 1) := by decide +kernel
theorem dX12_mean_10 : decode cX12_mean 10 = .ok (.lconst 0, 1) := by decide +kernel
theorem dX12_mean_11 : decode cX12_mean 11 = .ok (.ldc2_w 443, 3) := by decide +kernel
theorem dX12_mean_14 : decode cX12_mean 14 = .ok (.invokestatic 246, 3) := by decide +kernel
theorem dX12_mean_17 : decode cX12_mean 17 = .ok (.ifCond .eq 26, 3) := by decide +kernel
theorem dX12_mean_20 : decode cX12_mean 20 = .ok (.iload_n 3, 1) := by decide +kernel
theorem dX12_mean_21 : decode cX12_mean 21 = .ok (.i2l, 1) := by decide +kernel
theorem dX12_mean_22 : decode cX12_mean 22 = .ok (.lconst 1, 1) := by decide +kernel
theorem dX12_mean_23 : decode cX12_mean 23 = .ok (.ldc2_w 311, 3) := by decide +kernel
theorem dX12_mean_26 : decode cX12_mean 26 = .ok (.invokestatic 246, 3) := by decide +kernel
theorem dX12_mean_29 : decode cX12_mean 29 = .ok (.ifCond .eq 14, 3) := by decide +kernel
theorem dX12_mean_32 : decode cX12_mean 32 = .ok (.iload_n 2, 1) := by decide +kernel
theorem dX12_mean_33 : decode cX12_mean 33 = .ok (.iload_n 3, 1) := by decide +kernel
theorem dX12_mean_34 : decode cX12_mean 34 = .ok (.iadd, 1) := by decide +kernel
theorem dX12_mean_35 : decode cX12_mean 35 = .ok (.iconst 1, 1) := by decide +kernel
theorem dX12_mean_36 : decode cX12_mean 36 = .ok (.isub, 1) := by decide +kernel
theorem dX12_mean_37 : decode cX12_mean 37 = .ok (.sipush 9999, 3) := by decide +kernel
theorem dX12_mean_40 : decode cX12_mean 40 = .ok (.if_icmp .le 9, 3) := by decide +kernel
theorem dX12_mean_43 : decode cX12_mean 43 = .ok (.aload_n 0, 1) := by decide +kernel
theorem dX12_mean_44 : decode cX12_mean 44 = .ok (.iconst 1, 1) := by decide +kernel
theorem dX12_mean_45 : decode cX12_mean 45 = .ok (.invokevirtual 91, 3) := by decide +kernel
theorem dX12_mean_48 : decode cX12_mean 48 = .ok (.ireturn, 1) := by decide +kernel
theorem dX12_mean_49 : decode cX12_mean 49 = .ok (.aload_n 0, 1) := by decide +kernel
theorem dX12_mean_50 : decode cX12_mean 50 = .ok (.getfield 7, 3) := by decide +kernel
theorem dX12_mean_53 : decode cX12_mean 53 = .ok (.iconst 5, 1) := by decide +kernel
theorem dX12_mean_54 : decode cX12_mean 54 = .ok (.iaload, 1) := by decide +kernel
theorem dX12_mean_55 : decode cX12_mean 55 = .ok (.iconst (-1), 1) := by decide +kernel
theorem dX12_mean_56 : decode cX12_mean 56 = .ok (.if_icmp .ne 10, 3) := by decide +kernel
theorem dX12_mean_59 : decode cX12_mean 59 = .ok (.aload_n 0, 1) := by decide +kernel
theorem dX12_mean_60 : decode cX12_mean 60 = .ok (.bipush 6, 2) := by decide +kernel
theorem dX12_mean_62 : decode cX12_mean 62 = .ok (.invokevirtual 91, 3) := by decide +kernel
theorem dX12_mean_65 : decode cX12_mean 65 = .ok (.ireturn, 1) := by decide +kernel
theorem dX12_mean_66 : decode cX12_mean 66 = .ok (.aload_n 0, 1) := by decide +kernel
theorem dX12_mean_67 : decode cX12_mean 67 = .ok (.sipush 2440, 3) := by decide +kernel
theorem dX12_mean_70 : decode cX12_mean 70 = .ok (.invokevirtual 342, 3) := by decide +kernel
theorem dX12_mean_73 : decode cX12_mean 73 = .ok (.lconst 0, 1) := by decide +kernel
theorem dX12_mean_74 : decode cX12_mean 74 = .ok (.lstore 4, 2) := by decide +kernel
theorem dX12_mean_76 : decode cX12_mean 76 = .ok (.iconst 0, 1) := by decide +kernel
theorem dX12_mean_77 : decode cX12_mean 77 = .ok (.istore 6, 2) := by decide +kernel
theorem dX12_mean_79 : decode cX12_mean 79 = .ok (.iload 6, 2) := by decide +kernel
theorem dX12_mean_81 : decode cX12_mean 81 = .ok (.iload_n 3, 1) := by decide +kernel
theorem dX12_mean_82 : decode cX12_mean 82 = .ok (.if_icmp .ge 36, 3) := by decide +kernel
theorem dX12_mean_85 : decode cX12_mean 85 = .ok (.aload_n 0, 1) := by decide +kernel
theorem dX12_mean_86 : decode cX12_mean 86 = .ok (.iload_n 2, 1) := by decide +kernel
theorem dX12_mean_87 : decode cX12_mean 87 = .ok (.iload 6, 2) := by decide +kernel
theorem dX12_mean_89 : decode cX12_mean 89 = .ok (.iadd, 1) := by decide +kernel
theorem dX12_mean_90 : decode cX12_mean 90 = .ok (.invokevirtual 445, 3) := by decide +kernel
theorem dX12_mean_93 : decode cX12_mean 93 = .ok (.lload 4, 2) := by decide +kernel
theorem dX12_mean_95 : decode cX12_mean 95 = .ok (.aload_n 0, 1) := by decide +kernel
theorem dX12_mean_96 : decode cX12_mean 96 = .ok (.iload_n 1, 1) := by decide +kernel
theorem dX12_mean_97 : decode cX12_mean 97 = .ok (.iconst 2, 1) := by decide +kernel
theorem dX12_mean_98 : decode cX12_mean 98 = .ok (.invokevirtual 250, 3) := by decide +kernel
theorem dX12_mean_101 : decode cX12_mean 101 = .ok (.i2l, 1) := by decide +kernel
theorem dX12_mean_102 : decode cX12_mean 102 = .ok (.ladd, 1) := by decide +kernel
theorem dX12_mean_103 : decode cX12_mean 103 = .ok (.lstore 4, 2) := by decide +kernel
theorem dX12_mean_105 : decode cX12_mean 105 = .ok (.aload_n 0, 1) := by decide +kernel
theorem dX12_mean_106 : decode cX12_mean 106 = .ok (.sipush 2440, 3) := by decide +kernel
theorem dX12_mean_109 : decode cX12_mean 109 = .ok (.invokevirtual 349, 3) := by decide +kernel
theorem dX12_mean_112 : decode cX12_mean 112 = .ok (.iinc 6 1, 3) := by decide +kernel
theorem dX12_mean_115 : decode cX12_mean 115 = .ok (.goto (-36), 3) := by decide +kernel
theorem dX12_mean_118 : decode cX12_mean 118 = .ok (.aload_n 0, 1) := by decide +kernel
theorem dX12_mean_119 : decode cX12_mean 119 = .ok (.lload 4, 2) := by decide +kernel
theorem dX12_mean_121 : decode cX12_mean 121 = .ok (.iload_n 3, 1) := by decide +kernel
theorem dX12_mean_122 : decode cX12_mean 122 = .ok (.i2l, 1) := by decide +kernel
theorem dX12_mean_123 : decode cX12_mean 123 = .ok (.invokevirtual 336, 3) := by decide +kernel
theorem dX12_mean_126 : decode cX12_mean 126 = .ok (.ireturn, 1) := by decide +kernel
theorem mv_X12_mean : MV yX12_mean RX12 cX12_mean 7 (some .boolean) 3 := ⟨tb_1907, tb_1905, tb_1906, tb_16, by decide +kernel, by decide +kernel, by decide +kernel⟩
def f_X12_mean_b79 (fu : Nat) (x1 : Int32) (x2 : Int32) (x3 : Int32) (k79 : (Nat → Int32) → Int32 → Int64 → Int64 → Int32 → Int32 → (Nat → Int32) → (Nat → Int32) → Int64 → Int32 → (Option (Int32 × (Nat → Int32) × Int32 × Int64 × Int64 × Int32 × Int32 × (Nat → Int32) × (Nat → Int32)))) (m_at : Nat → Int32) (m_status : Int32) (m_top : Int64) (m_bottom : Int64) (m_drawn : Int32) (m_ranSteps : Int32) (m_loops : Nat → Int32) (m_ran : Nat → Int32) (x4 : Int64) (x6 : Int32) : Option (Int32 × (Nat → Int32) × Int32 × Int64 × Int64 × Int32 × Int32 × (Nat → Int32) × (Nat → Int32)) := (if x3 ≤ x6 then (f_X12_tellsBy fu m_status m_top m_bottom x4 (Int32.toInt64 x3)).bind fun z_30 => (bz z_30.1).bind fun _ => some (z_30.1, m_at, z_30.2.1, z_30.2.2.1, z_30.2.2.2, m_drawn, m_ranSteps, m_loops, m_ran) else (f_X12_lives fu m_at m_drawn m_ranSteps m_loops m_ran (x2 + x6)).bind fun z_32 => (f_X12_manOf fu z_32.1 x1 2).bind fun z_33 => bnd (x4 + (Int32.toInt64 z_33)) fun x4_34 => (f_X12_restores fu z_32.1 2440).bind fun z_35 => bnd (x6 + 1) fun x6_36 => k79 z_35 m_status m_top m_bottom z_32.2.1 z_32.2.2.1 z_32.2.2.2.1 z_32.2.2.2.2 x4_34 x6_36)
def f_X12_mean_l79 (fu : Nat) (x1 : Int32) (x2 : Int32) (x3 : Int32) : Nat → (Nat → Int32) → Int32 → Int64 → Int64 → Int32 → Int32 → (Nat → Int32) → (Nat → Int32) → Int64 → Int32 → (Option (Int32 × (Nat → Int32) × Int32 × Int64 × Int64 × Int32 × Int32 × (Nat → Int32) × (Nat → Int32)))
  | 0, _, _, _, _, _, _, _, _, _, _ => none
  | n + 1, m_at, m_status, m_top, m_bottom, m_drawn, m_ranSteps, m_loops, m_ran, x4, x6 => f_X12_mean_b79 fu x1 x2 x3 (f_X12_mean_l79 fu x1 x2 x3 n) m_at m_status m_top m_bottom m_drawn m_ranSteps m_loops m_ran x4 x6
def f_X12_mean (fu : Nat) (m_at : Nat → Int32) (m_status : Int32) (m_top : Int64) (m_bottom : Int64) (m_drawn : Int32) (m_ranSteps : Int32) (m_loops : Nat → Int32) (m_ran : Nat → Int32) (x1 : Int32) (x2 : Int32) (x3 : Int32) : Option (Int32 × (Nat → Int32) × Int32 × Int64 × Int64 × Int32 × Int32 × (Nat → Int32) × (Nat → Int32)) := (f_X12_isMan fu m_at x1).bind fun z_37 => (if z_37 = 0 then (f_X12_is fu m_status 1).bind fun z_39 => (bz z_39.1).bind fun _ => some (z_39.1, m_at, z_39.2, m_top, m_bottom, m_drawn, m_ranSteps, m_loops, m_ran) else (f_X12_isFrom fu (Int32.toInt64 x2) 0 9999).bind fun z_41 => (if z_41 = 0 then (f_X12_is fu m_status 1).bind fun z_43 => (bz z_43.1).bind fun _ => some (z_43.1, m_at, z_43.2, m_top, m_bottom, m_drawn, m_ranSteps, m_loops, m_ran) else (f_X12_isFrom fu (Int32.toInt64 x3) 1 20).bind fun z_45 => (if z_45 = 0 then (f_X12_is fu m_status 1).bind fun z_47 => (bz z_47.1).bind fun _ => some (z_47.1, m_at, z_47.2, m_top, m_bottom, m_drawn, m_ranSteps, m_loops, m_ran) else (if ((x2 + x3) - 1) ≤ 9999 then (rdI m_at 3648 5).bind fun y_50 => (if y_50 = (-1) then (f_X12_is fu m_status 6).bind fun z_53 => (bz z_53.1).bind fun _ => some (z_53.1, m_at, z_53.2, m_top, m_bottom, m_drawn, m_ranSteps, m_loops, m_ran) else (f_X12_keeps fu m_at 2440).bind fun z_52 => f_X12_mean_l79 fu x1 x2 x3 fu z_52 m_status m_top m_bottom m_drawn m_ranSteps m_loops m_ran 0 0) else (f_X12_is fu m_status 1).bind fun z_55 => (bz z_55.1).bind fun _ => some (z_55.1, m_at, z_55.2, m_top, m_bottom, m_drawn, m_ranSteps, m_loops, m_ran)))))
abbrev rm_X12_mean : Room := { frames := 12, cells := 0, slots := 0, locals := 274 }
set_option maxHeartbeats 4000000 in
set_option maxRecDepth 100000 in
theorem c_X12_mean (l : Launch) (D : va_G) (cy : Nat → ClassId) (fu : Nat) (A_m : Nat → Nat) (m_at : Nat → Int32) (m_names : Nat → Int64) (m_status : Int32) (m_top : Int64) (m_bottom : Int64) (m_sort : Nat → Int32) (m_trayMany : Nat → Int32) (m_trays : Nat → Int64) (m_tape : Nat → Int32) (m_text : Nat → Int32) (m_taped : Int32) (m_size : Int32) (m_token : Int32) (m_from : Int32) (m_end : Int32) (m_value : Int32) (m_faultKind : Int32) (m_faultPlace : Int32) (m_faults : Int32) (m_seen : Int32) (m_toldParts : Int32) (m_opened : Nat → Int32) (m_depth : Int32) (m_counted : Int32) (m_bestOrder : Int32) (m_standers : Nat → Int32) (m_has : Nat → Int32) (m_bestHas : Nat → Int32) (m_standerMany : Int32) (m_bestCouples : Int32) (m_bestFondness : Int32) (m_cameTo : Nat → Int32) (m_doesStandFirst : Int32) (m_stoodBy : Nat → Int64) (m_drawn : Int32) (m_ranSteps : Int32) (m_loops : Nat → Int32) (m_ran : Nat → Int32) (m_told1 : Nat → Int32) (m_isTold : Int32) (m_marks : Int32) (x1 : Int32) (x2 : Int32) (x3 : Int32) (res : Int32 × (Nat → Int32) × Int32 × Int64 × Int64 × Int32 × Int32 × (Nat → Int32) × (Nat → Int32)) (h : f_X12_mean fu m_at m_status m_top m_bottom m_drawn m_ranSteps m_loops m_ran x1 x2 x3 = some res) (A : Nat → Prop) (hA : A = adr [bl_X12 cy A_m m_at m_names m_status m_top m_bottom m_sort m_trayMany m_trays m_tape m_text m_taped m_size m_token m_from m_end m_value m_faultKind m_faultPlace m_faults m_seen m_toldParts m_opened m_depth m_counted m_bestOrder m_standers m_has m_bestHas m_standerMany m_bestCouples m_bestFondness m_cameTo m_doesStandFirst m_stoodBy m_drawn m_ranSteps m_loops m_ran m_told1 m_isTold m_marks]) (W1 : List va_W) (hW1 : W1 = [bl_X12 cy A_m res.2.1 m_names res.2.2.1 res.2.2.2.1 res.2.2.2.2.1 m_sort m_trayMany m_trays m_tape m_text m_taped m_size m_token m_from m_end m_value m_faultKind m_faultPlace m_faults m_seen m_toldParts m_opened m_depth m_counted m_bestOrder m_standers m_has m_bestHas m_standerMany m_bestCouples m_bestFondness m_cameTo m_doesStandFirst m_stoodBy res.2.2.2.2.2.1 res.2.2.2.2.2.2.1 res.2.2.2.2.2.2.2.1 res.2.2.2.2.2.2.2.2 m_told1 m_isTold m_marks]) : Met l yX12_mean (WW yX12_mean cX12_mean 7 (some .boolean)) rm_X12_mean (Ed D cy [.ref (A_m 0), .int x1, .int x2, .int x3] [bl_X12 cy A_m m_at m_names m_status m_top m_bottom m_sort m_trayMany m_trays m_tape m_text m_taped m_size m_token m_from m_end m_value m_faultKind m_faultPlace m_faults m_seen m_toldParts m_opened m_depth m_counted m_bestOrder m_standers m_has m_bestHas m_standerMany m_bestCouples m_bestFondness m_cameTo m_doesStandFirst m_stoodBy m_drawn m_ranSteps m_loops m_ran m_told1 m_isTold m_marks]) (Qei D res.1 A W1) 0 0 A := by
  refine Met.ofW (cc := cX12_mean) (maxL := 7) (ret := (some .boolean)) (by decide) rfl ?_
  intro p e s m args below meth c s₁ B hml hv
  obtain ⟨hargs, hP, hX, hD0⟩ := hv
  have hx := B.exec
  have hb := B.bytes
  have hr := B.returns
  have ht : ∀ w ∈ lw_gd, w.before args s = true := fun w hw => atoms_spec (ws := WW yX12_mean cX12_mean 7 (some .boolean)) B.pre w (List.mem_cons_of_mem _ hw)
  have hown : s.vm.findClass RX12 = some m.cls := findClass_of_methodNamed B.named
  have hlocks := B.notSynchronized
  have hP : PD D A [bl_X12 cy A_m m_at m_names m_status m_top m_bottom m_sort m_trayMany m_trays m_tape m_text m_taped m_size m_token m_from m_end m_value m_faultKind m_faultPlace m_faults m_seen m_toldParts m_opened m_depth m_counted m_bestOrder m_standers m_has m_bestHas m_standerMany m_bestCouples m_bestFondness m_cameTo m_doesStandFirst m_stoodBy m_drawn m_ranSteps m_loops m_ran m_told1 m_isTold m_marks] s.heap := ⟨hP, by rw [hA]; exact hD0.own⟩
  have hS : va_S A s.heap s.heap [] := va_S.rf
  obtain ⟨ls, hl, hent⟩ := ent (m := m) (n := 7) hargs (Nat.le_of_ble_eq_true rfl) (lv := [(0, .ref (A_m 0)), (1, .int x1), (2, .int x2), (3, .int x3)]) rfl
  rw [hent]
  clear hent
  have l79 : ∀ (n79 : Nat) (m_at : Nat → Int32) (m_status : Int32) (m_top : Int64) (m_bottom : Int64) (m_drawn : Int32) (m_ranSteps : Int32) (m_loops : Nat → Int32) (m_ran : Nat → Int32) (x4 : Int64) (x6 : Int32) (H : Heap) (locs : List Loc) (_ : PD D A [bl_X12 cy A_m m_at m_names m_status m_top m_bottom m_sort m_trayMany m_trays m_tape m_text m_taped m_size m_token m_from m_end m_value m_faultKind m_faultPlace m_faults m_seen m_toldParts m_opened m_depth m_counted m_bestOrder m_standers m_has m_bestHas m_standerMany m_bestCouples m_bestFondness m_cameTo m_doesStandFirst m_stoodBy m_drawn m_ranSteps m_loops m_ran m_told1 m_isTold m_marks] H) (_ : va_S A s.heap H locs) (ls : Array Slot), lv_has ls 7 [(0, .ref (A_m 0)), (1, .int x1), (2, .int x2), (3, .int x3), (4, .long x4), (6, .int x6)] → f_X12_mean_l79 fu x1 x2 x3 n79 m_at m_status m_top m_bottom m_drawn m_ranSteps m_loops m_ran x4 x6 = some res → W p l e (headSpec (WW yX12_mean cX12_mean 7 (some .boolean)) rm_X12_mean).room s m args below meth c H locs 0 0 (MQ below (Qei D res.1 A W1) args s 0 0 A) (F0 m 79 ls []) := by
    intro n79
    induction n79 with
    | zero => intro m_at m_status m_top m_bottom m_drawn m_ranSteps m_loops m_ran x4 x6 H locs hP hS ls hl h; cases h
    | succ n79 ih79 =>
      intro m_at m_status m_top m_bottom m_drawn m_ranSteps m_loops m_ran x4 x6 H locs hP hS ls hl h
      have h : f_X12_mean_b79 fu x1 x2 x3 (f_X12_mean_l79 fu x1 x2 x3 n79) m_at m_status m_top m_bottom m_drawn m_ranSteps m_loops m_ran x4 x6 = some res := h
      unfold f_X12_mean_b79 at h
      refine lv_iload hx hb dX12_mean_79 (lv_at hl 5 rfl) ?_
      refine lv_iload_n hx hb dX12_mean_81 rfl (lv_at hl 3 rfl) ?_
      refine lv_icmp_ge (tgt := 118) hx hb dX12_mean_82 (by decide) (fun c_29 => ?_) (fun c_29 => ?_)
      · have h := it c_29 h
        refine lv_aload_n hx hb dX12_mean_118 rfl (lv_at hl 0 rfl) ?_
        refine lv_lload hx hb dX12_mean_119 (lv_at hl 4 rfl) ?_
        refine lv_iload_n hx hb dX12_mean_121 rfl (lv_at hl 3 rfl) ?_
        refine lv_i2l (v := Int32.toInt64 x3) hx hb dX12_mean_122 rfl ?_
        obtain ⟨z_30, e_z_30, h⟩ := bi h
        refine efVi (rest := []) ⟨hx, hb, hml, hown, ht⟩ (c_X12_tellsBy l D cy fu A_m m_at m_names m_status m_top m_bottom m_sort m_trayMany m_trays m_tape m_text m_taped m_size m_token m_from m_end m_value m_faultKind m_faultPlace m_faults m_seen m_toldParts m_opened m_depth m_counted m_bestOrder m_standers m_has m_bestHas m_standerMany m_bestCouples m_bestFondness m_cameTo m_doesStandFirst m_stoodBy m_drawn m_ranSteps m_loops m_ran m_told1 m_isTold m_marks x4 (Int32.toInt64 x3) z_30 e_z_30 _ rfl _ rfl) (cV ht mv_X12_tellsBy tb_1726 rfl rfl ⟨Nat.le_of_ble_eq_true rfl, Nat.le_of_ble_eq_true rfl⟩) hP hS hX [0] rfl rfl rfl rfl rfl rfl hl.1 rfl (Nat.le_of_ble_eq_true rfl) dX12_mean_123 ⟨Nat.le_of_ble_eq_true rfl, Nat.le_of_ble_eq_true rfl⟩ (fun H locs hP hS => ?_)
        have hP : PD D A [bl_X12 cy A_m m_at m_names z_30.2.1 z_30.2.2.1 z_30.2.2.2 m_sort m_trayMany m_trays m_tape m_text m_taped m_size m_token m_from m_end m_value m_faultKind m_faultPlace m_faults m_seen m_toldParts m_opened m_depth m_counted m_bestOrder m_standers m_has m_bestHas m_standerMany m_bestCouples m_bestFondness m_cameTo m_doesStandFirst m_stoodBy m_drawn m_ranSteps m_loops m_ran m_told1 m_isTold m_marks] H := hP
        obtain ⟨b_31, e_b_31, h⟩ := bi h
        obtain ⟨-, n_b_31, -⟩ := bz_ok e_b_31
        cases h
        subst hW1
        exact W.zret hx hb hr n_b_31 (fun _ ht9 _ => ⟨⟨_, (), rfl, rfl, hPt ht9 hP.1⟩, hS.F ht9⟩) hS.2.2 dX12_mean_126
      · have h := ie c_29 h
        refine lv_aload_n hx hb dX12_mean_85 rfl (lv_at hl 0 rfl) ?_
        refine lv_iload_n hx hb dX12_mean_86 rfl (lv_at hl 2 rfl) ?_
        refine lv_iload hx hb dX12_mean_87 (lv_at hl 5 rfl) ?_
        refine lv_iadd hx hb dX12_mean_89 ?_
        obtain ⟨z_32, e_z_32, h⟩ := bi h
        refine efVv (rest := []) ⟨hx, hb, hml, hown, ht⟩ (c_X12_lives l D cy fu A_m m_at m_names m_status m_top m_bottom m_sort m_trayMany m_trays m_tape m_text m_taped m_size m_token m_from m_end m_value m_faultKind m_faultPlace m_faults m_seen m_toldParts m_opened m_depth m_counted m_bestOrder m_standers m_has m_bestHas m_standerMany m_bestCouples m_bestFondness m_cameTo m_doesStandFirst m_stoodBy m_drawn m_ranSteps m_loops m_ran m_told1 m_isTold m_marks (x2 + x6) z_32 e_z_32 _ rfl _ rfl) (cV ht mv_X12_lives tb_1871 rfl rfl ⟨Nat.le_of_ble_eq_true rfl, Nat.le_of_ble_eq_true rfl⟩) hP hS hX [0] rfl rfl rfl rfl rfl rfl hl.1 rfl (Nat.le_of_ble_eq_true rfl) dX12_mean_90 ⟨Nat.le_of_ble_eq_true rfl, Nat.le_of_ble_eq_true rfl⟩ (fun H locs hP hS => ?_)
        have hP : PD D A [bl_X12 cy A_m z_32.1 m_names m_status m_top m_bottom m_sort m_trayMany m_trays m_tape m_text m_taped m_size m_token m_from m_end m_value m_faultKind m_faultPlace m_faults m_seen m_toldParts m_opened m_depth m_counted m_bestOrder m_standers m_has m_bestHas m_standerMany m_bestCouples m_bestFondness m_cameTo m_doesStandFirst m_stoodBy z_32.2.1 z_32.2.2.1 z_32.2.2.2.1 z_32.2.2.2.2 m_told1 m_isTold m_marks] H := hP
        refine lv_lload hx hb dX12_mean_93 (lv_at hl 4 rfl) ?_
        refine lv_aload_n hx hb dX12_mean_95 rfl (lv_at hl 0 rfl) ?_
        refine lv_iload_n hx hb dX12_mean_96 rfl (lv_at hl 1 rfl) ?_
        refine lv_iconst (v := 2) hx hb dX12_mean_97 (by decide) ?_
        obtain ⟨z_33, e_z_33, h⟩ := bi h
        refine roVi (rest := [.long x4]) ⟨hx, hb, hml, hown, ht⟩ (c_X12_manOf l D cy fu A_m z_32.1 m_names m_status m_top m_bottom m_sort m_trayMany m_trays m_tape m_text m_taped m_size m_token m_from m_end m_value m_faultKind m_faultPlace m_faults m_seen m_toldParts m_opened m_depth m_counted m_bestOrder m_standers m_has m_bestHas m_standerMany m_bestCouples m_bestFondness m_cameTo m_doesStandFirst m_stoodBy z_32.2.1 z_32.2.2.1 z_32.2.2.2.1 z_32.2.2.2.2 m_told1 m_isTold m_marks x1 2 z_33 e_z_33) (cV ht mv_X12_manOf tb_1535 rfl rfl ⟨Nat.le_of_ble_eq_true rfl, Nat.le_of_ble_eq_true rfl⟩) (P_sub hP.1 [0] rfl) hX rfl rfl rfl hl.1 rfl (Nat.le_of_ble_eq_true rfl) dX12_mean_98 ⟨Nat.le_of_ble_eq_true rfl, Nat.le_of_ble_eq_true rfl⟩ ?_
        refine lv_i2l (v := Int32.toInt64 z_33) hx hb dX12_mean_101 rfl ?_
        refine lv_ladd hx hb dX12_mean_102 ?_
        refine lv_topl (fun x4_34 e_x4_34 => ?_)
        have h := bn e_x4_34 h
        refine lv_lstore (lv' := [(4, .long x4_34), (0, .ref (A_m 0)), (1, .int x1), (2, .int x2), (3, .int x3), (6, .int x6)]) hx hb dX12_mean_103 hl (by decide) rfl (fun ls hl => ?_)
        refine lv_aload_n hx hb dX12_mean_105 rfl (lv_at hl 1 rfl) ?_
        refine lv_sipush (v := 2440) hx hb dX12_mean_106 (by decide) ?_
        obtain ⟨z_35, e_z_35, h⟩ := bi h
        refine efVv (rest := []) ⟨hx, hb, hml, hown, ht⟩ (c_X12_restores l D cy fu A_m z_32.1 m_names m_status m_top m_bottom m_sort m_trayMany m_trays m_tape m_text m_taped m_size m_token m_from m_end m_value m_faultKind m_faultPlace m_faults m_seen m_toldParts m_opened m_depth m_counted m_bestOrder m_standers m_has m_bestHas m_standerMany m_bestCouples m_bestFondness m_cameTo m_doesStandFirst m_stoodBy z_32.2.1 z_32.2.2.1 z_32.2.2.2.1 z_32.2.2.2.2 m_told1 m_isTold m_marks 2440 z_35 e_z_35 _ rfl _ rfl) (cV ht mv_X12_restores tb_1764 rfl rfl ⟨Nat.le_of_ble_eq_true rfl, Nat.le_of_ble_eq_true rfl⟩) hP hS hX [0] rfl rfl rfl rfl rfl rfl hl.1 rfl (Nat.le_of_ble_eq_true rfl) dX12_mean_109 ⟨Nat.le_of_ble_eq_true rfl, Nat.le_of_ble_eq_true rfl⟩ (fun H locs hP hS => ?_)
        have hP : PD D A [bl_X12 cy A_m z_35 m_names m_status m_top m_bottom m_sort m_trayMany m_trays m_tape m_text m_taped m_size m_token m_from m_end m_value m_faultKind m_faultPlace m_faults m_seen m_toldParts m_opened m_depth m_counted m_bestOrder m_standers m_has m_bestHas m_standerMany m_bestCouples m_bestFondness m_cameTo m_doesStandFirst m_stoodBy z_32.2.1 z_32.2.2.1 z_32.2.2.2.1 z_32.2.2.2.2 m_told1 m_isTold m_marks] H := hP
        obtain ⟨x6_36, e_x6_36⟩ : ∃ y : Int32, y = x6 + 1 := ⟨_, rfl⟩
        have h := bn e_x6_36 h
        refine lv_iinc (v := x6_36) (lv' := [(6, .int x6_36), (4, .long x4_34), (0, .ref (A_m 0)), (1, .int x1), (2, .int x2), (3, .int x3)]) hx hb dX12_mean_112 hl (k := 5) rfl (by rw [e_x6_36]; rfl) (by decide) rfl (fun ls hl => ?_)
        refine lv_goto (tgt := 79) hx hb dX12_mean_115 (by decide) ?_
        exact ih79 z_35 m_status m_top m_bottom z_32.2.1 z_32.2.2.1 z_32.2.2.2.1 z_32.2.2.2.2 x4_34 x6_36 _ _ hP hS ls (lv_sub hl [2, 3, 4, 5, 1, 0] rfl) h
  unfold f_X12_mean at h
  refine lv_aload_n hx hb dX12_mean_0 rfl (lv_at hl 0 rfl) ?_
  refine lv_iload_n hx hb dX12_mean_1 rfl (lv_at hl 1 rfl) ?_
  obtain ⟨z_37, e_z_37, h⟩ := bi h
  refine roVi (rest := []) ⟨hx, hb, hml, hown, ht⟩ (c_X12_isMan l D cy fu A_m m_at m_names m_status m_top m_bottom m_sort m_trayMany m_trays m_tape m_text m_taped m_size m_token m_from m_end m_value m_faultKind m_faultPlace m_faults m_seen m_toldParts m_opened m_depth m_counted m_bestOrder m_standers m_has m_bestHas m_standerMany m_bestCouples m_bestFondness m_cameTo m_doesStandFirst m_stoodBy m_drawn m_ranSteps m_loops m_ran m_told1 m_isTold m_marks x1 z_37 e_z_37) (cV ht mv_X12_isMan tb_1551 rfl rfl ⟨Nat.le_of_ble_eq_true rfl, Nat.le_of_ble_eq_true rfl⟩) (P_sub hP.1 [0] rfl) hX rfl rfl rfl hl.1 rfl (Nat.le_of_ble_eq_true rfl) dX12_mean_2 ⟨Nat.le_of_ble_eq_true rfl, Nat.le_of_ble_eq_true rfl⟩ ?_
  refine lv_if_eq (tgt := 43) hx hb dX12_mean_5 (by decide) (fun c_38 => ?_) (fun c_38 => ?_)
  · have h := it c_38 h
    refine lv_aload_n hx hb dX12_mean_43 rfl (lv_at hl 0 rfl) ?_
    refine lv_iconst (v := 1) hx hb dX12_mean_44 (by decide) ?_
    obtain ⟨z_39, e_z_39, h⟩ := bi h
    refine efVi (rest := []) ⟨hx, hb, hml, hown, ht⟩ (c_X12_is l D cy fu A_m m_at m_names m_status m_top m_bottom m_sort m_trayMany m_trays m_tape m_text m_taped m_size m_token m_from m_end m_value m_faultKind m_faultPlace m_faults m_seen m_toldParts m_opened m_depth m_counted m_bestOrder m_standers m_has m_bestHas m_standerMany m_bestCouples m_bestFondness m_cameTo m_doesStandFirst m_stoodBy m_drawn m_ranSteps m_loops m_ran m_told1 m_isTold m_marks 1 z_39 e_z_39 _ rfl _ rfl) (cV ht mv_X12_is tb_1372 rfl rfl ⟨Nat.le_of_ble_eq_true rfl, Nat.le_of_ble_eq_true rfl⟩) hP hS hX [0] rfl rfl rfl rfl rfl rfl hl.1 rfl (Nat.le_of_ble_eq_true rfl) dX12_mean_45 ⟨Nat.le_of_ble_eq_true rfl, Nat.le_of_ble_eq_true rfl⟩ (fun H locs hP hS => ?_)
    have hP : PD D A [bl_X12 cy A_m m_at m_names z_39.2 m_top m_bottom m_sort m_trayMany m_trays m_tape m_text m_taped m_size m_token m_from m_end m_value m_faultKind m_faultPlace m_faults m_seen m_toldParts m_opened m_depth m_counted m_bestOrder m_standers m_has m_bestHas m_standerMany m_bestCouples m_bestFondness m_cameTo m_doesStandFirst m_stoodBy m_drawn m_ranSteps m_loops m_ran m_told1 m_isTold m_marks] H := hP
    obtain ⟨b_40, e_b_40, h⟩ := bi h
    obtain ⟨-, n_b_40, -⟩ := bz_ok e_b_40
    cases h
    subst hW1
    exact W.zret hx hb hr n_b_40 (fun _ ht9 _ => ⟨⟨_, (), rfl, rfl, hPt ht9 hP.1⟩, hS.F ht9⟩) hS.2.2 dX12_mean_48
  · have h := ie c_38 h
    refine lv_iload_n hx hb dX12_mean_8 rfl (lv_at hl 2 rfl) ?_
    refine lv_i2l (v := Int32.toInt64 x2) hx hb dX12_mean_9 rfl ?_
    refine lv_lconst (v := 0) hx hb dX12_mean_10 (by decide) ?_
    refine lv_ldc2 (v := 9999) hx hb hown (ht _ tb_1870) dX12_mean_11 ?_
    obtain ⟨z_41, e_z_41, h⟩ := bi h
    refine roSi (rest := []) ⟨hx, hb, hml, hown, ht⟩ (c_X12_isFrom l D cy fu  (Int32.toInt64 x2) 0 9999 z_41 e_z_41) (cS ht ms_X12_isFrom tb_1575 rfl rfl ⟨Nat.le_of_ble_eq_true rfl, Nat.le_of_ble_eq_true rfl⟩) (P_sub hP.1 [] rfl) hX rfl hl.1 rfl (Nat.le_of_ble_eq_true rfl) dX12_mean_14 ⟨Nat.le_of_ble_eq_true rfl, Nat.le_of_ble_eq_true rfl⟩ ?_
    refine lv_if_eq (tgt := 43) hx hb dX12_mean_17 (by decide) (fun c_42 => ?_) (fun c_42 => ?_)
    · have h := it c_42 h
      refine lv_aload_n hx hb dX12_mean_43 rfl (lv_at hl 0 rfl) ?_
      refine lv_iconst (v := 1) hx hb dX12_mean_44 (by decide) ?_
      obtain ⟨z_43, e_z_43, h⟩ := bi h
      refine efVi (rest := []) ⟨hx, hb, hml, hown, ht⟩ (c_X12_is l D cy fu A_m m_at m_names m_status m_top m_bottom m_sort m_trayMany m_trays m_tape m_text m_taped m_size m_token m_from m_end m_value m_faultKind m_faultPlace m_faults m_seen m_toldParts m_opened m_depth m_counted m_bestOrder m_standers m_has m_bestHas m_standerMany m_bestCouples m_bestFondness m_cameTo m_doesStandFirst m_stoodBy m_drawn m_ranSteps m_loops m_ran m_told1 m_isTold m_marks 1 z_43 e_z_43 _ rfl _ rfl) (cV ht mv_X12_is tb_1372 rfl rfl ⟨Nat.le_of_ble_eq_true rfl, Nat.le_of_ble_eq_true rfl⟩) hP hS hX [0] rfl rfl rfl rfl rfl rfl hl.1 rfl (Nat.le_of_ble_eq_true rfl) dX12_mean_45 ⟨Nat.le_of_ble_eq_true rfl, Nat.le_of_ble_eq_true rfl⟩ (fun H locs hP hS => ?_)
      have hP : PD D A [bl_X12 cy A_m m_at m_names z_43.2 m_top m_bottom m_sort m_trayMany m_trays m_tape m_text m_taped m_size m_token m_from m_end m_value m_faultKind m_faultPlace m_faults m_seen m_toldParts m_opened m_depth m_counted m_bestOrder m_standers m_has m_bestHas m_standerMany m_bestCouples m_bestFondness m_cameTo m_doesStandFirst m_stoodBy m_drawn m_ranSteps m_loops m_ran m_told1 m_isTold m_marks] H := hP
      obtain ⟨b_44, e_b_44, h⟩ := bi h
      obtain ⟨-, n_b_44, -⟩ := bz_ok e_b_44
      cases h
      subst hW1
      exact W.zret hx hb hr n_b_44 (fun _ ht9 _ => ⟨⟨_, (), rfl, rfl, hPt ht9 hP.1⟩, hS.F ht9⟩) hS.2.2 dX12_mean_48
    · have h := ie c_42 h
      refine lv_iload_n hx hb dX12_mean_20 rfl (lv_at hl 3 rfl) ?_
      refine lv_i2l (v := Int32.toInt64 x3) hx hb dX12_mean_21 rfl ?_
      refine lv_lconst (v := 1) hx hb dX12_mean_22 (by decide) ?_
      refine lv_ldc2 (v := 20) hx hb hown (ht _ tb_1641) dX12_mean_23 ?_
      obtain ⟨z_45, e_z_45, h⟩ := bi h
      refine roSi (rest := []) ⟨hx, hb, hml, hown, ht⟩ (c_X12_isFrom l D cy fu  (Int32.toInt64 x3) 1 20 z_45 e_z_45) (cS ht ms_X12_isFrom tb_1575 rfl rfl ⟨Nat.le_of_ble_eq_true rfl, Nat.le_of_ble_eq_true rfl⟩) (P_sub hP.1 [] rfl) hX rfl hl.1 rfl (Nat.le_of_ble_eq_true rfl) dX12_mean_26 ⟨Nat.le_of_ble_eq_true rfl, Nat.le_of_ble_eq_true rfl⟩ ?_
      refine lv_if_eq (tgt := 43) hx hb dX12_mean_29 (by decide) (fun c_46 => ?_) (fun c_46 => ?_)
      · have h := it c_46 h
        refine lv_aload_n hx hb dX12_mean_43 rfl (lv_at hl 0 rfl) ?_
        refine lv_iconst (v := 1) hx hb dX12_mean_44 (by decide) ?_
        obtain ⟨z_47, e_z_47, h⟩ := bi h
        refine efVi (rest := []) ⟨hx, hb, hml, hown, ht⟩ (c_X12_is l D cy fu A_m m_at m_names m_status m_top m_bottom m_sort m_trayMany m_trays m_tape m_text m_taped m_size m_token m_from m_end m_value m_faultKind m_faultPlace m_faults m_seen m_toldParts m_opened m_depth m_counted m_bestOrder m_standers m_has m_bestHas m_standerMany m_bestCouples m_bestFondness m_cameTo m_doesStandFirst m_stoodBy m_drawn m_ranSteps m_loops m_ran m_told1 m_isTold m_marks 1 z_47 e_z_47 _ rfl _ rfl) (cV ht mv_X12_is tb_1372 rfl rfl ⟨Nat.le_of_ble_eq_true rfl, Nat.le_of_ble_eq_true rfl⟩) hP hS hX [0] rfl rfl rfl rfl rfl rfl hl.1 rfl (Nat.le_of_ble_eq_true rfl) dX12_mean_45 ⟨Nat.le_of_ble_eq_true rfl, Nat.le_of_ble_eq_true rfl⟩ (fun H locs hP hS => ?_)
        have hP : PD D A [bl_X12 cy A_m m_at m_names z_47.2 m_top m_bottom m_sort m_trayMany m_trays m_tape m_text m_taped m_size m_token m_from m_end m_value m_faultKind m_faultPlace m_faults m_seen m_toldParts m_opened m_depth m_counted m_bestOrder m_standers m_has m_bestHas m_standerMany m_bestCouples m_bestFondness m_cameTo m_doesStandFirst m_stoodBy m_drawn m_ranSteps m_loops m_ran m_told1 m_isTold m_marks] H := hP
        obtain ⟨b_48, e_b_48, h⟩ := bi h
        obtain ⟨-, n_b_48, -⟩ := bz_ok e_b_48
        cases h
        subst hW1
        exact W.zret hx hb hr n_b_48 (fun _ ht9 _ => ⟨⟨_, (), rfl, rfl, hPt ht9 hP.1⟩, hS.F ht9⟩) hS.2.2 dX12_mean_48
      · have h := ie c_46 h
        refine lv_iload_n hx hb dX12_mean_32 rfl (lv_at hl 2 rfl) ?_
        refine lv_iload_n hx hb dX12_mean_33 rfl (lv_at hl 3 rfl) ?_
        refine lv_iadd hx hb dX12_mean_34 ?_
        refine lv_iconst (v := 1) hx hb dX12_mean_35 (by decide) ?_
        refine lv_isub hx hb dX12_mean_36 ?_
        refine lv_sipush (v := 9999) hx hb dX12_mean_37 (by decide) ?_
        refine lv_icmp_le (tgt := 49) hx hb dX12_mean_40 (by decide) (fun c_49 => ?_) (fun c_49 => ?_)
        · have h := it c_49 h
          refine lv_aload_n hx hb dX12_mean_49 rfl (lv_at hl 0 rfl) ?_
          refine xget (i := 0) (j := 0) (k := 0) (T := TX12) hx hb ht tb_iX12 hown hX hP.1 rfl rfl rfl (by decide) tb_1229 rfl dX12_mean_50 ?_
          refine lv_iconst (v := 5) hx hb dX12_mean_53 (by decide) ?_
          obtain ⟨y_50, e_y_50, h⟩ := bi h
          refine xiald (i0 := 0) (j0 := 1) hx hb hX hP.1 rfl rfl e_y_50 dX12_mean_54 ?_
          refine lv_iconst (v := (-1)) hx hb dX12_mean_55 (by decide) ?_
          refine lv_icmp_ne (tgt := 66) hx hb dX12_mean_56 (by decide) (fun c_51 => ?_) (fun c_51 => ?_)
          · have h := ie c_51 h
            refine lv_aload_n hx hb dX12_mean_66 rfl (lv_at hl 0 rfl) ?_
            refine lv_sipush (v := 2440) hx hb dX12_mean_67 (by decide) ?_
            obtain ⟨z_52, e_z_52, h⟩ := bi h
            refine efVv (rest := []) ⟨hx, hb, hml, hown, ht⟩ (c_X12_keeps l D cy fu A_m m_at m_names m_status m_top m_bottom m_sort m_trayMany m_trays m_tape m_text m_taped m_size m_token m_from m_end m_value m_faultKind m_faultPlace m_faults m_seen m_toldParts m_opened m_depth m_counted m_bestOrder m_standers m_has m_bestHas m_standerMany m_bestCouples m_bestFondness m_cameTo m_doesStandFirst m_stoodBy m_drawn m_ranSteps m_loops m_ran m_told1 m_isTold m_marks 2440 z_52 e_z_52 _ rfl _ rfl) (cV ht mv_X12_keeps tb_1756 rfl rfl ⟨Nat.le_of_ble_eq_true rfl, Nat.le_of_ble_eq_true rfl⟩) hP hS hX [0] rfl rfl rfl rfl rfl rfl hl.1 rfl (Nat.le_of_ble_eq_true rfl) dX12_mean_70 ⟨Nat.le_of_ble_eq_true rfl, Nat.le_of_ble_eq_true rfl⟩ (fun H locs hP hS => ?_)
            have hP : PD D A [bl_X12 cy A_m z_52 m_names m_status m_top m_bottom m_sort m_trayMany m_trays m_tape m_text m_taped m_size m_token m_from m_end m_value m_faultKind m_faultPlace m_faults m_seen m_toldParts m_opened m_depth m_counted m_bestOrder m_standers m_has m_bestHas m_standerMany m_bestCouples m_bestFondness m_cameTo m_doesStandFirst m_stoodBy m_drawn m_ranSteps m_loops m_ran m_told1 m_isTold m_marks] H := hP
            refine lv_lconst (v := 0) hx hb dX12_mean_73 (by decide) ?_
            refine lv_lstore (lv' := [(4, .long 0), (0, .ref (A_m 0)), (1, .int x1), (2, .int x2), (3, .int x3)]) hx hb dX12_mean_74 hl (by decide) rfl (fun ls hl => ?_)
            refine lv_iconst (v := 0) hx hb dX12_mean_76 (by decide) ?_
            refine lv_istore (lv' := [(6, .int 0), (4, .long 0), (0, .ref (A_m 0)), (1, .int x1), (2, .int x2), (3, .int x3)]) hx hb dX12_mean_77 hl (by decide) rfl (fun ls hl => ?_)
            exact l79 fu z_52 m_status m_top m_bottom m_drawn m_ranSteps m_loops m_ran 0 0 _ _ hP hS ls (lv_sub hl [2, 3, 4, 5, 1, 0] rfl) h
          · have h := it c_51 h
            refine lv_aload_n hx hb dX12_mean_59 rfl (lv_at hl 0 rfl) ?_
            refine lv_bipush (v := 6) hx hb dX12_mean_60 (by decide) ?_
            obtain ⟨z_53, e_z_53, h⟩ := bi h
            refine efVi (rest := []) ⟨hx, hb, hml, hown, ht⟩ (c_X12_is l D cy fu A_m m_at m_names m_status m_top m_bottom m_sort m_trayMany m_trays m_tape m_text m_taped m_size m_token m_from m_end m_value m_faultKind m_faultPlace m_faults m_seen m_toldParts m_opened m_depth m_counted m_bestOrder m_standers m_has m_bestHas m_standerMany m_bestCouples m_bestFondness m_cameTo m_doesStandFirst m_stoodBy m_drawn m_ranSteps m_loops m_ran m_told1 m_isTold m_marks 6 z_53 e_z_53 _ rfl _ rfl) (cV ht mv_X12_is tb_1372 rfl rfl ⟨Nat.le_of_ble_eq_true rfl, Nat.le_of_ble_eq_true rfl⟩) hP hS hX [0] rfl rfl rfl rfl rfl rfl hl.1 rfl (Nat.le_of_ble_eq_true rfl) dX12_mean_62 ⟨Nat.le_of_ble_eq_true rfl, Nat.le_of_ble_eq_true rfl⟩ (fun H locs hP hS => ?_)
            have hP : PD D A [bl_X12 cy A_m m_at m_names z_53.2 m_top m_bottom m_sort m_trayMany m_trays m_tape m_text m_taped m_size m_token m_from m_end m_value m_faultKind m_faultPlace m_faults m_seen m_toldParts m_opened m_depth m_counted m_bestOrder m_standers m_has m_bestHas m_standerMany m_bestCouples m_bestFondness m_cameTo m_doesStandFirst m_stoodBy m_drawn m_ranSteps m_loops m_ran m_told1 m_isTold m_marks] H := hP
            obtain ⟨b_54, e_b_54, h⟩ := bi h
            obtain ⟨-, n_b_54, -⟩ := bz_ok e_b_54
            cases h
            subst hW1
            exact W.zret hx hb hr n_b_54 (fun _ ht9 _ => ⟨⟨_, (), rfl, rfl, hPt ht9 hP.1⟩, hS.F ht9⟩) hS.2.2 dX12_mean_65
        · have h := ie c_49 h
          refine lv_aload_n hx hb dX12_mean_43 rfl (lv_at hl 0 rfl) ?_
          refine lv_iconst (v := 1) hx hb dX12_mean_44 (by decide) ?_
          obtain ⟨z_55, e_z_55, h⟩ := bi h
          refine efVi (rest := []) ⟨hx, hb, hml, hown, ht⟩ (c_X12_is l D cy fu A_m m_at m_names m_status m_top m_bottom m_sort m_trayMany m_trays m_tape m_text m_taped m_size m_token m_from m_end m_value m_faultKind m_faultPlace m_faults m_seen m_toldParts m_opened m_depth m_counted m_bestOrder m_standers m_has m_bestHas m_standerMany m_bestCouples m_bestFondness m_cameTo m_doesStandFirst m_stoodBy m_drawn m_ranSteps m_loops m_ran m_told1 m_isTold m_marks 1 z_55 e_z_55 _ rfl _ rfl) (cV ht mv_X12_is tb_1372 rfl rfl ⟨Nat.le_of_ble_eq_true rfl, Nat.le_of_ble_eq_true rfl⟩) hP hS hX [0] rfl rfl rfl rfl rfl rfl hl.1 rfl (Nat.le_of_ble_eq_true rfl) dX12_mean_45 ⟨Nat.le_of_ble_eq_true rfl, Nat.le_of_ble_eq_true rfl⟩ (fun H locs hP hS => ?_)
          have hP : PD D A [bl_X12 cy A_m m_at m_names z_55.2 m_top m_bottom m_sort m_trayMany m_trays m_tape m_text m_taped m_size m_token m_from m_end m_value m_faultKind m_faultPlace m_faults m_seen m_toldParts m_opened m_depth m_counted m_bestOrder m_standers m_has m_bestHas m_standerMany m_bestCouples m_bestFondness m_cameTo m_doesStandFirst m_stoodBy m_drawn m_ranSteps m_loops m_ran m_told1 m_isTold m_marks] H := hP
          obtain ⟨b_56, e_b_56, h⟩ := bi h
          obtain ⟨-, n_b_56, -⟩ := bz_ok e_b_56
          cases h
          subst hW1
          exact W.zret hx hb hr n_b_56 (fun _ ht9 _ => ⟨⟨_, (), rfl, rfl, hPt ht9 hP.1⟩, hS.F ht9⟩) hS.2.2 dX12_mean_48
theorem dX12_copies_0 : decode cX12_copies 0 = .ok (.iconst 0, 1) := by decide +kernel
theorem dX12_copies_1 : decode cX12_copies 1 = .ok (.istore_n 3, 1) := by decide +kernel
theorem dX12_copies_2 : decode cX12_copies 2 = .ok (.iload_n 3, 1) := by decide +kernel
theorem dX12_copies_3 : decode cX12_copies 3 = .ok (.sipush 488, 3) := by decide +kernel
theorem dX12_copies_6 : decode cX12_copies 6 = .ok (.if_icmp .ge 33, 3) := by decide +kernel
theorem dX12_copies_9 : decode cX12_copies 9 = .ok (.aload_n 0, 1) := by decide +kernel
theorem dX12_copies_10 : decode cX12_copies 10 = .ok (.getfield 7, 3) := by decide +kernel
theorem dX12_copies_13 : decode cX12_copies 13 = .ok (.sipush 488, 3) := by decide +kernel
theorem dX12_copies_16 : decode cX12_copies 16 = .ok (.iload_n 2, 1) := by decide +kernel
theorem dX12_copies_17 : decode cX12_copies 17 = .ok (.imul, 1) := by decide +kernel
theorem dX12_copies_18 : decode cX12_copies 18 = .ok (.iload_n 3, 1) := by decide +kernel
theorem dX12_copies_19 : decode cX12_copies 19 = .ok (.iadd, 1) := by decide +kernel
theorem dX12_copies_20 : decode cX12_copies 20 = .ok (.aload_n 0, 1) := by decide +kernel
theorem dX12_copies_21 : decode cX12_copies 21 = .ok (.getfield 7, 3) := by decide +kernel
theorem dX12_copies_24 : decode cX12_copies 24 = .ok (.sipush 488, 3) := by decide +kernel
theorem dX12_copies_27 : decode cX12_copies 27 = .ok (.iload_n 1, 1) := by decide +kernel
theorem dX12_copies_28 : decode cX12_copies 28 = .ok (.imul, 1) := by decide +kernel
theorem dX12_copies_29 : decode cX12_copies 29 = .ok (.iload_n 3, 1) := by decide +kernel
theorem dX12_copies_30 : decode cX12_copies 30 = .ok (.iadd, 1) := by decide +kernel
theorem dX12_copies_31 : decode cX12_copies 31 = .ok (.iaload, 1) := by decide +kernel
theorem dX12_copies_32 : decode cX12_copies 32 = .ok (.iastore, 1) := by decide +kernel
theorem dX12_copies_33 : decode cX12_copies 33 = .ok (.iinc 3 1, 3) := by decide +kernel
theorem dX12_copies_36 : decode cX12_copies 36 = .ok (.goto (-34), 3) := by decide +kernel
theorem dX12_copies_39 : decode cX12_copies 39 = .ok (.iconst 0, 1) := by decide +kernel
theorem dX12_copies_40 : decode cX12_copies 40 = .ok (.istore_n 3, 1) := by decide +kernel
theorem dX12_copies_41 : decode cX12_copies 41 = .ok (.iload_n 3, 1) := by decide +kernel
theorem dX12_copies_42 : decode cX12_copies 42 = .ok (.bipush 8, 2) := by decide +kernel
theorem dX12_copies_44 : decode cX12_copies 44 = .ok (.if_icmp .ge 31, 3) := by decide +kernel
theorem dX12_copies_47 : decode cX12_copies 47 = .ok (.aload_n 0, 1) := by decide +kernel
theorem dX12_copies_48 : decode cX12_copies 48 = .ok (.getfield 13, 3) := by decide +kernel
theorem dX12_copies_51 : decode cX12_copies 51 = .ok (.bipush 8, 2) := by decide +kernel
theorem dX12_copies_53 : decode cX12_copies 53 = .ok (.iload_n 2, 1) := by decide +kernel
theorem dX12_copies_54 : decode cX12_copies 54 = .ok (.imul, 1) := by decide +kernel
theorem dX12_copies_55 : decode cX12_copies 55 = .ok (.iload_n 3, 1) := by decide +kernel
theorem dX12_copies_56 : decode cX12_copies 56 = .ok (.iadd, 1) := by decide +kernel
theorem dX12_copies_57 : decode cX12_copies 57 = .ok (.aload_n 0, 1) := by decide +kernel
theorem dX12_copies_58 : decode cX12_copies 58 = .ok (.getfield 13, 3) := by decide +kernel
theorem dX12_copies_61 : decode cX12_copies 61 = .ok (.bipush 8, 2) := by decide +kernel
theorem dX12_copies_63 : decode cX12_copies 63 = .ok (.iload_n 1, 1) := by decide +kernel
theorem dX12_copies_64 : decode cX12_copies 64 = .ok (.imul, 1) := by decide +kernel
theorem dX12_copies_65 : decode cX12_copies 65 = .ok (.iload_n 3, 1) := by decide +kernel
theorem dX12_copies_66 : decode cX12_copies 66 = .ok (.iadd, 1) := by decide +kernel
theorem dX12_copies_67 : decode cX12_copies 67 = .ok (.laload, 1) := by decide +kernel
theorem dX12_copies_68 : decode cX12_copies 68 = .ok (.lastore, 1) := by decide +kernel
theorem dX12_copies_69 : decode cX12_copies 69 = .ok (.iinc 3 1, 3) := by decide +kernel
theorem dX12_copies_72 : decode cX12_copies 72 = .ok (.goto (-31), 3) := by decide +kernel
theorem dX12_copies_75 : decode cX12_copies 75 = .ok (.return_, 1) := by decide +kernel
theorem mv_X12_copies : MV yX12_copies RX12 cX12_copies 4 none 2 := ⟨tb_1915, tb_1914, ts_117, tb_16, by decide +kernel, by decide +kernel, by decide +kernel⟩
def f_X12_copies_b41 (fu : Nat) (x1 : Int32) (x2 : Int32) (k41 : (Nat → Int32) → (Nat → Int64) → Int32 → (Option ((Nat → Int32) × (Nat → Int64)))) (m_at : Nat → Int32) (m_names : Nat → Int64) (x3 : Int32) : Option ((Nat → Int32) × (Nat → Int64)) := (if 8 ≤ x3 then some (m_at, m_names) else (rdJ m_names 48 ((8 * x1) + x3)).bind fun y_10 => (wrJ m_names 48 ((8 * x2) + x3) y_10).bind fun m_names_11 => bnd (x3 + 1) fun x3_12 => k41 m_at m_names_11 x3_12)
def f_X12_copies_l41 (fu : Nat) (x1 : Int32) (x2 : Int32) : Nat → (Nat → Int32) → (Nat → Int64) → Int32 → (Option ((Nat → Int32) × (Nat → Int64)))
  | 0, _, _, _ => none
  | n + 1, m_at, m_names, x3 => f_X12_copies_b41 fu x1 x2 (f_X12_copies_l41 fu x1 x2 n) m_at m_names x3
def f_X12_copies_b2 (fu : Nat) (x1 : Int32) (x2 : Int32) (k2 : (Nat → Int32) → (Nat → Int64) → Int32 → (Option ((Nat → Int32) × (Nat → Int64)))) (m_at : Nat → Int32) (m_names : Nat → Int64) (x3 : Int32) : Option ((Nat → Int32) × (Nat → Int64)) := (if 488 ≤ x3 then f_X12_copies_l41 fu x1 x2 fu m_at m_names 0 else (rdI m_at 3648 ((488 * x1) + x3)).bind fun y_14 => (wrI m_at 3648 ((488 * x2) + x3) y_14).bind fun m_at_15 => bnd (x3 + 1) fun x3_16 => k2 m_at_15 m_names x3_16)
def f_X12_copies_l2 (fu : Nat) (x1 : Int32) (x2 : Int32) : Nat → (Nat → Int32) → (Nat → Int64) → Int32 → (Option ((Nat → Int32) × (Nat → Int64)))
  | 0, _, _, _ => none
  | n + 1, m_at, m_names, x3 => f_X12_copies_b2 fu x1 x2 (f_X12_copies_l2 fu x1 x2 n) m_at m_names x3
def f_X12_copies (fu : Nat) (m_at : Nat → Int32) (m_names : Nat → Int64) (x1 : Int32) (x2 : Int32) : Option ((Nat → Int32) × (Nat → Int64)) := f_X12_copies_l2 fu x1 x2 fu m_at m_names 0
abbrev rm_X12_copies : Room := { frames := 0, cells := 0, slots := 0, locals := 0 }
set_option maxHeartbeats 4000000 in
set_option maxRecDepth 100000 in
theorem c_X12_copies (l : Launch) (D : va_G) (cy : Nat → ClassId) (fu : Nat) (A_m : Nat → Nat) (m_at : Nat → Int32) (m_names : Nat → Int64) (m_status : Int32) (m_top : Int64) (m_bottom : Int64) (m_sort : Nat → Int32) (m_trayMany : Nat → Int32) (m_trays : Nat → Int64) (m_tape : Nat → Int32) (m_text : Nat → Int32) (m_taped : Int32) (m_size : Int32) (m_token : Int32) (m_from : Int32) (m_end : Int32) (m_value : Int32) (m_faultKind : Int32) (m_faultPlace : Int32) (m_faults : Int32) (m_seen : Int32) (m_toldParts : Int32) (m_opened : Nat → Int32) (m_depth : Int32) (m_counted : Int32) (m_bestOrder : Int32) (m_standers : Nat → Int32) (m_has : Nat → Int32) (m_bestHas : Nat → Int32) (m_standerMany : Int32) (m_bestCouples : Int32) (m_bestFondness : Int32) (m_cameTo : Nat → Int32) (m_doesStandFirst : Int32) (m_stoodBy : Nat → Int64) (m_drawn : Int32) (m_ranSteps : Int32) (m_loops : Nat → Int32) (m_ran : Nat → Int32) (m_told1 : Nat → Int32) (m_isTold : Int32) (m_marks : Int32) (x1 : Int32) (x2 : Int32) (res : (Nat → Int32) × (Nat → Int64)) (h : f_X12_copies fu m_at m_names x1 x2 = some res) (A : Nat → Prop) (hA : A = adr [bl_X12 cy A_m m_at m_names m_status m_top m_bottom m_sort m_trayMany m_trays m_tape m_text m_taped m_size m_token m_from m_end m_value m_faultKind m_faultPlace m_faults m_seen m_toldParts m_opened m_depth m_counted m_bestOrder m_standers m_has m_bestHas m_standerMany m_bestCouples m_bestFondness m_cameTo m_doesStandFirst m_stoodBy m_drawn m_ranSteps m_loops m_ran m_told1 m_isTold m_marks]) (W1 : List va_W) (hW1 : W1 = [bl_X12 cy A_m res.1 res.2 m_status m_top m_bottom m_sort m_trayMany m_trays m_tape m_text m_taped m_size m_token m_from m_end m_value m_faultKind m_faultPlace m_faults m_seen m_toldParts m_opened m_depth m_counted m_bestOrder m_standers m_has m_bestHas m_standerMany m_bestCouples m_bestFondness m_cameTo m_doesStandFirst m_stoodBy m_drawn m_ranSteps m_loops m_ran m_told1 m_isTold m_marks]) : Met l yX12_copies (WW yX12_copies cX12_copies 4 none) rm_X12_copies (Ed D cy [.ref (A_m 0), .int x1, .int x2] [bl_X12 cy A_m m_at m_names m_status m_top m_bottom m_sort m_trayMany m_trays m_tape m_text m_taped m_size m_token m_from m_end m_value m_faultKind m_faultPlace m_faults m_seen m_toldParts m_opened m_depth m_counted m_bestOrder m_standers m_has m_bestHas m_standerMany m_bestCouples m_bestFondness m_cameTo m_doesStandFirst m_stoodBy m_drawn m_ranSteps m_loops m_ran m_told1 m_isTold m_marks]) (Qev D A W1) 0 0 A := by
  refine Met.ofW (cc := cX12_copies) (maxL := 4) (ret := none) (by decide) rfl ?_
  intro p e s m args below meth c s₁ B hml hv
  obtain ⟨hargs, hP, hX, hD0⟩ := hv
  have hx := B.exec
  have hb := B.bytes
  have hr := B.returns
  have ht : ∀ w ∈ lw_gd, w.before args s = true := fun w hw => atoms_spec (ws := WW yX12_copies cX12_copies 4 none) B.pre w (List.mem_cons_of_mem _ hw)
  have hown : s.vm.findClass RX12 = some m.cls := findClass_of_methodNamed B.named
  have hlocks := B.notSynchronized
  have hP : PD D A [bl_X12 cy A_m m_at m_names m_status m_top m_bottom m_sort m_trayMany m_trays m_tape m_text m_taped m_size m_token m_from m_end m_value m_faultKind m_faultPlace m_faults m_seen m_toldParts m_opened m_depth m_counted m_bestOrder m_standers m_has m_bestHas m_standerMany m_bestCouples m_bestFondness m_cameTo m_doesStandFirst m_stoodBy m_drawn m_ranSteps m_loops m_ran m_told1 m_isTold m_marks] s.heap := ⟨hP, by rw [hA]; exact hD0.own⟩
  have hS : va_S A s.heap s.heap [] := va_S.rf
  obtain ⟨ls, hl, hent⟩ := ent (m := m) (n := 4) hargs (Nat.le_of_ble_eq_true rfl) (lv := [(0, .ref (A_m 0)), (1, .int x1), (2, .int x2)]) rfl
  rw [hent]
  clear hent
  have l41 : ∀ (n41 : Nat) (m_at : Nat → Int32) (m_names : Nat → Int64) (x3 : Int32) (H : Heap) (locs : List Loc) (_ : PD D A [bl_X12 cy A_m m_at m_names m_status m_top m_bottom m_sort m_trayMany m_trays m_tape m_text m_taped m_size m_token m_from m_end m_value m_faultKind m_faultPlace m_faults m_seen m_toldParts m_opened m_depth m_counted m_bestOrder m_standers m_has m_bestHas m_standerMany m_bestCouples m_bestFondness m_cameTo m_doesStandFirst m_stoodBy m_drawn m_ranSteps m_loops m_ran m_told1 m_isTold m_marks] H) (_ : va_S A s.heap H locs) (ls : Array Slot), lv_has ls 4 [(0, .ref (A_m 0)), (1, .int x1), (2, .int x2), (3, .int x3)] → f_X12_copies_l41 fu x1 x2 n41 m_at m_names x3 = some res → W p l e (headSpec (WW yX12_copies cX12_copies 4 none) rm_X12_copies).room s m args below meth c H locs 0 0 (MQ below (Qev D A W1) args s 0 0 A) (F0 m 41 ls []) := by
    intro n41
    induction n41 with
    | zero => intro m_at m_names x3 H locs hP hS ls hl h; cases h
    | succ n41 ih41 =>
      intro m_at m_names x3 H locs hP hS ls hl h
      have h : f_X12_copies_b41 fu x1 x2 (f_X12_copies_l41 fu x1 x2 n41) m_at m_names x3 = some res := h
      unfold f_X12_copies_b41 at h
      refine lv_iload_n hx hb dX12_copies_41 rfl (lv_at hl 3 rfl) ?_
      refine lv_bipush (v := 8) hx hb dX12_copies_42 (by decide) ?_
      refine lv_icmp_ge (tgt := 75) hx hb dX12_copies_44 (by decide) (fun c_9 => ?_) (fun c_9 => ?_)
      · have h := it c_9 h
        cases h
        subst hW1
        exact W.vret hx hb hr (fun _ ht9 _ => ⟨⟨(), rfl, trivial, hPt ht9 hP.1⟩, hS.F ht9⟩) hS.2.2 dX12_copies_75
      · have h := ie c_9 h
        refine lv_aload_n hx hb dX12_copies_47 rfl (lv_at hl 0 rfl) ?_
        refine xget (i := 0) (j := 0) (k := 1) (T := TX12) hx hb ht tb_iX12 hown hX hP.1 rfl rfl rfl (by decide) tb_1230 rfl dX12_copies_48 ?_
        refine lv_bipush (v := 8) hx hb dX12_copies_51 (by decide) ?_
        refine lv_iload_n hx hb dX12_copies_53 rfl (lv_at hl 2 rfl) ?_
        refine lv_imul hx hb dX12_copies_54 ?_
        refine lv_iload_n hx hb dX12_copies_55 rfl (lv_at hl 3 rfl) ?_
        refine lv_iadd hx hb dX12_copies_56 ?_
        refine lv_aload_n hx hb dX12_copies_57 rfl (lv_at hl 0 rfl) ?_
        refine xget (i := 0) (j := 0) (k := 1) (T := TX12) hx hb ht tb_iX12 hown hX hP.1 rfl rfl rfl (by decide) tb_1230 rfl dX12_copies_58 ?_
        refine lv_bipush (v := 8) hx hb dX12_copies_61 (by decide) ?_
        refine lv_iload_n hx hb dX12_copies_63 rfl (lv_at hl 1 rfl) ?_
        refine lv_imul hx hb dX12_copies_64 ?_
        refine lv_iload_n hx hb dX12_copies_65 rfl (lv_at hl 3 rfl) ?_
        refine lv_iadd hx hb dX12_copies_66 ?_
        obtain ⟨y_10, e_y_10, h⟩ := bi h
        refine xlald (i0 := 0) (j0 := 2) hx hb hX hP.1 rfl rfl e_y_10 dX12_copies_67 ?_
        obtain ⟨m_names_11, e_m_names_11, h⟩ := bi h
        refine xlast (i0 := 0) (j0 := 2) hx hb hX hP hS rfl rfl e_m_names_11 dX12_copies_68 (fun H locs hP hS => ?_)
        have hP : PD D A [bl_X12 cy A_m m_at m_names_11 m_status m_top m_bottom m_sort m_trayMany m_trays m_tape m_text m_taped m_size m_token m_from m_end m_value m_faultKind m_faultPlace m_faults m_seen m_toldParts m_opened m_depth m_counted m_bestOrder m_standers m_has m_bestHas m_standerMany m_bestCouples m_bestFondness m_cameTo m_doesStandFirst m_stoodBy m_drawn m_ranSteps m_loops m_ran m_told1 m_isTold m_marks] H := hP
        obtain ⟨x3_12, e_x3_12⟩ : ∃ y : Int32, y = x3 + 1 := ⟨_, rfl⟩
        have h := bn e_x3_12 h
        refine lv_iinc (v := x3_12) (lv' := [(3, .int x3_12), (0, .ref (A_m 0)), (1, .int x1), (2, .int x2)]) hx hb dX12_copies_69 hl (k := 3) rfl (by rw [e_x3_12]; rfl) (by decide) rfl (fun ls hl => ?_)
        refine lv_goto (tgt := 41) hx hb dX12_copies_72 (by decide) ?_
        exact ih41 m_at m_names_11 x3_12 _ _ hP hS ls (lv_sub hl [1, 2, 3, 0] rfl) h
  have l2 : ∀ (n2 : Nat) (m_at : Nat → Int32) (m_names : Nat → Int64) (x3 : Int32) (H : Heap) (locs : List Loc) (_ : PD D A [bl_X12 cy A_m m_at m_names m_status m_top m_bottom m_sort m_trayMany m_trays m_tape m_text m_taped m_size m_token m_from m_end m_value m_faultKind m_faultPlace m_faults m_seen m_toldParts m_opened m_depth m_counted m_bestOrder m_standers m_has m_bestHas m_standerMany m_bestCouples m_bestFondness m_cameTo m_doesStandFirst m_stoodBy m_drawn m_ranSteps m_loops m_ran m_told1 m_isTold m_marks] H) (_ : va_S A s.heap H locs) (ls : Array Slot), lv_has ls 4 [(0, .ref (A_m 0)), (1, .int x1), (2, .int x2), (3, .int x3)] → f_X12_copies_l2 fu x1 x2 n2 m_at m_names x3 = some res → W p l e (headSpec (WW yX12_copies cX12_copies 4 none) rm_X12_copies).room s m args below meth c H locs 0 0 (MQ below (Qev D A W1) args s 0 0 A) (F0 m 2 ls []) := by
    intro n2
    induction n2 with
    | zero => intro m_at m_names x3 H locs hP hS ls hl h; cases h
    | succ n2 ih2 =>
      intro m_at m_names x3 H locs hP hS ls hl h
      have h : f_X12_copies_b2 fu x1 x2 (f_X12_copies_l2 fu x1 x2 n2) m_at m_names x3 = some res := h
      unfold f_X12_copies_b2 at h
      refine lv_iload_n hx hb dX12_copies_2 rfl (lv_at hl 3 rfl) ?_
      refine lv_sipush (v := 488) hx hb dX12_copies_3 (by decide) ?_
      refine lv_icmp_ge (tgt := 39) hx hb dX12_copies_6 (by decide) (fun c_13 => ?_) (fun c_13 => ?_)
      · have h := it c_13 h
        refine lv_iconst (v := 0) hx hb dX12_copies_39 (by decide) ?_
        refine lv_istore_n (lv' := [(3, .int 0), (0, .ref (A_m 0)), (1, .int x1), (2, .int x2)]) hx hb dX12_copies_40 rfl hl (by decide) rfl (fun ls hl => ?_)
        exact l41 fu m_at m_names 0 _ _ hP hS ls (lv_sub hl [1, 2, 3, 0] rfl) h
      · have h := ie c_13 h
        refine lv_aload_n hx hb dX12_copies_9 rfl (lv_at hl 0 rfl) ?_
        refine xget (i := 0) (j := 0) (k := 0) (T := TX12) hx hb ht tb_iX12 hown hX hP.1 rfl rfl rfl (by decide) tb_1229 rfl dX12_copies_10 ?_
        refine lv_sipush (v := 488) hx hb dX12_copies_13 (by decide) ?_
        refine lv_iload_n hx hb dX12_copies_16 rfl (lv_at hl 2 rfl) ?_
        refine lv_imul hx hb dX12_copies_17 ?_
        refine lv_iload_n hx hb dX12_copies_18 rfl (lv_at hl 3 rfl) ?_
        refine lv_iadd hx hb dX12_copies_19 ?_
        refine lv_aload_n hx hb dX12_copies_20 rfl (lv_at hl 0 rfl) ?_
        refine xget (i := 0) (j := 0) (k := 0) (T := TX12) hx hb ht tb_iX12 hown hX hP.1 rfl rfl rfl (by decide) tb_1229 rfl dX12_copies_21 ?_
        refine lv_sipush (v := 488) hx hb dX12_copies_24 (by decide) ?_
        refine lv_iload_n hx hb dX12_copies_27 rfl (lv_at hl 1 rfl) ?_
        refine lv_imul hx hb dX12_copies_28 ?_
        refine lv_iload_n hx hb dX12_copies_29 rfl (lv_at hl 3 rfl) ?_
        refine lv_iadd hx hb dX12_copies_30 ?_
        obtain ⟨y_14, e_y_14, h⟩ := bi h
        refine xiald (i0 := 0) (j0 := 1) hx hb hX hP.1 rfl rfl e_y_14 dX12_copies_31 ?_
        obtain ⟨m_at_15, e_m_at_15, h⟩ := bi h
        refine xiast (i0 := 0) (j0 := 1) hx hb hX hP hS rfl rfl e_m_at_15 dX12_copies_32 (fun H locs hP hS => ?_)
        have hP : PD D A [bl_X12 cy A_m m_at_15 m_names m_status m_top m_bottom m_sort m_trayMany m_trays m_tape m_text m_taped m_size m_token m_from m_end m_value m_faultKind m_faultPlace m_faults m_seen m_toldParts m_opened m_depth m_counted m_bestOrder m_standers m_has m_bestHas m_standerMany m_bestCouples m_bestFondness m_cameTo m_doesStandFirst m_stoodBy m_drawn m_ranSteps m_loops m_ran m_told1 m_isTold m_marks] H := hP
        obtain ⟨x3_16, e_x3_16⟩ : ∃ y : Int32, y = x3 + 1 := ⟨_, rfl⟩
        have h := bn e_x3_16 h
        refine lv_iinc (v := x3_16) (lv' := [(3, .int x3_16), (0, .ref (A_m 0)), (1, .int x1), (2, .int x2)]) hx hb dX12_copies_33 hl (k := 3) rfl (by rw [e_x3_16]; rfl) (by decide) rfl (fun ls hl => ?_)
        refine lv_goto (tgt := 2) hx hb dX12_copies_36 (by decide) ?_
        exact ih2 m_at_15 m_names x3_16 _ _ hP hS ls (lv_sub hl [1, 2, 3, 0] rfl) h
  unfold f_X12_copies at h
  refine lv_iconst (v := 0) hx hb dX12_copies_0 (by decide) ?_
  refine lv_istore_n (lv' := [(3, .int 0), (0, .ref (A_m 0)), (1, .int x1), (2, .int x2)]) hx hb dX12_copies_1 rfl hl (by decide) rfl (fun ls hl => ?_)
  exact l2 fu m_at m_names 0 _ _ hP hS ls (lv_sub hl [1, 2, 3, 0] rfl) h
theorem dX12_mark_0 : decode cX12_mark 0 = .ok (.aload_n 0, 1) := by decide +kernel
theorem dX12_mark_1 : decode cX12_mark 1 = .ok (.getfield 451, 3) := by decide +kernel
theorem dX12_mark_4 : decode cX12_mark 4 = .ok (.iconst 3, 1) := by decide +kernel
theorem dX12_mark_5 : decode cX12_mark 5 = .ok (.if_icmp .ne 9, 3) := by decide +kernel
theorem dX12_mark_8 : decode cX12_mark 8 = .ok (.aload_n 0, 1) := by decide +kernel
theorem dX12_mark_9 : decode cX12_mark 9 = .ok (.iconst 4, 1) := by decide +kernel
theorem dX12_mark_10 : decode cX12_mark 10 = .ok (.invokevirtual 85, 3) := by decide +kernel
theorem dX12_mark_13 : decode cX12_mark 13 = .ok (.ireturn, 1) := by decide +kernel
theorem dX12_mark_14 : decode cX12_mark 14 = .ok (.aload_n 0, 1) := by decide +kernel
theorem dX12_mark_15 : decode cX12_mark 15 = .ok (.dup, 1) := by decide +kernel
theorem dX12_mark_16 : decode cX12_mark 16 = .ok (.getfield 451, 3) := by decide +kernel
theorem dX12_mark_19 : decode cX12_mark 19 = .ok (.iconst 1, 1) := by decide +kernel
theorem dX12_mark_20 : decode cX12_mark 20 = .ok (.iadd, 1) := by decide +kernel
theorem dX12_mark_21 : decode cX12_mark 21 = .ok (.putfield 451, 3) := by decide +kernel
theorem dX12_mark_24 : decode cX12_mark 24 = .ok (.aload_n 0, 1) := by decide +kernel
theorem dX12_mark_25 : decode cX12_mark 25 = .ok (.iconst 0, 1) := by decide +kernel
theorem dX12_mark_26 : decode cX12_mark 26 = .ok (.aload_n 0, 1) := by decide +kernel
theorem dX12_mark_27 : decode cX12_mark 27 = .ok (.getfield 451, 3) := by decide +kernel
theorem dX12_mark_30 : decode cX12_mark 30 = .ok (.invokevirtual 454, 3) := by decide +kernel
theorem dX12_mark_33 : decode cX12_mark 33 = .ok (.aload_n 0, 1) := by decide +kernel
theorem dX12_mark_34 : decode cX12_mark 34 = .ok (.aload_n 0, 1) := by decide +kernel
theorem dX12_mark_35 : decode cX12_mark 35 = .ok (.getfield 451, 3) := by decide +kernel
theorem dX12_mark_38 : decode cX12_mark 38 = .ok (.invokevirtual 88, 3) := by decide +kernel
theorem dX12_mark_41 : decode cX12_mark 41 = .ok (.ireturn, 1) := by decide +kernel
theorem mv_X12_mark : MV yX12_mark RX12 cX12_mark 1 (some .int) 0 := ⟨tb_1911, tb_1909, tb_1910, tb_16, by decide +kernel, by decide +kernel, by decide +kernel⟩
def f_X12_mark (fu : Nat) (m_at : Nat → Int32) (m_names : Nat → Int64) (m_status : Int32) (m_marks : Int32) : Option (Int32 × (Nat → Int32) × (Nat → Int64) × Int32 × Int32) := (if m_marks = 3 then (f_X12_refuse fu m_status 4).bind fun z_10 => some (z_10.1, m_at, m_names, z_10.2, m_marks) else bnd (m_marks + 1) fun m_marks_7 => (f_X12_copies fu m_at m_names 0 m_marks_7).bind fun z_8 => (f_X12_gives fu m_status m_marks_7).bind fun z_9 => some (z_9.1, z_8.1, z_8.2, z_9.2, m_marks_7))
abbrev rm_X12_mark : Room := { frames := 1, cells := 0, slots := 0, locals := 23 }
set_option maxHeartbeats 4000000 in
set_option maxRecDepth 100000 in
theorem c_X12_mark (l : Launch) (D : va_G) (cy : Nat → ClassId) (fu : Nat) (A_m : Nat → Nat) (m_at : Nat → Int32) (m_names : Nat → Int64) (m_status : Int32) (m_top : Int64) (m_bottom : Int64) (m_sort : Nat → Int32) (m_trayMany : Nat → Int32) (m_trays : Nat → Int64) (m_tape : Nat → Int32) (m_text : Nat → Int32) (m_taped : Int32) (m_size : Int32) (m_token : Int32) (m_from : Int32) (m_end : Int32) (m_value : Int32) (m_faultKind : Int32) (m_faultPlace : Int32) (m_faults : Int32) (m_seen : Int32) (m_toldParts : Int32) (m_opened : Nat → Int32) (m_depth : Int32) (m_counted : Int32) (m_bestOrder : Int32) (m_standers : Nat → Int32) (m_has : Nat → Int32) (m_bestHas : Nat → Int32) (m_standerMany : Int32) (m_bestCouples : Int32) (m_bestFondness : Int32) (m_cameTo : Nat → Int32) (m_doesStandFirst : Int32) (m_stoodBy : Nat → Int64) (m_drawn : Int32) (m_ranSteps : Int32) (m_loops : Nat → Int32) (m_ran : Nat → Int32) (m_told1 : Nat → Int32) (m_isTold : Int32) (m_marks : Int32) (res : Int32 × (Nat → Int32) × (Nat → Int64) × Int32 × Int32) (h : f_X12_mark fu m_at m_names m_status m_marks = some res) (A : Nat → Prop) (hA : A = adr [bl_X12 cy A_m m_at m_names m_status m_top m_bottom m_sort m_trayMany m_trays m_tape m_text m_taped m_size m_token m_from m_end m_value m_faultKind m_faultPlace m_faults m_seen m_toldParts m_opened m_depth m_counted m_bestOrder m_standers m_has m_bestHas m_standerMany m_bestCouples m_bestFondness m_cameTo m_doesStandFirst m_stoodBy m_drawn m_ranSteps m_loops m_ran m_told1 m_isTold m_marks]) (W1 : List va_W) (hW1 : W1 = [bl_X12 cy A_m res.2.1 res.2.2.1 res.2.2.2.1 m_top m_bottom m_sort m_trayMany m_trays m_tape m_text m_taped m_size m_token m_from m_end m_value m_faultKind m_faultPlace m_faults m_seen m_toldParts m_opened m_depth m_counted m_bestOrder m_standers m_has m_bestHas m_standerMany m_bestCouples m_bestFondness m_cameTo m_doesStandFirst m_stoodBy m_drawn m_ranSteps m_loops m_ran m_told1 m_isTold res.2.2.2.2]) : Met l yX12_mark (WW yX12_mark cX12_mark 1 (some .int)) rm_X12_mark (Ed D cy [.ref (A_m 0)] [bl_X12 cy A_m m_at m_names m_status m_top m_bottom m_sort m_trayMany m_trays m_tape m_text m_taped m_size m_token m_from m_end m_value m_faultKind m_faultPlace m_faults m_seen m_toldParts m_opened m_depth m_counted m_bestOrder m_standers m_has m_bestHas m_standerMany m_bestCouples m_bestFondness m_cameTo m_doesStandFirst m_stoodBy m_drawn m_ranSteps m_loops m_ran m_told1 m_isTold m_marks]) (Qei D res.1 A W1) 0 0 A := by
  refine Met.ofW (cc := cX12_mark) (maxL := 1) (ret := (some .int)) (by decide) rfl ?_
  intro p e s m args below meth c s₁ B hml hv
  obtain ⟨hargs, hP, hX, hD0⟩ := hv
  have hx := B.exec
  have hb := B.bytes
  have hr := B.returns
  have ht : ∀ w ∈ lw_gd, w.before args s = true := fun w hw => atoms_spec (ws := WW yX12_mark cX12_mark 1 (some .int)) B.pre w (List.mem_cons_of_mem _ hw)
  have hown : s.vm.findClass RX12 = some m.cls := findClass_of_methodNamed B.named
  have hlocks := B.notSynchronized
  have hP : PD D A [bl_X12 cy A_m m_at m_names m_status m_top m_bottom m_sort m_trayMany m_trays m_tape m_text m_taped m_size m_token m_from m_end m_value m_faultKind m_faultPlace m_faults m_seen m_toldParts m_opened m_depth m_counted m_bestOrder m_standers m_has m_bestHas m_standerMany m_bestCouples m_bestFondness m_cameTo m_doesStandFirst m_stoodBy m_drawn m_ranSteps m_loops m_ran m_told1 m_isTold m_marks] s.heap := ⟨hP, by rw [hA]; exact hD0.own⟩
  have hS : va_S A s.heap s.heap [] := va_S.rf
  obtain ⟨ls, hl, hent⟩ := ent (m := m) (n := 1) hargs (Nat.le_of_ble_eq_true rfl) (lv := [(0, .ref (A_m 0))]) rfl
  rw [hent]
  clear hent
  unfold f_X12_mark at h
  refine lv_aload_n hx hb dX12_mark_0 rfl (lv_at hl 0 rfl) ?_
  refine xget (i := 0) (j := 0) (k := 40) (T := TX12) hx hb ht tb_iX12 hown hX hP.1 rfl rfl rfl (by decide) tb_1269 rfl dX12_mark_1 ?_
  refine lv_iconst (v := 3) hx hb dX12_mark_4 (by decide) ?_
  refine lv_icmp_ne (tgt := 14) hx hb dX12_mark_5 (by decide) (fun c_6 => ?_) (fun c_6 => ?_)
  · have h := ie c_6 h
    refine lv_aload_n hx hb dX12_mark_14 rfl (lv_at hl 0 rfl) ?_
    refine lv_dup hx hb dX12_mark_15 rfl ?_
    refine xget (i := 0) (j := 0) (k := 40) (T := TX12) hx hb ht tb_iX12 hown hX hP.1 rfl rfl rfl (by decide) tb_1269 rfl dX12_mark_16 ?_
    refine lv_iconst (v := 1) hx hb dX12_mark_19 (by decide) ?_
    refine lv_iadd hx hb dX12_mark_20 ?_
    refine lv_topi (fun m_marks_7 e_m_marks_7 => ?_)
    have h := bn e_m_marks_7 h
    refine xput (i := 0) (j := 0) (k := 40) (T := TX12) tyX12 tyX12_ok nmX12 hx hb ht tb_iX12 hown hX hP hS rfl rfl rfl (by decide) tb_1269 rfl rfl rfl (Nat.le_of_ble_eq_true rfl) dX12_mark_21 (fun H locs hP hS => ?_)
    have hP : PD D A [bl_X12 cy A_m m_at m_names m_status m_top m_bottom m_sort m_trayMany m_trays m_tape m_text m_taped m_size m_token m_from m_end m_value m_faultKind m_faultPlace m_faults m_seen m_toldParts m_opened m_depth m_counted m_bestOrder m_standers m_has m_bestHas m_standerMany m_bestCouples m_bestFondness m_cameTo m_doesStandFirst m_stoodBy m_drawn m_ranSteps m_loops m_ran m_told1 m_isTold m_marks_7] H := hP
    refine lv_aload_n hx hb dX12_mark_24 rfl (lv_at hl 0 rfl) ?_
    refine lv_iconst (v := 0) hx hb dX12_mark_25 (by decide) ?_
    refine lv_aload_n hx hb dX12_mark_26 rfl (lv_at hl 0 rfl) ?_
    refine xget (i := 0) (j := 0) (k := 40) (T := TX12) hx hb ht tb_iX12 hown hX hP.1 rfl rfl rfl (by decide) tb_1269 rfl dX12_mark_27 ?_
    obtain ⟨z_8, e_z_8, h⟩ := bi h
    refine efVv (rest := []) ⟨hx, hb, hml, hown, ht⟩ (c_X12_copies l D cy fu A_m m_at m_names m_status m_top m_bottom m_sort m_trayMany m_trays m_tape m_text m_taped m_size m_token m_from m_end m_value m_faultKind m_faultPlace m_faults m_seen m_toldParts m_opened m_depth m_counted m_bestOrder m_standers m_has m_bestHas m_standerMany m_bestCouples m_bestFondness m_cameTo m_doesStandFirst m_stoodBy m_drawn m_ranSteps m_loops m_ran m_told1 m_isTold m_marks_7 0 m_marks_7 z_8 e_z_8 _ rfl _ rfl) (cV ht mv_X12_copies tb_1912 rfl rfl ⟨Nat.le_of_ble_eq_true rfl, Nat.le_of_ble_eq_true rfl⟩) hP hS hX [0] rfl rfl rfl rfl rfl rfl hl.1 rfl (Nat.le_of_ble_eq_true rfl) dX12_mark_30 ⟨Nat.le_of_ble_eq_true rfl, Nat.le_of_ble_eq_true rfl⟩ (fun H locs hP hS => ?_)
    have hP : PD D A [bl_X12 cy A_m z_8.1 z_8.2 m_status m_top m_bottom m_sort m_trayMany m_trays m_tape m_text m_taped m_size m_token m_from m_end m_value m_faultKind m_faultPlace m_faults m_seen m_toldParts m_opened m_depth m_counted m_bestOrder m_standers m_has m_bestHas m_standerMany m_bestCouples m_bestFondness m_cameTo m_doesStandFirst m_stoodBy m_drawn m_ranSteps m_loops m_ran m_told1 m_isTold m_marks_7] H := hP
    refine lv_aload_n hx hb dX12_mark_33 rfl (lv_at hl 0 rfl) ?_
    refine lv_aload_n hx hb dX12_mark_34 rfl (lv_at hl 0 rfl) ?_
    refine xget (i := 0) (j := 0) (k := 40) (T := TX12) hx hb ht tb_iX12 hown hX hP.1 rfl rfl rfl (by decide) tb_1269 rfl dX12_mark_35 ?_
    obtain ⟨z_9, e_z_9, h⟩ := bi h
    refine efVi (rest := []) ⟨hx, hb, hml, hown, ht⟩ (c_X12_gives l D cy fu A_m z_8.1 z_8.2 m_status m_top m_bottom m_sort m_trayMany m_trays m_tape m_text m_taped m_size m_token m_from m_end m_value m_faultKind m_faultPlace m_faults m_seen m_toldParts m_opened m_depth m_counted m_bestOrder m_standers m_has m_bestHas m_standerMany m_bestCouples m_bestFondness m_cameTo m_doesStandFirst m_stoodBy m_drawn m_ranSteps m_loops m_ran m_told1 m_isTold m_marks_7 m_marks_7 z_9 e_z_9 _ rfl _ rfl) (cV ht mv_X12_gives tb_1499 rfl rfl ⟨Nat.le_of_ble_eq_true rfl, Nat.le_of_ble_eq_true rfl⟩) hP hS hX [0] rfl rfl rfl rfl rfl rfl hl.1 rfl (Nat.le_of_ble_eq_true rfl) dX12_mark_38 ⟨Nat.le_of_ble_eq_true rfl, Nat.le_of_ble_eq_true rfl⟩ (fun H locs hP hS => ?_)
    have hP : PD D A [bl_X12 cy A_m z_8.1 z_8.2 z_9.2 m_top m_bottom m_sort m_trayMany m_trays m_tape m_text m_taped m_size m_token m_from m_end m_value m_faultKind m_faultPlace m_faults m_seen m_toldParts m_opened m_depth m_counted m_bestOrder m_standers m_has m_bestHas m_standerMany m_bestCouples m_bestFondness m_cameTo m_doesStandFirst m_stoodBy m_drawn m_ranSteps m_loops m_ran m_told1 m_isTold m_marks_7] H := hP
    cases h
    subst hW1
    exact W.iret hx hb hr (fun _ ht9 _ => ⟨⟨_, (), rfl, rfl, hPt ht9 hP.1⟩, hS.F ht9⟩) hS.2.2 dX12_mark_41
  · have h := it c_6 h
    refine lv_aload_n hx hb dX12_mark_8 rfl (lv_at hl 0 rfl) ?_
    refine lv_iconst (v := 4) hx hb dX12_mark_9 (by decide) ?_
    obtain ⟨z_10, e_z_10, h⟩ := bi h
    refine efVi (rest := []) ⟨hx, hb, hml, hown, ht⟩ (c_X12_refuse l D cy fu A_m m_at m_names m_status m_top m_bottom m_sort m_trayMany m_trays m_tape m_text m_taped m_size m_token m_from m_end m_value m_faultKind m_faultPlace m_faults m_seen m_toldParts m_opened m_depth m_counted m_bestOrder m_standers m_has m_bestHas m_standerMany m_bestCouples m_bestFondness m_cameTo m_doesStandFirst m_stoodBy m_drawn m_ranSteps m_loops m_ran m_told1 m_isTold m_marks 4 z_10 e_z_10 _ rfl _ rfl) (cV ht mv_X12_refuse tb_1432 rfl rfl ⟨Nat.le_of_ble_eq_true rfl, Nat.le_of_ble_eq_true rfl⟩) hP hS hX [0] rfl rfl rfl rfl rfl rfl hl.1 rfl (Nat.le_of_ble_eq_true rfl) dX12_mark_10 ⟨Nat.le_of_ble_eq_true rfl, Nat.le_of_ble_eq_true rfl⟩ (fun H locs hP hS => ?_)
    have hP : PD D A [bl_X12 cy A_m m_at m_names z_10.2 m_top m_bottom m_sort m_trayMany m_trays m_tape m_text m_taped m_size m_token m_from m_end m_value m_faultKind m_faultPlace m_faults m_seen m_toldParts m_opened m_depth m_counted m_bestOrder m_standers m_has m_bestHas m_standerMany m_bestCouples m_bestFondness m_cameTo m_doesStandFirst m_stoodBy m_drawn m_ranSteps m_loops m_ran m_told1 m_isTold m_marks] H := hP
    cases h
    subst hW1
    exact W.iret hx hb hr (fun _ ht9 _ => ⟨⟨_, (), rfl, rfl, hPt ht9 hP.1⟩, hS.F ht9⟩) hS.2.2 dX12_mark_13
theorem dX12_undo_0 : decode cX12_undo 0 = .ok (.aload_n 0, 1) := by decide +kernel
theorem dX12_undo_1 : decode cX12_undo 1 = .ok (.getfield 451, 3) := by decide +kernel
theorem dX12_undo_4 : decode cX12_undo 4 = .ok (.ifCond .ne 10, 3) := by decide +kernel
theorem dX12_undo_7 : decode cX12_undo 7 = .ok (.aload_n 0, 1) := by decide +kernel
theorem dX12_undo_8 : decode cX12_undo 8 = .ok (.bipush 6, 2) := by decide +kernel
theorem dX12_undo_10 : decode cX12_undo 10 = .ok (.invokevirtual 85, 3) := by decide +kernel
theorem dX12_undo_13 : decode cX12_undo 13 = .ok (.ireturn, 1) := by decide +kernel
theorem dX12_undo_14 : decode cX12_undo 14 = .ok (.aload_n 0, 1) := by decide +kernel
theorem dX12_undo_15 : decode cX12_undo 15 = .ok (.aload_n 0, 1) := by decide +kernel
theorem dX12_undo_16 : decode cX12_undo 16 = .ok (.getfield 451, 3) := by decide +kernel
theorem dX12_undo_19 : decode cX12_undo 19 = .ok (.iconst 0, 1) := by decide +kernel
theorem dX12_undo_20 : decode cX12_undo 20 = .ok (.invokevirtual 454, 3) := by decide +kernel
theorem dX12_undo_23 : decode cX12_undo 23 = .ok (.aload_n 0, 1) := by decide +kernel
theorem dX12_undo_24 : decode cX12_undo 24 = .ok (.dup, 1) := by decide +kernel
theorem dX12_undo_25 : decode cX12_undo 25 = .ok (.getfield 451, 3) := by decide +kernel
theorem dX12_undo_28 : decode cX12_undo 28 = .ok (.iconst 1, 1) := by decide +kernel
theorem dX12_undo_29 : decode cX12_undo 29 = .ok (.isub, 1) := by decide +kernel
theorem dX12_undo_30 : decode cX12_undo 30 = .ok (.putfield 451, 3) := by decide +kernel
theorem dX12_undo_33 : decode cX12_undo 33 = .ok (.aload_n 0, 1) := by decide +kernel
theorem dX12_undo_34 : decode cX12_undo 34 = .ok (.aload_n 0, 1) := by decide +kernel
theorem dX12_undo_35 : decode cX12_undo 35 = .ok (.getfield 451, 3) := by decide +kernel
theorem dX12_undo_38 : decode cX12_undo 38 = .ok (.invokevirtual 88, 3) := by decide +kernel
theorem dX12_undo_41 : decode cX12_undo 41 = .ok (.ireturn, 1) := by decide +kernel
theorem mv_X12_undo : MV yX12_undo RX12 cX12_undo 1 (some .int) 0 := ⟨tb_1919, tb_1917, tb_1918, tb_16, by decide +kernel, by decide +kernel, by decide +kernel⟩
def f_X12_undo (fu : Nat) (m_at : Nat → Int32) (m_names : Nat → Int64) (m_status : Int32) (m_marks : Int32) : Option (Int32 × (Nat → Int32) × (Nat → Int64) × Int32 × Int32) := (if m_marks = 0 then (f_X12_refuse fu m_status 6).bind fun z_10 => some (z_10.1, m_at, m_names, z_10.2, m_marks) else (f_X12_copies fu m_at m_names m_marks 0).bind fun z_7 => bnd (m_marks - 1) fun m_marks_8 => (f_X12_gives fu m_status m_marks_8).bind fun z_9 => some (z_9.1, z_7.1, z_7.2, z_9.2, m_marks_8))
abbrev rm_X12_undo : Room := { frames := 1, cells := 0, slots := 0, locals := 23 }
set_option maxHeartbeats 4000000 in
set_option maxRecDepth 100000 in
theorem c_X12_undo (l : Launch) (D : va_G) (cy : Nat → ClassId) (fu : Nat) (A_m : Nat → Nat) (m_at : Nat → Int32) (m_names : Nat → Int64) (m_status : Int32) (m_top : Int64) (m_bottom : Int64) (m_sort : Nat → Int32) (m_trayMany : Nat → Int32) (m_trays : Nat → Int64) (m_tape : Nat → Int32) (m_text : Nat → Int32) (m_taped : Int32) (m_size : Int32) (m_token : Int32) (m_from : Int32) (m_end : Int32) (m_value : Int32) (m_faultKind : Int32) (m_faultPlace : Int32) (m_faults : Int32) (m_seen : Int32) (m_toldParts : Int32) (m_opened : Nat → Int32) (m_depth : Int32) (m_counted : Int32) (m_bestOrder : Int32) (m_standers : Nat → Int32) (m_has : Nat → Int32) (m_bestHas : Nat → Int32) (m_standerMany : Int32) (m_bestCouples : Int32) (m_bestFondness : Int32) (m_cameTo : Nat → Int32) (m_doesStandFirst : Int32) (m_stoodBy : Nat → Int64) (m_drawn : Int32) (m_ranSteps : Int32) (m_loops : Nat → Int32) (m_ran : Nat → Int32) (m_told1 : Nat → Int32) (m_isTold : Int32) (m_marks : Int32) (res : Int32 × (Nat → Int32) × (Nat → Int64) × Int32 × Int32) (h : f_X12_undo fu m_at m_names m_status m_marks = some res) (A : Nat → Prop) (hA : A = adr [bl_X12 cy A_m m_at m_names m_status m_top m_bottom m_sort m_trayMany m_trays m_tape m_text m_taped m_size m_token m_from m_end m_value m_faultKind m_faultPlace m_faults m_seen m_toldParts m_opened m_depth m_counted m_bestOrder m_standers m_has m_bestHas m_standerMany m_bestCouples m_bestFondness m_cameTo m_doesStandFirst m_stoodBy m_drawn m_ranSteps m_loops m_ran m_told1 m_isTold m_marks]) (W1 : List va_W) (hW1 : W1 = [bl_X12 cy A_m res.2.1 res.2.2.1 res.2.2.2.1 m_top m_bottom m_sort m_trayMany m_trays m_tape m_text m_taped m_size m_token m_from m_end m_value m_faultKind m_faultPlace m_faults m_seen m_toldParts m_opened m_depth m_counted m_bestOrder m_standers m_has m_bestHas m_standerMany m_bestCouples m_bestFondness m_cameTo m_doesStandFirst m_stoodBy m_drawn m_ranSteps m_loops m_ran m_told1 m_isTold res.2.2.2.2]) : Met l yX12_undo (WW yX12_undo cX12_undo 1 (some .int)) rm_X12_undo (Ed D cy [.ref (A_m 0)] [bl_X12 cy A_m m_at m_names m_status m_top m_bottom m_sort m_trayMany m_trays m_tape m_text m_taped m_size m_token m_from m_end m_value m_faultKind m_faultPlace m_faults m_seen m_toldParts m_opened m_depth m_counted m_bestOrder m_standers m_has m_bestHas m_standerMany m_bestCouples m_bestFondness m_cameTo m_doesStandFirst m_stoodBy m_drawn m_ranSteps m_loops m_ran m_told1 m_isTold m_marks]) (Qei D res.1 A W1) 0 0 A := by
  refine Met.ofW (cc := cX12_undo) (maxL := 1) (ret := (some .int)) (by decide) rfl ?_
  intro p e s m args below meth c s₁ B hml hv
  obtain ⟨hargs, hP, hX, hD0⟩ := hv
  have hx := B.exec
  have hb := B.bytes
  have hr := B.returns
  have ht : ∀ w ∈ lw_gd, w.before args s = true := fun w hw => atoms_spec (ws := WW yX12_undo cX12_undo 1 (some .int)) B.pre w (List.mem_cons_of_mem _ hw)
  have hown : s.vm.findClass RX12 = some m.cls := findClass_of_methodNamed B.named
  have hlocks := B.notSynchronized
  have hP : PD D A [bl_X12 cy A_m m_at m_names m_status m_top m_bottom m_sort m_trayMany m_trays m_tape m_text m_taped m_size m_token m_from m_end m_value m_faultKind m_faultPlace m_faults m_seen m_toldParts m_opened m_depth m_counted m_bestOrder m_standers m_has m_bestHas m_standerMany m_bestCouples m_bestFondness m_cameTo m_doesStandFirst m_stoodBy m_drawn m_ranSteps m_loops m_ran m_told1 m_isTold m_marks] s.heap := ⟨hP, by rw [hA]; exact hD0.own⟩
  have hS : va_S A s.heap s.heap [] := va_S.rf
  obtain ⟨ls, hl, hent⟩ := ent (m := m) (n := 1) hargs (Nat.le_of_ble_eq_true rfl) (lv := [(0, .ref (A_m 0))]) rfl
  rw [hent]
  clear hent
  unfold f_X12_undo at h
  refine lv_aload_n hx hb dX12_undo_0 rfl (lv_at hl 0 rfl) ?_
  refine xget (i := 0) (j := 0) (k := 40) (T := TX12) hx hb ht tb_iX12 hown hX hP.1 rfl rfl rfl (by decide) tb_1269 rfl dX12_undo_1 ?_
  refine lv_if_ne (tgt := 14) hx hb dX12_undo_4 (by decide) (fun c_6 => ?_) (fun c_6 => ?_)
  · have h := ie c_6 h
    refine lv_aload_n hx hb dX12_undo_14 rfl (lv_at hl 0 rfl) ?_
    refine lv_aload_n hx hb dX12_undo_15 rfl (lv_at hl 0 rfl) ?_
    refine xget (i := 0) (j := 0) (k := 40) (T := TX12) hx hb ht tb_iX12 hown hX hP.1 rfl rfl rfl (by decide) tb_1269 rfl dX12_undo_16 ?_
    refine lv_iconst (v := 0) hx hb dX12_undo_19 (by decide) ?_
    obtain ⟨z_7, e_z_7, h⟩ := bi h
    refine efVv (rest := []) ⟨hx, hb, hml, hown, ht⟩ (c_X12_copies l D cy fu A_m m_at m_names m_status m_top m_bottom m_sort m_trayMany m_trays m_tape m_text m_taped m_size m_token m_from m_end m_value m_faultKind m_faultPlace m_faults m_seen m_toldParts m_opened m_depth m_counted m_bestOrder m_standers m_has m_bestHas m_standerMany m_bestCouples m_bestFondness m_cameTo m_doesStandFirst m_stoodBy m_drawn m_ranSteps m_loops m_ran m_told1 m_isTold m_marks m_marks 0 z_7 e_z_7 _ rfl _ rfl) (cV ht mv_X12_copies tb_1912 rfl rfl ⟨Nat.le_of_ble_eq_true rfl, Nat.le_of_ble_eq_true rfl⟩) hP hS hX [0] rfl rfl rfl rfl rfl rfl hl.1 rfl (Nat.le_of_ble_eq_true rfl) dX12_undo_20 ⟨Nat.le_of_ble_eq_true rfl, Nat.le_of_ble_eq_true rfl⟩ (fun H locs hP hS => ?_)
    have hP : PD D A [bl_X12 cy A_m z_7.1 z_7.2 m_status m_top m_bottom m_sort m_trayMany m_trays m_tape m_text m_taped m_size m_token m_from m_end m_value m_faultKind m_faultPlace m_faults m_seen m_toldParts m_opened m_depth m_counted m_bestOrder m_standers m_has m_bestHas m_standerMany m_bestCouples m_bestFondness m_cameTo m_doesStandFirst m_stoodBy m_drawn m_ranSteps m_loops m_ran m_told1 m_isTold m_marks] H := hP
    refine lv_aload_n hx hb dX12_undo_23 rfl (lv_at hl 0 rfl) ?_
    refine lv_dup hx hb dX12_undo_24 rfl ?_
    refine xget (i := 0) (j := 0) (k := 40) (T := TX12) hx hb ht tb_iX12 hown hX hP.1 rfl rfl rfl (by decide) tb_1269 rfl dX12_undo_25 ?_
    refine lv_iconst (v := 1) hx hb dX12_undo_28 (by decide) ?_
    refine lv_isub hx hb dX12_undo_29 ?_
    refine lv_topi (fun m_marks_8 e_m_marks_8 => ?_)
    have h := bn e_m_marks_8 h
    refine xput (i := 0) (j := 0) (k := 40) (T := TX12) tyX12 tyX12_ok nmX12 hx hb ht tb_iX12 hown hX hP hS rfl rfl rfl (by decide) tb_1269 rfl rfl rfl (Nat.le_of_ble_eq_true rfl) dX12_undo_30 (fun H locs hP hS => ?_)
    have hP : PD D A [bl_X12 cy A_m z_7.1 z_7.2 m_status m_top m_bottom m_sort m_trayMany m_trays m_tape m_text m_taped m_size m_token m_from m_end m_value m_faultKind m_faultPlace m_faults m_seen m_toldParts m_opened m_depth m_counted m_bestOrder m_standers m_has m_bestHas m_standerMany m_bestCouples m_bestFondness m_cameTo m_doesStandFirst m_stoodBy m_drawn m_ranSteps m_loops m_ran m_told1 m_isTold m_marks_8] H := hP
    refine lv_aload_n hx hb dX12_undo_33 rfl (lv_at hl 0 rfl) ?_
    refine lv_aload_n hx hb dX12_undo_34 rfl (lv_at hl 0 rfl) ?_
    refine xget (i := 0) (j := 0) (k := 40) (T := TX12) hx hb ht tb_iX12 hown hX hP.1 rfl rfl rfl (by decide) tb_1269 rfl dX12_undo_35 ?_
    obtain ⟨z_9, e_z_9, h⟩ := bi h
    refine efVi (rest := []) ⟨hx, hb, hml, hown, ht⟩ (c_X12_gives l D cy fu A_m z_7.1 z_7.2 m_status m_top m_bottom m_sort m_trayMany m_trays m_tape m_text m_taped m_size m_token m_from m_end m_value m_faultKind m_faultPlace m_faults m_seen m_toldParts m_opened m_depth m_counted m_bestOrder m_standers m_has m_bestHas m_standerMany m_bestCouples m_bestFondness m_cameTo m_doesStandFirst m_stoodBy m_drawn m_ranSteps m_loops m_ran m_told1 m_isTold m_marks_8 m_marks_8 z_9 e_z_9 _ rfl _ rfl) (cV ht mv_X12_gives tb_1499 rfl rfl ⟨Nat.le_of_ble_eq_true rfl, Nat.le_of_ble_eq_true rfl⟩) hP hS hX [0] rfl rfl rfl rfl rfl rfl hl.1 rfl (Nat.le_of_ble_eq_true rfl) dX12_undo_38 ⟨Nat.le_of_ble_eq_true rfl, Nat.le_of_ble_eq_true rfl⟩ (fun H locs hP hS => ?_)
    have hP : PD D A [bl_X12 cy A_m z_7.1 z_7.2 z_9.2 m_top m_bottom m_sort m_trayMany m_trays m_tape m_text m_taped m_size m_token m_from m_end m_value m_faultKind m_faultPlace m_faults m_seen m_toldParts m_opened m_depth m_counted m_bestOrder m_standers m_has m_bestHas m_standerMany m_bestCouples m_bestFondness m_cameTo m_doesStandFirst m_stoodBy m_drawn m_ranSteps m_loops m_ran m_told1 m_isTold m_marks_8] H := hP
    cases h
    subst hW1
    exact W.iret hx hb hr (fun _ ht9 _ => ⟨⟨_, (), rfl, rfl, hPt ht9 hP.1⟩, hS.F ht9⟩) hS.2.2 dX12_undo_41
  · have h := it c_6 h
    refine lv_aload_n hx hb dX12_undo_7 rfl (lv_at hl 0 rfl) ?_
    refine lv_bipush (v := 6) hx hb dX12_undo_8 (by decide) ?_
    obtain ⟨z_10, e_z_10, h⟩ := bi h
    refine efVi (rest := []) ⟨hx, hb, hml, hown, ht⟩ (c_X12_refuse l D cy fu A_m m_at m_names m_status m_top m_bottom m_sort m_trayMany m_trays m_tape m_text m_taped m_size m_token m_from m_end m_value m_faultKind m_faultPlace m_faults m_seen m_toldParts m_opened m_depth m_counted m_bestOrder m_standers m_has m_bestHas m_standerMany m_bestCouples m_bestFondness m_cameTo m_doesStandFirst m_stoodBy m_drawn m_ranSteps m_loops m_ran m_told1 m_isTold m_marks 6 z_10 e_z_10 _ rfl _ rfl) (cV ht mv_X12_refuse tb_1432 rfl rfl ⟨Nat.le_of_ble_eq_true rfl, Nat.le_of_ble_eq_true rfl⟩) hP hS hX [0] rfl rfl rfl rfl rfl rfl hl.1 rfl (Nat.le_of_ble_eq_true rfl) dX12_undo_10 ⟨Nat.le_of_ble_eq_true rfl, Nat.le_of_ble_eq_true rfl⟩ (fun H locs hP hS => ?_)
    have hP : PD D A [bl_X12 cy A_m m_at m_names z_10.2 m_top m_bottom m_sort m_trayMany m_trays m_tape m_text m_taped m_size m_token m_from m_end m_value m_faultKind m_faultPlace m_faults m_seen m_toldParts m_opened m_depth m_counted m_bestOrder m_standers m_has m_bestHas m_standerMany m_bestCouples m_bestFondness m_cameTo m_doesStandFirst m_stoodBy m_drawn m_ranSteps m_loops m_ran m_told1 m_isTold m_marks] H := hP
    cases h
    subst hW1
    exact W.iret hx hb hr (fun _ ht9 _ => ⟨⟨_, (), rfl, rfl, hPt ht9 hP.1⟩, hS.F ht9⟩) hS.2.2 dX12_undo_13
