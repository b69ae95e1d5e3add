theorem dX11_seenAt_0 : decode cX11_seenAt 0 = .ok (.aload_n 0, 1) := by decide +kernel
theorem dX11_seenAt_1 : decode cX11_seenAt 1 = .ok (.iload_n 2, 1) := by decide +kernel
theorem dX11_seenAt_2 : decode cX11_seenAt 2 = .ok (.invokevirtual 111, 3) := by decide +kernel
theorem dX11_seenAt_5 : decode cX11_seenAt 5 = .ok (.astore 5, 2) := by decide +kernel
theorem dX11_seenAt_7 : decode cX11_seenAt 7 = .ok (.aload_n 0, 1) := by decide +kernel
theorem dX11_seenAt_8 : decode cX11_seenAt 8 = .ok (.iload_n 1, 1) := by decide +kernel
theorem dX11_seenAt_9 : decode cX11_seenAt 9 = .ok (.aload 5, 2) := by decide +kernel
theorem dX11_seenAt_11 : decode cX11_seenAt 11 = .ok (.iload_n 3, 1) := by decide +kernel
theorem dX11_seenAt_12 : decode cX11_seenAt 12 = .ok (.invokevirtual 352, 3) := by decide +kernel
theorem dX11_seenAt_15 : decode cX11_seenAt 15 = .ok (.istore 6, 2) := by decide +kernel
theorem dX11_seenAt_17 : decode cX11_seenAt 17 = .ok (.iload 6, 2) := by decide +kernel
theorem dX11_seenAt_19 : decode cX11_seenAt 19 = .ok (.iconst 1, 1) := by decide +kernel
theorem dX11_seenAt_20 : decode cX11_seenAt 20 = .ok (.if_icmp .eq 13, 3) := by decide +kernel
theorem dX11_seenAt_23 : decode cX11_seenAt 23 = .ok (.iload 4, 2) := by decide +kernel
theorem dX11_seenAt_25 : decode cX11_seenAt 25 = .ok (.iconst 0, 1) := by decide +kernel
theorem dX11_seenAt_26 : decode cX11_seenAt 26 = .ok (.iconst 1, 1) := by decide +kernel
theorem dX11_seenAt_27 : decode cX11_seenAt 27 = .ok (.invokestatic 115, 3) := by decide +kernel
theorem dX11_seenAt_30 : decode cX11_seenAt 30 = .ok (.ifCond .ne 9, 3) := by decide +kernel
theorem dX11_seenAt_33 : decode cX11_seenAt 33 = .ok (.aload_n 0, 1) := by decide +kernel
theorem dX11_seenAt_34 : decode cX11_seenAt 34 = .ok (.iconst 1, 1) := by decide +kernel
theorem dX11_seenAt_35 : decode cX11_seenAt 35 = .ok (.invokevirtual 143, 3) := by decide +kernel
theorem dX11_seenAt_38 : decode cX11_seenAt 38 = .ok (.ireturn, 1) := by decide +kernel
theorem dX11_seenAt_39 : decode cX11_seenAt 39 = .ok (.iload 6, 2) := by decide +kernel
theorem dX11_seenAt_41 : decode cX11_seenAt 41 = .ok (.ifCond .eq 10, 3) := by decide +kernel
theorem dX11_seenAt_44 : decode cX11_seenAt 44 = .ok (.aload_n 0, 1) := by decide +kernel
theorem dX11_seenAt_45 : decode cX11_seenAt 45 = .ok (.iload 6, 2) := by decide +kernel
theorem dX11_seenAt_47 : decode cX11_seenAt 47 = .ok (.invokevirtual 143, 3) := by decide +kernel
theorem dX11_seenAt_50 : decode cX11_seenAt 50 = .ok (.ireturn, 1) := by decide +kernel
theorem dX11_seenAt_51 : decode cX11_seenAt 51 = .ok (.aload_n 0, 1) := by decide +kernel
theorem dX11_seenAt_52 : decode cX11_seenAt 52 = .ok (.iload_n 1, 1) := by decide +kernel
theorem dX11_seenAt_53 : decode cX11_seenAt 53 = .ok (.aload 5, 2) := by decide +kernel
theorem dX11_seenAt_55 : decode cX11_seenAt 55 = .ok (.iload_n 3, 1) := by decide +kernel
theorem dX11_seenAt_56 : decode cX11_seenAt 56 = .ok (.invokevirtual 355, 3) := by decide +kernel
theorem dX11_seenAt_59 : decode cX11_seenAt 59 = .ok (.istore 7, 2) := by decide +kernel
theorem dX11_seenAt_61 : decode cX11_seenAt 61 = .ok (.iload 7, 2) := by decide +kernel
theorem dX11_seenAt_63 : decode cX11_seenAt 63 = .ok (.ifCond .ne 10, 3) := by decide +kernel
theorem dX11_seenAt_66 : decode cX11_seenAt 66 = .ok (.aload_n 0, 1) := by decide +kernel
theorem dX11_seenAt_67 : decode cX11_seenAt 67 = .ok (.bipush 6, 2) := by decide +kernel
theorem dX11_seenAt_69 : decode cX11_seenAt 69 = .ok (.invokevirtual 143, 3) := by decide +kernel
theorem dX11_seenAt_72 : decode cX11_seenAt 72 = .ok (.ireturn, 1) := by decide +kernel
theorem dX11_seenAt_73 : decode cX11_seenAt 73 = .ok (.aload_n 0, 1) := by decide +kernel
theorem dX11_seenAt_74 : decode cX11_seenAt 74 = .ok (.iload 4, 2) := by decide +kernel
theorem dX11_seenAt_76 : decode cX11_seenAt 76 = .ok (.ifCond .ne 11, 3) := by decide +kernel
theorem dX11_seenAt_79 : decode cX11_seenAt 79 = .ok (.iload 7, 2) := by decide +kernel
theorem dX11_seenAt_81 : decode cX11_seenAt 81 = .ok (.invokestatic 358, 3) := by decide +kernel
theorem dX11_seenAt_84 : decode cX11_seenAt 84 = .ok (.goto 8, 3) := by decide +kernel
theorem dX11_seenAt_87 : decode cX11_seenAt 87 = .ok (.iload 7, 2) := by decide +kernel
theorem dX11_seenAt_89 : decode cX11_seenAt 89 = .ok (.invokestatic 361, 3) := by decide +kernel
theorem dX11_seenAt_92 : decode cX11_seenAt 92 = .ok (.invokevirtual 193, 3) := by decide +kernel
theorem dX11_seenAt_95 : decode cX11_seenAt 95 = .ok (.ireturn, 1) := by decide +kernel
theorem mv_X11_seenAt : MV yX11_seenAt RX11 cX11_seenAt 8 (some .int) 4 := ⟨tb_1054, tb_1052, tb_1053, tb_1, by decide +kernel, by decide +kernel, by decide +kernel⟩
def f_X11_seenAt (fu : Nat) (b_latestStatus : Int32) (y0_row : Nat → Int64) (y0_missing : Int32) (y0_many : Int32) (y1_row : Nat → Int64) (y1_missing : Int32) (y1_many : Int32) (y2_row : Nat → Int64) (y2_missing : Int32) (y2_many : Int32) (y3_row : Nat → Int64) (y3_missing : Int32) (y3_many : Int32) (a_medals : Nat → Int32) (a_count : Int32) (a_pride : Int32) (x1 : Int32) (x2 : Int32) (x3 : Int32) (x4 : Int32) : Option (Int32 × Int32) := (if x2 = 0 then (f_X11_seenRefusal fu y0_row y0_missing y0_many a_count x1 x3).bind fun z_86 => (if z_86 = 1 then (f_X11_refuse fu b_latestStatus 1).bind fun z_88 => some (z_88.1, z_88.2) else (f_X11_within fu x4 0 1).bind fun z_89 => (if z_89 = 0 then (f_X11_refuse fu b_latestStatus 1).bind fun z_101 => some (z_101.1, z_101.2) else (if z_86 = 0 then (f_X11_fittingCourages fu y0_row y0_many a_medals a_count a_pride x1 x3).bind fun z_92 => (if z_92 = 0 then (f_X11_refuse fu b_latestStatus 6).bind fun z_99 => some (z_99.1, z_99.2) else (if x4 = 0 then (f_X11_firstOf fu z_92).bind fun z_97 => (f_X11_answer fu b_latestStatus z_97).bind fun z_98 => some (z_98.1, z_98.2) else (f_X11_lastOf fu z_92).bind fun z_95 => (f_X11_answer fu b_latestStatus z_95).bind fun z_96 => some (z_96.1, z_96.2))) else (f_X11_refuse fu b_latestStatus z_86).bind fun z_100 => some (z_100.1, z_100.2)))) else (if x2 = 1 then (f_X11_seenRefusal fu y1_row y1_missing y1_many a_count x1 x3).bind fun z_103 => (if z_103 = 1 then (f_X11_refuse fu b_latestStatus 1).bind fun z_105 => some (z_105.1, z_105.2) else (f_X11_within fu x4 0 1).bind fun z_106 => (if z_106 = 0 then (f_X11_refuse fu b_latestStatus 1).bind fun z_118 => some (z_118.1, z_118.2) else (if z_103 = 0 then (f_X11_fittingCourages fu y1_row y1_many a_medals a_count a_pride x1 x3).bind fun z_109 => (if z_109 = 0 then (f_X11_refuse fu b_latestStatus 6).bind fun z_116 => some (z_116.1, z_116.2) else (if x4 = 0 then (f_X11_firstOf fu z_109).bind fun z_114 => (f_X11_answer fu b_latestStatus z_114).bind fun z_115 => some (z_115.1, z_115.2) else (f_X11_lastOf fu z_109).bind fun z_112 => (f_X11_answer fu b_latestStatus z_112).bind fun z_113 => some (z_113.1, z_113.2))) else (f_X11_refuse fu b_latestStatus z_103).bind fun z_117 => some (z_117.1, z_117.2)))) else (if x2 = 2 then (f_X11_seenRefusal fu y2_row y2_missing y2_many a_count x1 x3).bind fun z_120 => (if z_120 = 1 then (f_X11_refuse fu b_latestStatus 1).bind fun z_122 => some (z_122.1, z_122.2) else (f_X11_within fu x4 0 1).bind fun z_123 => (if z_123 = 0 then (f_X11_refuse fu b_latestStatus 1).bind fun z_135 => some (z_135.1, z_135.2) else (if z_120 = 0 then (f_X11_fittingCourages fu y2_row y2_many a_medals a_count a_pride x1 x3).bind fun z_126 => (if z_126 = 0 then (f_X11_refuse fu b_latestStatus 6).bind fun z_133 => some (z_133.1, z_133.2) else (if x4 = 0 then (f_X11_firstOf fu z_126).bind fun z_131 => (f_X11_answer fu b_latestStatus z_131).bind fun z_132 => some (z_132.1, z_132.2) else (f_X11_lastOf fu z_126).bind fun z_129 => (f_X11_answer fu b_latestStatus z_129).bind fun z_130 => some (z_130.1, z_130.2))) else (f_X11_refuse fu b_latestStatus z_120).bind fun z_134 => some (z_134.1, z_134.2)))) else (if x2 = 3 then (f_X11_seenRefusal fu y3_row y3_missing y3_many a_count x1 x3).bind fun z_137 => (if z_137 = 1 then (f_X11_refuse fu b_latestStatus 1).bind fun z_139 => some (z_139.1, z_139.2) else (f_X11_within fu x4 0 1).bind fun z_140 => (if z_140 = 0 then (f_X11_refuse fu b_latestStatus 1).bind fun z_152 => some (z_152.1, z_152.2) else (if z_137 = 0 then (f_X11_fittingCourages fu y3_row y3_many a_medals a_count a_pride x1 x3).bind fun z_143 => (if z_143 = 0 then (f_X11_refuse fu b_latestStatus 6).bind fun z_150 => some (z_150.1, z_150.2) else (if x4 = 0 then (f_X11_firstOf fu z_143).bind fun z_148 => (f_X11_answer fu b_latestStatus z_148).bind fun z_149 => some (z_149.1, z_149.2) else (f_X11_lastOf fu z_143).bind fun z_146 => (f_X11_answer fu b_latestStatus z_146).bind fun z_147 => some (z_147.1, z_147.2))) else (f_X11_refuse fu b_latestStatus z_137).bind fun z_151 => some (z_151.1, z_151.2)))) else (f_X11_seenRefusal_n2 fu a_count x1 x3).bind fun z_153 => (if z_153 = 1 then (f_X11_refuse fu b_latestStatus 1).bind fun z_155 => some (z_155.1, z_155.2) else (f_X11_within fu x4 0 1).bind fun z_156 => (if z_156 = 0 then (f_X11_refuse fu b_latestStatus 1).bind fun z_168 => some (z_168.1, z_168.2) else (if z_153 = 0 then (f_X11_fittingCourages_n2 fu x1 x3).bind fun z_159 => (if z_159 = 0 then (f_X11_refuse fu b_latestStatus 6).bind fun z_166 => some (z_166.1, z_166.2) else (if x4 = 0 then (f_X11_firstOf fu z_159).bind fun z_164 => (f_X11_answer fu b_latestStatus z_164).bind fun z_165 => some (z_165.1, z_165.2) else (f_X11_lastOf fu z_159).bind fun z_162 => (f_X11_answer fu b_latestStatus z_162).bind fun z_163 => some (z_163.1, z_163.2))) else (f_X11_refuse fu b_latestStatus z_153).bind fun z_167 => some (z_167.1, z_167.2))))))))
abbrev rm_X11_seenAt : Room := { frames := 4, cells := 0, slots := 0, locals := 95 }
set_option maxHeartbeats 4000000 in
set_option maxRecDepth 100000 in
theorem c_X11_seenAt (l : Launch) (D : va_G) (cy : Nat → ClassId) (fu : Nat) (A_b : Nat → Nat) (r_b_war : Nat) (r_b_draftArmy : Nat) (r_b_draftWar : Nat) (r_b_reader : Nat) (r_b_armyReader : Nat) (r_b_warReader : Nat) (r_b_markedArmies : Nat) (r_b_markedWars : Nat) (r_b_latest : Nat) (r_b_trial : Nat) (r_b_foresight : Nat) (r_b_pairs : Nat) (b_latestStatus : Int32) (b_fractionTop : Int64) (b_fractionBottom : Int64) (b_marks : Int32) (A_T : Nat → Nat) (A_y0 : Nat → Nat) (y0_row : Nat → Int64) (y0_missing : Int32) (y0_sort : Int32) (y0_many : Int32) (A_y1 : Nat → Nat) (y1_row : Nat → Int64) (y1_missing : Int32) (y1_sort : Int32) (y1_many : Int32) (A_y2 : Nat → Nat) (y2_row : Nat → Int64) (y2_missing : Int32) (y2_sort : Int32) (y2_many : Int32) (A_y3 : Nat → Nat) (y3_row : Nat → Int64) (y3_missing : Int32) (y3_sort : Int32) (y3_many : Int32) (A_a : Nat → Nat) (a_name : Nat → Int64) (a_courage : Nat → Int32) (a_weight : Nat → Int32) (a_medals : Nat → Int32) (a_stood : Nat → Int32) (a_fled : Nat → Int32) (a_liked : Nat → Int32) (a_votes : Nat → Int32) (a_count : Int32) (a_living : Int32) (a_pride : Int32) (a_quota : Int32) (a_melted : Int32) (a_lost : Int32) (x1 : Int32) (x2 : Int32) (x3 : Int32) (x4 : Int32) (res : Int32 × Int32) (h : f_X11_seenAt fu b_latestStatus y0_row y0_missing y0_many y1_row y1_missing y1_many y2_row y2_missing y2_many y3_row y3_missing y3_many a_medals a_count a_pride x1 x2 x3 x4 = some res) (A : Nat → Prop) (hA : A = adr [bl_X11 cy A_b (A_T 0) (A_a 0) r_b_war r_b_draftArmy r_b_draftWar r_b_reader r_b_armyReader r_b_warReader r_b_markedArmies r_b_markedWars r_b_latest r_b_trial r_b_foresight r_b_pairs b_latestStatus b_fractionTop b_fractionBottom b_marks, [(A_T 0, .inl (cy 4, 4, .inr (.inr (.inr (.inr (trf4 (A_y0 0) (A_y1 0) (A_y2 0) (A_y3 0)))))))], bl_X8 cy A_y0 y0_row y0_missing y0_sort y0_many, bl_X8 cy A_y1 y1_row y1_missing y1_sort y1_many, bl_X8 cy A_y2 y2_row y2_missing y2_sort y2_many, bl_X8 cy A_y3 y3_row y3_missing y3_sort y3_many, bl_X0 cy A_a a_name a_courage a_weight a_medals a_stood a_fled a_liked a_votes a_count a_living a_pride a_quota a_melted a_lost]) (W1 : List va_W) (hW1 : W1 = [bl_X11 cy A_b (A_T 0) (A_a 0) r_b_war r_b_draftArmy r_b_draftWar r_b_reader r_b_armyReader r_b_warReader r_b_markedArmies r_b_markedWars r_b_latest r_b_trial r_b_foresight r_b_pairs res.2 b_fractionTop b_fractionBottom b_marks, [(A_T 0, .inl (cy 4, 4, .inr (.inr (.inr (.inr (trf4 (A_y0 0) (A_y1 0) (A_y2 0) (A_y3 0)))))))], bl_X8 cy A_y0 y0_row y0_missing y0_sort y0_many, bl_X8 cy A_y1 y1_row y1_missing y1_sort y1_many, bl_X8 cy A_y2 y2_row y2_missing y2_sort y2_many, bl_X8 cy A_y3 y3_row y3_missing y3_sort y3_many, bl_X0 cy A_a a_name a_courage a_weight a_medals a_stood a_fled a_liked a_votes a_count a_living a_pride a_quota a_melted a_lost]) : Met l yX11_seenAt (WW yX11_seenAt cX11_seenAt 8 (some .int)) rm_X11_seenAt (Ed D cy [.ref (A_b 0), .int x1, .int x2, .int x3, .int x4] [bl_X11 cy A_b (A_T 0) (A_a 0) r_b_war r_b_draftArmy r_b_draftWar r_b_reader r_b_armyReader r_b_warReader r_b_markedArmies r_b_markedWars r_b_latest r_b_trial r_b_foresight r_b_pairs b_latestStatus b_fractionTop b_fractionBottom b_marks, [(A_T 0, .inl (cy 4, 4, .inr (.inr (.inr (.inr (trf4 (A_y0 0) (A_y1 0) (A_y2 0) (A_y3 0)))))))], bl_X8 cy A_y0 y0_row y0_missing y0_sort y0_many, bl_X8 cy A_y1 y1_row y1_missing y1_sort y1_many, bl_X8 cy A_y2 y2_row y2_missing y2_sort y2_many, bl_X8 cy A_y3 y3_row y3_missing y3_sort y3_many, bl_X0 cy A_a a_name a_courage a_weight a_medals a_stood a_fled a_liked a_votes a_count a_living a_pride a_quota a_melted a_lost]) (Qei D res.1 A W1) 0 0 A := by
  refine Met.ofW (cc := cX11_seenAt) (maxL := 8) (ret := (some .int)) (by decide) rfl ?_
  intro p e s m args below meth c s₁ B hml hv
  obtain ⟨hargs, hP, hX, hD0⟩ := hv
  have hx := B.exec
  have hb := B.bytes
  have hr := B.returns
  have ht : ∀ w ∈ lw_gd, w.before args s = true := fun w hw => atoms_spec (ws := WW yX11_seenAt cX11_seenAt 8 (some .int)) B.pre w (List.mem_cons_of_mem _ hw)
  have hown : s.vm.findClass RX11 = some m.cls := findClass_of_methodNamed B.named
  have hlocks := B.notSynchronized
  have hP : PD D A [bl_X11 cy A_b (A_T 0) (A_a 0) r_b_war r_b_draftArmy r_b_draftWar r_b_reader r_b_armyReader r_b_warReader r_b_markedArmies r_b_markedWars r_b_latest r_b_trial r_b_foresight r_b_pairs b_latestStatus b_fractionTop b_fractionBottom b_marks, [(A_T 0, .inl (cy 4, 4, .inr (.inr (.inr (.inr (trf4 (A_y0 0) (A_y1 0) (A_y2 0) (A_y3 0)))))))], bl_X8 cy A_y0 y0_row y0_missing y0_sort y0_many, bl_X8 cy A_y1 y1_row y1_missing y1_sort y1_many, bl_X8 cy A_y2 y2_row y2_missing y2_sort y2_many, bl_X8 cy A_y3 y3_row y3_missing y3_sort y3_many, bl_X0 cy A_a a_name a_courage a_weight a_medals a_stood a_fled a_liked a_votes a_count a_living a_pride a_quota a_melted a_lost] s.heap := ⟨hP, by rw [hA]; exact hD0.own⟩
  have hS : va_S A s.heap s.heap [] := va_S.rf
  obtain ⟨ls, hl, hent⟩ := ent (m := m) (n := 8) hargs (Nat.le_of_ble_eq_true rfl) (lv := [(0, .ref (A_b 0)), (1, .int x1), (2, .int x2), (3, .int x3), (4, .int x4)]) rfl
  rw [hent]
  clear hent
  unfold f_X11_seenAt at h
  refine lv_aload_n hx hb dX11_seenAt_0 rfl (lv_at hl 0 rfl) ?_
  refine lv_iload_n hx hb dX11_seenAt_1 rfl (lv_at hl 2 rfl) ?_
  by_cases c_85 : x2 = 0
  · have h := it c_85 h
    refine roVq (rest := []) ⟨hx, hb, hml, hown, ht⟩ (c_X11_trayAt l D cy fu A_b (A_a 0) r_b_war r_b_draftArmy r_b_draftWar r_b_reader r_b_armyReader r_b_warReader r_b_markedArmies r_b_markedWars r_b_latest r_b_trial r_b_foresight r_b_pairs b_latestStatus b_fractionTop b_fractionBottom b_marks A_T (trf4 (A_y0 0) (A_y1 0) (A_y2 0) (A_y3 0)) x2 (some (A_y0 0)) (tray_0 c_85)) (cV ht mv_X11_trayAt tb_500 rfl rfl ⟨Nat.le_of_ble_eq_true rfl, Nat.le_of_ble_eq_true rfl⟩) (P_sub hP.1 [0, 1] rfl) hX rfl rfl rfl hl.1 rfl (Nat.le_of_ble_eq_true rfl) dX11_seenAt_2 ⟨Nat.le_of_ble_eq_true rfl, Nat.le_of_ble_eq_true rfl⟩ ?_
    refine lv_astore (lv' := [(5, .ref (A_y0 0)), (0, .ref (A_b 0)), (1, .int x1), (2, .int x2), (3, .int x3), (4, .int x4)]) hx hb dX11_seenAt_5 hl (by decide) rfl (fun ls hl => ?_)
    refine lv_aload_n hx hb dX11_seenAt_7 rfl (lv_at hl 1 rfl) ?_
    refine lv_iload_n hx hb dX11_seenAt_8 rfl (lv_at hl 2 rfl) ?_
    refine lv_aload hx hb dX11_seenAt_9 (lv_at hl 0 rfl) ?_
    refine lv_iload_n hx hb dX11_seenAt_11 rfl (lv_at hl 4 rfl) ?_
    obtain ⟨z_86, e_z_86, h⟩ := bi h
    refine roVi (rest := []) ⟨hx, hb, hml, hown, ht⟩ (c_X11_seenRefusal l D cy fu A_b (A_T 0) r_b_war r_b_draftArmy r_b_draftWar r_b_reader r_b_armyReader r_b_warReader r_b_markedArmies r_b_markedWars r_b_latest r_b_trial r_b_foresight r_b_pairs b_latestStatus b_fractionTop b_fractionBottom b_marks A_y0 y0_row y0_missing y0_sort y0_many A_a a_name a_courage a_weight a_medals a_stood a_fled a_liked a_votes a_count a_living a_pride a_quota a_melted a_lost x1 x3 z_86 e_z_86) (cV ht mv_X11_seenRefusal tb_1042 rfl rfl ⟨Nat.le_of_ble_eq_true rfl, Nat.le_of_ble_eq_true rfl⟩) (P_sub hP.1 [0, 2, 6] rfl) hX rfl rfl rfl hl.1 rfl (Nat.le_of_ble_eq_true rfl) dX11_seenAt_12 ⟨Nat.le_of_ble_eq_true rfl, Nat.le_of_ble_eq_true rfl⟩ ?_
    refine lv_istore (lv' := [(6, .int z_86), (5, .ref (A_y0 0)), (0, .ref (A_b 0)), (1, .int x1), (2, .int x2), (3, .int x3), (4, .int x4)]) hx hb dX11_seenAt_15 hl (by decide) rfl (fun ls hl => ?_)
    refine lv_iload hx hb dX11_seenAt_17 (lv_at hl 0 rfl) ?_
    refine lv_iconst (v := 1) hx hb dX11_seenAt_19 (by decide) ?_
    refine lv_icmp_eq (tgt := 33) hx hb dX11_seenAt_20 (by decide) (fun c_87 => ?_) (fun c_87 => ?_)
    · have h := it c_87 h
      refine lv_aload_n hx hb dX11_seenAt_33 rfl (lv_at hl 2 rfl) ?_
      refine lv_iconst (v := 1) hx hb dX11_seenAt_34 (by decide) ?_
      obtain ⟨z_88, e_z_88, h⟩ := bi h
      refine efVi (rest := []) ⟨hx, hb, hml, hown, ht⟩ (c_X11_refuse l D cy fu A_b (A_T 0) (A_a 0) r_b_war r_b_draftArmy r_b_draftWar r_b_reader r_b_armyReader r_b_warReader r_b_markedArmies r_b_markedWars r_b_latest r_b_trial r_b_foresight r_b_pairs b_latestStatus b_fractionTop b_fractionBottom b_marks 1 z_88 e_z_88 _ rfl _ rfl) (cV ht mv_X11_refuse tb_543 rfl rfl ⟨Nat.le_of_ble_eq_true rfl, Nat.le_of_ble_eq_true rfl⟩) hP hS hX [0] rfl rfl rfl rfl rfl rfl hl.1 rfl (Nat.le_of_ble_eq_true rfl) dX11_seenAt_35 ⟨Nat.le_of_ble_eq_true rfl, Nat.le_of_ble_eq_true rfl⟩ (fun H locs hP hS => ?_)
      have hP : PD D A [bl_X11 cy A_b (A_T 0) (A_a 0) r_b_war r_b_draftArmy r_b_draftWar r_b_reader r_b_armyReader r_b_warReader r_b_markedArmies r_b_markedWars r_b_latest r_b_trial r_b_foresight r_b_pairs z_88.2 b_fractionTop b_fractionBottom b_marks, [(A_T 0, .inl (cy 4, 4, .inr (.inr (.inr (.inr (trf4 (A_y0 0) (A_y1 0) (A_y2 0) (A_y3 0)))))))], bl_X8 cy A_y0 y0_row y0_missing y0_sort y0_many, bl_X8 cy A_y1 y1_row y1_missing y1_sort y1_many, bl_X8 cy A_y2 y2_row y2_missing y2_sort y2_many, bl_X8 cy A_y3 y3_row y3_missing y3_sort y3_many, bl_X0 cy A_a a_name a_courage a_weight a_medals a_stood a_fled a_liked a_votes a_count a_living a_pride a_quota a_melted a_lost] H := hP
      cases h
      subst hW1
      exact W.iret hx hb hr (fun _ ht9 _ => ⟨⟨_, (), rfl, rfl, hPt ht9 hP.1⟩, hS.F ht9⟩) hS.2.2 dX11_seenAt_38
    · have h := ie c_87 h
      refine lv_iload hx hb dX11_seenAt_23 (lv_at hl 6 rfl) ?_
      refine lv_iconst (v := 0) hx hb dX11_seenAt_25 (by decide) ?_
      refine lv_iconst (v := 1) hx hb dX11_seenAt_26 (by decide) ?_
      obtain ⟨z_89, e_z_89, h⟩ := bi h
      refine roSi (rest := []) ⟨hx, hb, hml, hown, ht⟩ (c_X11_within l D cy fu  x4 0 1 z_89 e_z_89) (cS ht ms_X11_within tb_504 rfl rfl ⟨Nat.le_of_ble_eq_true rfl, Nat.le_of_ble_eq_true rfl⟩) (P_sub hP.1 [] rfl) hX rfl hl.1 rfl (Nat.le_of_ble_eq_true rfl) dX11_seenAt_27 ⟨Nat.le_of_ble_eq_true rfl, Nat.le_of_ble_eq_true rfl⟩ ?_
      refine lv_if_ne (tgt := 39) hx hb dX11_seenAt_30 (by decide) (fun c_90 => ?_) (fun c_90 => ?_)
      · have h := ie c_90 h
        refine lv_iload hx hb dX11_seenAt_39 (lv_at hl 0 rfl) ?_
        refine lv_if_eq (tgt := 51) hx hb dX11_seenAt_41 (by decide) (fun c_91 => ?_) (fun c_91 => ?_)
        · have h := it c_91 h
          refine lv_aload_n hx hb dX11_seenAt_51 rfl (lv_at hl 2 rfl) ?_
          refine lv_iload_n hx hb dX11_seenAt_52 rfl (lv_at hl 3 rfl) ?_
          refine lv_aload hx hb dX11_seenAt_53 (lv_at hl 1 rfl) ?_
          refine lv_iload_n hx hb dX11_seenAt_55 rfl (lv_at hl 5 rfl) ?_
          obtain ⟨z_92, e_z_92, h⟩ := bi h
          refine roVi (rest := []) ⟨hx, hb, hml, hown, ht⟩ (c_X11_fittingCourages l D cy fu A_b (A_T 0) r_b_war r_b_draftArmy r_b_draftWar r_b_reader r_b_armyReader r_b_warReader r_b_markedArmies r_b_markedWars r_b_latest r_b_trial r_b_foresight r_b_pairs b_latestStatus b_fractionTop b_fractionBottom b_marks A_y0 y0_row y0_missing y0_sort y0_many A_a a_name a_courage a_weight a_medals a_stood a_fled a_liked a_votes a_count a_living a_pride a_quota a_melted a_lost x1 x3 z_92 e_z_92) (cV ht mv_X11_fittingCourages tb_1046 rfl rfl ⟨Nat.le_of_ble_eq_true rfl, Nat.le_of_ble_eq_true rfl⟩) (P_sub hP.1 [0, 2, 6] rfl) hX rfl rfl rfl hl.1 rfl (Nat.le_of_ble_eq_true rfl) dX11_seenAt_56 ⟨Nat.le_of_ble_eq_true rfl, Nat.le_of_ble_eq_true rfl⟩ ?_
          refine lv_istore (lv' := [(7, .int z_92), (6, .int z_86), (5, .ref (A_y0 0)), (0, .ref (A_b 0)), (1, .int x1), (2, .int x2), (3, .int x3), (4, .int x4)]) hx hb dX11_seenAt_59 hl (by decide) rfl (fun ls hl => ?_)
          refine lv_iload hx hb dX11_seenAt_61 (lv_at hl 0 rfl) ?_
          refine lv_if_ne (tgt := 73) hx hb dX11_seenAt_63 (by decide) (fun c_93 => ?_) (fun c_93 => ?_)
          · have h := ie c_93 h
            refine lv_aload_n hx hb dX11_seenAt_73 rfl (lv_at hl 3 rfl) ?_
            refine lv_iload hx hb dX11_seenAt_74 (lv_at hl 7 rfl) ?_
            refine lv_if_ne (tgt := 87) hx hb dX11_seenAt_76 (by decide) (fun c_94 => ?_) (fun c_94 => ?_)
            · have h := ie c_94 h
              refine lv_iload hx hb dX11_seenAt_87 (lv_at hl 0 rfl) ?_
              obtain ⟨z_95, e_z_95, h⟩ := bi h
              refine roSi (rest := [.ref (A_b 0)]) ⟨hx, hb, hml, hown, ht⟩ (c_X11_lastOf l D cy fu  z_92 z_95 e_z_95) (cS ht ms_X11_lastOf tb_1056 rfl rfl ⟨Nat.le_of_ble_eq_true rfl, Nat.le_of_ble_eq_true rfl⟩) (P_sub hP.1 [] rfl) hX rfl hl.1 rfl (Nat.le_of_ble_eq_true rfl) dX11_seenAt_89 ⟨Nat.le_of_ble_eq_true rfl, Nat.le_of_ble_eq_true rfl⟩ ?_
              obtain ⟨z_96, e_z_96, h⟩ := bi h
              refine efVi (rest := []) ⟨hx, hb, hml, hown, ht⟩ (c_X11_answer l D cy fu A_b (A_T 0) (A_a 0) r_b_war r_b_draftArmy r_b_draftWar r_b_reader r_b_armyReader r_b_warReader r_b_markedArmies r_b_markedWars r_b_latest r_b_trial r_b_foresight r_b_pairs b_latestStatus b_fractionTop b_fractionBottom b_marks z_95 z_96 e_z_96 _ rfl _ rfl) (cV ht mv_X11_answer tb_696 rfl rfl ⟨Nat.le_of_ble_eq_true rfl, Nat.le_of_ble_eq_true rfl⟩) hP hS hX [0] rfl rfl rfl rfl rfl rfl hl.1 rfl (Nat.le_of_ble_eq_true rfl) dX11_seenAt_92 ⟨Nat.le_of_ble_eq_true rfl, Nat.le_of_ble_eq_true rfl⟩ (fun H locs hP hS => ?_)
              have hP : PD D A [bl_X11 cy A_b (A_T 0) (A_a 0) r_b_war r_b_draftArmy r_b_draftWar r_b_reader r_b_armyReader r_b_warReader r_b_markedArmies r_b_markedWars r_b_latest r_b_trial r_b_foresight r_b_pairs z_96.2 b_fractionTop b_fractionBottom b_marks, [(A_T 0, .inl (cy 4, 4, .inr (.inr (.inr (.inr (trf4 (A_y0 0) (A_y1 0) (A_y2 0) (A_y3 0)))))))], bl_X8 cy A_y0 y0_row y0_missing y0_sort y0_many, bl_X8 cy A_y1 y1_row y1_missing y1_sort y1_many, bl_X8 cy A_y2 y2_row y2_missing y2_sort y2_many, bl_X8 cy A_y3 y3_row y3_missing y3_sort y3_many, bl_X0 cy A_a a_name a_courage a_weight a_medals a_stood a_fled a_liked a_votes a_count a_living a_pride a_quota a_melted a_lost] H := hP
              cases h
              subst hW1
              exact W.iret hx hb hr (fun _ ht9 _ => ⟨⟨_, (), rfl, rfl, hPt ht9 hP.1⟩, hS.F ht9⟩) hS.2.2 dX11_seenAt_95
            · have h := it c_94 h
              refine lv_iload hx hb dX11_seenAt_79 (lv_at hl 0 rfl) ?_
              obtain ⟨z_97, e_z_97, h⟩ := bi h
              refine roSi (rest := [.ref (A_b 0)]) ⟨hx, hb, hml, hown, ht⟩ (c_X11_firstOf l D cy fu  z_92 z_97 e_z_97) (cS ht ms_X11_firstOf tb_1055 rfl rfl ⟨Nat.le_of_ble_eq_true rfl, Nat.le_of_ble_eq_true rfl⟩) (P_sub hP.1 [] rfl) hX rfl hl.1 rfl (Nat.le_of_ble_eq_true rfl) dX11_seenAt_81 ⟨Nat.le_of_ble_eq_true rfl, Nat.le_of_ble_eq_true rfl⟩ ?_
              refine lv_goto (tgt := 92) hx hb dX11_seenAt_84 (by decide) ?_
              obtain ⟨z_98, e_z_98, h⟩ := bi h
              refine efVi (rest := []) ⟨hx, hb, hml, hown, ht⟩ (c_X11_answer l D cy fu A_b (A_T 0) (A_a 0) r_b_war r_b_draftArmy r_b_draftWar r_b_reader r_b_armyReader r_b_warReader r_b_markedArmies r_b_markedWars r_b_latest r_b_trial r_b_foresight r_b_pairs b_latestStatus b_fractionTop b_fractionBottom b_marks z_97 z_98 e_z_98 _ rfl _ rfl) (cV ht mv_X11_answer tb_696 rfl rfl ⟨Nat.le_of_ble_eq_true rfl, Nat.le_of_ble_eq_true rfl⟩) hP hS hX [0] rfl rfl rfl rfl rfl rfl hl.1 rfl (Nat.le_of_ble_eq_true rfl) dX11_seenAt_92 ⟨Nat.le_of_ble_eq_true rfl, Nat.le_of_ble_eq_true rfl⟩ (fun H locs hP hS => ?_)
              have hP : PD D A [bl_X11 cy A_b (A_T 0) (A_a 0) r_b_war r_b_draftArmy r_b_draftWar r_b_reader r_b_armyReader r_b_warReader r_b_markedArmies r_b_markedWars r_b_latest r_b_trial r_b_foresight r_b_pairs z_98.2 b_fractionTop b_fractionBottom b_marks, [(A_T 0, .inl (cy 4, 4, .inr (.inr (.inr (.inr (trf4 (A_y0 0) (A_y1 0) (A_y2 0) (A_y3 0)))))))], bl_X8 cy A_y0 y0_row y0_missing y0_sort y0_many, bl_X8 cy A_y1 y1_row y1_missing y1_sort y1_many, bl_X8 cy A_y2 y2_row y2_missing y2_sort y2_many, bl_X8 cy A_y3 y3_row y3_missing y3_sort y3_many, bl_X0 cy A_a a_name a_courage a_weight a_medals a_stood a_fled a_liked a_votes a_count a_living a_pride a_quota a_melted a_lost] H := hP
              cases h
              subst hW1
              exact W.iret hx hb hr (fun _ ht9 _ => ⟨⟨_, (), rfl, rfl, hPt ht9 hP.1⟩, hS.F ht9⟩) hS.2.2 dX11_seenAt_95
          · have h := it c_93 h
            refine lv_aload_n hx hb dX11_seenAt_66 rfl (lv_at hl 3 rfl) ?_
            refine lv_bipush (v := 6) hx hb dX11_seenAt_67 (by decide) ?_
            obtain ⟨z_99, e_z_99, h⟩ := bi h
            refine efVi (rest := []) ⟨hx, hb, hml, hown, ht⟩ (c_X11_refuse l D cy fu A_b (A_T 0) (A_a 0) r_b_war r_b_draftArmy r_b_draftWar r_b_reader r_b_armyReader r_b_warReader r_b_markedArmies r_b_markedWars r_b_latest r_b_trial r_b_foresight r_b_pairs b_latestStatus b_fractionTop b_fractionBottom b_marks 6 z_99 e_z_99 _ rfl _ rfl) (cV ht mv_X11_refuse tb_543 rfl rfl ⟨Nat.le_of_ble_eq_true rfl, Nat.le_of_ble_eq_true rfl⟩) hP hS hX [0] rfl rfl rfl rfl rfl rfl hl.1 rfl (Nat.le_of_ble_eq_true rfl) dX11_seenAt_69 ⟨Nat.le_of_ble_eq_true rfl, Nat.le_of_ble_eq_true rfl⟩ (fun H locs hP hS => ?_)
            have hP : PD D A [bl_X11 cy A_b (A_T 0) (A_a 0) r_b_war r_b_draftArmy r_b_draftWar r_b_reader r_b_armyReader r_b_warReader r_b_markedArmies r_b_markedWars r_b_latest r_b_trial r_b_foresight r_b_pairs z_99.2 b_fractionTop b_fractionBottom b_marks, [(A_T 0, .inl (cy 4, 4, .inr (.inr (.inr (.inr (trf4 (A_y0 0) (A_y1 0) (A_y2 0) (A_y3 0)))))))], bl_X8 cy A_y0 y0_row y0_missing y0_sort y0_many, bl_X8 cy A_y1 y1_row y1_missing y1_sort y1_many, bl_X8 cy A_y2 y2_row y2_missing y2_sort y2_many, bl_X8 cy A_y3 y3_row y3_missing y3_sort y3_many, bl_X0 cy A_a a_name a_courage a_weight a_medals a_stood a_fled a_liked a_votes a_count a_living a_pride a_quota a_melted a_lost] H := hP
            cases h
            subst hW1
            exact W.iret hx hb hr (fun _ ht9 _ => ⟨⟨_, (), rfl, rfl, hPt ht9 hP.1⟩, hS.F ht9⟩) hS.2.2 dX11_seenAt_72
        · have h := ie c_91 h
          refine lv_aload_n hx hb dX11_seenAt_44 rfl (lv_at hl 2 rfl) ?_
          refine lv_iload hx hb dX11_seenAt_45 (lv_at hl 0 rfl) ?_
          obtain ⟨z_100, e_z_100, h⟩ := bi h
          refine efVi (rest := []) ⟨hx, hb, hml, hown, ht⟩ (c_X11_refuse l D cy fu A_b (A_T 0) (A_a 0) r_b_war r_b_draftArmy r_b_draftWar r_b_reader r_b_armyReader r_b_warReader r_b_markedArmies r_b_markedWars r_b_latest r_b_trial r_b_foresight r_b_pairs b_latestStatus b_fractionTop b_fractionBottom b_marks z_86 z_100 e_z_100 _ rfl _ rfl) (cV ht mv_X11_refuse tb_543 rfl rfl ⟨Nat.le_of_ble_eq_true rfl, Nat.le_of_ble_eq_true rfl⟩) hP hS hX [0] rfl rfl rfl rfl rfl rfl hl.1 rfl (Nat.le_of_ble_eq_true rfl) dX11_seenAt_47 ⟨Nat.le_of_ble_eq_true rfl, Nat.le_of_ble_eq_true rfl⟩ (fun H locs hP hS => ?_)
          have hP : PD D A [bl_X11 cy A_b (A_T 0) (A_a 0) r_b_war r_b_draftArmy r_b_draftWar r_b_reader r_b_armyReader r_b_warReader r_b_markedArmies r_b_markedWars r_b_latest r_b_trial r_b_foresight r_b_pairs z_100.2 b_fractionTop b_fractionBottom b_marks, [(A_T 0, .inl (cy 4, 4, .inr (.inr (.inr (.inr (trf4 (A_y0 0) (A_y1 0) (A_y2 0) (A_y3 0)))))))], bl_X8 cy A_y0 y0_row y0_missing y0_sort y0_many, bl_X8 cy A_y1 y1_row y1_missing y1_sort y1_many, bl_X8 cy A_y2 y2_row y2_missing y2_sort y2_many, bl_X8 cy A_y3 y3_row y3_missing y3_sort y3_many, bl_X0 cy A_a a_name a_courage a_weight a_medals a_stood a_fled a_liked a_votes a_count a_living a_pride a_quota a_melted a_lost] H := hP
          cases h
          subst hW1
          exact W.iret hx hb hr (fun _ ht9 _ => ⟨⟨_, (), rfl, rfl, hPt ht9 hP.1⟩, hS.F ht9⟩) hS.2.2 dX11_seenAt_50
      · have h := it c_90 h
        refine lv_aload_n hx hb dX11_seenAt_33 rfl (lv_at hl 2 rfl) ?_
        refine lv_iconst (v := 1) hx hb dX11_seenAt_34 (by decide) ?_
        obtain ⟨z_101, e_z_101, h⟩ := bi h
        refine efVi (rest := []) ⟨hx, hb, hml, hown, ht⟩ (c_X11_refuse l D cy fu A_b (A_T 0) (A_a 0) r_b_war r_b_draftArmy r_b_draftWar r_b_reader r_b_armyReader r_b_warReader r_b_markedArmies r_b_markedWars r_b_latest r_b_trial r_b_foresight r_b_pairs b_latestStatus b_fractionTop b_fractionBottom b_marks 1 z_101 e_z_101 _ rfl _ rfl) (cV ht mv_X11_refuse tb_543 rfl rfl ⟨Nat.le_of_ble_eq_true rfl, Nat.le_of_ble_eq_true rfl⟩) hP hS hX [0] rfl rfl rfl rfl rfl rfl hl.1 rfl (Nat.le_of_ble_eq_true rfl) dX11_seenAt_35 ⟨Nat.le_of_ble_eq_true rfl, Nat.le_of_ble_eq_true rfl⟩ (fun H locs hP hS => ?_)
        have hP : PD D A [bl_X11 cy A_b (A_T 0) (A_a 0) r_b_war r_b_draftArmy r_b_draftWar r_b_reader r_b_armyReader r_b_warReader r_b_markedArmies r_b_markedWars r_b_latest r_b_trial r_b_foresight r_b_pairs z_101.2 b_fractionTop b_fractionBottom b_marks, [(A_T 0, .inl (cy 4, 4, .inr (.inr (.inr (.inr (trf4 (A_y0 0) (A_y1 0) (A_y2 0) (A_y3 0)))))))], bl_X8 cy A_y0 y0_row y0_missing y0_sort y0_many, bl_X8 cy A_y1 y1_row y1_missing y1_sort y1_many, bl_X8 cy A_y2 y2_row y2_missing y2_sort y2_many, bl_X8 cy A_y3 y3_row y3_missing y3_sort y3_many, bl_X0 cy A_a a_name a_courage a_weight a_medals a_stood a_fled a_liked a_votes a_count a_living a_pride a_quota a_melted a_lost] H := hP
        cases h
        subst hW1
        exact W.iret hx hb hr (fun _ ht9 _ => ⟨⟨_, (), rfl, rfl, hPt ht9 hP.1⟩, hS.F ht9⟩) hS.2.2 dX11_seenAt_38
  have h := ie c_85 h
  by_cases c_102 : x2 = 1
  · have h := it c_102 h
    refine roVq (rest := []) ⟨hx, hb, hml, hown, ht⟩ (c_X11_trayAt l D cy fu A_b (A_a 0) r_b_war r_b_draftArmy r_b_draftWar r_b_reader r_b_armyReader r_b_warReader r_b_markedArmies r_b_markedWars r_b_latest r_b_trial r_b_foresight r_b_pairs b_latestStatus b_fractionTop b_fractionBottom b_marks A_T (trf4 (A_y0 0) (A_y1 0) (A_y2 0) (A_y3 0)) x2 (some (A_y1 0)) (tray_1 c_102)) (cV ht mv_X11_trayAt tb_500 rfl rfl ⟨Nat.le_of_ble_eq_true rfl, Nat.le_of_ble_eq_true rfl⟩) (P_sub hP.1 [0, 1] rfl) hX rfl rfl rfl hl.1 rfl (Nat.le_of_ble_eq_true rfl) dX11_seenAt_2 ⟨Nat.le_of_ble_eq_true rfl, Nat.le_of_ble_eq_true rfl⟩ ?_
    refine lv_astore (lv' := [(5, .ref (A_y1 0)), (0, .ref (A_b 0)), (1, .int x1), (2, .int x2), (3, .int x3), (4, .int x4)]) hx hb dX11_seenAt_5 hl (by decide) rfl (fun ls hl => ?_)
    refine lv_aload_n hx hb dX11_seenAt_7 rfl (lv_at hl 1 rfl) ?_
    refine lv_iload_n hx hb dX11_seenAt_8 rfl (lv_at hl 2 rfl) ?_
    refine lv_aload hx hb dX11_seenAt_9 (lv_at hl 0 rfl) ?_
    refine lv_iload_n hx hb dX11_seenAt_11 rfl (lv_at hl 4 rfl) ?_
    obtain ⟨z_103, e_z_103, h⟩ := bi h
    refine roVi (rest := []) ⟨hx, hb, hml, hown, ht⟩ (c_X11_seenRefusal l D cy fu A_b (A_T 0) r_b_war r_b_draftArmy r_b_draftWar r_b_reader r_b_armyReader r_b_warReader r_b_markedArmies r_b_markedWars r_b_latest r_b_trial r_b_foresight r_b_pairs b_latestStatus b_fractionTop b_fractionBottom b_marks A_y1 y1_row y1_missing y1_sort y1_many A_a a_name a_courage a_weight a_medals a_stood a_fled a_liked a_votes a_count a_living a_pride a_quota a_melted a_lost x1 x3 z_103 e_z_103) (cV ht mv_X11_seenRefusal tb_1042 rfl rfl ⟨Nat.le_of_ble_eq_true rfl, Nat.le_of_ble_eq_true rfl⟩) (P_sub hP.1 [0, 3, 6] rfl) hX rfl rfl rfl hl.1 rfl (Nat.le_of_ble_eq_true rfl) dX11_seenAt_12 ⟨Nat.le_of_ble_eq_true rfl, Nat.le_of_ble_eq_true rfl⟩ ?_
    refine lv_istore (lv' := [(6, .int z_103), (5, .ref (A_y1 0)), (0, .ref (A_b 0)), (1, .int x1), (2, .int x2), (3, .int x3), (4, .int x4)]) hx hb dX11_seenAt_15 hl (by decide) rfl (fun ls hl => ?_)
    refine lv_iload hx hb dX11_seenAt_17 (lv_at hl 0 rfl) ?_
    refine lv_iconst (v := 1) hx hb dX11_seenAt_19 (by decide) ?_
    refine lv_icmp_eq (tgt := 33) hx hb dX11_seenAt_20 (by decide) (fun c_104 => ?_) (fun c_104 => ?_)
    · have h := it c_104 h
      refine lv_aload_n hx hb dX11_seenAt_33 rfl (lv_at hl 2 rfl) ?_
      refine lv_iconst (v := 1) hx hb dX11_seenAt_34 (by decide) ?_
      obtain ⟨z_105, e_z_105, h⟩ := bi h
      refine efVi (rest := []) ⟨hx, hb, hml, hown, ht⟩ (c_X11_refuse l D cy fu A_b (A_T 0) (A_a 0) r_b_war r_b_draftArmy r_b_draftWar r_b_reader r_b_armyReader r_b_warReader r_b_markedArmies r_b_markedWars r_b_latest r_b_trial r_b_foresight r_b_pairs b_latestStatus b_fractionTop b_fractionBottom b_marks 1 z_105 e_z_105 _ rfl _ rfl) (cV ht mv_X11_refuse tb_543 rfl rfl ⟨Nat.le_of_ble_eq_true rfl, Nat.le_of_ble_eq_true rfl⟩) hP hS hX [0] rfl rfl rfl rfl rfl rfl hl.1 rfl (Nat.le_of_ble_eq_true rfl) dX11_seenAt_35 ⟨Nat.le_of_ble_eq_true rfl, Nat.le_of_ble_eq_true rfl⟩ (fun H locs hP hS => ?_)
      have hP : PD D A [bl_X11 cy A_b (A_T 0) (A_a 0) r_b_war r_b_draftArmy r_b_draftWar r_b_reader r_b_armyReader r_b_warReader r_b_markedArmies r_b_markedWars r_b_latest r_b_trial r_b_foresight r_b_pairs z_105.2 b_fractionTop b_fractionBottom b_marks, [(A_T 0, .inl (cy 4, 4, .inr (.inr (.inr (.inr (trf4 (A_y0 0) (A_y1 0) (A_y2 0) (A_y3 0)))))))], bl_X8 cy A_y0 y0_row y0_missing y0_sort y0_many, bl_X8 cy A_y1 y1_row y1_missing y1_sort y1_many, bl_X8 cy A_y2 y2_row y2_missing y2_sort y2_many, bl_X8 cy A_y3 y3_row y3_missing y3_sort y3_many, bl_X0 cy A_a a_name a_courage a_weight a_medals a_stood a_fled a_liked a_votes a_count a_living a_pride a_quota a_melted a_lost] H := hP
      cases h
      subst hW1
      exact W.iret hx hb hr (fun _ ht9 _ => ⟨⟨_, (), rfl, rfl, hPt ht9 hP.1⟩, hS.F ht9⟩) hS.2.2 dX11_seenAt_38
    · have h := ie c_104 h
      refine lv_iload hx hb dX11_seenAt_23 (lv_at hl 6 rfl) ?_
      refine lv_iconst (v := 0) hx hb dX11_seenAt_25 (by decide) ?_
      refine lv_iconst (v := 1) hx hb dX11_seenAt_26 (by decide) ?_
      obtain ⟨z_106, e_z_106, h⟩ := bi h
      refine roSi (rest := []) ⟨hx, hb, hml, hown, ht⟩ (c_X11_within l D cy fu  x4 0 1 z_106 e_z_106) (cS ht ms_X11_within tb_504 rfl rfl ⟨Nat.le_of_ble_eq_true rfl, Nat.le_of_ble_eq_true rfl⟩) (P_sub hP.1 [] rfl) hX rfl hl.1 rfl (Nat.le_of_ble_eq_true rfl) dX11_seenAt_27 ⟨Nat.le_of_ble_eq_true rfl, Nat.le_of_ble_eq_true rfl⟩ ?_
      refine lv_if_ne (tgt := 39) hx hb dX11_seenAt_30 (by decide) (fun c_107 => ?_) (fun c_107 => ?_)
      · have h := ie c_107 h
        refine lv_iload hx hb dX11_seenAt_39 (lv_at hl 0 rfl) ?_
        refine lv_if_eq (tgt := 51) hx hb dX11_seenAt_41 (by decide) (fun c_108 => ?_) (fun c_108 => ?_)
        · have h := it c_108 h
          refine lv_aload_n hx hb dX11_seenAt_51 rfl (lv_at hl 2 rfl) ?_
          refine lv_iload_n hx hb dX11_seenAt_52 rfl (lv_at hl 3 rfl) ?_
          refine lv_aload hx hb dX11_seenAt_53 (lv_at hl 1 rfl) ?_
          refine lv_iload_n hx hb dX11_seenAt_55 rfl (lv_at hl 5 rfl) ?_
          obtain ⟨z_109, e_z_109, h⟩ := bi h
          refine roVi (rest := []) ⟨hx, hb, hml, hown, ht⟩ (c_X11_fittingCourages l D cy fu A_b (A_T 0) r_b_war r_b_draftArmy r_b_draftWar r_b_reader r_b_armyReader r_b_warReader r_b_markedArmies r_b_markedWars r_b_latest r_b_trial r_b_foresight r_b_pairs b_latestStatus b_fractionTop b_fractionBottom b_marks A_y1 y1_row y1_missing y1_sort y1_many A_a a_name a_courage a_weight a_medals a_stood a_fled a_liked a_votes a_count a_living a_pride a_quota a_melted a_lost x1 x3 z_109 e_z_109) (cV ht mv_X11_fittingCourages tb_1046 rfl rfl ⟨Nat.le_of_ble_eq_true rfl, Nat.le_of_ble_eq_true rfl⟩) (P_sub hP.1 [0, 3, 6] rfl) hX rfl rfl rfl hl.1 rfl (Nat.le_of_ble_eq_true rfl) dX11_seenAt_56 ⟨Nat.le_of_ble_eq_true rfl, Nat.le_of_ble_eq_true rfl⟩ ?_
          refine lv_istore (lv' := [(7, .int z_109), (6, .int z_103), (5, .ref (A_y1 0)), (0, .ref (A_b 0)), (1, .int x1), (2, .int x2), (3, .int x3), (4, .int x4)]) hx hb dX11_seenAt_59 hl (by decide) rfl (fun ls hl => ?_)
          refine lv_iload hx hb dX11_seenAt_61 (lv_at hl 0 rfl) ?_
          refine lv_if_ne (tgt := 73) hx hb dX11_seenAt_63 (by decide) (fun c_110 => ?_) (fun c_110 => ?_)
          · have h := ie c_110 h
            refine lv_aload_n hx hb dX11_seenAt_73 rfl (lv_at hl 3 rfl) ?_
            refine lv_iload hx hb dX11_seenAt_74 (lv_at hl 7 rfl) ?_
            refine lv_if_ne (tgt := 87) hx hb dX11_seenAt_76 (by decide) (fun c_111 => ?_) (fun c_111 => ?_)
            · have h := ie c_111 h
              refine lv_iload hx hb dX11_seenAt_87 (lv_at hl 0 rfl) ?_
              obtain ⟨z_112, e_z_112, h⟩ := bi h
              refine roSi (rest := [.ref (A_b 0)]) ⟨hx, hb, hml, hown, ht⟩ (c_X11_lastOf l D cy fu  z_109 z_112 e_z_112) (cS ht ms_X11_lastOf tb_1056 rfl rfl ⟨Nat.le_of_ble_eq_true rfl, Nat.le_of_ble_eq_true rfl⟩) (P_sub hP.1 [] rfl) hX rfl hl.1 rfl (Nat.le_of_ble_eq_true rfl) dX11_seenAt_89 ⟨Nat.le_of_ble_eq_true rfl, Nat.le_of_ble_eq_true rfl⟩ ?_
              obtain ⟨z_113, e_z_113, h⟩ := bi h
              refine efVi (rest := []) ⟨hx, hb, hml, hown, ht⟩ (c_X11_answer l D cy fu A_b (A_T 0) (A_a 0) r_b_war r_b_draftArmy r_b_draftWar r_b_reader r_b_armyReader r_b_warReader r_b_markedArmies r_b_markedWars r_b_latest r_b_trial r_b_foresight r_b_pairs b_latestStatus b_fractionTop b_fractionBottom b_marks z_112 z_113 e_z_113 _ rfl _ rfl) (cV ht mv_X11_answer tb_696 rfl rfl ⟨Nat.le_of_ble_eq_true rfl, Nat.le_of_ble_eq_true rfl⟩) hP hS hX [0] rfl rfl rfl rfl rfl rfl hl.1 rfl (Nat.le_of_ble_eq_true rfl) dX11_seenAt_92 ⟨Nat.le_of_ble_eq_true rfl, Nat.le_of_ble_eq_true rfl⟩ (fun H locs hP hS => ?_)
              have hP : PD D A [bl_X11 cy A_b (A_T 0) (A_a 0) r_b_war r_b_draftArmy r_b_draftWar r_b_reader r_b_armyReader r_b_warReader r_b_markedArmies r_b_markedWars r_b_latest r_b_trial r_b_foresight r_b_pairs z_113.2 b_fractionTop b_fractionBottom b_marks, [(A_T 0, .inl (cy 4, 4, .inr (.inr (.inr (.inr (trf4 (A_y0 0) (A_y1 0) (A_y2 0) (A_y3 0)))))))], bl_X8 cy A_y0 y0_row y0_missing y0_sort y0_many, bl_X8 cy A_y1 y1_row y1_missing y1_sort y1_many, bl_X8 cy A_y2 y2_row y2_missing y2_sort y2_many, bl_X8 cy A_y3 y3_row y3_missing y3_sort y3_many, bl_X0 cy A_a a_name a_courage a_weight a_medals a_stood a_fled a_liked a_votes a_count a_living a_pride a_quota a_melted a_lost] H := hP
              cases h
              subst hW1
              exact W.iret hx hb hr (fun _ ht9 _ => ⟨⟨_, (), rfl, rfl, hPt ht9 hP.1⟩, hS.F ht9⟩) hS.2.2 dX11_seenAt_95
            · have h := it c_111 h
              refine lv_iload hx hb dX11_seenAt_79 (lv_at hl 0 rfl) ?_
              obtain ⟨z_114, e_z_114, h⟩ := bi h
              refine roSi (rest := [.ref (A_b 0)]) ⟨hx, hb, hml, hown, ht⟩ (c_X11_firstOf l D cy fu  z_109 z_114 e_z_114) (cS ht ms_X11_firstOf tb_1055 rfl rfl ⟨Nat.le_of_ble_eq_true rfl, Nat.le_of_ble_eq_true rfl⟩) (P_sub hP.1 [] rfl) hX rfl hl.1 rfl (Nat.le_of_ble_eq_true rfl) dX11_seenAt_81 ⟨Nat.le_of_ble_eq_true rfl, Nat.le_of_ble_eq_true rfl⟩ ?_
              refine lv_goto (tgt := 92) hx hb dX11_seenAt_84 (by decide) ?_
              obtain ⟨z_115, e_z_115, h⟩ := bi h
              refine efVi (rest := []) ⟨hx, hb, hml, hown, ht⟩ (c_X11_answer l D cy fu A_b (A_T 0) (A_a 0) r_b_war r_b_draftArmy r_b_draftWar r_b_reader r_b_armyReader r_b_warReader r_b_markedArmies r_b_markedWars r_b_latest r_b_trial r_b_foresight r_b_pairs b_latestStatus b_fractionTop b_fractionBottom b_marks z_114 z_115 e_z_115 _ rfl _ rfl) (cV ht mv_X11_answer tb_696 rfl rfl ⟨Nat.le_of_ble_eq_true rfl, Nat.le_of_ble_eq_true rfl⟩) hP hS hX [0] rfl rfl rfl rfl rfl rfl hl.1 rfl (Nat.le_of_ble_eq_true rfl) dX11_seenAt_92 ⟨Nat.le_of_ble_eq_true rfl, Nat.le_of_ble_eq_true rfl⟩ (fun H locs hP hS => ?_)
              have hP : PD D A [bl_X11 cy A_b (A_T 0) (A_a 0) r_b_war r_b_draftArmy r_b_draftWar r_b_reader r_b_armyReader r_b_warReader r_b_markedArmies r_b_markedWars r_b_latest r_b_trial r_b_foresight r_b_pairs z_115.2 b_fractionTop b_fractionBottom b_marks, [(A_T 0, .inl (cy 4, 4, .inr (.inr (.inr (.inr (trf4 (A_y0 0) (A_y1 0) (A_y2 0) (A_y3 0)))))))], bl_X8 cy A_y0 y0_row y0_missing y0_sort y0_many, bl_X8 cy A_y1 y1_row y1_missing y1_sort y1_many, bl_X8 cy A_y2 y2_row y2_missing y2_sort y2_many, bl_X8 cy A_y3 y3_row y3_missing y3_sort y3_many, bl_X0 cy A_a a_name a_courage a_weight a_medals a_stood a_fled a_liked a_votes a_count a_living a_pride a_quota a_melted a_lost] H := hP
              cases h
              subst hW1
              exact W.iret hx hb hr (fun _ ht9 _ => ⟨⟨_, (), rfl, rfl, hPt ht9 hP.1⟩, hS.F ht9⟩) hS.2.2 dX11_seenAt_95
          · have h := it c_110 h
            refine lv_aload_n hx hb dX11_seenAt_66 rfl (lv_at hl 3 rfl) ?_
            refine lv_bipush (v := 6) hx hb dX11_seenAt_67 (by decide) ?_
            obtain ⟨z_116, e_z_116, h⟩ := bi h
            refine efVi (rest := []) ⟨hx, hb, hml, hown, ht⟩ (c_X11_refuse l D cy fu A_b (A_T 0) (A_a 0) r_b_war r_b_draftArmy r_b_draftWar r_b_reader r_b_armyReader r_b_warReader r_b_markedArmies r_b_markedWars r_b_latest r_b_trial r_b_foresight r_b_pairs b_latestStatus b_fractionTop b_fractionBottom b_marks 6 z_116 e_z_116 _ rfl _ rfl) (cV ht mv_X11_refuse tb_543 rfl rfl ⟨Nat.le_of_ble_eq_true rfl, Nat.le_of_ble_eq_true rfl⟩) hP hS hX [0] rfl rfl rfl rfl rfl rfl hl.1 rfl (Nat.le_of_ble_eq_true rfl) dX11_seenAt_69 ⟨Nat.le_of_ble_eq_true rfl, Nat.le_of_ble_eq_true rfl⟩ (fun H locs hP hS => ?_)
            have hP : PD D A [bl_X11 cy A_b (A_T 0) (A_a 0) r_b_war r_b_draftArmy r_b_draftWar r_b_reader r_b_armyReader r_b_warReader r_b_markedArmies r_b_markedWars r_b_latest r_b_trial r_b_foresight r_b_pairs z_116.2 b_fractionTop b_fractionBottom b_marks, [(A_T 0, .inl (cy 4, 4, .inr (.inr (.inr (.inr (trf4 (A_y0 0) (A_y1 0) (A_y2 0) (A_y3 0)))))))], bl_X8 cy A_y0 y0_row y0_missing y0_sort y0_many, bl_X8 cy A_y1 y1_row y1_missing y1_sort y1_many, bl_X8 cy A_y2 y2_row y2_missing y2_sort y2_many, bl_X8 cy A_y3 y3_row y3_missing y3_sort y3_many, bl_X0 cy A_a a_name a_courage a_weight a_medals a_stood a_fled a_liked a_votes a_count a_living a_pride a_quota a_melted a_lost] H := hP
            cases h
            subst hW1
            exact W.iret hx hb hr (fun _ ht9 _ => ⟨⟨_, (), rfl, rfl, hPt ht9 hP.1⟩, hS.F ht9⟩) hS.2.2 dX11_seenAt_72
        · have h := ie c_108 h
          refine lv_aload_n hx hb dX11_seenAt_44 rfl (lv_at hl 2 rfl) ?_
          refine lv_iload hx hb dX11_seenAt_45 (lv_at hl 0 rfl) ?_
          obtain ⟨z_117, e_z_117, h⟩ := bi h
          refine efVi (rest := []) ⟨hx, hb, hml, hown, ht⟩ (c_X11_refuse l D cy fu A_b (A_T 0) (A_a 0) r_b_war r_b_draftArmy r_b_draftWar r_b_reader r_b_armyReader r_b_warReader r_b_markedArmies r_b_markedWars r_b_latest r_b_trial r_b_foresight r_b_pairs b_latestStatus b_fractionTop b_fractionBottom b_marks z_103 z_117 e_z_117 _ rfl _ rfl) (cV ht mv_X11_refuse tb_543 rfl rfl ⟨Nat.le_of_ble_eq_true rfl, Nat.le_of_ble_eq_true rfl⟩) hP hS hX [0] rfl rfl rfl rfl rfl rfl hl.1 rfl (Nat.le_of_ble_eq_true rfl) dX11_seenAt_47 ⟨Nat.le_of_ble_eq_true rfl, Nat.le_of_ble_eq_true rfl⟩ (fun H locs hP hS => ?_)
          have hP : PD D A [bl_X11 cy A_b (A_T 0) (A_a 0) r_b_war r_b_draftArmy r_b_draftWar r_b_reader r_b_armyReader r_b_warReader r_b_markedArmies r_b_markedWars r_b_latest r_b_trial r_b_foresight r_b_pairs z_117.2 b_fractionTop b_fractionBottom b_marks, [(A_T 0, .inl (cy 4, 4, .inr (.inr (.inr (.inr (trf4 (A_y0 0) (A_y1 0) (A_y2 0) (A_y3 0)))))))], bl_X8 cy A_y0 y0_row y0_missing y0_sort y0_many, bl_X8 cy A_y1 y1_row y1_missing y1_sort y1_many, bl_X8 cy A_y2 y2_row y2_missing y2_sort y2_many, bl_X8 cy A_y3 y3_row y3_missing y3_sort y3_many, bl_X0 cy A_a a_name a_courage a_weight a_medals a_stood a_fled a_liked a_votes a_count a_living a_pride a_quota a_melted a_lost] H := hP
          cases h
          subst hW1
          exact W.iret hx hb hr (fun _ ht9 _ => ⟨⟨_, (), rfl, rfl, hPt ht9 hP.1⟩, hS.F ht9⟩) hS.2.2 dX11_seenAt_50
      · have h := it c_107 h
        refine lv_aload_n hx hb dX11_seenAt_33 rfl (lv_at hl 2 rfl) ?_
        refine lv_iconst (v := 1) hx hb dX11_seenAt_34 (by decide) ?_
        obtain ⟨z_118, e_z_118, h⟩ := bi h
        refine efVi (rest := []) ⟨hx, hb, hml, hown, ht⟩ (c_X11_refuse l D cy fu A_b (A_T 0) (A_a 0) r_b_war r_b_draftArmy r_b_draftWar r_b_reader r_b_armyReader r_b_warReader r_b_markedArmies r_b_markedWars r_b_latest r_b_trial r_b_foresight r_b_pairs b_latestStatus b_fractionTop b_fractionBottom b_marks 1 z_118 e_z_118 _ rfl _ rfl) (cV ht mv_X11_refuse tb_543 rfl rfl ⟨Nat.le_of_ble_eq_true rfl, Nat.le_of_ble_eq_true rfl⟩) hP hS hX [0] rfl rfl rfl rfl rfl rfl hl.1 rfl (Nat.le_of_ble_eq_true rfl) dX11_seenAt_35 ⟨Nat.le_of_ble_eq_true rfl, Nat.le_of_ble_eq_true rfl⟩ (fun H locs hP hS => ?_)
        have hP : PD D A [bl_X11 cy A_b (A_T 0) (A_a 0) r_b_war r_b_draftArmy r_b_draftWar r_b_reader r_b_armyReader r_b_warReader r_b_markedArmies r_b_markedWars r_b_latest r_b_trial r_b_foresight r_b_pairs z_118.2 b_fractionTop b_fractionBottom b_marks, [(A_T 0, .inl (cy 4, 4, .inr (.inr (.inr (.inr (trf4 (A_y0 0) (A_y1 0) (A_y2 0) (A_y3 0)))))))], bl_X8 cy A_y0 y0_row y0_missing y0_sort y0_many, bl_X8 cy A_y1 y1_row y1_missing y1_sort y1_many, bl_X8 cy A_y2 y2_row y2_missing y2_sort y2_many, bl_X8 cy A_y3 y3_row y3_missing y3_sort y3_many, bl_X0 cy A_a a_name a_courage a_weight a_medals a_stood a_fled a_liked a_votes a_count a_living a_pride a_quota a_melted a_lost] H := hP
        cases h
        subst hW1
        exact W.iret hx hb hr (fun _ ht9 _ => ⟨⟨_, (), rfl, rfl, hPt ht9 hP.1⟩, hS.F ht9⟩) hS.2.2 dX11_seenAt_38
  have h := ie c_102 h
  by_cases c_119 : x2 = 2
  · have h := it c_119 h
    refine roVq (rest := []) ⟨hx, hb, hml, hown, ht⟩ (c_X11_trayAt l D cy fu A_b (A_a 0) r_b_war r_b_draftArmy r_b_draftWar r_b_reader r_b_armyReader r_b_warReader r_b_markedArmies r_b_markedWars r_b_latest r_b_trial r_b_foresight r_b_pairs b_latestStatus b_fractionTop b_fractionBottom b_marks A_T (trf4 (A_y0 0) (A_y1 0) (A_y2 0) (A_y3 0)) x2 (some (A_y2 0)) (tray_2 c_119)) (cV ht mv_X11_trayAt tb_500 rfl rfl ⟨Nat.le_of_ble_eq_true rfl, Nat.le_of_ble_eq_true rfl⟩) (P_sub hP.1 [0, 1] rfl) hX rfl rfl rfl hl.1 rfl (Nat.le_of_ble_eq_true rfl) dX11_seenAt_2 ⟨Nat.le_of_ble_eq_true rfl, Nat.le_of_ble_eq_true rfl⟩ ?_
    refine lv_astore (lv' := [(5, .ref (A_y2 0)), (0, .ref (A_b 0)), (1, .int x1), (2, .int x2), (3, .int x3), (4, .int x4)]) hx hb dX11_seenAt_5 hl (by decide) rfl (fun ls hl => ?_)
    refine lv_aload_n hx hb dX11_seenAt_7 rfl (lv_at hl 1 rfl) ?_
    refine lv_iload_n hx hb dX11_seenAt_8 rfl (lv_at hl 2 rfl) ?_
    refine lv_aload hx hb dX11_seenAt_9 (lv_at hl 0 rfl) ?_
    refine lv_iload_n hx hb dX11_seenAt_11 rfl (lv_at hl 4 rfl) ?_
    obtain ⟨z_120, e_z_120, h⟩ := bi h
    refine roVi (rest := []) ⟨hx, hb, hml, hown, ht⟩ (c_X11_seenRefusal l D cy fu A_b (A_T 0) r_b_war r_b_draftArmy r_b_draftWar r_b_reader r_b_armyReader r_b_warReader r_b_markedArmies r_b_markedWars r_b_latest r_b_trial r_b_foresight r_b_pairs b_latestStatus b_fractionTop b_fractionBottom b_marks A_y2 y2_row y2_missing y2_sort y2_many A_a a_name a_courage a_weight a_medals a_stood a_fled a_liked a_votes a_count a_living a_pride a_quota a_melted a_lost x1 x3 z_120 e_z_120) (cV ht mv_X11_seenRefusal tb_1042 rfl rfl ⟨Nat.le_of_ble_eq_true rfl, Nat.le_of_ble_eq_true rfl⟩) (P_sub hP.1 [0, 4, 6] rfl) hX rfl rfl rfl hl.1 rfl (Nat.le_of_ble_eq_true rfl) dX11_seenAt_12 ⟨Nat.le_of_ble_eq_true rfl, Nat.le_of_ble_eq_true rfl⟩ ?_
    refine lv_istore (lv' := [(6, .int z_120), (5, .ref (A_y2 0)), (0, .ref (A_b 0)), (1, .int x1), (2, .int x2), (3, .int x3), (4, .int x4)]) hx hb dX11_seenAt_15 hl (by decide) rfl (fun ls hl => ?_)
    refine lv_iload hx hb dX11_seenAt_17 (lv_at hl 0 rfl) ?_
    refine lv_iconst (v := 1) hx hb dX11_seenAt_19 (by decide) ?_
    refine lv_icmp_eq (tgt := 33) hx hb dX11_seenAt_20 (by decide) (fun c_121 => ?_) (fun c_121 => ?_)
    · have h := it c_121 h
      refine lv_aload_n hx hb dX11_seenAt_33 rfl (lv_at hl 2 rfl) ?_
      refine lv_iconst (v := 1) hx hb dX11_seenAt_34 (by decide) ?_
      obtain ⟨z_122, e_z_122, h⟩ := bi h
      refine efVi (rest := []) ⟨hx, hb, hml, hown, ht⟩ (c_X11_refuse l D cy fu A_b (A_T 0) (A_a 0) r_b_war r_b_draftArmy r_b_draftWar r_b_reader r_b_armyReader r_b_warReader r_b_markedArmies r_b_markedWars r_b_latest r_b_trial r_b_foresight r_b_pairs b_latestStatus b_fractionTop b_fractionBottom b_marks 1 z_122 e_z_122 _ rfl _ rfl) (cV ht mv_X11_refuse tb_543 rfl rfl ⟨Nat.le_of_ble_eq_true rfl, Nat.le_of_ble_eq_true rfl⟩) hP hS hX [0] rfl rfl rfl rfl rfl rfl hl.1 rfl (Nat.le_of_ble_eq_true rfl) dX11_seenAt_35 ⟨Nat.le_of_ble_eq_true rfl, Nat.le_of_ble_eq_true rfl⟩ (fun H locs hP hS => ?_)
      have hP : PD D A [bl_X11 cy A_b (A_T 0) (A_a 0) r_b_war r_b_draftArmy r_b_draftWar r_b_reader r_b_armyReader r_b_warReader r_b_markedArmies r_b_markedWars r_b_latest r_b_trial r_b_foresight r_b_pairs z_122.2 b_fractionTop b_fractionBottom b_marks, [(A_T 0, .inl (cy 4, 4, .inr (.inr (.inr (.inr (trf4 (A_y0 0) (A_y1 0) (A_y2 0) (A_y3 0)))))))], bl_X8 cy A_y0 y0_row y0_missing y0_sort y0_many, bl_X8 cy A_y1 y1_row y1_missing y1_sort y1_many, bl_X8 cy A_y2 y2_row y2_missing y2_sort y2_many, bl_X8 cy A_y3 y3_row y3_missing y3_sort y3_many, bl_X0 cy A_a a_name a_courage a_weight a_medals a_stood a_fled a_liked a_votes a_count a_living a_pride a_quota a_melted a_lost] H := hP
      cases h
      subst hW1
      exact W.iret hx hb hr (fun _ ht9 _ => ⟨⟨_, (), rfl, rfl, hPt ht9 hP.1⟩, hS.F ht9⟩) hS.2.2 dX11_seenAt_38
    · have h := ie c_121 h
      refine lv_iload hx hb dX11_seenAt_23 (lv_at hl 6 rfl) ?_
      refine lv_iconst (v := 0) hx hb dX11_seenAt_25 (by decide) ?_
      refine lv_iconst (v := 1) hx hb dX11_seenAt_26 (by decide) ?_
      obtain ⟨z_123, e_z_123, h⟩ := bi h
      refine roSi (rest := []) ⟨hx, hb, hml, hown, ht⟩ (c_X11_within l D cy fu  x4 0 1 z_123 e_z_123) (cS ht ms_X11_within tb_504 rfl rfl ⟨Nat.le_of_ble_eq_true rfl, Nat.le_of_ble_eq_true rfl⟩) (P_sub hP.1 [] rfl) hX rfl hl.1 rfl (Nat.le_of_ble_eq_true rfl) dX11_seenAt_27 ⟨Nat.le_of_ble_eq_true rfl, Nat.le_of_ble_eq_true rfl⟩ ?_
      refine lv_if_ne (tgt := 39) hx hb dX11_seenAt_30 (by decide) (fun c_124 => ?_) (fun c_124 => ?_)
      · have h := ie c_124 h
        refine lv_iload hx hb dX11_seenAt_39 (lv_at hl 0 rfl) ?_
        refine lv_if_eq (tgt := 51) hx hb dX11_seenAt_41 (by decide) (fun c_125 => ?_) (fun c_125 => ?_)
        · have h := it c_125 h
          refine lv_aload_n hx hb dX11_seenAt_51 rfl (lv_at hl 2 rfl) ?_
          refine lv_iload_n hx hb dX11_seenAt_52 rfl (lv_at hl 3 rfl) ?_
          refine lv_aload hx hb dX11_seenAt_53 (lv_at hl 1 rfl) ?_
          refine lv_iload_n hx hb dX11_seenAt_55 rfl (lv_at hl 5 rfl) ?_
          obtain ⟨z_126, e_z_126, h⟩ := bi h
          refine roVi (rest := []) ⟨hx, hb, hml, hown, ht⟩ (c_X11_fittingCourages l D cy fu A_b (A_T 0) r_b_war r_b_draftArmy r_b_draftWar r_b_reader r_b_armyReader r_b_warReader r_b_markedArmies r_b_markedWars r_b_latest r_b_trial r_b_foresight r_b_pairs b_latestStatus b_fractionTop b_fractionBottom b_marks A_y2 y2_row y2_missing y2_sort y2_many A_a a_name a_courage a_weight a_medals a_stood a_fled a_liked a_votes a_count a_living a_pride a_quota a_melted a_lost x1 x3 z_126 e_z_126) (cV ht mv_X11_fittingCourages tb_1046 rfl rfl ⟨Nat.le_of_ble_eq_true rfl, Nat.le_of_ble_eq_true rfl⟩) (P_sub hP.1 [0, 4, 6] rfl) hX rfl rfl rfl hl.1 rfl (Nat.le_of_ble_eq_true rfl) dX11_seenAt_56 ⟨Nat.le_of_ble_eq_true rfl, Nat.le_of_ble_eq_true rfl⟩ ?_
          refine lv_istore (lv' := [(7, .int z_126), (6, .int z_120), (5, .ref (A_y2 0)), (0, .ref (A_b 0)), (1, .int x1), (2, .int x2), (3, .int x3), (4, .int x4)]) hx hb dX11_seenAt_59 hl (by decide) rfl (fun ls hl => ?_)
          refine lv_iload hx hb dX11_seenAt_61 (lv_at hl 0 rfl) ?_
          refine lv_if_ne (tgt := 73) hx hb dX11_seenAt_63 (by decide) (fun c_127 => ?_) (fun c_127 => ?_)
          · have h := ie c_127 h
            refine lv_aload_n hx hb dX11_seenAt_73 rfl (lv_at hl 3 rfl) ?_
            refine lv_iload hx hb dX11_seenAt_74 (lv_at hl 7 rfl) ?_
            refine lv_if_ne (tgt := 87) hx hb dX11_seenAt_76 (by decide) (fun c_128 => ?_) (fun c_128 => ?_)
            · have h := ie c_128 h
              refine lv_iload hx hb dX11_seenAt_87 (lv_at hl 0 rfl) ?_
              obtain ⟨z_129, e_z_129, h⟩ := bi h
              refine roSi (rest := [.ref (A_b 0)]) ⟨hx, hb, hml, hown, ht⟩ (c_X11_lastOf l D cy fu  z_126 z_129 e_z_129) (cS ht ms_X11_lastOf tb_1056 rfl rfl ⟨Nat.le_of_ble_eq_true rfl, Nat.le_of_ble_eq_true rfl⟩) (P_sub hP.1 [] rfl) hX rfl hl.1 rfl (Nat.le_of_ble_eq_true rfl) dX11_seenAt_89 ⟨Nat.le_of_ble_eq_true rfl, Nat.le_of_ble_eq_true rfl⟩ ?_
              obtain ⟨z_130, e_z_130, h⟩ := bi h
              refine efVi (rest := []) ⟨hx, hb, hml, hown, ht⟩ (c_X11_answer l D cy fu A_b (A_T 0) (A_a 0) r_b_war r_b_draftArmy r_b_draftWar r_b_reader r_b_armyReader r_b_warReader r_b_markedArmies r_b_markedWars r_b_latest r_b_trial r_b_foresight r_b_pairs b_latestStatus b_fractionTop b_fractionBottom b_marks z_129 z_130 e_z_130 _ rfl _ rfl) (cV ht mv_X11_answer tb_696 rfl rfl ⟨Nat.le_of_ble_eq_true rfl, Nat.le_of_ble_eq_true rfl⟩) hP hS hX [0] rfl rfl rfl rfl rfl rfl hl.1 rfl (Nat.le_of_ble_eq_true rfl) dX11_seenAt_92 ⟨Nat.le_of_ble_eq_true rfl, Nat.le_of_ble_eq_true rfl⟩ (fun H locs hP hS => ?_)
              have hP : PD D A [bl_X11 cy A_b (A_T 0) (A_a 0) r_b_war r_b_draftArmy r_b_draftWar r_b_reader r_b_armyReader r_b_warReader r_b_markedArmies r_b_markedWars r_b_latest r_b_trial r_b_foresight r_b_pairs z_130.2 b_fractionTop b_fractionBottom b_marks, [(A_T 0, .inl (cy 4, 4, .inr (.inr (.inr (.inr (trf4 (A_y0 0) (A_y1 0) (A_y2 0) (A_y3 0)))))))], bl_X8 cy A_y0 y0_row y0_missing y0_sort y0_many, bl_X8 cy A_y1 y1_row y1_missing y1_sort y1_many, bl_X8 cy A_y2 y2_row y2_missing y2_sort y2_many, bl_X8 cy A_y3 y3_row y3_missing y3_sort y3_many, bl_X0 cy A_a a_name a_courage a_weight a_medals a_stood a_fled a_liked a_votes a_count a_living a_pride a_quota a_melted a_lost] H := hP
              cases h
              subst hW1
              exact W.iret hx hb hr (fun _ ht9 _ => ⟨⟨_, (), rfl, rfl, hPt ht9 hP.1⟩, hS.F ht9⟩) hS.2.2 dX11_seenAt_95
            · have h := it c_128 h
              refine lv_iload hx hb dX11_seenAt_79 (lv_at hl 0 rfl) ?_
              obtain ⟨z_131, e_z_131, h⟩ := bi h
              refine roSi (rest := [.ref (A_b 0)]) ⟨hx, hb, hml, hown, ht⟩ (c_X11_firstOf l D cy fu  z_126 z_131 e_z_131) (cS ht ms_X11_firstOf tb_1055 rfl rfl ⟨Nat.le_of_ble_eq_true rfl, Nat.le_of_ble_eq_true rfl⟩) (P_sub hP.1 [] rfl) hX rfl hl.1 rfl (Nat.le_of_ble_eq_true rfl) dX11_seenAt_81 ⟨Nat.le_of_ble_eq_true rfl, Nat.le_of_ble_eq_true rfl⟩ ?_
              refine lv_goto (tgt := 92) hx hb dX11_seenAt_84 (by decide) ?_
              obtain ⟨z_132, e_z_132, h⟩ := bi h
              refine efVi (rest := []) ⟨hx, hb, hml, hown, ht⟩ (c_X11_answer l D cy fu A_b (A_T 0) (A_a 0) r_b_war r_b_draftArmy r_b_draftWar r_b_reader r_b_armyReader r_b_warReader r_b_markedArmies r_b_markedWars r_b_latest r_b_trial r_b_foresight r_b_pairs b_latestStatus b_fractionTop b_fractionBottom b_marks z_131 z_132 e_z_132 _ rfl _ rfl) (cV ht mv_X11_answer tb_696 rfl rfl ⟨Nat.le_of_ble_eq_true rfl, Nat.le_of_ble_eq_true rfl⟩) hP hS hX [0] rfl rfl rfl rfl rfl rfl hl.1 rfl (Nat.le_of_ble_eq_true rfl) dX11_seenAt_92 ⟨Nat.le_of_ble_eq_true rfl, Nat.le_of_ble_eq_true rfl⟩ (fun H locs hP hS => ?_)
              have hP : PD D A [bl_X11 cy A_b (A_T 0) (A_a 0) r_b_war r_b_draftArmy r_b_draftWar r_b_reader r_b_armyReader r_b_warReader r_b_markedArmies r_b_markedWars r_b_latest r_b_trial r_b_foresight r_b_pairs z_132.2 b_fractionTop b_fractionBottom b_marks, [(A_T 0, .inl (cy 4, 4, .inr (.inr (.inr (.inr (trf4 (A_y0 0) (A_y1 0) (A_y2 0) (A_y3 0)))))))], bl_X8 cy A_y0 y0_row y0_missing y0_sort y0_many, bl_X8 cy A_y1 y1_row y1_missing y1_sort y1_many, bl_X8 cy A_y2 y2_row y2_missing y2_sort y2_many, bl_X8 cy A_y3 y3_row y3_missing y3_sort y3_many, bl_X0 cy A_a a_name a_courage a_weight a_medals a_stood a_fled a_liked a_votes a_count a_living a_pride a_quota a_melted a_lost] H := hP
              cases h
              subst hW1
              exact W.iret hx hb hr (fun _ ht9 _ => ⟨⟨_, (), rfl, rfl, hPt ht9 hP.1⟩, hS.F ht9⟩) hS.2.2 dX11_seenAt_95
          · have h := it c_127 h
            refine lv_aload_n hx hb dX11_seenAt_66 rfl (lv_at hl 3 rfl) ?_
            refine lv_bipush (v := 6) hx hb dX11_seenAt_67 (by decide) ?_
            obtain ⟨z_133, e_z_133, h⟩ := bi h
            refine efVi (rest := []) ⟨hx, hb, hml, hown, ht⟩ (c_X11_refuse l D cy fu A_b (A_T 0) (A_a 0) r_b_war r_b_draftArmy r_b_draftWar r_b_reader r_b_armyReader r_b_warReader r_b_markedArmies r_b_markedWars r_b_latest r_b_trial r_b_foresight r_b_pairs b_latestStatus b_fractionTop b_fractionBottom b_marks 6 z_133 e_z_133 _ rfl _ rfl) (cV ht mv_X11_refuse tb_543 rfl rfl ⟨Nat.le_of_ble_eq_true rfl, Nat.le_of_ble_eq_true rfl⟩) hP hS hX [0] rfl rfl rfl rfl rfl rfl hl.1 rfl (Nat.le_of_ble_eq_true rfl) dX11_seenAt_69 ⟨Nat.le_of_ble_eq_true rfl, Nat.le_of_ble_eq_true rfl⟩ (fun H locs hP hS => ?_)
            have hP : PD D A [bl_X11 cy A_b (A_T 0) (A_a 0) r_b_war r_b_draftArmy r_b_draftWar r_b_reader r_b_armyReader r_b_warReader r_b_markedArmies r_b_markedWars r_b_latest r_b_trial r_b_foresight r_b_pairs z_133.2 b_fractionTop b_fractionBottom b_marks, [(A_T 0, .inl (cy 4, 4, .inr (.inr (.inr (.inr (trf4 (A_y0 0) (A_y1 0) (A_y2 0) (A_y3 0)))))))], bl_X8 cy A_y0 y0_row y0_missing y0_sort y0_many, bl_X8 cy A_y1 y1_row y1_missing y1_sort y1_many, bl_X8 cy A_y2 y2_row y2_missing y2_sort y2_many, bl_X8 cy A_y3 y3_row y3_missing y3_sort y3_many, bl_X0 cy A_a a_name a_courage a_weight a_medals a_stood a_fled a_liked a_votes a_count a_living a_pride a_quota a_melted a_lost] H := hP
            cases h
            subst hW1
            exact W.iret hx hb hr (fun _ ht9 _ => ⟨⟨_, (), rfl, rfl, hPt ht9 hP.1⟩, hS.F ht9⟩) hS.2.2 dX11_seenAt_72
        · have h := ie c_125 h
          refine lv_aload_n hx hb dX11_seenAt_44 rfl (lv_at hl 2 rfl) ?_
          refine lv_iload hx hb dX11_seenAt_45 (lv_at hl 0 rfl) ?_
          obtain ⟨z_134, e_z_134, h⟩ := bi h
          refine efVi (rest := []) ⟨hx, hb, hml, hown, ht⟩ (c_X11_refuse l D cy fu A_b (A_T 0) (A_a 0) r_b_war r_b_draftArmy r_b_draftWar r_b_reader r_b_armyReader r_b_warReader r_b_markedArmies r_b_markedWars r_b_latest r_b_trial r_b_foresight r_b_pairs b_latestStatus b_fractionTop b_fractionBottom b_marks z_120 z_134 e_z_134 _ rfl _ rfl) (cV ht mv_X11_refuse tb_543 rfl rfl ⟨Nat.le_of_ble_eq_true rfl, Nat.le_of_ble_eq_true rfl⟩) hP hS hX [0] rfl rfl rfl rfl rfl rfl hl.1 rfl (Nat.le_of_ble_eq_true rfl) dX11_seenAt_47 ⟨Nat.le_of_ble_eq_true rfl, Nat.le_of_ble_eq_true rfl⟩ (fun H locs hP hS => ?_)
          have hP : PD D A [bl_X11 cy A_b (A_T 0) (A_a 0) r_b_war r_b_draftArmy r_b_draftWar r_b_reader r_b_armyReader r_b_warReader r_b_markedArmies r_b_markedWars r_b_latest r_b_trial r_b_foresight r_b_pairs z_134.2 b_fractionTop b_fractionBottom b_marks, [(A_T 0, .inl (cy 4, 4, .inr (.inr (.inr (.inr (trf4 (A_y0 0) (A_y1 0) (A_y2 0) (A_y3 0)))))))], bl_X8 cy A_y0 y0_row y0_missing y0_sort y0_many, bl_X8 cy A_y1 y1_row y1_missing y1_sort y1_many, bl_X8 cy A_y2 y2_row y2_missing y2_sort y2_many, bl_X8 cy A_y3 y3_row y3_missing y3_sort y3_many, bl_X0 cy A_a a_name a_courage a_weight a_medals a_stood a_fled a_liked a_votes a_count a_living a_pride a_quota a_melted a_lost] H := hP
          cases h
          subst hW1
          exact W.iret hx hb hr (fun _ ht9 _ => ⟨⟨_, (), rfl, rfl, hPt ht9 hP.1⟩, hS.F ht9⟩) hS.2.2 dX11_seenAt_50
      · have h := it c_124 h
        refine lv_aload_n hx hb dX11_seenAt_33 rfl (lv_at hl 2 rfl) ?_
        refine lv_iconst (v := 1) hx hb dX11_seenAt_34 (by decide) ?_
        obtain ⟨z_135, e_z_135, h⟩ := bi h
        refine efVi (rest := []) ⟨hx, hb, hml, hown, ht⟩ (c_X11_refuse l D cy fu A_b (A_T 0) (A_a 0) r_b_war r_b_draftArmy r_b_draftWar r_b_reader r_b_armyReader r_b_warReader r_b_markedArmies r_b_markedWars r_b_latest r_b_trial r_b_foresight r_b_pairs b_latestStatus b_fractionTop b_fractionBottom b_marks 1 z_135 e_z_135 _ rfl _ rfl) (cV ht mv_X11_refuse tb_543 rfl rfl ⟨Nat.le_of_ble_eq_true rfl, Nat.le_of_ble_eq_true rfl⟩) hP hS hX [0] rfl rfl rfl rfl rfl rfl hl.1 rfl (Nat.le_of_ble_eq_true rfl) dX11_seenAt_35 ⟨Nat.le_of_ble_eq_true rfl, Nat.le_of_ble_eq_true rfl⟩ (fun H locs hP hS => ?_)
        have hP : PD D A [bl_X11 cy A_b (A_T 0) (A_a 0) r_b_war r_b_draftArmy r_b_draftWar r_b_reader r_b_armyReader r_b_warReader r_b_markedArmies r_b_markedWars r_b_latest r_b_trial r_b_foresight r_b_pairs z_135.2 b_fractionTop b_fractionBottom b_marks, [(A_T 0, .inl (cy 4, 4, .inr (.inr (.inr (.inr (trf4 (A_y0 0) (A_y1 0) (A_y2 0) (A_y3 0)))))))], bl_X8 cy A_y0 y0_row y0_missing y0_sort y0_many, bl_X8 cy A_y1 y1_row y1_missing y1_sort y1_many, bl_X8 cy A_y2 y2_row y2_missing y2_sort y2_many, bl_X8 cy A_y3 y3_row y3_missing y3_sort y3_many, bl_X0 cy A_a a_name a_courage a_weight a_medals a_stood a_fled a_liked a_votes a_count a_living a_pride a_quota a_melted a_lost] H := hP
        cases h
        subst hW1
        exact W.iret hx hb hr (fun _ ht9 _ => ⟨⟨_, (), rfl, rfl, hPt ht9 hP.1⟩, hS.F ht9⟩) hS.2.2 dX11_seenAt_38
  have h := ie c_119 h
  by_cases c_136 : x2 = 3
  · have h := it c_136 h
    refine roVq (rest := []) ⟨hx, hb, hml, hown, ht⟩ (c_X11_trayAt l D cy fu A_b (A_a 0) r_b_war r_b_draftArmy r_b_draftWar r_b_reader r_b_armyReader r_b_warReader r_b_markedArmies r_b_markedWars r_b_latest r_b_trial r_b_foresight r_b_pairs b_latestStatus b_fractionTop b_fractionBottom b_marks A_T (trf4 (A_y0 0) (A_y1 0) (A_y2 0) (A_y3 0)) x2 (some (A_y3 0)) (tray_3 c_136)) (cV ht mv_X11_trayAt tb_500 rfl rfl ⟨Nat.le_of_ble_eq_true rfl, Nat.le_of_ble_eq_true rfl⟩) (P_sub hP.1 [0, 1] rfl) hX rfl rfl rfl hl.1 rfl (Nat.le_of_ble_eq_true rfl) dX11_seenAt_2 ⟨Nat.le_of_ble_eq_true rfl, Nat.le_of_ble_eq_true rfl⟩ ?_
    refine lv_astore (lv' := [(5, .ref (A_y3 0)), (0, .ref (A_b 0)), (1, .int x1), (2, .int x2), (3, .int x3), (4, .int x4)]) hx hb dX11_seenAt_5 hl (by decide) rfl (fun ls hl => ?_)
    refine lv_aload_n hx hb dX11_seenAt_7 rfl (lv_at hl 1 rfl) ?_
    refine lv_iload_n hx hb dX11_seenAt_8 rfl (lv_at hl 2 rfl) ?_
    refine lv_aload hx hb dX11_seenAt_9 (lv_at hl 0 rfl) ?_
    refine lv_iload_n hx hb dX11_seenAt_11 rfl (lv_at hl 4 rfl) ?_
    obtain ⟨z_137, e_z_137, h⟩ := bi h
    refine roVi (rest := []) ⟨hx, hb, hml, hown, ht⟩ (c_X11_seenRefusal l D cy fu A_b (A_T 0) r_b_war r_b_draftArmy r_b_draftWar r_b_reader r_b_armyReader r_b_warReader r_b_markedArmies r_b_markedWars r_b_latest r_b_trial r_b_foresight r_b_pairs b_latestStatus b_fractionTop b_fractionBottom b_marks A_y3 y3_row y3_missing y3_sort y3_many A_a a_name a_courage a_weight a_medals a_stood a_fled a_liked a_votes a_count a_living a_pride a_quota a_melted a_lost x1 x3 z_137 e_z_137) (cV ht mv_X11_seenRefusal tb_1042 rfl rfl ⟨Nat.le_of_ble_eq_true rfl, Nat.le_of_ble_eq_true rfl⟩) (P_sub hP.1 [0, 5, 6] rfl) hX rfl rfl rfl hl.1 rfl (Nat.le_of_ble_eq_true rfl) dX11_seenAt_12 ⟨Nat.le_of_ble_eq_true rfl, Nat.le_of_ble_eq_true rfl⟩ ?_
    refine lv_istore (lv' := [(6, .int z_137), (5, .ref (A_y3 0)), (0, .ref (A_b 0)), (1, .int x1), (2, .int x2), (3, .int x3), (4, .int x4)]) hx hb dX11_seenAt_15 hl (by decide) rfl (fun ls hl => ?_)
    refine lv_iload hx hb dX11_seenAt_17 (lv_at hl 0 rfl) ?_
    refine lv_iconst (v := 1) hx hb dX11_seenAt_19 (by decide) ?_
    refine lv_icmp_eq (tgt := 33) hx hb dX11_seenAt_20 (by decide) (fun c_138 => ?_) (fun c_138 => ?_)
    · have h := it c_138 h
      refine lv_aload_n hx hb dX11_seenAt_33 rfl (lv_at hl 2 rfl) ?_
      refine lv_iconst (v := 1) hx hb dX11_seenAt_34 (by decide) ?_
      obtain ⟨z_139, e_z_139, h⟩ := bi h
      refine efVi (rest := []) ⟨hx, hb, hml, hown, ht⟩ (c_X11_refuse l D cy fu A_b (A_T 0) (A_a 0) r_b_war r_b_draftArmy r_b_draftWar r_b_reader r_b_armyReader r_b_warReader r_b_markedArmies r_b_markedWars r_b_latest r_b_trial r_b_foresight r_b_pairs b_latestStatus b_fractionTop b_fractionBottom b_marks 1 z_139 e_z_139 _ rfl _ rfl) (cV ht mv_X11_refuse tb_543 rfl rfl ⟨Nat.le_of_ble_eq_true rfl, Nat.le_of_ble_eq_true rfl⟩) hP hS hX [0] rfl rfl rfl rfl rfl rfl hl.1 rfl (Nat.le_of_ble_eq_true rfl) dX11_seenAt_35 ⟨Nat.le_of_ble_eq_true rfl, Nat.le_of_ble_eq_true rfl⟩ (fun H locs hP hS => ?_)
      have hP : PD D A [bl_X11 cy A_b (A_T 0) (A_a 0) r_b_war r_b_draftArmy r_b_draftWar r_b_reader r_b_armyReader r_b_warReader r_b_markedArmies r_b_markedWars r_b_latest r_b_trial r_b_foresight r_b_pairs z_139.2 b_fractionTop b_fractionBottom b_marks, [(A_T 0, .inl (cy 4, 4, .inr (.inr (.inr (.inr (trf4 (A_y0 0) (A_y1 0) (A_y2 0) (A_y3 0)))))))], bl_X8 cy A_y0 y0_row y0_missing y0_sort y0_many, bl_X8 cy A_y1 y1_row y1_missing y1_sort y1_many, bl_X8 cy A_y2 y2_row y2_missing y2_sort y2_many, bl_X8 cy A_y3 y3_row y3_missing y3_sort y3_many, bl_X0 cy A_a a_name a_courage a_weight a_medals a_stood a_fled a_liked a_votes a_count a_living a_pride a_quota a_melted a_lost] H := hP
      cases h
      subst hW1
      exact W.iret hx hb hr (fun _ ht9 _ => ⟨⟨_, (), rfl, rfl, hPt ht9 hP.1⟩, hS.F ht9⟩) hS.2.2 dX11_seenAt_38
    · have h := ie c_138 h
      refine lv_iload hx hb dX11_seenAt_23 (lv_at hl 6 rfl) ?_
      refine lv_iconst (v := 0) hx hb dX11_seenAt_25 (by decide) ?_
      refine lv_iconst (v := 1) hx hb dX11_seenAt_26 (by decide) ?_
      obtain ⟨z_140, e_z_140, h⟩ := bi h
      refine roSi (rest := []) ⟨hx, hb, hml, hown, ht⟩ (c_X11_within l D cy fu  x4 0 1 z_140 e_z_140) (cS ht ms_X11_within tb_504 rfl rfl ⟨Nat.le_of_ble_eq_true rfl, Nat.le_of_ble_eq_true rfl⟩) (P_sub hP.1 [] rfl) hX rfl hl.1 rfl (Nat.le_of_ble_eq_true rfl) dX11_seenAt_27 ⟨Nat.le_of_ble_eq_true rfl, Nat.le_of_ble_eq_true rfl⟩ ?_
      refine lv_if_ne (tgt := 39) hx hb dX11_seenAt_30 (by decide) (fun c_141 => ?_) (fun c_141 => ?_)
      · have h := ie c_141 h
        refine lv_iload hx hb dX11_seenAt_39 (lv_at hl 0 rfl) ?_
        refine lv_if_eq (tgt := 51) hx hb dX11_seenAt_41 (by decide) (fun c_142 => ?_) (fun c_142 => ?_)
        · have h := it c_142 h
          refine lv_aload_n hx hb dX11_seenAt_51 rfl (lv_at hl 2 rfl) ?_
          refine lv_iload_n hx hb dX11_seenAt_52 rfl (lv_at hl 3 rfl) ?_
          refine lv_aload hx hb dX11_seenAt_53 (lv_at hl 1 rfl) ?_
          refine lv_iload_n hx hb dX11_seenAt_55 rfl (lv_at hl 5 rfl) ?_
          obtain ⟨z_143, e_z_143, h⟩ := bi h
          refine roVi (rest := []) ⟨hx, hb, hml, hown, ht⟩ (c_X11_fittingCourages l D cy fu A_b (A_T 0) r_b_war r_b_draftArmy r_b_draftWar r_b_reader r_b_armyReader r_b_warReader r_b_markedArmies r_b_markedWars r_b_latest r_b_trial r_b_foresight r_b_pairs b_latestStatus b_fractionTop b_fractionBottom b_marks A_y3 y3_row y3_missing y3_sort y3_many A_a a_name a_courage a_weight a_medals a_stood a_fled a_liked a_votes a_count a_living a_pride a_quota a_melted a_lost x1 x3 z_143 e_z_143) (cV ht mv_X11_fittingCourages tb_1046 rfl rfl ⟨Nat.le_of_ble_eq_true rfl, Nat.le_of_ble_eq_true rfl⟩) (P_sub hP.1 [0, 5, 6] rfl) hX rfl rfl rfl hl.1 rfl (Nat.le_of_ble_eq_true rfl) dX11_seenAt_56 ⟨Nat.le_of_ble_eq_true rfl, Nat.le_of_ble_eq_true rfl⟩ ?_
          refine lv_istore (lv' := [(7, .int z_143), (6, .int z_137), (5, .ref (A_y3 0)), (0, .ref (A_b 0)), (1, .int x1), (2, .int x2), (3, .int x3), (4, .int x4)]) hx hb dX11_seenAt_59 hl (by decide) rfl (fun ls hl => ?_)
          refine lv_iload hx hb dX11_seenAt_61 (lv_at hl 0 rfl) ?_
          refine lv_if_ne (tgt := 73) hx hb dX11_seenAt_63 (by decide) (fun c_144 => ?_) (fun c_144 => ?_)
          · have h := ie c_144 h
            refine lv_aload_n hx hb dX11_seenAt_73 rfl (lv_at hl 3 rfl) ?_
            refine lv_iload hx hb dX11_seenAt_74 (lv_at hl 7 rfl) ?_
            refine lv_if_ne (tgt := 87) hx hb dX11_seenAt_76 (by decide) (fun c_145 => ?_) (fun c_145 => ?_)
            · have h := ie c_145 h
              refine lv_iload hx hb dX11_seenAt_87 (lv_at hl 0 rfl) ?_
              obtain ⟨z_146, e_z_146, h⟩ := bi h
              refine roSi (rest := [.ref (A_b 0)]) ⟨hx, hb, hml, hown, ht⟩ (c_X11_lastOf l D cy fu  z_143 z_146 e_z_146) (cS ht ms_X11_lastOf tb_1056 rfl rfl ⟨Nat.le_of_ble_eq_true rfl, Nat.le_of_ble_eq_true rfl⟩) (P_sub hP.1 [] rfl) hX rfl hl.1 rfl (Nat.le_of_ble_eq_true rfl) dX11_seenAt_89 ⟨Nat.le_of_ble_eq_true rfl, Nat.le_of_ble_eq_true rfl⟩ ?_
              obtain ⟨z_147, e_z_147, h⟩ := bi h
              refine efVi (rest := []) ⟨hx, hb, hml, hown, ht⟩ (c_X11_answer l D cy fu A_b (A_T 0) (A_a 0) r_b_war r_b_draftArmy r_b_draftWar r_b_reader r_b_armyReader r_b_warReader r_b_markedArmies r_b_markedWars r_b_latest r_b_trial r_b_foresight r_b_pairs b_latestStatus b_fractionTop b_fractionBottom b_marks z_146 z_147 e_z_147 _ rfl _ rfl) (cV ht mv_X11_answer tb_696 rfl rfl ⟨Nat.le_of_ble_eq_true rfl, Nat.le_of_ble_eq_true rfl⟩) hP hS hX [0] rfl rfl rfl rfl rfl rfl hl.1 rfl (Nat.le_of_ble_eq_true rfl) dX11_seenAt_92 ⟨Nat.le_of_ble_eq_true rfl, Nat.le_of_ble_eq_true rfl⟩ (fun H locs hP hS => ?_)
              have hP : PD D A [bl_X11 cy A_b (A_T 0) (A_a 0) r_b_war r_b_draftArmy r_b_draftWar r_b_reader r_b_armyReader r_b_warReader r_b_markedArmies r_b_markedWars r_b_latest r_b_trial r_b_foresight r_b_pairs z_147.2 b_fractionTop b_fractionBottom b_marks, [(A_T 0, .inl (cy 4, 4, .inr (.inr (.inr (.inr (trf4 (A_y0 0) (A_y1 0) (A_y2 0) (A_y3 0)))))))], bl_X8 cy A_y0 y0_row y0_missing y0_sort y0_many, bl_X8 cy A_y1 y1_row y1_missing y1_sort y1_many, bl_X8 cy A_y2 y2_row y2_missing y2_sort y2_many, bl_X8 cy A_y3 y3_row y3_missing y3_sort y3_many, bl_X0 cy A_a a_name a_courage a_weight a_medals a_stood a_fled a_liked a_votes a_count a_living a_pride a_quota a_melted a_lost] H := hP
              cases h
              subst hW1
              exact W.iret hx hb hr (fun _ ht9 _ => ⟨⟨_, (), rfl, rfl, hPt ht9 hP.1⟩, hS.F ht9⟩) hS.2.2 dX11_seenAt_95
            · have h := it c_145 h
              refine lv_iload hx hb dX11_seenAt_79 (lv_at hl 0 rfl) ?_
              obtain ⟨z_148, e_z_148, h⟩ := bi h
              refine roSi (rest := [.ref (A_b 0)]) ⟨hx, hb, hml, hown, ht⟩ (c_X11_firstOf l D cy fu  z_143 z_148 e_z_148) (cS ht ms_X11_firstOf tb_1055 rfl rfl ⟨Nat.le_of_ble_eq_true rfl, Nat.le_of_ble_eq_true rfl⟩) (P_sub hP.1 [] rfl) hX rfl hl.1 rfl (Nat.le_of_ble_eq_true rfl) dX11_seenAt_81 ⟨Nat.le_of_ble_eq_true rfl, Nat.le_of_ble_eq_true rfl⟩ ?_
              refine lv_goto (tgt := 92) hx hb dX11_seenAt_84 (by decide) ?_
              obtain ⟨z_149, e_z_149, h⟩ := bi h
              refine efVi (rest := []) ⟨hx, hb, hml, hown, ht⟩ (c_X11_answer l D cy fu A_b (A_T 0) (A_a 0) r_b_war r_b_draftArmy r_b_draftWar r_b_reader r_b_armyReader r_b_warReader r_b_markedArmies r_b_markedWars r_b_latest r_b_trial r_b_foresight r_b_pairs b_latestStatus b_fractionTop b_fractionBottom b_marks z_148 z_149 e_z_149 _ rfl _ rfl) (cV ht mv_X11_answer tb_696 rfl rfl ⟨Nat.le_of_ble_eq_true rfl, Nat.le_of_ble_eq_true rfl⟩) hP hS hX [0] rfl rfl rfl rfl rfl rfl hl.1 rfl (Nat.le_of_ble_eq_true rfl) dX11_seenAt_92 ⟨Nat.le_of_ble_eq_true rfl, Nat.le_of_ble_eq_true rfl⟩ (fun H locs hP hS => ?_)
              have hP : PD D A [bl_X11 cy A_b (A_T 0) (A_a 0) r_b_war r_b_draftArmy r_b_draftWar r_b_reader r_b_armyReader r_b_warReader r_b_markedArmies r_b_markedWars r_b_latest r_b_trial r_b_foresight r_b_pairs z_149.2 b_fractionTop b_fractionBottom b_marks, [(A_T 0, .inl (cy 4, 4, .inr (.inr (.inr (.inr (trf4 (A_y0 0) (A_y1 0) (A_y2 0) (A_y3 0)))))))], bl_X8 cy A_y0 y0_row y0_missing y0_sort y0_many, bl_X8 cy A_y1 y1_row y1_missing y1_sort y1_many, bl_X8 cy A_y2 y2_row y2_missing y2_sort y2_many, bl_X8 cy A_y3 y3_row y3_missing y3_sort y3_many, bl_X0 cy A_a a_name a_courage a_weight a_medals a_stood a_fled a_liked a_votes a_count a_living a_pride a_quota a_melted a_lost] H := hP
              cases h
              subst hW1
              exact W.iret hx hb hr (fun _ ht9 _ => ⟨⟨_, (), rfl, rfl, hPt ht9 hP.1⟩, hS.F ht9⟩) hS.2.2 dX11_seenAt_95
          · have h := it c_144 h
            refine lv_aload_n hx hb dX11_seenAt_66 rfl (lv_at hl 3 rfl) ?_
            refine lv_bipush (v := 6) hx hb dX11_seenAt_67 (by decide) ?_
            obtain ⟨z_150, e_z_150, h⟩ := bi h
            refine efVi (rest := []) ⟨hx, hb, hml, hown, ht⟩ (c_X11_refuse l D cy fu A_b (A_T 0) (A_a 0) r_b_war r_b_draftArmy r_b_draftWar r_b_reader r_b_armyReader r_b_warReader r_b_markedArmies r_b_markedWars r_b_latest r_b_trial r_b_foresight r_b_pairs b_latestStatus b_fractionTop b_fractionBottom b_marks 6 z_150 e_z_150 _ rfl _ rfl) (cV ht mv_X11_refuse tb_543 rfl rfl ⟨Nat.le_of_ble_eq_true rfl, Nat.le_of_ble_eq_true rfl⟩) hP hS hX [0] rfl rfl rfl rfl rfl rfl hl.1 rfl (Nat.le_of_ble_eq_true rfl) dX11_seenAt_69 ⟨Nat.le_of_ble_eq_true rfl, Nat.le_of_ble_eq_true rfl⟩ (fun H locs hP hS => ?_)
            have hP : PD D A [bl_X11 cy A_b (A_T 0) (A_a 0) r_b_war r_b_draftArmy r_b_draftWar r_b_reader r_b_armyReader r_b_warReader r_b_markedArmies r_b_markedWars r_b_latest r_b_trial r_b_foresight r_b_pairs z_150.2 b_fractionTop b_fractionBottom b_marks, [(A_T 0, .inl (cy 4, 4, .inr (.inr (.inr (.inr (trf4 (A_y0 0) (A_y1 0) (A_y2 0) (A_y3 0)))))))], bl_X8 cy A_y0 y0_row y0_missing y0_sort y0_many, bl_X8 cy A_y1 y1_row y1_missing y1_sort y1_many, bl_X8 cy A_y2 y2_row y2_missing y2_sort y2_many, bl_X8 cy A_y3 y3_row y3_missing y3_sort y3_many, bl_X0 cy A_a a_name a_courage a_weight a_medals a_stood a_fled a_liked a_votes a_count a_living a_pride a_quota a_melted a_lost] H := hP
            cases h
            subst hW1
            exact W.iret hx hb hr (fun _ ht9 _ => ⟨⟨_, (), rfl, rfl, hPt ht9 hP.1⟩, hS.F ht9⟩) hS.2.2 dX11_seenAt_72
        · have h := ie c_142 h
          refine lv_aload_n hx hb dX11_seenAt_44 rfl (lv_at hl 2 rfl) ?_
          refine lv_iload hx hb dX11_seenAt_45 (lv_at hl 0 rfl) ?_
          obtain ⟨z_151, e_z_151, h⟩ := bi h
          refine efVi (rest := []) ⟨hx, hb, hml, hown, ht⟩ (c_X11_refuse l D cy fu A_b (A_T 0) (A_a 0) r_b_war r_b_draftArmy r_b_draftWar r_b_reader r_b_armyReader r_b_warReader r_b_markedArmies r_b_markedWars r_b_latest r_b_trial r_b_foresight r_b_pairs b_latestStatus b_fractionTop b_fractionBottom b_marks z_137 z_151 e_z_151 _ rfl _ rfl) (cV ht mv_X11_refuse tb_543 rfl rfl ⟨Nat.le_of_ble_eq_true rfl, Nat.le_of_ble_eq_true rfl⟩) hP hS hX [0] rfl rfl rfl rfl rfl rfl hl.1 rfl (Nat.le_of_ble_eq_true rfl) dX11_seenAt_47 ⟨Nat.le_of_ble_eq_true rfl, Nat.le_of_ble_eq_true rfl⟩ (fun H locs hP hS => ?_)
          have hP : PD D A [bl_X11 cy A_b (A_T 0) (A_a 0) r_b_war r_b_draftArmy r_b_draftWar r_b_reader r_b_armyReader r_b_warReader r_b_markedArmies r_b_markedWars r_b_latest r_b_trial r_b_foresight r_b_pairs z_151.2 b_fractionTop b_fractionBottom b_marks, [(A_T 0, .inl (cy 4, 4, .inr (.inr (.inr (.inr (trf4 (A_y0 0) (A_y1 0) (A_y2 0) (A_y3 0)))))))], bl_X8 cy A_y0 y0_row y0_missing y0_sort y0_many, bl_X8 cy A_y1 y1_row y1_missing y1_sort y1_many, bl_X8 cy A_y2 y2_row y2_missing y2_sort y2_many, bl_X8 cy A_y3 y3_row y3_missing y3_sort y3_many, bl_X0 cy A_a a_name a_courage a_weight a_medals a_stood a_fled a_liked a_votes a_count a_living a_pride a_quota a_melted a_lost] H := hP
          cases h
          subst hW1
          exact W.iret hx hb hr (fun _ ht9 _ => ⟨⟨_, (), rfl, rfl, hPt ht9 hP.1⟩, hS.F ht9⟩) hS.2.2 dX11_seenAt_50
      · have h := it c_141 h
        refine lv_aload_n hx hb dX11_seenAt_33 rfl (lv_at hl 2 rfl) ?_
        refine lv_iconst (v := 1) hx hb dX11_seenAt_34 (by decide) ?_
        obtain ⟨z_152, e_z_152, h⟩ := bi h
        refine efVi (rest := []) ⟨hx, hb, hml, hown, ht⟩ (c_X11_refuse l D cy fu A_b (A_T 0) (A_a 0) r_b_war r_b_draftArmy r_b_draftWar r_b_reader r_b_armyReader r_b_warReader r_b_markedArmies r_b_markedWars r_b_latest r_b_trial r_b_foresight r_b_pairs b_latestStatus b_fractionTop b_fractionBottom b_marks 1 z_152 e_z_152 _ rfl _ rfl) (cV ht mv_X11_refuse tb_543 rfl rfl ⟨Nat.le_of_ble_eq_true rfl, Nat.le_of_ble_eq_true rfl⟩) hP hS hX [0] rfl rfl rfl rfl rfl rfl hl.1 rfl (Nat.le_of_ble_eq_true rfl) dX11_seenAt_35 ⟨Nat.le_of_ble_eq_true rfl, Nat.le_of_ble_eq_true rfl⟩ (fun H locs hP hS => ?_)
        have hP : PD D A [bl_X11 cy A_b (A_T 0) (A_a 0) r_b_war r_b_draftArmy r_b_draftWar r_b_reader r_b_armyReader r_b_warReader r_b_markedArmies r_b_markedWars r_b_latest r_b_trial r_b_foresight r_b_pairs z_152.2 b_fractionTop b_fractionBottom b_marks, [(A_T 0, .inl (cy 4, 4, .inr (.inr (.inr (.inr (trf4 (A_y0 0) (A_y1 0) (A_y2 0) (A_y3 0)))))))], bl_X8 cy A_y0 y0_row y0_missing y0_sort y0_many, bl_X8 cy A_y1 y1_row y1_missing y1_sort y1_many, bl_X8 cy A_y2 y2_row y2_missing y2_sort y2_many, bl_X8 cy A_y3 y3_row y3_missing y3_sort y3_many, bl_X0 cy A_a a_name a_courage a_weight a_medals a_stood a_fled a_liked a_votes a_count a_living a_pride a_quota a_melted a_lost] H := hP
        cases h
        subst hW1
        exact W.iret hx hb hr (fun _ ht9 _ => ⟨⟨_, (), rfl, rfl, hPt ht9 hP.1⟩, hS.F ht9⟩) hS.2.2 dX11_seenAt_38
  have h := ie c_136 h
  refine roVq (rest := []) ⟨hx, hb, hml, hown, ht⟩ (c_X11_trayAt l D cy fu A_b (A_a 0) r_b_war r_b_draftArmy r_b_draftWar r_b_reader r_b_armyReader r_b_warReader r_b_markedArmies r_b_markedWars r_b_latest r_b_trial r_b_foresight r_b_pairs b_latestStatus b_fractionTop b_fractionBottom b_marks A_T (trf4 (A_y0 0) (A_y1 0) (A_y2 0) (A_y3 0)) x2 (none) (tray_out ⟨c_85, c_102, c_119, c_136⟩)) (cV ht mv_X11_trayAt tb_500 rfl rfl ⟨Nat.le_of_ble_eq_true rfl, Nat.le_of_ble_eq_true rfl⟩) (P_sub hP.1 [0, 1] rfl) hX rfl rfl rfl hl.1 rfl (Nat.le_of_ble_eq_true rfl) dX11_seenAt_2 ⟨Nat.le_of_ble_eq_true rfl, Nat.le_of_ble_eq_true rfl⟩ ?_
  refine lv_astoreN (lv' := [(5, .null), (0, .ref (A_b 0)), (1, .int x1), (2, .int x2), (3, .int x3), (4, .int x4)]) hx hb dX11_seenAt_5 hl (by decide) rfl (fun ls hl => ?_)
  refine lv_aload_n hx hb dX11_seenAt_7 rfl (lv_at hl 1 rfl) ?_
  refine lv_iload_n hx hb dX11_seenAt_8 rfl (lv_at hl 2 rfl) ?_
  refine lv_aloadN hx hb dX11_seenAt_9 (lv_at hl 0 rfl) ?_
  refine lv_iload_n hx hb dX11_seenAt_11 rfl (lv_at hl 4 rfl) ?_
  obtain ⟨z_153, e_z_153, h⟩ := bi h
  refine roVi (rest := []) ⟨hx, hb, hml, hown, ht⟩ (c_X11_seenRefusal_n2 l D cy fu A_b (A_T 0) r_b_war r_b_draftArmy r_b_draftWar r_b_reader r_b_armyReader r_b_warReader r_b_markedArmies r_b_markedWars r_b_latest r_b_trial r_b_foresight r_b_pairs b_latestStatus b_fractionTop b_fractionBottom b_marks A_a a_name a_courage a_weight a_medals a_stood a_fled a_liked a_votes a_count a_living a_pride a_quota a_melted a_lost x1 x3 z_153 e_z_153) (cV ht mv_X11_seenRefusal tb_1042 rfl rfl ⟨Nat.le_of_ble_eq_true rfl, Nat.le_of_ble_eq_true rfl⟩) (P_sub hP.1 [0, 6] rfl) hX rfl rfl rfl hl.1 rfl (Nat.le_of_ble_eq_true rfl) dX11_seenAt_12 ⟨Nat.le_of_ble_eq_true rfl, Nat.le_of_ble_eq_true rfl⟩ ?_
  refine lv_istore (lv' := [(6, .int z_153), (5, .null), (0, .ref (A_b 0)), (1, .int x1), (2, .int x2), (3, .int x3), (4, .int x4)]) hx hb dX11_seenAt_15 hl (by decide) rfl (fun ls hl => ?_)
  refine lv_iload hx hb dX11_seenAt_17 (lv_at hl 0 rfl) ?_
  refine lv_iconst (v := 1) hx hb dX11_seenAt_19 (by decide) ?_
  refine lv_icmp_eq (tgt := 33) hx hb dX11_seenAt_20 (by decide) (fun c_154 => ?_) (fun c_154 => ?_)
  · have h := it c_154 h
    refine lv_aload_n hx hb dX11_seenAt_33 rfl (lv_at hl 2 rfl) ?_
    refine lv_iconst (v := 1) hx hb dX11_seenAt_34 (by decide) ?_
    obtain ⟨z_155, e_z_155, h⟩ := bi h
    refine efVi (rest := []) ⟨hx, hb, hml, hown, ht⟩ (c_X11_refuse l D cy fu A_b (A_T 0) (A_a 0) r_b_war r_b_draftArmy r_b_draftWar r_b_reader r_b_armyReader r_b_warReader r_b_markedArmies r_b_markedWars r_b_latest r_b_trial r_b_foresight r_b_pairs b_latestStatus b_fractionTop b_fractionBottom b_marks 1 z_155 e_z_155 _ rfl _ rfl) (cV ht mv_X11_refuse tb_543 rfl rfl ⟨Nat.le_of_ble_eq_true rfl, Nat.le_of_ble_eq_true rfl⟩) hP hS hX [0] rfl rfl rfl rfl rfl rfl hl.1 rfl (Nat.le_of_ble_eq_true rfl) dX11_seenAt_35 ⟨Nat.le_of_ble_eq_true rfl, Nat.le_of_ble_eq_true rfl⟩ (fun H locs hP hS => ?_)
    have hP : PD D A [bl_X11 cy A_b (A_T 0) (A_a 0) r_b_war r_b_draftArmy r_b_draftWar r_b_reader r_b_armyReader r_b_warReader r_b_markedArmies r_b_markedWars r_b_latest r_b_trial r_b_foresight r_b_pairs z_155.2 b_fractionTop b_fractionBottom b_marks, [(A_T 0, .inl (cy 4, 4, .inr (.inr (.inr (.inr (trf4 (A_y0 0) (A_y1 0) (A_y2 0) (A_y3 0)))))))], bl_X8 cy A_y0 y0_row y0_missing y0_sort y0_many, bl_X8 cy A_y1 y1_row y1_missing y1_sort y1_many, bl_X8 cy A_y2 y2_row y2_missing y2_sort y2_many, bl_X8 cy A_y3 y3_row y3_missing y3_sort y3_many, bl_X0 cy A_a a_name a_courage a_weight a_medals a_stood a_fled a_liked a_votes a_count a_living a_pride a_quota a_melted a_lost] H := hP
    cases h
    subst hW1
    exact W.iret hx hb hr (fun _ ht9 _ => ⟨⟨_, (), rfl, rfl, hPt ht9 hP.1⟩, hS.F ht9⟩) hS.2.2 dX11_seenAt_38
  · have h := ie c_154 h
    refine lv_iload hx hb dX11_seenAt_23 (lv_at hl 6 rfl) ?_
    refine lv_iconst (v := 0) hx hb dX11_seenAt_25 (by decide) ?_
    refine lv_iconst (v := 1) hx hb dX11_seenAt_26 (by decide) ?_
    obtain ⟨z_156, e_z_156, h⟩ := bi h
    refine roSi (rest := []) ⟨hx, hb, hml, hown, ht⟩ (c_X11_within l D cy fu  x4 0 1 z_156 e_z_156) (cS ht ms_X11_within tb_504 rfl rfl ⟨Nat.le_of_ble_eq_true rfl, Nat.le_of_ble_eq_true rfl⟩) (P_sub hP.1 [] rfl) hX rfl hl.1 rfl (Nat.le_of_ble_eq_true rfl) dX11_seenAt_27 ⟨Nat.le_of_ble_eq_true rfl, Nat.le_of_ble_eq_true rfl⟩ ?_
    refine lv_if_ne (tgt := 39) hx hb dX11_seenAt_30 (by decide) (fun c_157 => ?_) (fun c_157 => ?_)
    · have h := ie c_157 h
      refine lv_iload hx hb dX11_seenAt_39 (lv_at hl 0 rfl) ?_
      refine lv_if_eq (tgt := 51) hx hb dX11_seenAt_41 (by decide) (fun c_158 => ?_) (fun c_158 => ?_)
      · have h := it c_158 h
        refine lv_aload_n hx hb dX11_seenAt_51 rfl (lv_at hl 2 rfl) ?_
        refine lv_iload_n hx hb dX11_seenAt_52 rfl (lv_at hl 3 rfl) ?_
        refine lv_aloadN hx hb dX11_seenAt_53 (lv_at hl 1 rfl) ?_
        refine lv_iload_n hx hb dX11_seenAt_55 rfl (lv_at hl 5 rfl) ?_
        obtain ⟨z_159, e_z_159, h⟩ := bi h
        refine roVi (rest := []) ⟨hx, hb, hml, hown, ht⟩ (c_X11_fittingCourages_n2 l D cy fu A_b (A_T 0) (A_a 0) r_b_war r_b_draftArmy r_b_draftWar r_b_reader r_b_armyReader r_b_warReader r_b_markedArmies r_b_markedWars r_b_latest r_b_trial r_b_foresight r_b_pairs b_latestStatus b_fractionTop b_fractionBottom b_marks x1 x3 z_159 e_z_159) (cV ht mv_X11_fittingCourages tb_1046 rfl rfl ⟨Nat.le_of_ble_eq_true rfl, Nat.le_of_ble_eq_true rfl⟩) (P_sub hP.1 [0] rfl) hX rfl rfl rfl hl.1 rfl (Nat.le_of_ble_eq_true rfl) dX11_seenAt_56 ⟨Nat.le_of_ble_eq_true rfl, Nat.le_of_ble_eq_true rfl⟩ ?_
        refine lv_istore (lv' := [(7, .int z_159), (6, .int z_153), (5, .null), (0, .ref (A_b 0)), (1, .int x1), (2, .int x2), (3, .int x3), (4, .int x4)]) hx hb dX11_seenAt_59 hl (by decide) rfl (fun ls hl => ?_)
        refine lv_iload hx hb dX11_seenAt_61 (lv_at hl 0 rfl) ?_
        refine lv_if_ne (tgt := 73) hx hb dX11_seenAt_63 (by decide) (fun c_160 => ?_) (fun c_160 => ?_)
        · have h := ie c_160 h
          refine lv_aload_n hx hb dX11_seenAt_73 rfl (lv_at hl 3 rfl) ?_
          refine lv_iload hx hb dX11_seenAt_74 (lv_at hl 7 rfl) ?_
          refine lv_if_ne (tgt := 87) hx hb dX11_seenAt_76 (by decide) (fun c_161 => ?_) (fun c_161 => ?_)
          · have h := ie c_161 h
            refine lv_iload hx hb dX11_seenAt_87 (lv_at hl 0 rfl) ?_
            obtain ⟨z_162, e_z_162, h⟩ := bi h
            refine roSi (rest := [.ref (A_b 0)]) ⟨hx, hb, hml, hown, ht⟩ (c_X11_lastOf l D cy fu  z_159 z_162 e_z_162) (cS ht ms_X11_lastOf tb_1056 rfl rfl ⟨Nat.le_of_ble_eq_true rfl, Nat.le_of_ble_eq_true rfl⟩) (P_sub hP.1 [] rfl) hX rfl hl.1 rfl (Nat.le_of_ble_eq_true rfl) dX11_seenAt_89 ⟨Nat.le_of_ble_eq_true rfl, Nat.le_of_ble_eq_true rfl⟩ ?_
            obtain ⟨z_163, e_z_163, h⟩ := bi h
            refine efVi (rest := []) ⟨hx, hb, hml, hown, ht⟩ (c_X11_answer l D cy fu A_b (A_T 0) (A_a 0) r_b_war r_b_draftArmy r_b_draftWar r_b_reader r_b_armyReader r_b_warReader r_b_markedArmies r_b_markedWars r_b_latest r_b_trial r_b_foresight r_b_pairs b_latestStatus b_fractionTop b_fractionBottom b_marks z_162 z_163 e_z_163 _ rfl _ rfl) (cV ht mv_X11_answer tb_696 rfl rfl ⟨Nat.le_of_ble_eq_true rfl, Nat.le_of_ble_eq_true rfl⟩) hP hS hX [0] rfl rfl rfl rfl rfl rfl hl.1 rfl (Nat.le_of_ble_eq_true rfl) dX11_seenAt_92 ⟨Nat.le_of_ble_eq_true rfl, Nat.le_of_ble_eq_true rfl⟩ (fun H locs hP hS => ?_)
            have hP : PD D A [bl_X11 cy A_b (A_T 0) (A_a 0) r_b_war r_b_draftArmy r_b_draftWar r_b_reader r_b_armyReader r_b_warReader r_b_markedArmies r_b_markedWars r_b_latest r_b_trial r_b_foresight r_b_pairs z_163.2 b_fractionTop b_fractionBottom b_marks, [(A_T 0, .inl (cy 4, 4, .inr (.inr (.inr (.inr (trf4 (A_y0 0) (A_y1 0) (A_y2 0) (A_y3 0)))))))], bl_X8 cy A_y0 y0_row y0_missing y0_sort y0_many, bl_X8 cy A_y1 y1_row y1_missing y1_sort y1_many, bl_X8 cy A_y2 y2_row y2_missing y2_sort y2_many, bl_X8 cy A_y3 y3_row y3_missing y3_sort y3_many, bl_X0 cy A_a a_name a_courage a_weight a_medals a_stood a_fled a_liked a_votes a_count a_living a_pride a_quota a_melted a_lost] H := hP
            cases h
            subst hW1
            exact W.iret hx hb hr (fun _ ht9 _ => ⟨⟨_, (), rfl, rfl, hPt ht9 hP.1⟩, hS.F ht9⟩) hS.2.2 dX11_seenAt_95
          · have h := it c_161 h
            refine lv_iload hx hb dX11_seenAt_79 (lv_at hl 0 rfl) ?_
            obtain ⟨z_164, e_z_164, h⟩ := bi h
            refine roSi (rest := [.ref (A_b 0)]) ⟨hx, hb, hml, hown, ht⟩ (c_X11_firstOf l D cy fu  z_159 z_164 e_z_164) (cS ht ms_X11_firstOf tb_1055 rfl rfl ⟨Nat.le_of_ble_eq_true rfl, Nat.le_of_ble_eq_true rfl⟩) (P_sub hP.1 [] rfl) hX rfl hl.1 rfl (Nat.le_of_ble_eq_true rfl) dX11_seenAt_81 ⟨Nat.le_of_ble_eq_true rfl, Nat.le_of_ble_eq_true rfl⟩ ?_
            refine lv_goto (tgt := 92) hx hb dX11_seenAt_84 (by decide) ?_
            obtain ⟨z_165, e_z_165, h⟩ := bi h
            refine efVi (rest := []) ⟨hx, hb, hml, hown, ht⟩ (c_X11_answer l D cy fu A_b (A_T 0) (A_a 0) r_b_war r_b_draftArmy r_b_draftWar r_b_reader r_b_armyReader r_b_warReader r_b_markedArmies r_b_markedWars r_b_latest r_b_trial r_b_foresight r_b_pairs b_latestStatus b_fractionTop b_fractionBottom b_marks z_164 z_165 e_z_165 _ rfl _ rfl) (cV ht mv_X11_answer tb_696 rfl rfl ⟨Nat.le_of_ble_eq_true rfl, Nat.le_of_ble_eq_true rfl⟩) hP hS hX [0] rfl rfl rfl rfl rfl rfl hl.1 rfl (Nat.le_of_ble_eq_true rfl) dX11_seenAt_92 ⟨Nat.le_of_ble_eq_true rfl, Nat.le_of_ble_eq_true rfl⟩ (fun H locs hP hS => ?_)
            have hP : PD D A [bl_X11 cy A_b (A_T 0) (A_a 0) r_b_war r_b_draftArmy r_b_draftWar r_b_reader r_b_armyReader r_b_warReader r_b_markedArmies r_b_markedWars r_b_latest r_b_trial r_b_foresight r_b_pairs z_165.2 b_fractionTop b_fractionBottom b_marks, [(A_T 0, .inl (cy 4, 4, .inr (.inr (.inr (.inr (trf4 (A_y0 0) (A_y1 0) (A_y2 0) (A_y3 0)))))))], bl_X8 cy A_y0 y0_row y0_missing y0_sort y0_many, bl_X8 cy A_y1 y1_row y1_missing y1_sort y1_many, bl_X8 cy A_y2 y2_row y2_missing y2_sort y2_many, bl_X8 cy A_y3 y3_row y3_missing y3_sort y3_many, bl_X0 cy A_a a_name a_courage a_weight a_medals a_stood a_fled a_liked a_votes a_count a_living a_pride a_quota a_melted a_lost] H := hP
            cases h
            subst hW1
            exact W.iret hx hb hr (fun _ ht9 _ => ⟨⟨_, (), rfl, rfl, hPt ht9 hP.1⟩, hS.F ht9⟩) hS.2.2 dX11_seenAt_95
        · have h := it c_160 h
          refine lv_aload_n hx hb dX11_seenAt_66 rfl (lv_at hl 3 rfl) ?_
          refine lv_bipush (v := 6) hx hb dX11_seenAt_67 (by decide) ?_
          obtain ⟨z_166, e_z_166, h⟩ := bi h
          refine efVi (rest := []) ⟨hx, hb, hml, hown, ht⟩ (c_X11_refuse l D cy fu A_b (A_T 0) (A_a 0) r_b_war r_b_draftArmy r_b_draftWar r_b_reader r_b_armyReader r_b_warReader r_b_markedArmies r_b_markedWars r_b_latest r_b_trial r_b_foresight r_b_pairs b_latestStatus b_fractionTop b_fractionBottom b_marks 6 z_166 e_z_166 _ rfl _ rfl) (cV ht mv_X11_refuse tb_543 rfl rfl ⟨Nat.le_of_ble_eq_true rfl, Nat.le_of_ble_eq_true rfl⟩) hP hS hX [0] rfl rfl rfl rfl rfl rfl hl.1 rfl (Nat.le_of_ble_eq_true rfl) dX11_seenAt_69 ⟨Nat.le_of_ble_eq_true rfl, Nat.le_of_ble_eq_true rfl⟩ (fun H locs hP hS => ?_)
          have hP : PD D A [bl_X11 cy A_b (A_T 0) (A_a 0) r_b_war r_b_draftArmy r_b_draftWar r_b_reader r_b_armyReader r_b_warReader r_b_markedArmies r_b_markedWars r_b_latest r_b_trial r_b_foresight r_b_pairs z_166.2 b_fractionTop b_fractionBottom b_marks, [(A_T 0, .inl (cy 4, 4, .inr (.inr (.inr (.inr (trf4 (A_y0 0) (A_y1 0) (A_y2 0) (A_y3 0)))))))], bl_X8 cy A_y0 y0_row y0_missing y0_sort y0_many, bl_X8 cy A_y1 y1_row y1_missing y1_sort y1_many, bl_X8 cy A_y2 y2_row y2_missing y2_sort y2_many, bl_X8 cy A_y3 y3_row y3_missing y3_sort y3_many, bl_X0 cy A_a a_name a_courage a_weight a_medals a_stood a_fled a_liked a_votes a_count a_living a_pride a_quota a_melted a_lost] H := hP
          cases h
          subst hW1
          exact W.iret hx hb hr (fun _ ht9 _ => ⟨⟨_, (), rfl, rfl, hPt ht9 hP.1⟩, hS.F ht9⟩) hS.2.2 dX11_seenAt_72
      · have h := ie c_158 h
        refine lv_aload_n hx hb dX11_seenAt_44 rfl (lv_at hl 2 rfl) ?_
        refine lv_iload hx hb dX11_seenAt_45 (lv_at hl 0 rfl) ?_
        obtain ⟨z_167, e_z_167, h⟩ := bi h
        refine efVi (rest := []) ⟨hx, hb, hml, hown, ht⟩ (c_X11_refuse l D cy fu A_b (A_T 0) (A_a 0) r_b_war r_b_draftArmy r_b_draftWar r_b_reader r_b_armyReader r_b_warReader r_b_markedArmies r_b_markedWars r_b_latest r_b_trial r_b_foresight r_b_pairs b_latestStatus b_fractionTop b_fractionBottom b_marks z_153 z_167 e_z_167 _ rfl _ rfl) (cV ht mv_X11_refuse tb_543 rfl rfl ⟨Nat.le_of_ble_eq_true rfl, Nat.le_of_ble_eq_true rfl⟩) hP hS hX [0] rfl rfl rfl rfl rfl rfl hl.1 rfl (Nat.le_of_ble_eq_true rfl) dX11_seenAt_47 ⟨Nat.le_of_ble_eq_true rfl, Nat.le_of_ble_eq_true rfl⟩ (fun H locs hP hS => ?_)
        have hP : PD D A [bl_X11 cy A_b (A_T 0) (A_a 0) r_b_war r_b_draftArmy r_b_draftWar r_b_reader r_b_armyReader r_b_warReader r_b_markedArmies r_b_markedWars r_b_latest r_b_trial r_b_foresight r_b_pairs z_167.2 b_fractionTop b_fractionBottom b_marks, [(A_T 0, .inl (cy 4, 4, .inr (.inr (.inr (.inr (trf4 (A_y0 0) (A_y1 0) (A_y2 0) (A_y3 0)))))))], bl_X8 cy A_y0 y0_row y0_missing y0_sort y0_many, bl_X8 cy A_y1 y1_row y1_missing y1_sort y1_many, bl_X8 cy A_y2 y2_row y2_missing y2_sort y2_many, bl_X8 cy A_y3 y3_row y3_missing y3_sort y3_many, bl_X0 cy A_a a_name a_courage a_weight a_medals a_stood a_fled a_liked a_votes a_count a_living a_pride a_quota a_melted a_lost] H := hP
        cases h
        subst hW1
        exact W.iret hx hb hr (fun _ ht9 _ => ⟨⟨_, (), rfl, rfl, hPt ht9 hP.1⟩, hS.F ht9⟩) hS.2.2 dX11_seenAt_50
    · have h := it c_157 h
      refine lv_aload_n hx hb dX11_seenAt_33 rfl (lv_at hl 2 rfl) ?_
      refine lv_iconst (v := 1) hx hb dX11_seenAt_34 (by decide) ?_
      obtain ⟨z_168, e_z_168, h⟩ := bi h
      refine efVi (rest := []) ⟨hx, hb, hml, hown, ht⟩ (c_X11_refuse l D cy fu A_b (A_T 0) (A_a 0) r_b_war r_b_draftArmy r_b_draftWar r_b_reader r_b_armyReader r_b_warReader r_b_markedArmies r_b_markedWars r_b_latest r_b_trial r_b_foresight r_b_pairs b_latestStatus b_fractionTop b_fractionBottom b_marks 1 z_168 e_z_168 _ rfl _ rfl) (cV ht mv_X11_refuse tb_543 rfl rfl ⟨Nat.le_of_ble_eq_true rfl, Nat.le_of_ble_eq_true rfl⟩) hP hS hX [0] rfl rfl rfl rfl rfl rfl hl.1 rfl (Nat.le_of_ble_eq_true rfl) dX11_seenAt_35 ⟨Nat.le_of_ble_eq_true rfl, Nat.le_of_ble_eq_true rfl⟩ (fun H locs hP hS => ?_)
      have hP : PD D A [bl_X11 cy A_b (A_T 0) (A_a 0) r_b_war r_b_draftArmy r_b_draftWar r_b_reader r_b_armyReader r_b_warReader r_b_markedArmies r_b_markedWars r_b_latest r_b_trial r_b_foresight r_b_pairs z_168.2 b_fractionTop b_fractionBottom b_marks, [(A_T 0, .inl (cy 4, 4, .inr (.inr (.inr (.inr (trf4 (A_y0 0) (A_y1 0) (A_y2 0) (A_y3 0)))))))], bl_X8 cy A_y0 y0_row y0_missing y0_sort y0_many, bl_X8 cy A_y1 y1_row y1_missing y1_sort y1_many, bl_X8 cy A_y2 y2_row y2_missing y2_sort y2_many, bl_X8 cy A_y3 y3_row y3_missing y3_sort y3_many, bl_X0 cy A_a a_name a_courage a_weight a_medals a_stood a_fled a_liked a_votes a_count a_living a_pride a_quota a_melted a_lost] H := hP
      cases h
      subst hW1
      exact W.iret hx hb hr (fun _ ht9 _ => ⟨⟨_, (), rfl, rfl, hPt ht9 hP.1⟩, hS.F ht9⟩) hS.2.2 dX11_seenAt_38
theorem dX11_tellingSize_0 : decode cX11_tellingSize 0 = .ok (.iconst 1, 1) := by decide +kernel
theorem dX11_tellingSize_1 : decode cX11_tellingSize 1 = .ok (.istore_n 3, 1) := by decide +kernel
theorem dX11_tellingSize_2 : decode cX11_tellingSize 2 = .ok (.iload_n 2, 1) := by decide +kernel
theorem dX11_tellingSize_3 : decode cX11_tellingSize 3 = .ok (.invokestatic 281, 3) := by decide +kernel
theorem dX11_tellingSize_6 : decode cX11_tellingSize 6 = .ok (.istore 4, 2) := by decide +kernel
theorem dX11_tellingSize_8 : decode cX11_tellingSize 8 = .ok (.iload 4, 2) := by decide +kernel
theorem dX11_tellingSize_10 : decode cX11_tellingSize 10 = .ok (.iconst 1, 1) := by decide +kernel
theorem dX11_tellingSize_11 : decode cX11_tellingSize 11 = .ok (.iadd, 1) := by decide +kernel
theorem dX11_tellingSize_12 : decode cX11_tellingSize 12 = .ok (.istore 5, 2) := by decide +kernel
theorem dX11_tellingSize_14 : decode cX11_tellingSize 14 = .ok (.iconst 1, 1) := by decide +kernel
theorem dX11_tellingSize_15 : decode cX11_tellingSize 15 = .ok (.istore 6, 2) := by decide +kernel
theorem dX11_tellingSize_17 : decode cX11_tellingSize 17 = .ok (.iload 6, 2) := by decide +kernel
theorem dX11_tellingSize_19 : decode cX11_tellingSize 19 = .ok (.bipush 99, 2) := by decide +kernel
theorem dX11_tellingSize_21 : decode cX11_tellingSize 21 = .ok (.if_icmp .gt 81, 3) := by decide +kernel
theorem dX11_tellingSize_24 : decode cX11_tellingSize 24 = .ok (.iconst 0, 1) := by decide +kernel
theorem dX11_tellingSize_25 : decode cX11_tellingSize 25 = .ok (.istore 7, 2) := by decide +kernel
theorem dX11_tellingSize_27 : decode cX11_tellingSize 27 = .ok (.iconst 0, 1) := by decide +kernel
theorem dX11_tellingSize_28 : decode cX11_tellingSize 28 = .ok (.istore 8, 2) := by decide +kernel
theorem dX11_tellingSize_30 : decode cX11_tellingSize 30 = .ok (.iload 8, 2) := by decide +kernel
theorem dX11_tellingSize_32 : decode cX11_tellingSize 32 = .ok (.bipush 20, 2) := by decide +kernel
theorem dX11_tellingSize_34 : decode cX11_tellingSize 34 = .ok (.if_icmp .gt 36, 3) := by decide +kernel
theorem dX11_tellingSize_37 : decode cX11_tellingSize 37 = .ok (.iload_n 2, 1) := by decide +kernel
theorem dX11_tellingSize_38 : decode cX11_tellingSize 38 = .ok (.iload 8, 2) := by decide +kernel
theorem dX11_tellingSize_40 : decode cX11_tellingSize 40 = .ok (.invokestatic 306, 3) := by decide +kernel
theorem dX11_tellingSize_43 : decode cX11_tellingSize 43 = .ok (.ifCond .eq 21, 3) := by decide +kernel
theorem dX11_tellingSize_46 : decode cX11_tellingSize 46 = .ok (.aload_n 0, 1) := by decide +kernel
theorem dX11_tellingSize_47 : decode cX11_tellingSize 47 = .ok (.getfield 29, 3) := by decide +kernel
theorem dX11_tellingSize_50 : decode cX11_tellingSize 50 = .ok (.iload 8, 2) := by decide +kernel
theorem dX11_tellingSize_52 : decode cX11_tellingSize 52 = .ok (.iload_n 1, 1) := by decide +kernel
theorem dX11_tellingSize_53 : decode cX11_tellingSize 53 = .ok (.invokevirtual 422, 3) := by decide +kernel
theorem dX11_tellingSize_56 : decode cX11_tellingSize 56 = .ok (.iload 6, 2) := by decide +kernel
theorem dX11_tellingSize_58 : decode cX11_tellingSize 58 = .ok (.if_icmp .lt 6, 3) := by decide +kernel
theorem dX11_tellingSize_61 : decode cX11_tellingSize 61 = .ok (.iinc 7 1, 3) := by decide +kernel
theorem dX11_tellingSize_64 : decode cX11_tellingSize 64 = .ok (.iinc 8 1, 3) := by decide +kernel
theorem dX11_tellingSize_67 : decode cX11_tellingSize 67 = .ok (.goto (-37), 3) := by decide +kernel
theorem dX11_tellingSize_70 : decode cX11_tellingSize 70 = .ok (.iload 7, 2) := by decide +kernel
theorem dX11_tellingSize_72 : decode cX11_tellingSize 72 = .ok (.iload 4, 2) := by decide +kernel
theorem dX11_tellingSize_74 : decode cX11_tellingSize 74 = .ok (.iload 7, 2) := by decide +kernel
theorem dX11_tellingSize_76 : decode cX11_tellingSize 76 = .ok (.isub, 1) := by decide +kernel
theorem dX11_tellingSize_77 : decode cX11_tellingSize 77 = .ok (.invokestatic 425, 3) := by decide +kernel
theorem dX11_tellingSize_80 : decode cX11_tellingSize 80 = .ok (.istore 8, 2) := by decide +kernel
theorem dX11_tellingSize_82 : decode cX11_tellingSize 82 = .ok (.iload 8, 2) := by decide +kernel
theorem dX11_tellingSize_84 : decode cX11_tellingSize 84 = .ok (.iload 5, 2) := by decide +kernel
theorem dX11_tellingSize_86 : decode cX11_tellingSize 86 = .ok (.if_icmp .ge 10, 3) := by decide +kernel
theorem dX11_tellingSize_89 : decode cX11_tellingSize 89 = .ok (.iload 8, 2) := by decide +kernel
theorem dX11_tellingSize_91 : decode cX11_tellingSize 91 = .ok (.istore 5, 2) := by decide +kernel
theorem dX11_tellingSize_93 : decode cX11_tellingSize 93 = .ok (.iload 6, 2) := by decide +kernel
theorem dX11_tellingSize_95 : decode cX11_tellingSize 95 = .ok (.istore_n 3, 1) := by decide +kernel
theorem dX11_tellingSize_96 : decode cX11_tellingSize 96 = .ok (.iinc 6 1, 3) := by decide +kernel
theorem dX11_tellingSize_99 : decode cX11_tellingSize 99 = .ok (.goto (-82), 3) := by decide +kernel
theorem dX11_tellingSize_102 : decode cX11_tellingSize 102 = .ok (.iload_n 3, 1) := by decide +kernel
theorem dX11_tellingSize_103 : decode cX11_tellingSize 103 = .ok (.ireturn, 1) := by decide +kernel
theorem mv_X11_tellingSize : MV yX11_tellingSize RX11 cX11_tellingSize 9 (some .int) 2 := ⟨tb_1066, tb_1065, ts_27, tb_1, by decide +kernel, by decide +kernel, by decide +kernel⟩
def f_X11_tellingSize_b30 (fu : Nat) (a_pride : Int32) (x1 : Int32) (x2 : Int32) (k17 : Int32 → Int32 → Int32 → Int32 → Option (Int32)) (k30 : Int32 → Int32 → Int32 → Int32 → Int32 → Int32 → Option (Int32)) (x3 : Int32) (x4 : Int32) (x5 : Int32) (x6 : Int32) (x7 : Int32) (x8 : Int32) : Option (Int32) := (if 20 < x8 then bnd (if x7 < (x4 - x7) then (x4 - x7) else x7) fun x8_18 => (if x5 ≤ x8_18 then bnd (x6 + 1) fun x6_20 => k17 x3 x4 x5 x6_20 else bnd (x6 + 1) fun x6_21 => k17 x6 x4 x8_18 x6_21) else (f_X11_holds fu x2 x8).bind fun z_22 => (if z_22 = 0 then bnd (x8 + 1) fun x8_24 => k30 x3 x4 x5 x6 x7 x8_24 else (f_X0_braveryWith fu a_pride x8 x1).bind fun z_25 => (if z_25 < x6 then bnd (x8 + 1) fun x8_27 => k30 x3 x4 x5 x6 x7 x8_27 else bnd (x7 + 1) fun x7_28 => bnd (x8 + 1) fun x8_29 => k30 x3 x4 x5 x6 x7_28 x8_29)))
def f_X11_tellingSize_l30 (fu : Nat) (a_pride : Int32) (x1 : Int32) (x2 : Int32) (k17 : Int32 → Int32 → Int32 → Int32 → Option (Int32)) : Nat → Int32 → Int32 → Int32 → Int32 → Int32 → Int32 → Option (Int32)
  | 0, _, _, _, _, _, _ => none
  | n + 1, x3, x4, x5, x6, x7, x8 => f_X11_tellingSize_b30 fu a_pride x1 x2 k17 (f_X11_tellingSize_l30 fu a_pride x1 x2 k17 n) x3 x4 x5 x6 x7 x8
def f_X11_tellingSize_b17 (fu : Nat) (a_pride : Int32) (x1 : Int32) (x2 : Int32) (k17 : Int32 → Int32 → Int32 → Int32 → Option (Int32)) (x3 : Int32) (x4 : Int32) (x5 : Int32) (x6 : Int32) : Option (Int32) := (if 99 < x6 then some (x3) else f_X11_tellingSize_l30 fu a_pride x1 x2 k17 fu x3 x4 x5 x6 0 0)
def f_X11_tellingSize_l17 (fu : Nat) (a_pride : Int32) (x1 : Int32) (x2 : Int32) : Nat → Int32 → Int32 → Int32 → Int32 → Option (Int32)
  | 0, _, _, _, _ => none
  | n + 1, x3, x4, x5, x6 => f_X11_tellingSize_b17 fu a_pride x1 x2 (f_X11_tellingSize_l17 fu a_pride x1 x2 n) x3 x4 x5 x6
def f_X11_tellingSize (fu : Nat) (a_pride : Int32) (x1 : Int32) (x2 : Int32) : Option (Int32) := (f_J6_bitCount_0f7a4 fu x2).bind fun z_31 => bnd (z_31 + 1) fun x5_32 => f_X11_tellingSize_l17 fu a_pride x1 x2 fu 1 z_31 x5_32 1
abbrev rm_X11_tellingSize : Room := { frames := 2, cells := 0, slots := 0, locals := 43 }
set_option maxHeartbeats 4000000 in
set_option maxRecDepth 100000 in
theorem c_X11_tellingSize (l : Launch) (D : va_G) (cy : Nat → ClassId) (fu : Nat) (A_b : Nat → Nat) (r_b_trays : Nat) (r_b_war : Nat) (r_b_draftArmy : Nat) (r_b_draftWar : Nat) (r_b_reader : Nat) (r_b_armyReader : Nat) (r_b_warReader : Nat) (r_b_markedArmies : Nat) (r_b_markedWars : Nat) (r_b_latest : Nat) (r_b_trial : Nat) (r_b_foresight : Nat) (r_b_pairs : Nat) (b_latestStatus : Int32) (b_fractionTop : Int64) (b_fractionBottom : Int64) (b_marks : Int32) (A_a : Nat → Nat) (a_name : Nat → Int64) (a_courage : Nat → Int32) (a_weight : Nat → Int32) (a_medals : Nat → Int32) (a_stood : Nat → Int32) (a_fled : Nat → Int32) (a_liked : Nat → Int32) (a_votes : Nat → Int32) (a_count : Int32) (a_living : Int32) (a_pride : Int32) (a_quota : Int32) (a_melted : Int32) (a_lost : Int32) (x1 : Int32) (x2 : Int32) (res : Int32) (h : f_X11_tellingSize fu a_pride x1 x2 = some res) : Met l yX11_tellingSize (WW yX11_tellingSize cX11_tellingSize 9 (some .int)) rm_X11_tellingSize (Rd D cy [.ref (A_b 0), .int x1, .int x2] [bl_X11 cy A_b r_b_trays (A_a 0) r_b_war r_b_draftArmy r_b_draftWar r_b_reader r_b_armyReader r_b_warReader r_b_markedArmies r_b_markedWars r_b_latest r_b_trial r_b_foresight r_b_pairs b_latestStatus b_fractionTop b_fractionBottom b_marks, bl_X0 cy A_a a_name a_courage a_weight a_medals a_stood a_fled a_liked a_votes a_count a_living a_pride a_quota a_melted a_lost]) (vp_Si (fun v => v = res)) 0 0 (fun _ => False) := by
  refine Met.ofW (cc := cX11_tellingSize) (maxL := 9) (ret := (some .int)) (by decide) rfl ?_
  intro p e s m args below meth c s₁ B hml hv
  obtain ⟨hargs, hP, hX⟩ := hv
  have hx := B.exec
  have hb := B.bytes
  have hr := B.returns
  have ht : ∀ w ∈ lw_gd, w.before args s = true := fun w hw => atoms_spec (ws := WW yX11_tellingSize cX11_tellingSize 9 (some .int)) B.pre w (List.mem_cons_of_mem _ hw)
  have hown : s.vm.findClass RX11 = some m.cls := findClass_of_methodNamed B.named
  have hlocks := B.notSynchronized
  have hP : PB D [bl_X11 cy A_b r_b_trays (A_a 0) r_b_war r_b_draftArmy r_b_draftWar r_b_reader r_b_armyReader r_b_warReader r_b_markedArmies r_b_markedWars r_b_latest r_b_trial r_b_foresight r_b_pairs b_latestStatus b_fractionTop b_fractionBottom b_marks, bl_X0 cy A_a a_name a_courage a_weight a_medals a_stood a_fled a_liked a_votes a_count a_living a_pride a_quota a_melted a_lost] s.heap := hP
  obtain ⟨ls, hl, hent⟩ := ent (m := m) (n := 9) hargs (Nat.le_of_ble_eq_true rfl) (lv := [(0, .ref (A_b 0)), (1, .int x1), (2, .int x2)]) rfl
  rw [hent]
  clear hent
  have l17 : ∀ (n17 : Nat) (x3 : Int32) (x4 : Int32) (x5 : Int32) (x6 : Int32) (ls : Array Slot), lv_has ls 9 [(0, .ref (A_b 0)), (1, .int x1), (2, .int x2), (3, .int x3), (4, .int x4), (5, .int x5), (6, .int x6)] → f_X11_tellingSize_l17 fu a_pride x1 x2 n17 x3 x4 x5 x6 = some res → W p l e (headSpec (WW yX11_tellingSize cX11_tellingSize 9 (some .int)) rm_X11_tellingSize).room s m args below meth c s.heap [] 0 0 (MQ below (vp_Si (fun v => v = res)) args s 0 0 (fun _ => False)) (F0 m 17 ls []) := by
    intro n17
    induction n17 with
    | zero => intro x3 x4 x5 x6 ls hl h; cases h
    | succ n17 ih17 =>
      have l30 : ∀ (n30 : Nat) (x3 : Int32) (x4 : Int32) (x5 : Int32) (x6 : Int32) (x7 : Int32) (x8 : Int32) (ls : Array Slot), lv_has ls 9 [(0, .ref (A_b 0)), (1, .int x1), (2, .int x2), (3, .int x3), (4, .int x4), (5, .int x5), (6, .int x6), (7, .int x7), (8, .int x8)] → f_X11_tellingSize_l30 fu a_pride x1 x2 (f_X11_tellingSize_l17 fu a_pride x1 x2 n17) n30 x3 x4 x5 x6 x7 x8 = some res → W p l e (headSpec (WW yX11_tellingSize cX11_tellingSize 9 (some .int)) rm_X11_tellingSize).room s m args below meth c s.heap [] 0 0 (MQ below (vp_Si (fun v => v = res)) args s 0 0 (fun _ => False)) (F0 m 30 ls []) := by
        intro n30
        induction n30 with
        | zero => intro x3 x4 x5 x6 x7 x8 ls hl h; cases h
        | succ n30 ih30 =>
          intro x3 x4 x5 x6 x7 x8 ls hl h
          have h : f_X11_tellingSize_b30 fu a_pride x1 x2 (f_X11_tellingSize_l17 fu a_pride x1 x2 n17) (f_X11_tellingSize_l30 fu a_pride x1 x2 (f_X11_tellingSize_l17 fu a_pride x1 x2 n17) n30) x3 x4 x5 x6 x7 x8 = some res := h
          unfold f_X11_tellingSize_b30 at h
          refine lv_iload hx hb dX11_tellingSize_30 (lv_at hl 8 rfl) ?_
          refine lv_bipush (v := 20) hx hb dX11_tellingSize_32 (by decide) ?_
          refine lv_icmp_gt (tgt := 70) hx hb dX11_tellingSize_34 (by decide) (fun c_17 => ?_) (fun c_17 => ?_)
          · have h := it c_17 h
            refine lv_iload hx hb dX11_tellingSize_70 (lv_at hl 7 rfl) ?_
            refine lv_iload hx hb dX11_tellingSize_72 (lv_at hl 4 rfl) ?_
            refine lv_iload hx hb dX11_tellingSize_74 (lv_at hl 7 rfl) ?_
            refine lv_isub hx hb dX11_tellingSize_76 ?_
            refine va_mmax hx hb (hml.trans hl.1.symm) hown (ht _ tb_1067) (ht _ tb_586) (ht _ tb_19) (ht _ tb_587) (Nat.le_of_ble_eq_true rfl) (Nat.le_of_ble_eq_true rfl) (Nat.le_of_ble_eq_true rfl) (Nat.le_of_ble_eq_true rfl) dX11_tellingSize_77 ?_
            refine lv_topi (fun x8_18 e_x8_18 => ?_)
            have h := bn e_x8_18 h
            refine lv_istore (lv' := [(8, .int x8_18), (0, .ref (A_b 0)), (1, .int x1), (2, .int x2), (3, .int x3), (4, .int x4), (5, .int x5), (6, .int x6), (7, .int x7)]) hx hb dX11_tellingSize_80 hl (by decide) rfl (fun ls hl => ?_)
            refine lv_iload hx hb dX11_tellingSize_82 (lv_at hl 0 rfl) ?_
            refine lv_iload hx hb dX11_tellingSize_84 (lv_at hl 6 rfl) ?_
            refine lv_icmp_ge (tgt := 96) hx hb dX11_tellingSize_86 (by decide) (fun c_19 => ?_) (fun c_19 => ?_)
            · have h := it c_19 h
              obtain ⟨x6_20, e_x6_20⟩ : ∃ y : Int32, y = x6 + 1 := ⟨_, rfl⟩
              have h := bn e_x6_20 h
              refine lv_iinc (v := x6_20) (lv' := [(6, .int x6_20), (8, .int x8_18), (0, .ref (A_b 0)), (1, .int x1), (2, .int x2), (3, .int x3), (4, .int x4), (5, .int x5), (7, .int x7)]) hx hb dX11_tellingSize_96 hl (k := 7) rfl (by rw [e_x6_20]; rfl) (by decide) rfl (fun ls hl => ?_)
              refine lv_goto (tgt := 17) hx hb dX11_tellingSize_99 (by decide) ?_
              exact ih17 x3 x4 x5 x6_20 ls (lv_sub hl [2, 3, 4, 5, 6, 7, 0] rfl) h
            · have h := ie c_19 h
              refine lv_iload hx hb dX11_tellingSize_89 (lv_at hl 0 rfl) ?_
              refine lv_istore (lv' := [(5, .int x8_18), (8, .int x8_18), (0, .ref (A_b 0)), (1, .int x1), (2, .int x2), (3, .int x3), (4, .int x4), (6, .int x6), (7, .int x7)]) hx hb dX11_tellingSize_91 hl (by decide) rfl (fun ls hl => ?_)
              refine lv_iload hx hb dX11_tellingSize_93 (lv_at hl 7 rfl) ?_
              refine lv_istore_n (lv' := [(3, .int x6), (5, .int x8_18), (8, .int x8_18), (0, .ref (A_b 0)), (1, .int x1), (2, .int x2), (4, .int x4), (6, .int x6), (7, .int x7)]) hx hb dX11_tellingSize_95 rfl hl (by decide) rfl (fun ls hl => ?_)
              obtain ⟨x6_21, e_x6_21⟩ : ∃ y : Int32, y = x6 + 1 := ⟨_, rfl⟩
              have h := bn e_x6_21 h
              refine lv_iinc (v := x6_21) (lv' := [(6, .int x6_21), (3, .int x6), (5, .int x8_18), (8, .int x8_18), (0, .ref (A_b 0)), (1, .int x1), (2, .int x2), (4, .int x4), (7, .int x7)]) hx hb dX11_tellingSize_96 hl (k := 7) rfl (by rw [e_x6_21]; rfl) (by decide) rfl (fun ls hl => ?_)
              refine lv_goto (tgt := 17) hx hb dX11_tellingSize_99 (by decide) ?_
              exact ih17 x6 x4 x8_18 x6_21 ls (lv_sub hl [4, 5, 6, 1, 7, 2, 0] rfl) h
          · have h := ie c_17 h
            refine lv_iload_n hx hb dX11_tellingSize_37 rfl (lv_at hl 2 rfl) ?_
            refine lv_iload hx hb dX11_tellingSize_38 (lv_at hl 8 rfl) ?_
            obtain ⟨z_22, e_z_22, h⟩ := bi h
            refine roSi (rest := []) ⟨hx, hb, hml, hown, ht⟩ (c_X11_holds l D cy fu  x2 x8 z_22 e_z_22) (cS ht ms_X11_holds tb_906 rfl rfl ⟨Nat.le_of_ble_eq_true rfl, Nat.le_of_ble_eq_true rfl⟩) (P_sub hP [] rfl) hX rfl hl.1 rfl (Nat.le_of_ble_eq_true rfl) dX11_tellingSize_40 ⟨Nat.le_of_ble_eq_true rfl, Nat.le_of_ble_eq_true rfl⟩ ?_
            refine lv_if_eq (tgt := 64) hx hb dX11_tellingSize_43 (by decide) (fun c_23 => ?_) (fun c_23 => ?_)
            · have h := it c_23 h
              obtain ⟨x8_24, e_x8_24⟩ : ∃ y : Int32, y = x8 + 1 := ⟨_, rfl⟩
              have h := bn e_x8_24 h
              refine lv_iinc (v := x8_24) (lv' := [(8, .int x8_24), (0, .ref (A_b 0)), (1, .int x1), (2, .int x2), (3, .int x3), (4, .int x4), (5, .int x5), (6, .int x6), (7, .int x7)]) hx hb dX11_tellingSize_64 hl (k := 8) rfl (by rw [e_x8_24]; rfl) (by decide) rfl (fun ls hl => ?_)
              refine lv_goto (tgt := 30) hx hb dX11_tellingSize_67 (by decide) ?_
              exact ih30 x3 x4 x5 x6 x7 x8_24 ls (lv_sub hl [1, 2, 3, 4, 5, 6, 7, 8, 0] rfl) h
            · have h := ie c_23 h
              refine lv_aload_n hx hb dX11_tellingSize_46 rfl (lv_at hl 0 rfl) ?_
              refine xget (i := 0) (j := 0) (k := 4) (T := TX11) hx hb ht tb_iX11 hown hX hP rfl rfl rfl (by decide) tb_433 rfl dX11_tellingSize_47 ?_
              refine lv_iload hx hb dX11_tellingSize_50 (lv_at hl 8 rfl) ?_
              refine lv_iload_n hx hb dX11_tellingSize_52 rfl (lv_at hl 1 rfl) ?_
              obtain ⟨z_25, e_z_25, h⟩ := bi h
              refine roVi (rest := []) ⟨hx, hb, hml, hown, ht⟩ (c_X0_braveryWith l D cy fu A_a a_name a_courage a_weight a_medals a_stood a_fled a_liked a_votes a_count a_living a_pride a_quota a_melted a_lost x8 x1 z_25 e_z_25) (cV ht mv_X0_braveryWith tb_1050 rfl rfl ⟨Nat.le_of_ble_eq_true rfl, Nat.le_of_ble_eq_true rfl⟩) (P_sub hP [1] rfl) hX rfl rfl rfl hl.1 rfl (Nat.le_of_ble_eq_true rfl) dX11_tellingSize_53 ⟨Nat.le_of_ble_eq_true rfl, Nat.le_of_ble_eq_true rfl⟩ ?_
              refine lv_iload hx hb dX11_tellingSize_56 (lv_at hl 6 rfl) ?_
              refine lv_icmp_lt (tgt := 64) hx hb dX11_tellingSize_58 (by decide) (fun c_26 => ?_) (fun c_26 => ?_)
              · have h := it c_26 h
                obtain ⟨x8_27, e_x8_27⟩ : ∃ y : Int32, y = x8 + 1 := ⟨_, rfl⟩
                have h := bn e_x8_27 h
                refine lv_iinc (v := x8_27) (lv' := [(8, .int x8_27), (0, .ref (A_b 0)), (1, .int x1), (2, .int x2), (3, .int x3), (4, .int x4), (5, .int x5), (6, .int x6), (7, .int x7)]) hx hb dX11_tellingSize_64 hl (k := 8) rfl (by rw [e_x8_27]; rfl) (by decide) rfl (fun ls hl => ?_)
                refine lv_goto (tgt := 30) hx hb dX11_tellingSize_67 (by decide) ?_
                exact ih30 x3 x4 x5 x6 x7 x8_27 ls (lv_sub hl [1, 2, 3, 4, 5, 6, 7, 8, 0] rfl) h
              · have h := ie c_26 h
                obtain ⟨x7_28, e_x7_28⟩ : ∃ y : Int32, y = x7 + 1 := ⟨_, rfl⟩
                have h := bn e_x7_28 h
                refine lv_iinc (v := x7_28) (lv' := [(7, .int x7_28), (0, .ref (A_b 0)), (1, .int x1), (2, .int x2), (3, .int x3), (4, .int x4), (5, .int x5), (6, .int x6), (8, .int x8)]) hx hb dX11_tellingSize_61 hl (k := 7) rfl (by rw [e_x7_28]; rfl) (by decide) rfl (fun ls hl => ?_)
                obtain ⟨x8_29, e_x8_29⟩ : ∃ y : Int32, y = x8 + 1 := ⟨_, rfl⟩
                have h := bn e_x8_29 h
                refine lv_iinc (v := x8_29) (lv' := [(8, .int x8_29), (7, .int x7_28), (0, .ref (A_b 0)), (1, .int x1), (2, .int x2), (3, .int x3), (4, .int x4), (5, .int x5), (6, .int x6)]) hx hb dX11_tellingSize_64 hl (k := 8) rfl (by rw [e_x8_29]; rfl) (by decide) rfl (fun ls hl => ?_)
                refine lv_goto (tgt := 30) hx hb dX11_tellingSize_67 (by decide) ?_
                exact ih30 x3 x4 x5 x6 x7_28 x8_29 ls (lv_sub hl [2, 3, 4, 5, 6, 7, 8, 1, 0] rfl) h
      intro x3 x4 x5 x6 ls hl h
      have h : f_X11_tellingSize_b17 fu a_pride x1 x2 (f_X11_tellingSize_l17 fu a_pride x1 x2 n17) x3 x4 x5 x6 = some res := h
      unfold f_X11_tellingSize_b17 at h
      refine lv_iload hx hb dX11_tellingSize_17 (lv_at hl 6 rfl) ?_
      refine lv_bipush (v := 99) hx hb dX11_tellingSize_19 (by decide) ?_
      refine lv_icmp_gt (tgt := 102) hx hb dX11_tellingSize_21 (by decide) (fun c_30 => ?_) (fun c_30 => ?_)
      · have h := it c_30 h
        refine lv_iload_n hx hb dX11_tellingSize_102 rfl (lv_at hl 3 rfl) ?_
        cases h
        exact W.iret hx hb hr (fun _ ht9 _ => ⟨_, rfl, rfl, ht9⟩) (fun _ hq => by cases hq) dX11_tellingSize_103
      · have h := ie c_30 h
        refine lv_iconst (v := 0) hx hb dX11_tellingSize_24 (by decide) ?_
        refine lv_istore (lv' := [(7, .int 0), (0, .ref (A_b 0)), (1, .int x1), (2, .int x2), (3, .int x3), (4, .int x4), (5, .int x5), (6, .int x6)]) hx hb dX11_tellingSize_25 hl (by decide) rfl (fun ls hl => ?_)
        refine lv_iconst (v := 0) hx hb dX11_tellingSize_27 (by decide) ?_
        refine lv_istore (lv' := [(8, .int 0), (7, .int 0), (0, .ref (A_b 0)), (1, .int x1), (2, .int x2), (3, .int x3), (4, .int x4), (5, .int x5), (6, .int x6)]) hx hb dX11_tellingSize_28 hl (by decide) rfl (fun ls hl => ?_)
        exact l30 fu x3 x4 x5 x6 0 0 ls (lv_sub hl [2, 3, 4, 5, 6, 7, 8, 1, 0] rfl) h
  unfold f_X11_tellingSize at h
  refine lv_iconst (v := 1) hx hb dX11_tellingSize_0 (by decide) ?_
  refine lv_istore_n (lv' := [(3, .int 1), (0, .ref (A_b 0)), (1, .int x1), (2, .int x2)]) hx hb dX11_tellingSize_1 rfl hl (by decide) rfl (fun ls hl => ?_)
  refine lv_iload_n hx hb dX11_tellingSize_2 rfl (lv_at hl 3 rfl) ?_
  obtain ⟨z_31, e_z_31, h⟩ := bi h
  refine roSi (rest := []) ⟨hx, hb, hml, hown, ht⟩ (c_J6_bitCount_0f7a4 l D cy fu  x2 z_31 e_z_31) (cS ht ms_J6_bitCount_0f7a4 tb_852 rfl rfl ⟨Nat.le_of_ble_eq_true rfl, Nat.le_of_ble_eq_true rfl⟩) (P_sub hP [] rfl) hX rfl hl.1 rfl (Nat.le_of_ble_eq_true rfl) dX11_tellingSize_3 ⟨Nat.le_of_ble_eq_true rfl, Nat.le_of_ble_eq_true rfl⟩ ?_
  refine lv_istore (lv' := [(4, .int z_31), (3, .int 1), (0, .ref (A_b 0)), (1, .int x1), (2, .int x2)]) hx hb dX11_tellingSize_6 hl (by decide) rfl (fun ls hl => ?_)
  refine lv_iload hx hb dX11_tellingSize_8 (lv_at hl 0 rfl) ?_
  refine lv_iconst (v := 1) hx hb dX11_tellingSize_10 (by decide) ?_
  refine lv_iadd hx hb dX11_tellingSize_11 ?_
  refine lv_topi (fun x5_32 e_x5_32 => ?_)
  have h := bn e_x5_32 h
  refine lv_istore (lv' := [(5, .int x5_32), (4, .int z_31), (3, .int 1), (0, .ref (A_b 0)), (1, .int x1), (2, .int x2)]) hx hb dX11_tellingSize_12 hl (by decide) rfl (fun ls hl => ?_)
  refine lv_iconst (v := 1) hx hb dX11_tellingSize_14 (by decide) ?_
  refine lv_istore (lv' := [(6, .int 1), (5, .int x5_32), (4, .int z_31), (3, .int 1), (0, .ref (A_b 0)), (1, .int x1), (2, .int x2)]) hx hb dX11_tellingSize_15 hl (by decide) rfl (fun ls hl => ?_)
  exact l17 fu 1 z_31 x5_32 1 ls (lv_sub hl [4, 5, 6, 3, 2, 1, 0] rfl) h
theorem dX11_ask_0 : decode cX11_ask 0 = .ok (.aload_n 0, 1) := by decide +kernel
theorem dX11_ask_1 : decode cX11_ask 1 = .ok (.iload_n 2, 1) := by decide +kernel
theorem dX11_ask_2 : decode cX11_ask 2 = .ok (.invokevirtual 111, 3) := by decide +kernel
theorem dX11_ask_5 : decode cX11_ask 5 = .ok (.astore 4, 2) := by decide +kernel
theorem dX11_ask_7 : decode cX11_ask 7 = .ok (.aload_n 0, 1) := by decide +kernel
theorem dX11_ask_8 : decode cX11_ask 8 = .ok (.iload_n 1, 1) := by decide +kernel
theorem dX11_ask_9 : decode cX11_ask 9 = .ok (.aload 4, 2) := by decide +kernel
theorem dX11_ask_11 : decode cX11_ask 11 = .ok (.iload_n 3, 1) := by decide +kernel
theorem dX11_ask_12 : decode cX11_ask 12 = .ok (.invokevirtual 352, 3) := by decide +kernel
theorem dX11_ask_15 : decode cX11_ask 15 = .ok (.istore 5, 2) := by decide +kernel
theorem dX11_ask_17 : decode cX11_ask 17 = .ok (.iload 5, 2) := by decide +kernel
theorem dX11_ask_19 : decode cX11_ask 19 = .ok (.ifCond .eq 10, 3) := by decide +kernel
theorem dX11_ask_22 : decode cX11_ask 22 = .ok (.aload_n 0, 1) := by decide +kernel
theorem dX11_ask_23 : decode cX11_ask 23 = .ok (.iload 5, 2) := by decide +kernel
theorem dX11_ask_25 : decode cX11_ask 25 = .ok (.invokevirtual 143, 3) := by decide +kernel
theorem dX11_ask_28 : decode cX11_ask 28 = .ok (.ireturn, 1) := by decide +kernel
theorem dX11_ask_29 : decode cX11_ask 29 = .ok (.aload_n 0, 1) := by decide +kernel
theorem dX11_ask_30 : decode cX11_ask 30 = .ok (.iload_n 1, 1) := by decide +kernel
theorem dX11_ask_31 : decode cX11_ask 31 = .ok (.aload 4, 2) := by decide +kernel
theorem dX11_ask_33 : decode cX11_ask 33 = .ok (.iload_n 3, 1) := by decide +kernel
theorem dX11_ask_34 : decode cX11_ask 34 = .ok (.invokevirtual 355, 3) := by decide +kernel
theorem dX11_ask_37 : decode cX11_ask 37 = .ok (.istore 6, 2) := by decide +kernel
theorem dX11_ask_39 : decode cX11_ask 39 = .ok (.iload 6, 2) := by decide +kernel
theorem dX11_ask_41 : decode cX11_ask 41 = .ok (.invokestatic 281, 3) := by decide +kernel
theorem dX11_ask_44 : decode cX11_ask 44 = .ok (.iconst 2, 1) := by decide +kernel
theorem dX11_ask_45 : decode cX11_ask 45 = .ok (.if_icmp .ge 10, 3) := by decide +kernel
theorem dX11_ask_48 : decode cX11_ask 48 = .ok (.aload_n 0, 1) := by decide +kernel
theorem dX11_ask_49 : decode cX11_ask 49 = .ok (.bipush 6, 2) := by decide +kernel
theorem dX11_ask_51 : decode cX11_ask 51 = .ok (.invokevirtual 143, 3) := by decide +kernel
theorem dX11_ask_54 : decode cX11_ask 54 = .ok (.ireturn, 1) := by decide +kernel
theorem dX11_ask_55 : decode cX11_ask 55 = .ok (.aload_n 0, 1) := by decide +kernel
theorem dX11_ask_56 : decode cX11_ask 56 = .ok (.aload_n 0, 1) := by decide +kernel
theorem dX11_ask_57 : decode cX11_ask 57 = .ok (.aload_n 0, 1) := by decide +kernel
theorem dX11_ask_58 : decode cX11_ask 58 = .ok (.getfield 29, 3) := by decide +kernel
theorem dX11_ask_61 : decode cX11_ask 61 = .ok (.getfield 228, 3) := by decide +kernel
theorem dX11_ask_64 : decode cX11_ask 64 = .ok (.iload_n 1, 1) := by decide +kernel
theorem dX11_ask_65 : decode cX11_ask 65 = .ok (.iaload, 1) := by decide +kernel
theorem dX11_ask_66 : decode cX11_ask 66 = .ok (.iload 6, 2) := by decide +kernel
theorem dX11_ask_68 : decode cX11_ask 68 = .ok (.invokevirtual 364, 3) := by decide +kernel
theorem dX11_ask_71 : decode cX11_ask 71 = .ok (.invokevirtual 193, 3) := by decide +kernel
theorem dX11_ask_74 : decode cX11_ask 74 = .ok (.ireturn, 1) := by decide +kernel
theorem mv_X11_ask : MV yX11_ask RX11 cX11_ask 7 (some .int) 3 := ⟨tb_1062, tb_1060, tb_1061, tb_1, by decide +kernel, by decide +kernel, by decide +kernel⟩
def f_X11_ask (fu : Nat) (b_latestStatus : Int32) (y0_row : Nat → Int64) (y0_missing : Int32) (y0_many : Int32) (y1_row : Nat → Int64) (y1_missing : Int32) (y1_many : Int32) (y2_row : Nat → Int64) (y2_missing : Int32) (y2_many : Int32) (y3_row : Nat → Int64) (y3_missing : Int32) (y3_many : Int32) (a_medals : Nat → Int32) (a_count : Int32) (a_pride : Int32) (x1 : Int32) (x2 : Int32) (x3 : Int32) : Option (Int32 × Int32) := (if x2 = 0 then (f_X11_seenRefusal fu y0_row y0_missing y0_many a_count x1 x3).bind fun z_56 => (if z_56 = 0 then (f_X11_fittingCourages fu y0_row y0_many a_medals a_count a_pride x1 x3).bind fun z_58 => (f_J6_bitCount_0f7a4 fu z_58).bind fun z_59 => (if 2 ≤ z_59 then (rdI a_medals 8 x1).bind fun y_61 => (f_X11_tellingSize fu a_pride y_61 z_58).bind fun z_62 => (f_X11_answer fu b_latestStatus z_62).bind fun z_63 => some (z_63.1, z_63.2) else (f_X11_refuse fu b_latestStatus 6).bind fun z_64 => some (z_64.1, z_64.2)) else (f_X11_refuse fu b_latestStatus z_56).bind fun z_65 => some (z_65.1, z_65.2)) else (if x2 = 1 then (f_X11_seenRefusal fu y1_row y1_missing y1_many a_count x1 x3).bind fun z_67 => (if z_67 = 0 then (f_X11_fittingCourages fu y1_row y1_many a_medals a_count a_pride x1 x3).bind fun z_69 => (f_J6_bitCount_0f7a4 fu z_69).bind fun z_70 => (if 2 ≤ z_70 then (rdI a_medals 8 x1).bind fun y_72 => (f_X11_tellingSize fu a_pride y_72 z_69).bind fun z_73 => (f_X11_answer fu b_latestStatus z_73).bind fun z_74 => some (z_74.1, z_74.2) else (f_X11_refuse fu b_latestStatus 6).bind fun z_75 => some (z_75.1, z_75.2)) else (f_X11_refuse fu b_latestStatus z_67).bind fun z_76 => some (z_76.1, z_76.2)) else (if x2 = 2 then (f_X11_seenRefusal fu y2_row y2_missing y2_many a_count x1 x3).bind fun z_78 => (if z_78 = 0 then (f_X11_fittingCourages fu y2_row y2_many a_medals a_count a_pride x1 x3).bind fun z_80 => (f_J6_bitCount_0f7a4 fu z_80).bind fun z_81 => (if 2 ≤ z_81 then (rdI a_medals 8 x1).bind fun y_83 => (f_X11_tellingSize fu a_pride y_83 z_80).bind fun z_84 => (f_X11_answer fu b_latestStatus z_84).bind fun z_85 => some (z_85.1, z_85.2) else (f_X11_refuse fu b_latestStatus 6).bind fun z_86 => some (z_86.1, z_86.2)) else (f_X11_refuse fu b_latestStatus z_78).bind fun z_87 => some (z_87.1, z_87.2)) else (if x2 = 3 then (f_X11_seenRefusal fu y3_row y3_missing y3_many a_count x1 x3).bind fun z_89 => (if z_89 = 0 then (f_X11_fittingCourages fu y3_row y3_many a_medals a_count a_pride x1 x3).bind fun z_91 => (f_J6_bitCount_0f7a4 fu z_91).bind fun z_92 => (if 2 ≤ z_92 then (rdI a_medals 8 x1).bind fun y_94 => (f_X11_tellingSize fu a_pride y_94 z_91).bind fun z_95 => (f_X11_answer fu b_latestStatus z_95).bind fun z_96 => some (z_96.1, z_96.2) else (f_X11_refuse fu b_latestStatus 6).bind fun z_97 => some (z_97.1, z_97.2)) else (f_X11_refuse fu b_latestStatus z_89).bind fun z_98 => some (z_98.1, z_98.2)) else (f_X11_seenRefusal_n2 fu a_count x1 x3).bind fun z_99 => (if z_99 = 0 then (f_X11_fittingCourages_n2 fu x1 x3).bind fun z_101 => (f_J6_bitCount_0f7a4 fu z_101).bind fun z_102 => (if 2 ≤ z_102 then (rdI a_medals 8 x1).bind fun y_104 => (f_X11_tellingSize fu a_pride y_104 z_101).bind fun z_105 => (f_X11_answer fu b_latestStatus z_105).bind fun z_106 => some (z_106.1, z_106.2) else (f_X11_refuse fu b_latestStatus 6).bind fun z_107 => some (z_107.1, z_107.2)) else (f_X11_refuse fu b_latestStatus z_99).bind fun z_108 => some (z_108.1, z_108.2))))))
abbrev rm_X11_ask : Room := { frames := 4, cells := 0, slots := 0, locals := 95 }
set_option maxHeartbeats 4000000 in
set_option maxRecDepth 100000 in
theorem c_X11_ask (l : Launch) (D : va_G) (cy : Nat → ClassId) (fu : Nat) (A_b : Nat → Nat) (r_b_war : Nat) (r_b_draftArmy : Nat) (r_b_draftWar : Nat) (r_b_reader : Nat) (r_b_armyReader : Nat) (r_b_warReader : Nat) (r_b_markedArmies : Nat) (r_b_markedWars : Nat) (r_b_latest : Nat) (r_b_trial : Nat) (r_b_foresight : Nat) (r_b_pairs : Nat) (b_latestStatus : Int32) (b_fractionTop : Int64) (b_fractionBottom : Int64) (b_marks : Int32) (A_T : Nat → Nat) (A_y0 : Nat → Nat) (y0_row : Nat → Int64) (y0_missing : Int32) (y0_sort : Int32) (y0_many : Int32) (A_y1 : Nat → Nat) (y1_row : Nat → Int64) (y1_missing : Int32) (y1_sort : Int32) (y1_many : Int32) (A_y2 : Nat → Nat) (y2_row : Nat → Int64) (y2_missing : Int32) (y2_sort : Int32) (y2_many : Int32) (A_y3 : Nat → Nat) (y3_row : Nat → Int64) (y3_missing : Int32) (y3_sort : Int32) (y3_many : Int32) (A_a : Nat → Nat) (a_name : Nat → Int64) (a_courage : Nat → Int32) (a_weight : Nat → Int32) (a_medals : Nat → Int32) (a_stood : Nat → Int32) (a_fled : Nat → Int32) (a_liked : Nat → Int32) (a_votes : Nat → Int32) (a_count : Int32) (a_living : Int32) (a_pride : Int32) (a_quota : Int32) (a_melted : Int32) (a_lost : Int32) (x1 : Int32) (x2 : Int32) (x3 : Int32) (res : Int32 × Int32) (h : f_X11_ask fu b_latestStatus y0_row y0_missing y0_many y1_row y1_missing y1_many y2_row y2_missing y2_many y3_row y3_missing y3_many a_medals a_count a_pride x1 x2 x3 = some res) (A : Nat → Prop) (hA : A = adr [bl_X11 cy A_b (A_T 0) (A_a 0) r_b_war r_b_draftArmy r_b_draftWar r_b_reader r_b_armyReader r_b_warReader r_b_markedArmies r_b_markedWars r_b_latest r_b_trial r_b_foresight r_b_pairs b_latestStatus b_fractionTop b_fractionBottom b_marks, [(A_T 0, .inl (cy 4, 4, .inr (.inr (.inr (.inr (trf4 (A_y0 0) (A_y1 0) (A_y2 0) (A_y3 0)))))))], bl_X8 cy A_y0 y0_row y0_missing y0_sort y0_many, bl_X8 cy A_y1 y1_row y1_missing y1_sort y1_many, bl_X8 cy A_y2 y2_row y2_missing y2_sort y2_many, bl_X8 cy A_y3 y3_row y3_missing y3_sort y3_many, bl_X0 cy A_a a_name a_courage a_weight a_medals a_stood a_fled a_liked a_votes a_count a_living a_pride a_quota a_melted a_lost]) (W1 : List va_W) (hW1 : W1 = [bl_X11 cy A_b (A_T 0) (A_a 0) r_b_war r_b_draftArmy r_b_draftWar r_b_reader r_b_armyReader r_b_warReader r_b_markedArmies r_b_markedWars r_b_latest r_b_trial r_b_foresight r_b_pairs res.2 b_fractionTop b_fractionBottom b_marks, [(A_T 0, .inl (cy 4, 4, .inr (.inr (.inr (.inr (trf4 (A_y0 0) (A_y1 0) (A_y2 0) (A_y3 0)))))))], bl_X8 cy A_y0 y0_row y0_missing y0_sort y0_many, bl_X8 cy A_y1 y1_row y1_missing y1_sort y1_many, bl_X8 cy A_y2 y2_row y2_missing y2_sort y2_many, bl_X8 cy A_y3 y3_row y3_missing y3_sort y3_many, bl_X0 cy A_a a_name a_courage a_weight a_medals a_stood a_fled a_liked a_votes a_count a_living a_pride a_quota a_melted a_lost]) : Met l yX11_ask (WW yX11_ask cX11_ask 7 (some .int)) rm_X11_ask (Ed D cy [.ref (A_b 0), .int x1, .int x2, .int x3] [bl_X11 cy A_b (A_T 0) (A_a 0) r_b_war r_b_draftArmy r_b_draftWar r_b_reader r_b_armyReader r_b_warReader r_b_markedArmies r_b_markedWars r_b_latest r_b_trial r_b_foresight r_b_pairs b_latestStatus b_fractionTop b_fractionBottom b_marks, [(A_T 0, .inl (cy 4, 4, .inr (.inr (.inr (.inr (trf4 (A_y0 0) (A_y1 0) (A_y2 0) (A_y3 0)))))))], bl_X8 cy A_y0 y0_row y0_missing y0_sort y0_many, bl_X8 cy A_y1 y1_row y1_missing y1_sort y1_many, bl_X8 cy A_y2 y2_row y2_missing y2_sort y2_many, bl_X8 cy A_y3 y3_row y3_missing y3_sort y3_many, bl_X0 cy A_a a_name a_courage a_weight a_medals a_stood a_fled a_liked a_votes a_count a_living a_pride a_quota a_melted a_lost]) (Qei D res.1 A W1) 0 0 A := by
  refine Met.ofW (cc := cX11_ask) (maxL := 7) (ret := (some .int)) (by decide) rfl ?_
  intro p e s m args below meth c s₁ B hml hv
  obtain ⟨hargs, hP, hX, hD0⟩ := hv
  have hx := B.exec
  have hb := B.bytes
  have hr := B.returns
  have ht : ∀ w ∈ lw_gd, w.before args s = true := fun w hw => atoms_spec (ws := WW yX11_ask cX11_ask 7 (some .int)) B.pre w (List.mem_cons_of_mem _ hw)
  have hown : s.vm.findClass RX11 = some m.cls := findClass_of_methodNamed B.named
  have hlocks := B.notSynchronized
  have hP : PD D A [bl_X11 cy A_b (A_T 0) (A_a 0) r_b_war r_b_draftArmy r_b_draftWar r_b_reader r_b_armyReader r_b_warReader r_b_markedArmies r_b_markedWars r_b_latest r_b_trial r_b_foresight r_b_pairs b_latestStatus b_fractionTop b_fractionBottom b_marks, [(A_T 0, .inl (cy 4, 4, .inr (.inr (.inr (.inr (trf4 (A_y0 0) (A_y1 0) (A_y2 0) (A_y3 0)))))))], bl_X8 cy A_y0 y0_row y0_missing y0_sort y0_many, bl_X8 cy A_y1 y1_row y1_missing y1_sort y1_many, bl_X8 cy A_y2 y2_row y2_missing y2_sort y2_many, bl_X8 cy A_y3 y3_row y3_missing y3_sort y3_many, bl_X0 cy A_a a_name a_courage a_weight a_medals a_stood a_fled a_liked a_votes a_count a_living a_pride a_quota a_melted a_lost] s.heap := ⟨hP, by rw [hA]; exact hD0.own⟩
  have hS : va_S A s.heap s.heap [] := va_S.rf
  obtain ⟨ls, hl, hent⟩ := ent (m := m) (n := 7) hargs (Nat.le_of_ble_eq_true rfl) (lv := [(0, .ref (A_b 0)), (1, .int x1), (2, .int x2), (3, .int x3)]) rfl
  rw [hent]
  clear hent
  unfold f_X11_ask at h
  refine lv_aload_n hx hb dX11_ask_0 rfl (lv_at hl 0 rfl) ?_
  refine lv_iload_n hx hb dX11_ask_1 rfl (lv_at hl 2 rfl) ?_
  by_cases c_55 : x2 = 0
  · have h := it c_55 h
    refine roVq (rest := []) ⟨hx, hb, hml, hown, ht⟩ (c_X11_trayAt l D cy fu A_b (A_a 0) r_b_war r_b_draftArmy r_b_draftWar r_b_reader r_b_armyReader r_b_warReader r_b_markedArmies r_b_markedWars r_b_latest r_b_trial r_b_foresight r_b_pairs b_latestStatus b_fractionTop b_fractionBottom b_marks A_T (trf4 (A_y0 0) (A_y1 0) (A_y2 0) (A_y3 0)) x2 (some (A_y0 0)) (tray_0 c_55)) (cV ht mv_X11_trayAt tb_500 rfl rfl ⟨Nat.le_of_ble_eq_true rfl, Nat.le_of_ble_eq_true rfl⟩) (P_sub hP.1 [0, 1] rfl) hX rfl rfl rfl hl.1 rfl (Nat.le_of_ble_eq_true rfl) dX11_ask_2 ⟨Nat.le_of_ble_eq_true rfl, Nat.le_of_ble_eq_true rfl⟩ ?_
    refine lv_astore (lv' := [(4, .ref (A_y0 0)), (0, .ref (A_b 0)), (1, .int x1), (2, .int x2), (3, .int x3)]) hx hb dX11_ask_5 hl (by decide) rfl (fun ls hl => ?_)
    refine lv_aload_n hx hb dX11_ask_7 rfl (lv_at hl 1 rfl) ?_
    refine lv_iload_n hx hb dX11_ask_8 rfl (lv_at hl 2 rfl) ?_
    refine lv_aload hx hb dX11_ask_9 (lv_at hl 0 rfl) ?_
    refine lv_iload_n hx hb dX11_ask_11 rfl (lv_at hl 4 rfl) ?_
    obtain ⟨z_56, e_z_56, h⟩ := bi h
    refine roVi (rest := []) ⟨hx, hb, hml, hown, ht⟩ (c_X11_seenRefusal l D cy fu A_b (A_T 0) r_b_war r_b_draftArmy r_b_draftWar r_b_reader r_b_armyReader r_b_warReader r_b_markedArmies r_b_markedWars r_b_latest r_b_trial r_b_foresight r_b_pairs b_latestStatus b_fractionTop b_fractionBottom b_marks A_y0 y0_row y0_missing y0_sort y0_many A_a a_name a_courage a_weight a_medals a_stood a_fled a_liked a_votes a_count a_living a_pride a_quota a_melted a_lost x1 x3 z_56 e_z_56) (cV ht mv_X11_seenRefusal tb_1042 rfl rfl ⟨Nat.le_of_ble_eq_true rfl, Nat.le_of_ble_eq_true rfl⟩) (P_sub hP.1 [0, 2, 6] rfl) hX rfl rfl rfl hl.1 rfl (Nat.le_of_ble_eq_true rfl) dX11_ask_12 ⟨Nat.le_of_ble_eq_true rfl, Nat.le_of_ble_eq_true rfl⟩ ?_
    refine lv_istore (lv' := [(5, .int z_56), (4, .ref (A_y0 0)), (0, .ref (A_b 0)), (1, .int x1), (2, .int x2), (3, .int x3)]) hx hb dX11_ask_15 hl (by decide) rfl (fun ls hl => ?_)
    refine lv_iload hx hb dX11_ask_17 (lv_at hl 0 rfl) ?_
    refine lv_if_eq (tgt := 29) hx hb dX11_ask_19 (by decide) (fun c_57 => ?_) (fun c_57 => ?_)
    · have h := it c_57 h
      refine lv_aload_n hx hb dX11_ask_29 rfl (lv_at hl 2 rfl) ?_
      refine lv_iload_n hx hb dX11_ask_30 rfl (lv_at hl 3 rfl) ?_
      refine lv_aload hx hb dX11_ask_31 (lv_at hl 1 rfl) ?_
      refine lv_iload_n hx hb dX11_ask_33 rfl (lv_at hl 5 rfl) ?_
      obtain ⟨z_58, e_z_58, h⟩ := bi h
      refine roVi (rest := []) ⟨hx, hb, hml, hown, ht⟩ (c_X11_fittingCourages l D cy fu A_b (A_T 0) r_b_war r_b_draftArmy r_b_draftWar r_b_reader r_b_armyReader r_b_warReader r_b_markedArmies r_b_markedWars r_b_latest r_b_trial r_b_foresight r_b_pairs b_latestStatus b_fractionTop b_fractionBottom b_marks A_y0 y0_row y0_missing y0_sort y0_many A_a a_name a_courage a_weight a_medals a_stood a_fled a_liked a_votes a_count a_living a_pride a_quota a_melted a_lost x1 x3 z_58 e_z_58) (cV ht mv_X11_fittingCourages tb_1046 rfl rfl ⟨Nat.le_of_ble_eq_true rfl, Nat.le_of_ble_eq_true rfl⟩) (P_sub hP.1 [0, 2, 6] rfl) hX rfl rfl rfl hl.1 rfl (Nat.le_of_ble_eq_true rfl) dX11_ask_34 ⟨Nat.le_of_ble_eq_true rfl, Nat.le_of_ble_eq_true rfl⟩ ?_
      refine lv_istore (lv' := [(6, .int z_58), (5, .int z_56), (4, .ref (A_y0 0)), (0, .ref (A_b 0)), (1, .int x1), (2, .int x2), (3, .int x3)]) hx hb dX11_ask_37 hl (by decide) rfl (fun ls hl => ?_)
      refine lv_iload hx hb dX11_ask_39 (lv_at hl 0 rfl) ?_
      obtain ⟨z_59, e_z_59, h⟩ := bi h
      refine roSi (rest := []) ⟨hx, hb, hml, hown, ht⟩ (c_J6_bitCount_0f7a4 l D cy fu  z_58 z_59 e_z_59) (cS ht ms_J6_bitCount_0f7a4 tb_852 rfl rfl ⟨Nat.le_of_ble_eq_true rfl, Nat.le_of_ble_eq_true rfl⟩) (P_sub hP.1 [] rfl) hX rfl hl.1 rfl (Nat.le_of_ble_eq_true rfl) dX11_ask_41 ⟨Nat.le_of_ble_eq_true rfl, Nat.le_of_ble_eq_true rfl⟩ ?_
      refine lv_iconst (v := 2) hx hb dX11_ask_44 (by decide) ?_
      refine lv_icmp_ge (tgt := 55) hx hb dX11_ask_45 (by decide) (fun c_60 => ?_) (fun c_60 => ?_)
      · have h := it c_60 h
        refine lv_aload_n hx hb dX11_ask_55 rfl (lv_at hl 3 rfl) ?_
        refine lv_aload_n hx hb dX11_ask_56 rfl (lv_at hl 3 rfl) ?_
        refine lv_aload_n hx hb dX11_ask_57 rfl (lv_at hl 3 rfl) ?_
        refine xget (i := 0) (j := 0) (k := 4) (T := TX11) hx hb ht tb_iX11 hown hX hP.1 rfl rfl rfl (by decide) tb_433 rfl dX11_ask_58 ?_
        refine xget (i := 6) (j := 0) (k := 3) (T := TX0) hx hb ht tb_iX0 hown hX hP.1 rfl rfl rfl (by decide) tb_47 rfl dX11_ask_61 ?_
        refine lv_iload_n hx hb dX11_ask_64 rfl (lv_at hl 4 rfl) ?_
        obtain ⟨y_61, e_y_61, h⟩ := bi h
        refine xiald (i0 := 6) (j0 := 4) hx hb hX hP.1 rfl rfl e_y_61 dX11_ask_65 ?_
        refine lv_iload hx hb dX11_ask_66 (lv_at hl 0 rfl) ?_
        obtain ⟨z_62, e_z_62, h⟩ := bi h
        refine roVi (rest := [.ref (A_b 0)]) ⟨hx, hb, hml, hown, ht⟩ (c_X11_tellingSize l D cy fu A_b (A_T 0) r_b_war r_b_draftArmy r_b_draftWar r_b_reader r_b_armyReader r_b_warReader r_b_markedArmies r_b_markedWars r_b_latest r_b_trial r_b_foresight r_b_pairs b_latestStatus b_fractionTop b_fractionBottom b_marks A_a a_name a_courage a_weight a_medals a_stood a_fled a_liked a_votes a_count a_living a_pride a_quota a_melted a_lost y_61 z_58 z_62 e_z_62) (cV ht mv_X11_tellingSize tb_1063 rfl rfl ⟨Nat.le_of_ble_eq_true rfl, Nat.le_of_ble_eq_true rfl⟩) (P_sub hP.1 [0, 6] rfl) hX rfl rfl rfl hl.1 rfl (Nat.le_of_ble_eq_true rfl) dX11_ask_68 ⟨Nat.le_of_ble_eq_true rfl, Nat.le_of_ble_eq_true rfl⟩ ?_
        obtain ⟨z_63, e_z_63, h⟩ := bi h
        refine efVi (rest := []) ⟨hx, hb, hml, hown, ht⟩ (c_X11_answer l D cy fu A_b (A_T 0) (A_a 0) r_b_war r_b_draftArmy r_b_draftWar r_b_reader r_b_armyReader r_b_warReader r_b_markedArmies r_b_markedWars r_b_latest r_b_trial r_b_foresight r_b_pairs b_latestStatus b_fractionTop b_fractionBottom b_marks z_62 z_63 e_z_63 _ rfl _ rfl) (cV ht mv_X11_answer tb_696 rfl rfl ⟨Nat.le_of_ble_eq_true rfl, Nat.le_of_ble_eq_true rfl⟩) hP hS hX [0] rfl rfl rfl rfl rfl rfl hl.1 rfl (Nat.le_of_ble_eq_true rfl) dX11_ask_71 ⟨Nat.le_of_ble_eq_true rfl, Nat.le_of_ble_eq_true rfl⟩ (fun H locs hP hS => ?_)
        have hP : PD D A [bl_X11 cy A_b (A_T 0) (A_a 0) r_b_war r_b_draftArmy r_b_draftWar r_b_reader r_b_armyReader r_b_warReader r_b_markedArmies r_b_markedWars r_b_latest r_b_trial r_b_foresight r_b_pairs z_63.2 b_fractionTop b_fractionBottom b_marks, [(A_T 0, .inl (cy 4, 4, .inr (.inr (.inr (.inr (trf4 (A_y0 0) (A_y1 0) (A_y2 0) (A_y3 0)))))))], bl_X8 cy A_y0 y0_row y0_missing y0_sort y0_many, bl_X8 cy A_y1 y1_row y1_missing y1_sort y1_many, bl_X8 cy A_y2 y2_row y2_missing y2_sort y2_many, bl_X8 cy A_y3 y3_row y3_missing y3_sort y3_many, bl_X0 cy A_a a_name a_courage a_weight a_medals a_stood a_fled a_liked a_votes a_count a_living a_pride a_quota a_melted a_lost] H := hP
        cases h
        subst hW1
        exact W.iret hx hb hr (fun _ ht9 _ => ⟨⟨_, (), rfl, rfl, hPt ht9 hP.1⟩, hS.F ht9⟩) hS.2.2 dX11_ask_74
      · have h := ie c_60 h
        refine lv_aload_n hx hb dX11_ask_48 rfl (lv_at hl 3 rfl) ?_
        refine lv_bipush (v := 6) hx hb dX11_ask_49 (by decide) ?_
        obtain ⟨z_64, e_z_64, h⟩ := bi h
        refine efVi (rest := []) ⟨hx, hb, hml, hown, ht⟩ (c_X11_refuse l D cy fu A_b (A_T 0) (A_a 0) r_b_war r_b_draftArmy r_b_draftWar r_b_reader r_b_armyReader r_b_warReader r_b_markedArmies r_b_markedWars r_b_latest r_b_trial r_b_foresight r_b_pairs b_latestStatus b_fractionTop b_fractionBottom b_marks 6 z_64 e_z_64 _ rfl _ rfl) (cV ht mv_X11_refuse tb_543 rfl rfl ⟨Nat.le_of_ble_eq_true rfl, Nat.le_of_ble_eq_true rfl⟩) hP hS hX [0] rfl rfl rfl rfl rfl rfl hl.1 rfl (Nat.le_of_ble_eq_true rfl) dX11_ask_51 ⟨Nat.le_of_ble_eq_true rfl, Nat.le_of_ble_eq_true rfl⟩ (fun H locs hP hS => ?_)
        have hP : PD D A [bl_X11 cy A_b (A_T 0) (A_a 0) r_b_war r_b_draftArmy r_b_draftWar r_b_reader r_b_armyReader r_b_warReader r_b_markedArmies r_b_markedWars r_b_latest r_b_trial r_b_foresight r_b_pairs z_64.2 b_fractionTop b_fractionBottom b_marks, [(A_T 0, .inl (cy 4, 4, .inr (.inr (.inr (.inr (trf4 (A_y0 0) (A_y1 0) (A_y2 0) (A_y3 0)))))))], bl_X8 cy A_y0 y0_row y0_missing y0_sort y0_many, bl_X8 cy A_y1 y1_row y1_missing y1_sort y1_many, bl_X8 cy A_y2 y2_row y2_missing y2_sort y2_many, bl_X8 cy A_y3 y3_row y3_missing y3_sort y3_many, bl_X0 cy A_a a_name a_courage a_weight a_medals a_stood a_fled a_liked a_votes a_count a_living a_pride a_quota a_melted a_lost] H := hP
        cases h
        subst hW1
        exact W.iret hx hb hr (fun _ ht9 _ => ⟨⟨_, (), rfl, rfl, hPt ht9 hP.1⟩, hS.F ht9⟩) hS.2.2 dX11_ask_54
    · have h := ie c_57 h
      refine lv_aload_n hx hb dX11_ask_22 rfl (lv_at hl 2 rfl) ?_
      refine lv_iload hx hb dX11_ask_23 (lv_at hl 0 rfl) ?_
      obtain ⟨z_65, e_z_65, h⟩ := bi h
      refine efVi (rest := []) ⟨hx, hb, hml, hown, ht⟩ (c_X11_refuse l D cy fu A_b (A_T 0) (A_a 0) r_b_war r_b_draftArmy r_b_draftWar r_b_reader r_b_armyReader r_b_warReader r_b_markedArmies r_b_markedWars r_b_latest r_b_trial r_b_foresight r_b_pairs b_latestStatus b_fractionTop b_fractionBottom b_marks z_56 z_65 e_z_65 _ rfl _ rfl) (cV ht mv_X11_refuse tb_543 rfl rfl ⟨Nat.le_of_ble_eq_true rfl, Nat.le_of_ble_eq_true rfl⟩) hP hS hX [0] rfl rfl rfl rfl rfl rfl hl.1 rfl (Nat.le_of_ble_eq_true rfl) dX11_ask_25 ⟨Nat.le_of_ble_eq_true rfl, Nat.le_of_ble_eq_true rfl⟩ (fun H locs hP hS => ?_)
      have hP : PD D A [bl_X11 cy A_b (A_T 0) (A_a 0) r_b_war r_b_draftArmy r_b_draftWar r_b_reader r_b_armyReader r_b_warReader r_b_markedArmies r_b_markedWars r_b_latest r_b_trial r_b_foresight r_b_pairs z_65.2 b_fractionTop b_fractionBottom b_marks, [(A_T 0, .inl (cy 4, 4, .inr (.inr (.inr (.inr (trf4 (A_y0 0) (A_y1 0) (A_y2 0) (A_y3 0)))))))], bl_X8 cy A_y0 y0_row y0_missing y0_sort y0_many, bl_X8 cy A_y1 y1_row y1_missing y1_sort y1_many, bl_X8 cy A_y2 y2_row y2_missing y2_sort y2_many, bl_X8 cy A_y3 y3_row y3_missing y3_sort y3_many, bl_X0 cy A_a a_name a_courage a_weight a_medals a_stood a_fled a_liked a_votes a_count a_living a_pride a_quota a_melted a_lost] H := hP
      cases h
      subst hW1
      exact W.iret hx hb hr (fun _ ht9 _ => ⟨⟨_, (), rfl, rfl, hPt ht9 hP.1⟩, hS.F ht9⟩) hS.2.2 dX11_ask_28
  have h := ie c_55 h
  by_cases c_66 : x2 = 1
  · have h := it c_66 h
    refine roVq (rest := []) ⟨hx, hb, hml, hown, ht⟩ (c_X11_trayAt l D cy fu A_b (A_a 0) r_b_war r_b_draftArmy r_b_draftWar r_b_reader r_b_armyReader r_b_warReader r_b_markedArmies r_b_markedWars r_b_latest r_b_trial r_b_foresight r_b_pairs b_latestStatus b_fractionTop b_fractionBottom b_marks A_T (trf4 (A_y0 0) (A_y1 0) (A_y2 0) (A_y3 0)) x2 (some (A_y1 0)) (tray_1 c_66)) (cV ht mv_X11_trayAt tb_500 rfl rfl ⟨Nat.le_of_ble_eq_true rfl, Nat.le_of_ble_eq_true rfl⟩) (P_sub hP.1 [0, 1] rfl) hX rfl rfl rfl hl.1 rfl (Nat.le_of_ble_eq_true rfl) dX11_ask_2 ⟨Nat.le_of_ble_eq_true rfl, Nat.le_of_ble_eq_true rfl⟩ ?_
    refine lv_astore (lv' := [(4, .ref (A_y1 0)), (0, .ref (A_b 0)), (1, .int x1), (2, .int x2), (3, .int x3)]) hx hb dX11_ask_5 hl (by decide) rfl (fun ls hl => ?_)
    refine lv_aload_n hx hb dX11_ask_7 rfl (lv_at hl 1 rfl) ?_
    refine lv_iload_n hx hb dX11_ask_8 rfl (lv_at hl 2 rfl) ?_
    refine lv_aload hx hb dX11_ask_9 (lv_at hl 0 rfl) ?_
    refine lv_iload_n hx hb dX11_ask_11 rfl (lv_at hl 4 rfl) ?_
    obtain ⟨z_67, e_z_67, h⟩ := bi h
    refine roVi (rest := []) ⟨hx, hb, hml, hown, ht⟩ (c_X11_seenRefusal l D cy fu A_b (A_T 0) r_b_war r_b_draftArmy r_b_draftWar r_b_reader r_b_armyReader r_b_warReader r_b_markedArmies r_b_markedWars r_b_latest r_b_trial r_b_foresight r_b_pairs b_latestStatus b_fractionTop b_fractionBottom b_marks A_y1 y1_row y1_missing y1_sort y1_many A_a a_name a_courage a_weight a_medals a_stood a_fled a_liked a_votes a_count a_living a_pride a_quota a_melted a_lost x1 x3 z_67 e_z_67) (cV ht mv_X11_seenRefusal tb_1042 rfl rfl ⟨Nat.le_of_ble_eq_true rfl, Nat.le_of_ble_eq_true rfl⟩) (P_sub hP.1 [0, 3, 6] rfl) hX rfl rfl rfl hl.1 rfl (Nat.le_of_ble_eq_true rfl) dX11_ask_12 ⟨Nat.le_of_ble_eq_true rfl, Nat.le_of_ble_eq_true rfl⟩ ?_
    refine lv_istore (lv' := [(5, .int z_67), (4, .ref (A_y1 0)), (0, .ref (A_b 0)), (1, .int x1), (2, .int x2), (3, .int x3)]) hx hb dX11_ask_15 hl (by decide) rfl (fun ls hl => ?_)
    refine lv_iload hx hb dX11_ask_17 (lv_at hl 0 rfl) ?_
    refine lv_if_eq (tgt := 29) hx hb dX11_ask_19 (by decide) (fun c_68 => ?_) (fun c_68 => ?_)
    · have h := it c_68 h
      refine lv_aload_n hx hb dX11_ask_29 rfl (lv_at hl 2 rfl) ?_
      refine lv_iload_n hx hb dX11_ask_30 rfl (lv_at hl 3 rfl) ?_
      refine lv_aload hx hb dX11_ask_31 (lv_at hl 1 rfl) ?_
      refine lv_iload_n hx hb dX11_ask_33 rfl (lv_at hl 5 rfl) ?_
      obtain ⟨z_69, e_z_69, h⟩ := bi h
      refine roVi (rest := []) ⟨hx, hb, hml, hown, ht⟩ (c_X11_fittingCourages l D cy fu A_b (A_T 0) r_b_war r_b_draftArmy r_b_draftWar r_b_reader r_b_armyReader r_b_warReader r_b_markedArmies r_b_markedWars r_b_latest r_b_trial r_b_foresight r_b_pairs b_latestStatus b_fractionTop b_fractionBottom b_marks A_y1 y1_row y1_missing y1_sort y1_many A_a a_name a_courage a_weight a_medals a_stood a_fled a_liked a_votes a_count a_living a_pride a_quota a_melted a_lost x1 x3 z_69 e_z_69) (cV ht mv_X11_fittingCourages tb_1046 rfl rfl ⟨Nat.le_of_ble_eq_true rfl, Nat.le_of_ble_eq_true rfl⟩) (P_sub hP.1 [0, 3, 6] rfl) hX rfl rfl rfl hl.1 rfl (Nat.le_of_ble_eq_true rfl) dX11_ask_34 ⟨Nat.le_of_ble_eq_true rfl, Nat.le_of_ble_eq_true rfl⟩ ?_
      refine lv_istore (lv' := [(6, .int z_69), (5, .int z_67), (4, .ref (A_y1 0)), (0, .ref (A_b 0)), (1, .int x1), (2, .int x2), (3, .int x3)]) hx hb dX11_ask_37 hl (by decide) rfl (fun ls hl => ?_)
      refine lv_iload hx hb dX11_ask_39 (lv_at hl 0 rfl) ?_
      obtain ⟨z_70, e_z_70, h⟩ := bi h
      refine roSi (rest := []) ⟨hx, hb, hml, hown, ht⟩ (c_J6_bitCount_0f7a4 l D cy fu  z_69 z_70 e_z_70) (cS ht ms_J6_bitCount_0f7a4 tb_852 rfl rfl ⟨Nat.le_of_ble_eq_true rfl, Nat.le_of_ble_eq_true rfl⟩) (P_sub hP.1 [] rfl) hX rfl hl.1 rfl (Nat.le_of_ble_eq_true rfl) dX11_ask_41 ⟨Nat.le_of_ble_eq_true rfl, Nat.le_of_ble_eq_true rfl⟩ ?_
      refine lv_iconst (v := 2) hx hb dX11_ask_44 (by decide) ?_
      refine lv_icmp_ge (tgt := 55) hx hb dX11_ask_45 (by decide) (fun c_71 => ?_) (fun c_71 => ?_)
      · have h := it c_71 h
        refine lv_aload_n hx hb dX11_ask_55 rfl (lv_at hl 3 rfl) ?_
        refine lv_aload_n hx hb dX11_ask_56 rfl (lv_at hl 3 rfl) ?_
        refine lv_aload_n hx hb dX11_ask_57 rfl (lv_at hl 3 rfl) ?_
        refine xget (i := 0) (j := 0) (k := 4) (T := TX11) hx hb ht tb_iX11 hown hX hP.1 rfl rfl rfl (by decide) tb_433 rfl dX11_ask_58 ?_
        refine xget (i := 6) (j := 0) (k := 3) (T := TX0) hx hb ht tb_iX0 hown hX hP.1 rfl rfl rfl (by decide) tb_47 rfl dX11_ask_61 ?_
        refine lv_iload_n hx hb dX11_ask_64 rfl (lv_at hl 4 rfl) ?_
        obtain ⟨y_72, e_y_72, h⟩ := bi h
        refine xiald (i0 := 6) (j0 := 4) hx hb hX hP.1 rfl rfl e_y_72 dX11_ask_65 ?_
        refine lv_iload hx hb dX11_ask_66 (lv_at hl 0 rfl) ?_
        obtain ⟨z_73, e_z_73, h⟩ := bi h
        refine roVi (rest := [.ref (A_b 0)]) ⟨hx, hb, hml, hown, ht⟩ (c_X11_tellingSize l D cy fu A_b (A_T 0) r_b_war r_b_draftArmy r_b_draftWar r_b_reader r_b_armyReader r_b_warReader r_b_markedArmies r_b_markedWars r_b_latest r_b_trial r_b_foresight r_b_pairs b_latestStatus b_fractionTop b_fractionBottom b_marks A_a a_name a_courage a_weight a_medals a_stood a_fled a_liked a_votes a_count a_living a_pride a_quota a_melted a_lost y_72 z_69 z_73 e_z_73) (cV ht mv_X11_tellingSize tb_1063 rfl rfl ⟨Nat.le_of_ble_eq_true rfl, Nat.le_of_ble_eq_true rfl⟩) (P_sub hP.1 [0, 6] rfl) hX rfl rfl rfl hl.1 rfl (Nat.le_of_ble_eq_true rfl) dX11_ask_68 ⟨Nat.le_of_ble_eq_true rfl, Nat.le_of_ble_eq_true rfl⟩ ?_
        obtain ⟨z_74, e_z_74, h⟩ := bi h
        refine efVi (rest := []) ⟨hx, hb, hml, hown, ht⟩ (c_X11_answer l D cy fu A_b (A_T 0) (A_a 0) r_b_war r_b_draftArmy r_b_draftWar r_b_reader r_b_armyReader r_b_warReader r_b_markedArmies r_b_markedWars r_b_latest r_b_trial r_b_foresight r_b_pairs b_latestStatus b_fractionTop b_fractionBottom b_marks z_73 z_74 e_z_74 _ rfl _ rfl) (cV ht mv_X11_answer tb_696 rfl rfl ⟨Nat.le_of_ble_eq_true rfl, Nat.le_of_ble_eq_true rfl⟩) hP hS hX [0] rfl rfl rfl rfl rfl rfl hl.1 rfl (Nat.le_of_ble_eq_true rfl) dX11_ask_71 ⟨Nat.le_of_ble_eq_true rfl, Nat.le_of_ble_eq_true rfl⟩ (fun H locs hP hS => ?_)
        have hP : PD D A [bl_X11 cy A_b (A_T 0) (A_a 0) r_b_war r_b_draftArmy r_b_draftWar r_b_reader r_b_armyReader r_b_warReader r_b_markedArmies r_b_markedWars r_b_latest r_b_trial r_b_foresight r_b_pairs z_74.2 b_fractionTop b_fractionBottom b_marks, [(A_T 0, .inl (cy 4, 4, .inr (.inr (.inr (.inr (trf4 (A_y0 0) (A_y1 0) (A_y2 0) (A_y3 0)))))))], bl_X8 cy A_y0 y0_row y0_missing y0_sort y0_many, bl_X8 cy A_y1 y1_row y1_missing y1_sort y1_many, bl_X8 cy A_y2 y2_row y2_missing y2_sort y2_many, bl_X8 cy A_y3 y3_row y3_missing y3_sort y3_many, bl_X0 cy A_a a_name a_courage a_weight a_medals a_stood a_fled a_liked a_votes a_count a_living a_pride a_quota a_melted a_lost] H := hP
        cases h
        subst hW1
        exact W.iret hx hb hr (fun _ ht9 _ => ⟨⟨_, (), rfl, rfl, hPt ht9 hP.1⟩, hS.F ht9⟩) hS.2.2 dX11_ask_74
      · have h := ie c_71 h
        refine lv_aload_n hx hb dX11_ask_48 rfl (lv_at hl 3 rfl) ?_
        refine lv_bipush (v := 6) hx hb dX11_ask_49 (by decide) ?_
        obtain ⟨z_75, e_z_75, h⟩ := bi h
        refine efVi (rest := []) ⟨hx, hb, hml, hown, ht⟩ (c_X11_refuse l D cy fu A_b (A_T 0) (A_a 0) r_b_war r_b_draftArmy r_b_draftWar r_b_reader r_b_armyReader r_b_warReader r_b_markedArmies r_b_markedWars r_b_latest r_b_trial r_b_foresight r_b_pairs b_latestStatus b_fractionTop b_fractionBottom b_marks 6 z_75 e_z_75 _ rfl _ rfl) (cV ht mv_X11_refuse tb_543 rfl rfl ⟨Nat.le_of_ble_eq_true rfl, Nat.le_of_ble_eq_true rfl⟩) hP hS hX [0] rfl rfl rfl rfl rfl rfl hl.1 rfl (Nat.le_of_ble_eq_true rfl) dX11_ask_51 ⟨Nat.le_of_ble_eq_true rfl, Nat.le_of_ble_eq_true rfl⟩ (fun H locs hP hS => ?_)
        have hP : PD D A [bl_X11 cy A_b (A_T 0) (A_a 0) r_b_war r_b_draftArmy r_b_draftWar r_b_reader r_b_armyReader r_b_warReader r_b_markedArmies r_b_markedWars r_b_latest r_b_trial r_b_foresight r_b_pairs z_75.2 b_fractionTop b_fractionBottom b_marks, [(A_T 0, .inl (cy 4, 4, .inr (.inr (.inr (.inr (trf4 (A_y0 0) (A_y1 0) (A_y2 0) (A_y3 0)))))))], bl_X8 cy A_y0 y0_row y0_missing y0_sort y0_many, bl_X8 cy A_y1 y1_row y1_missing y1_sort y1_many, bl_X8 cy A_y2 y2_row y2_missing y2_sort y2_many, bl_X8 cy A_y3 y3_row y3_missing y3_sort y3_many, bl_X0 cy A_a a_name a_courage a_weight a_medals a_stood a_fled a_liked a_votes a_count a_living a_pride a_quota a_melted a_lost] H := hP
        cases h
        subst hW1
        exact W.iret hx hb hr (fun _ ht9 _ => ⟨⟨_, (), rfl, rfl, hPt ht9 hP.1⟩, hS.F ht9⟩) hS.2.2 dX11_ask_54
    · have h := ie c_68 h
      refine lv_aload_n hx hb dX11_ask_22 rfl (lv_at hl 2 rfl) ?_
      refine lv_iload hx hb dX11_ask_23 (lv_at hl 0 rfl) ?_
      obtain ⟨z_76, e_z_76, h⟩ := bi h
      refine efVi (rest := []) ⟨hx, hb, hml, hown, ht⟩ (c_X11_refuse l D cy fu A_b (A_T 0) (A_a 0) r_b_war r_b_draftArmy r_b_draftWar r_b_reader r_b_armyReader r_b_warReader r_b_markedArmies r_b_markedWars r_b_latest r_b_trial r_b_foresight r_b_pairs b_latestStatus b_fractionTop b_fractionBottom b_marks z_67 z_76 e_z_76 _ rfl _ rfl) (cV ht mv_X11_refuse tb_543 rfl rfl ⟨Nat.le_of_ble_eq_true rfl, Nat.le_of_ble_eq_true rfl⟩) hP hS hX [0] rfl rfl rfl rfl rfl rfl hl.1 rfl (Nat.le_of_ble_eq_true rfl) dX11_ask_25 ⟨Nat.le_of_ble_eq_true rfl, Nat.le_of_ble_eq_true rfl⟩ (fun H locs hP hS => ?_)
      have hP : PD D A [bl_X11 cy A_b (A_T 0) (A_a 0) r_b_war r_b_draftArmy r_b_draftWar r_b_reader r_b_armyReader r_b_warReader r_b_markedArmies r_b_markedWars r_b_latest r_b_trial r_b_foresight r_b_pairs z_76.2 b_fractionTop b_fractionBottom b_marks, [(A_T 0, .inl (cy 4, 4, .inr (.inr (.inr (.inr (trf4 (A_y0 0) (A_y1 0) (A_y2 0) (A_y3 0)))))))], bl_X8 cy A_y0 y0_row y0_missing y0_sort y0_many, bl_X8 cy A_y1 y1_row y1_missing y1_sort y1_many, bl_X8 cy A_y2 y2_row y2_missing y2_sort y2_many, bl_X8 cy A_y3 y3_row y3_missing y3_sort y3_many, bl_X0 cy A_a a_name a_courage a_weight a_medals a_stood a_fled a_liked a_votes a_count a_living a_pride a_quota a_melted a_lost] H := hP
      cases h
      subst hW1
      exact W.iret hx hb hr (fun _ ht9 _ => ⟨⟨_, (), rfl, rfl, hPt ht9 hP.1⟩, hS.F ht9⟩) hS.2.2 dX11_ask_28
  have h := ie c_66 h
  by_cases c_77 : x2 = 2
  · have h := it c_77 h
    refine roVq (rest := []) ⟨hx, hb, hml, hown, ht⟩ (c_X11_trayAt l D cy fu A_b (A_a 0) r_b_war r_b_draftArmy r_b_draftWar r_b_reader r_b_armyReader r_b_warReader r_b_markedArmies r_b_markedWars r_b_latest r_b_trial r_b_foresight r_b_pairs b_latestStatus b_fractionTop b_fractionBottom b_marks A_T (trf4 (A_y0 0) (A_y1 0) (A_y2 0) (A_y3 0)) x2 (some (A_y2 0)) (tray_2 c_77)) (cV ht mv_X11_trayAt tb_500 rfl rfl ⟨Nat.le_of_ble_eq_true rfl, Nat.le_of_ble_eq_true rfl⟩) (P_sub hP.1 [0, 1] rfl) hX rfl rfl rfl hl.1 rfl (Nat.le_of_ble_eq_true rfl) dX11_ask_2 ⟨Nat.le_of_ble_eq_true rfl, Nat.le_of_ble_eq_true rfl⟩ ?_
    refine lv_astore (lv' := [(4, .ref (A_y2 0)), (0, .ref (A_b 0)), (1, .int x1), (2, .int x2), (3, .int x3)]) hx hb dX11_ask_5 hl (by decide) rfl (fun ls hl => ?_)
    refine lv_aload_n hx hb dX11_ask_7 rfl (lv_at hl 1 rfl) ?_
    refine lv_iload_n hx hb dX11_ask_8 rfl (lv_at hl 2 rfl) ?_
    refine lv_aload hx hb dX11_ask_9 (lv_at hl 0 rfl) ?_
    refine lv_iload_n hx hb dX11_ask_11 rfl (lv_at hl 4 rfl) ?_
    obtain ⟨z_78, e_z_78, h⟩ := bi h
    refine roVi (rest := []) ⟨hx, hb, hml, hown, ht⟩ (c_X11_seenRefusal l D cy fu A_b (A_T 0) r_b_war r_b_draftArmy r_b_draftWar r_b_reader r_b_armyReader r_b_warReader r_b_markedArmies r_b_markedWars r_b_latest r_b_trial r_b_foresight r_b_pairs b_latestStatus b_fractionTop b_fractionBottom b_marks A_y2 y2_row y2_missing y2_sort y2_many A_a a_name a_courage a_weight a_medals a_stood a_fled a_liked a_votes a_count a_living a_pride a_quota a_melted a_lost x1 x3 z_78 e_z_78) (cV ht mv_X11_seenRefusal tb_1042 rfl rfl ⟨Nat.le_of_ble_eq_true rfl, Nat.le_of_ble_eq_true rfl⟩) (P_sub hP.1 [0, 4, 6] rfl) hX rfl rfl rfl hl.1 rfl (Nat.le_of_ble_eq_true rfl) dX11_ask_12 ⟨Nat.le_of_ble_eq_true rfl, Nat.le_of_ble_eq_true rfl⟩ ?_
    refine lv_istore (lv' := [(5, .int z_78), (4, .ref (A_y2 0)), (0, .ref (A_b 0)), (1, .int x1), (2, .int x2), (3, .int x3)]) hx hb dX11_ask_15 hl (by decide) rfl (fun ls hl => ?_)
    refine lv_iload hx hb dX11_ask_17 (lv_at hl 0 rfl) ?_
    refine lv_if_eq (tgt := 29) hx hb dX11_ask_19 (by decide) (fun c_79 => ?_) (fun c_79 => ?_)
    · have h := it c_79 h
      refine lv_aload_n hx hb dX11_ask_29 rfl (lv_at hl 2 rfl) ?_
      refine lv_iload_n hx hb dX11_ask_30 rfl (lv_at hl 3 rfl) ?_
      refine lv_aload hx hb dX11_ask_31 (lv_at hl 1 rfl) ?_
      refine lv_iload_n hx hb dX11_ask_33 rfl (lv_at hl 5 rfl) ?_
      obtain ⟨z_80, e_z_80, h⟩ := bi h
      refine roVi (rest := []) ⟨hx, hb, hml, hown, ht⟩ (c_X11_fittingCourages l D cy fu A_b (A_T 0) r_b_war r_b_draftArmy r_b_draftWar r_b_reader r_b_armyReader r_b_warReader r_b_markedArmies r_b_markedWars r_b_latest r_b_trial r_b_foresight r_b_pairs b_latestStatus b_fractionTop b_fractionBottom b_marks A_y2 y2_row y2_missing y2_sort y2_many A_a a_name a_courage a_weight a_medals a_stood a_fled a_liked a_votes a_count a_living a_pride a_quota a_melted a_lost x1 x3 z_80 e_z_80) (cV ht mv_X11_fittingCourages tb_1046 rfl rfl ⟨Nat.le_of_ble_eq_true rfl, Nat.le_of_ble_eq_true rfl⟩) (P_sub hP.1 [0, 4, 6] rfl) hX rfl rfl rfl hl.1 rfl (Nat.le_of_ble_eq_true rfl) dX11_ask_34 ⟨Nat.le_of_ble_eq_true rfl, Nat.le_of_ble_eq_true rfl⟩ ?_
      refine lv_istore (lv' := [(6, .int z_80), (5, .int z_78), (4, .ref (A_y2 0)), (0, .ref (A_b 0)), (1, .int x1), (2, .int x2), (3, .int x3)]) hx hb dX11_ask_37 hl (by decide) rfl (fun ls hl => ?_)
      refine lv_iload hx hb dX11_ask_39 (lv_at hl 0 rfl) ?_
      obtain ⟨z_81, e_z_81, h⟩ := bi h
      refine roSi (rest := []) ⟨hx, hb, hml, hown, ht⟩ (c_J6_bitCount_0f7a4 l D cy fu  z_80 z_81 e_z_81) (cS ht ms_J6_bitCount_0f7a4 tb_852 rfl rfl ⟨Nat.le_of_ble_eq_true rfl, Nat.le_of_ble_eq_true rfl⟩) (P_sub hP.1 [] rfl) hX rfl hl.1 rfl (Nat.le_of_ble_eq_true rfl) dX11_ask_41 ⟨Nat.le_of_ble_eq_true rfl, Nat.le_of_ble_eq_true rfl⟩ ?_
      refine lv_iconst (v := 2) hx hb dX11_ask_44 (by decide) ?_
      refine lv_icmp_ge (tgt := 55) hx hb dX11_ask_45 (by decide) (fun c_82 => ?_) (fun c_82 => ?_)
      · have h := it c_82 h
        refine lv_aload_n hx hb dX11_ask_55 rfl (lv_at hl 3 rfl) ?_
        refine lv_aload_n hx hb dX11_ask_56 rfl (lv_at hl 3 rfl) ?_
        refine lv_aload_n hx hb dX11_ask_57 rfl (lv_at hl 3 rfl) ?_
        refine xget (i := 0) (j := 0) (k := 4) (T := TX11) hx hb ht tb_iX11 hown hX hP.1 rfl rfl rfl (by decide) tb_433 rfl dX11_ask_58 ?_
        refine xget (i := 6) (j := 0) (k := 3) (T := TX0) hx hb ht tb_iX0 hown hX hP.1 rfl rfl rfl (by decide) tb_47 rfl dX11_ask_61 ?_
        refine lv_iload_n hx hb dX11_ask_64 rfl (lv_at hl 4 rfl) ?_
        obtain ⟨y_83, e_y_83, h⟩ := bi h
        refine xiald (i0 := 6) (j0 := 4) hx hb hX hP.1 rfl rfl e_y_83 dX11_ask_65 ?_
        refine lv_iload hx hb dX11_ask_66 (lv_at hl 0 rfl) ?_
        obtain ⟨z_84, e_z_84, h⟩ := bi h
        refine roVi (rest := [.ref (A_b 0)]) ⟨hx, hb, hml, hown, ht⟩ (c_X11_tellingSize l D cy fu A_b (A_T 0) r_b_war r_b_draftArmy r_b_draftWar r_b_reader r_b_armyReader r_b_warReader r_b_markedArmies r_b_markedWars r_b_latest r_b_trial r_b_foresight r_b_pairs b_latestStatus b_fractionTop b_fractionBottom b_marks A_a a_name a_courage a_weight a_medals a_stood a_fled a_liked a_votes a_count a_living a_pride a_quota a_melted a_lost y_83 z_80 z_84 e_z_84) (cV ht mv_X11_tellingSize tb_1063 rfl rfl ⟨Nat.le_of_ble_eq_true rfl, Nat.le_of_ble_eq_true rfl⟩) (P_sub hP.1 [0, 6] rfl) hX rfl rfl rfl hl.1 rfl (Nat.le_of_ble_eq_true rfl) dX11_ask_68 ⟨Nat.le_of_ble_eq_true rfl, Nat.le_of_ble_eq_true rfl⟩ ?_
        obtain ⟨z_85, e_z_85, h⟩ := bi h
        refine efVi (rest := []) ⟨hx, hb, hml, hown, ht⟩ (c_X11_answer l D cy fu A_b (A_T 0) (A_a 0) r_b_war r_b_draftArmy r_b_draftWar r_b_reader r_b_armyReader r_b_warReader r_b_markedArmies r_b_markedWars r_b_latest r_b_trial r_b_foresight r_b_pairs b_latestStatus b_fractionTop b_fractionBottom b_marks z_84 z_85 e_z_85 _ rfl _ rfl) (cV ht mv_X11_answer tb_696 rfl rfl ⟨Nat.le_of_ble_eq_true rfl, Nat.le_of_ble_eq_true rfl⟩) hP hS hX [0] rfl rfl rfl rfl rfl rfl hl.1 rfl (Nat.le_of_ble_eq_true rfl) dX11_ask_71 ⟨Nat.le_of_ble_eq_true rfl, Nat.le_of_ble_eq_true rfl⟩ (fun H locs hP hS => ?_)
        have hP : PD D A [bl_X11 cy A_b (A_T 0) (A_a 0) r_b_war r_b_draftArmy r_b_draftWar r_b_reader r_b_armyReader r_b_warReader r_b_markedArmies r_b_markedWars r_b_latest r_b_trial r_b_foresight r_b_pairs z_85.2 b_fractionTop b_fractionBottom b_marks, [(A_T 0, .inl (cy 4, 4, .inr (.inr (.inr (.inr (trf4 (A_y0 0) (A_y1 0) (A_y2 0) (A_y3 0)))))))], bl_X8 cy A_y0 y0_row y0_missing y0_sort y0_many, bl_X8 cy A_y1 y1_row y1_missing y1_sort y1_many, bl_X8 cy A_y2 y2_row y2_missing y2_sort y2_many, bl_X8 cy A_y3 y3_row y3_missing y3_sort y3_many, bl_X0 cy A_a a_name a_courage a_weight a_medals a_stood a_fled a_liked a_votes a_count a_living a_pride a_quota a_melted a_lost] H := hP
        cases h
        subst hW1
        exact W.iret hx hb hr (fun _ ht9 _ => ⟨⟨_, (), rfl, rfl, hPt ht9 hP.1⟩, hS.F ht9⟩) hS.2.2 dX11_ask_74
      · have h := ie c_82 h
        refine lv_aload_n hx hb dX11_ask_48 rfl (lv_at hl 3 rfl) ?_
        refine lv_bipush (v := 6) hx hb dX11_ask_49 (by decide) ?_
        obtain ⟨z_86, e_z_86, h⟩ := bi h
        refine efVi (rest := []) ⟨hx, hb, hml, hown, ht⟩ (c_X11_refuse l D cy fu A_b (A_T 0) (A_a 0) r_b_war r_b_draftArmy r_b_draftWar r_b_reader r_b_armyReader r_b_warReader r_b_markedArmies r_b_markedWars r_b_latest r_b_trial r_b_foresight r_b_pairs b_latestStatus b_fractionTop b_fractionBottom b_marks 6 z_86 e_z_86 _ rfl _ rfl) (cV ht mv_X11_refuse tb_543 rfl rfl ⟨Nat.le_of_ble_eq_true rfl, Nat.le_of_ble_eq_true rfl⟩) hP hS hX [0] rfl rfl rfl rfl rfl rfl hl.1 rfl (Nat.le_of_ble_eq_true rfl) dX11_ask_51 ⟨Nat.le_of_ble_eq_true rfl, Nat.le_of_ble_eq_true rfl⟩ (fun H locs hP hS => ?_)
        have hP : PD D A [bl_X11 cy A_b (A_T 0) (A_a 0) r_b_war r_b_draftArmy r_b_draftWar r_b_reader r_b_armyReader r_b_warReader r_b_markedArmies r_b_markedWars r_b_latest r_b_trial r_b_foresight r_b_pairs z_86.2 b_fractionTop b_fractionBottom b_marks, [(A_T 0, .inl (cy 4, 4, .inr (.inr (.inr (.inr (trf4 (A_y0 0) (A_y1 0) (A_y2 0) (A_y3 0)))))))], bl_X8 cy A_y0 y0_row y0_missing y0_sort y0_many, bl_X8 cy A_y1 y1_row y1_missing y1_sort y1_many, bl_X8 cy A_y2 y2_row y2_missing y2_sort y2_many, bl_X8 cy A_y3 y3_row y3_missing y3_sort y3_many, bl_X0 cy A_a a_name a_courage a_weight a_medals a_stood a_fled a_liked a_votes a_count a_living a_pride a_quota a_melted a_lost] H := hP
        cases h
        subst hW1
        exact W.iret hx hb hr (fun _ ht9 _ => ⟨⟨_, (), rfl, rfl, hPt ht9 hP.1⟩, hS.F ht9⟩) hS.2.2 dX11_ask_54
    · have h := ie c_79 h
      refine lv_aload_n hx hb dX11_ask_22 rfl (lv_at hl 2 rfl) ?_
      refine lv_iload hx hb dX11_ask_23 (lv_at hl 0 rfl) ?_
      obtain ⟨z_87, e_z_87, h⟩ := bi h
      refine efVi (rest := []) ⟨hx, hb, hml, hown, ht⟩ (c_X11_refuse l D cy fu A_b (A_T 0) (A_a 0) r_b_war r_b_draftArmy r_b_draftWar r_b_reader r_b_armyReader r_b_warReader r_b_markedArmies r_b_markedWars r_b_latest r_b_trial r_b_foresight r_b_pairs b_latestStatus b_fractionTop b_fractionBottom b_marks z_78 z_87 e_z_87 _ rfl _ rfl) (cV ht mv_X11_refuse tb_543 rfl rfl ⟨Nat.le_of_ble_eq_true rfl, Nat.le_of_ble_eq_true rfl⟩) hP hS hX [0] rfl rfl rfl rfl rfl rfl hl.1 rfl (Nat.le_of_ble_eq_true rfl) dX11_ask_25 ⟨Nat.le_of_ble_eq_true rfl, Nat.le_of_ble_eq_true rfl⟩ (fun H locs hP hS => ?_)
      have hP : PD D A [bl_X11 cy A_b (A_T 0) (A_a 0) r_b_war r_b_draftArmy r_b_draftWar r_b_reader r_b_armyReader r_b_warReader r_b_markedArmies r_b_markedWars r_b_latest r_b_trial r_b_foresight r_b_pairs z_87.2 b_fractionTop b_fractionBottom b_marks, [(A_T 0, .inl (cy 4, 4, .inr (.inr (.inr (.inr (trf4 (A_y0 0) (A_y1 0) (A_y2 0) (A_y3 0)))))))], bl_X8 cy A_y0 y0_row y0_missing y0_sort y0_many, bl_X8 cy A_y1 y1_row y1_missing y1_sort y1_many, bl_X8 cy A_y2 y2_row y2_missing y2_sort y2_many, bl_X8 cy A_y3 y3_row y3_missing y3_sort y3_many, bl_X0 cy A_a a_name a_courage a_weight a_medals a_stood a_fled a_liked a_votes a_count a_living a_pride a_quota a_melted a_lost] H := hP
      cases h
      subst hW1
      exact W.iret hx hb hr (fun _ ht9 _ => ⟨⟨_, (), rfl, rfl, hPt ht9 hP.1⟩, hS.F ht9⟩) hS.2.2 dX11_ask_28
  have h := ie c_77 h
  by_cases c_88 : x2 = 3
  · have h := it c_88 h
    refine roVq (rest := []) ⟨hx, hb, hml, hown, ht⟩ (c_X11_trayAt l D cy fu A_b (A_a 0) r_b_war r_b_draftArmy r_b_draftWar r_b_reader r_b_armyReader r_b_warReader r_b_markedArmies r_b_markedWars r_b_latest r_b_trial r_b_foresight r_b_pairs b_latestStatus b_fractionTop b_fractionBottom b_marks A_T (trf4 (A_y0 0) (A_y1 0) (A_y2 0) (A_y3 0)) x2 (some (A_y3 0)) (tray_3 c_88)) (cV ht mv_X11_trayAt tb_500 rfl rfl ⟨Nat.le_of_ble_eq_true rfl, Nat.le_of_ble_eq_true rfl⟩) (P_sub hP.1 [0, 1] rfl) hX rfl rfl rfl hl.1 rfl (Nat.le_of_ble_eq_true rfl) dX11_ask_2 ⟨Nat.le_of_ble_eq_true rfl, Nat.le_of_ble_eq_true rfl⟩ ?_
    refine lv_astore (lv' := [(4, .ref (A_y3 0)), (0, .ref (A_b 0)), (1, .int x1), (2, .int x2), (3, .int x3)]) hx hb dX11_ask_5 hl (by decide) rfl (fun ls hl => ?_)
    refine lv_aload_n hx hb dX11_ask_7 rfl (lv_at hl 1 rfl) ?_
    refine lv_iload_n hx hb dX11_ask_8 rfl (lv_at hl 2 rfl) ?_
    refine lv_aload hx hb dX11_ask_9 (lv_at hl 0 rfl) ?_
    refine lv_iload_n hx hb dX11_ask_11 rfl (lv_at hl 4 rfl) ?_
    obtain ⟨z_89, e_z_89, h⟩ := bi h
    refine roVi (rest := []) ⟨hx, hb, hml, hown, ht⟩ (c_X11_seenRefusal l D cy fu A_b (A_T 0) r_b_war r_b_draftArmy r_b_draftWar r_b_reader r_b_armyReader r_b_warReader r_b_markedArmies r_b_markedWars r_b_latest r_b_trial r_b_foresight r_b_pairs b_latestStatus b_fractionTop b_fractionBottom b_marks A_y3 y3_row y3_missing y3_sort y3_many A_a a_name a_courage a_weight a_medals a_stood a_fled a_liked a_votes a_count a_living a_pride a_quota a_melted a_lost x1 x3 z_89 e_z_89) (cV ht mv_X11_seenRefusal tb_1042 rfl rfl ⟨Nat.le_of_ble_eq_true rfl, Nat.le_of_ble_eq_true rfl⟩) (P_sub hP.1 [0, 5, 6] rfl) hX rfl rfl rfl hl.1 rfl (Nat.le_of_ble_eq_true rfl) dX11_ask_12 ⟨Nat.le_of_ble_eq_true rfl, Nat.le_of_ble_eq_true rfl⟩ ?_
    refine lv_istore (lv' := [(5, .int z_89), (4, .ref (A_y3 0)), (0, .ref (A_b 0)), (1, .int x1), (2, .int x2), (3, .int x3)]) hx hb dX11_ask_15 hl (by decide) rfl (fun ls hl => ?_)
    refine lv_iload hx hb dX11_ask_17 (lv_at hl 0 rfl) ?_
    refine lv_if_eq (tgt := 29) hx hb dX11_ask_19 (by decide) (fun c_90 => ?_) (fun c_90 => ?_)
    · have h := it c_90 h
      refine lv_aload_n hx hb dX11_ask_29 rfl (lv_at hl 2 rfl) ?_
      refine lv_iload_n hx hb dX11_ask_30 rfl (lv_at hl 3 rfl) ?_
      refine lv_aload hx hb dX11_ask_31 (lv_at hl 1 rfl) ?_
      refine lv_iload_n hx hb dX11_ask_33 rfl (lv_at hl 5 rfl) ?_
      obtain ⟨z_91, e_z_91, h⟩ := bi h
      refine roVi (rest := []) ⟨hx, hb, hml, hown, ht⟩ (c_X11_fittingCourages l D cy fu A_b (A_T 0) r_b_war r_b_draftArmy r_b_draftWar r_b_reader r_b_armyReader r_b_warReader r_b_markedArmies r_b_markedWars r_b_latest r_b_trial r_b_foresight r_b_pairs b_latestStatus b_fractionTop b_fractionBottom b_marks A_y3 y3_row y3_missing y3_sort y3_many A_a a_name a_courage a_weight a_medals a_stood a_fled a_liked a_votes a_count a_living a_pride a_quota a_melted a_lost x1 x3 z_91 e_z_91) (cV ht mv_X11_fittingCourages tb_1046 rfl rfl ⟨Nat.le_of_ble_eq_true rfl, Nat.le_of_ble_eq_true rfl⟩) (P_sub hP.1 [0, 5, 6] rfl) hX rfl rfl rfl hl.1 rfl (Nat.le_of_ble_eq_true rfl) dX11_ask_34 ⟨Nat.le_of_ble_eq_true rfl, Nat.le_of_ble_eq_true rfl⟩ ?_
      refine lv_istore (lv' := [(6, .int z_91), (5, .int z_89), (4, .ref (A_y3 0)), (0, .ref (A_b 0)), (1, .int x1), (2, .int x2), (3, .int x3)]) hx hb dX11_ask_37 hl (by decide) rfl (fun ls hl => ?_)
      refine lv_iload hx hb dX11_ask_39 (lv_at hl 0 rfl) ?_
      obtain ⟨z_92, e_z_92, h⟩ := bi h
      refine roSi (rest := []) ⟨hx, hb, hml, hown, ht⟩ (c_J6_bitCount_0f7a4 l D cy fu  z_91 z_92 e_z_92) (cS ht ms_J6_bitCount_0f7a4 tb_852 rfl rfl ⟨Nat.le_of_ble_eq_true rfl, Nat.le_of_ble_eq_true rfl⟩) (P_sub hP.1 [] rfl) hX rfl hl.1 rfl (Nat.le_of_ble_eq_true rfl) dX11_ask_41 ⟨Nat.le_of_ble_eq_true rfl, Nat.le_of_ble_eq_true rfl⟩ ?_
      refine lv_iconst (v := 2) hx hb dX11_ask_44 (by decide) ?_
      refine lv_icmp_ge (tgt := 55) hx hb dX11_ask_45 (by decide) (fun c_93 => ?_) (fun c_93 => ?_)
      · have h := it c_93 h
        refine lv_aload_n hx hb dX11_ask_55 rfl (lv_at hl 3 rfl) ?_
        refine lv_aload_n hx hb dX11_ask_56 rfl (lv_at hl 3 rfl) ?_
        refine lv_aload_n hx hb dX11_ask_57 rfl (lv_at hl 3 rfl) ?_
        refine xget (i := 0) (j := 0) (k := 4) (T := TX11) hx hb ht tb_iX11 hown hX hP.1 rfl rfl rfl (by decide) tb_433 rfl dX11_ask_58 ?_
        refine xget (i := 6) (j := 0) (k := 3) (T := TX0) hx hb ht tb_iX0 hown hX hP.1 rfl rfl rfl (by decide) tb_47 rfl dX11_ask_61 ?_
        refine lv_iload_n hx hb dX11_ask_64 rfl (lv_at hl 4 rfl) ?_
        obtain ⟨y_94, e_y_94, h⟩ := bi h
        refine xiald (i0 := 6) (j0 := 4) hx hb hX hP.1 rfl rfl e_y_94 dX11_ask_65 ?_
        refine lv_iload hx hb dX11_ask_66 (lv_at hl 0 rfl) ?_
        obtain ⟨z_95, e_z_95, h⟩ := bi h
        refine roVi (rest := [.ref (A_b 0)]) ⟨hx, hb, hml, hown, ht⟩ (c_X11_tellingSize l D cy fu A_b (A_T 0) r_b_war r_b_draftArmy r_b_draftWar r_b_reader r_b_armyReader r_b_warReader r_b_markedArmies r_b_markedWars r_b_latest r_b_trial r_b_foresight r_b_pairs b_latestStatus b_fractionTop b_fractionBottom b_marks A_a a_name a_courage a_weight a_medals a_stood a_fled a_liked a_votes a_count a_living a_pride a_quota a_melted a_lost y_94 z_91 z_95 e_z_95) (cV ht mv_X11_tellingSize tb_1063 rfl rfl ⟨Nat.le_of_ble_eq_true rfl, Nat.le_of_ble_eq_true rfl⟩) (P_sub hP.1 [0, 6] rfl) hX rfl rfl rfl hl.1 rfl (Nat.le_of_ble_eq_true rfl) dX11_ask_68 ⟨Nat.le_of_ble_eq_true rfl, Nat.le_of_ble_eq_true rfl⟩ ?_
        obtain ⟨z_96, e_z_96, h⟩ := bi h
        refine efVi (rest := []) ⟨hx, hb, hml, hown, ht⟩ (c_X11_answer l D cy fu A_b (A_T 0) (A_a 0) r_b_war r_b_draftArmy r_b_draftWar r_b_reader r_b_armyReader r_b_warReader r_b_markedArmies r_b_markedWars r_b_latest r_b_trial r_b_foresight r_b_pairs b_latestStatus b_fractionTop b_fractionBottom b_marks z_95 z_96 e_z_96 _ rfl _ rfl) (cV ht mv_X11_answer tb_696 rfl rfl ⟨Nat.le_of_ble_eq_true rfl, Nat.le_of_ble_eq_true rfl⟩) hP hS hX [0] rfl rfl rfl rfl rfl rfl hl.1 rfl (Nat.le_of_ble_eq_true rfl) dX11_ask_71 ⟨Nat.le_of_ble_eq_true rfl, Nat.le_of_ble_eq_true rfl⟩ (fun H locs hP hS => ?_)
        have hP : PD D A [bl_X11 cy A_b (A_T 0) (A_a 0) r_b_war r_b_draftArmy r_b_draftWar r_b_reader r_b_armyReader r_b_warReader r_b_markedArmies r_b_markedWars r_b_latest r_b_trial r_b_foresight r_b_pairs z_96.2 b_fractionTop b_fractionBottom b_marks, [(A_T 0, .inl (cy 4, 4, .inr (.inr (.inr (.inr (trf4 (A_y0 0) (A_y1 0) (A_y2 0) (A_y3 0)))))))], bl_X8 cy A_y0 y0_row y0_missing y0_sort y0_many, bl_X8 cy A_y1 y1_row y1_missing y1_sort y1_many, bl_X8 cy A_y2 y2_row y2_missing y2_sort y2_many, bl_X8 cy A_y3 y3_row y3_missing y3_sort y3_many, bl_X0 cy A_a a_name a_courage a_weight a_medals a_stood a_fled a_liked a_votes a_count a_living a_pride a_quota a_melted a_lost] H := hP
        cases h
        subst hW1
        exact W.iret hx hb hr (fun _ ht9 _ => ⟨⟨_, (), rfl, rfl, hPt ht9 hP.1⟩, hS.F ht9⟩) hS.2.2 dX11_ask_74
      · have h := ie c_93 h
        refine lv_aload_n hx hb dX11_ask_48 rfl (lv_at hl 3 rfl) ?_
        refine lv_bipush (v := 6) hx hb dX11_ask_49 (by decide) ?_
        obtain ⟨z_97, e_z_97, h⟩ := bi h
        refine efVi (rest := []) ⟨hx, hb, hml, hown, ht⟩ (c_X11_refuse l D cy fu A_b (A_T 0) (A_a 0) r_b_war r_b_draftArmy r_b_draftWar r_b_reader r_b_armyReader r_b_warReader r_b_markedArmies r_b_markedWars r_b_latest r_b_trial r_b_foresight r_b_pairs b_latestStatus b_fractionTop b_fractionBottom b_marks 6 z_97 e_z_97 _ rfl _ rfl) (cV ht mv_X11_refuse tb_543 rfl rfl ⟨Nat.le_of_ble_eq_true rfl, Nat.le_of_ble_eq_true rfl⟩) hP hS hX [0] rfl rfl rfl rfl rfl rfl hl.1 rfl (Nat.le_of_ble_eq_true rfl) dX11_ask_51 ⟨Nat.le_of_ble_eq_true rfl, Nat.le_of_ble_eq_true rfl⟩ (fun H locs hP hS => ?_)
        have hP : PD D A [bl_X11 cy A_b (A_T 0) (A_a 0) r_b_war r_b_draftArmy r_b_draftWar r_b_reader r_b_armyReader r_b_warReader r_b_markedArmies r_b_markedWars r_b_latest r_b_trial r_b_foresight r_b_pairs z_97.2 b_fractionTop b_fractionBottom b_marks, [(A_T 0, .inl (cy 4, 4, .inr (.inr (.inr (.inr (trf4 (A_y0 0) (A_y1 0) (A_y2 0) (A_y3 0)))))))], bl_X8 cy A_y0 y0_row y0_missing y0_sort y0_many, bl_X8 cy A_y1 y1_row y1_missing y1_sort y1_many, bl_X8 cy A_y2 y2_row y2_missing y2_sort y2_many, bl_X8 cy A_y3 y3_row y3_missing y3_sort y3_many, bl_X0 cy A_a a_name a_courage a_weight a_medals a_stood a_fled a_liked a_votes a_count a_living a_pride a_quota a_melted a_lost] H := hP
        cases h
        subst hW1
        exact W.iret hx hb hr (fun _ ht9 _ => ⟨⟨_, (), rfl, rfl, hPt ht9 hP.1⟩, hS.F ht9⟩) hS.2.2 dX11_ask_54
    · have h := ie c_90 h
      refine lv_aload_n hx hb dX11_ask_22 rfl (lv_at hl 2 rfl) ?_
      refine lv_iload hx hb dX11_ask_23 (lv_at hl 0 rfl) ?_
      obtain ⟨z_98, e_z_98, h⟩ := bi h
      refine efVi (rest := []) ⟨hx, hb, hml, hown, ht⟩ (c_X11_refuse l D cy fu A_b (A_T 0) (A_a 0) r_b_war r_b_draftArmy r_b_draftWar r_b_reader r_b_armyReader r_b_warReader r_b_markedArmies r_b_markedWars r_b_latest r_b_trial r_b_foresight r_b_pairs b_latestStatus b_fractionTop b_fractionBottom b_marks z_89 z_98 e_z_98 _ rfl _ rfl) (cV ht mv_X11_refuse tb_543 rfl rfl ⟨Nat.le_of_ble_eq_true rfl, Nat.le_of_ble_eq_true rfl⟩) hP hS hX [0] rfl rfl rfl rfl rfl rfl hl.1 rfl (Nat.le_of_ble_eq_true rfl) dX11_ask_25 ⟨Nat.le_of_ble_eq_true rfl, Nat.le_of_ble_eq_true rfl⟩ (fun H locs hP hS => ?_)
      have hP : PD D A [bl_X11 cy A_b (A_T 0) (A_a 0) r_b_war r_b_draftArmy r_b_draftWar r_b_reader r_b_armyReader r_b_warReader r_b_markedArmies r_b_markedWars r_b_latest r_b_trial r_b_foresight r_b_pairs z_98.2 b_fractionTop b_fractionBottom b_marks, [(A_T 0, .inl (cy 4, 4, .inr (.inr (.inr (.inr (trf4 (A_y0 0) (A_y1 0) (A_y2 0) (A_y3 0)))))))], bl_X8 cy A_y0 y0_row y0_missing y0_sort y0_many, bl_X8 cy A_y1 y1_row y1_missing y1_sort y1_many, bl_X8 cy A_y2 y2_row y2_missing y2_sort y2_many, bl_X8 cy A_y3 y3_row y3_missing y3_sort y3_many, bl_X0 cy A_a a_name a_courage a_weight a_medals a_stood a_fled a_liked a_votes a_count a_living a_pride a_quota a_melted a_lost] H := hP
      cases h
      subst hW1
      exact W.iret hx hb hr (fun _ ht9 _ => ⟨⟨_, (), rfl, rfl, hPt ht9 hP.1⟩, hS.F ht9⟩) hS.2.2 dX11_ask_28
  have h := ie c_88 h
  refine roVq (rest := []) ⟨hx, hb, hml, hown, ht⟩ (c_X11_trayAt l D cy fu A_b (A_a 0) r_b_war r_b_draftArmy r_b_draftWar r_b_reader r_b_armyReader r_b_warReader r_b_markedArmies r_b_markedWars r_b_latest r_b_trial r_b_foresight r_b_pairs b_latestStatus b_fractionTop b_fractionBottom b_marks A_T (trf4 (A_y0 0) (A_y1 0) (A_y2 0) (A_y3 0)) x2 (none) (tray_out ⟨c_55, c_66, c_77, c_88⟩)) (cV ht mv_X11_trayAt tb_500 rfl rfl ⟨Nat.le_of_ble_eq_true rfl, Nat.le_of_ble_eq_true rfl⟩) (P_sub hP.1 [0, 1] rfl) hX rfl rfl rfl hl.1 rfl (Nat.le_of_ble_eq_true rfl) dX11_ask_2 ⟨Nat.le_of_ble_eq_true rfl, Nat.le_of_ble_eq_true rfl⟩ ?_
  refine lv_astoreN (lv' := [(4, .null), (0, .ref (A_b 0)), (1, .int x1), (2, .int x2), (3, .int x3)]) hx hb dX11_ask_5 hl (by decide) rfl (fun ls hl => ?_)
  refine lv_aload_n hx hb dX11_ask_7 rfl (lv_at hl 1 rfl) ?_
  refine lv_iload_n hx hb dX11_ask_8 rfl (lv_at hl 2 rfl) ?_
  refine lv_aloadN hx hb dX11_ask_9 (lv_at hl 0 rfl) ?_
  refine lv_iload_n hx hb dX11_ask_11 rfl (lv_at hl 4 rfl) ?_
  obtain ⟨z_99, e_z_99, h⟩ := bi h
  refine roVi (rest := []) ⟨hx, hb, hml, hown, ht⟩ (c_X11_seenRefusal_n2 l D cy fu A_b (A_T 0) r_b_war r_b_draftArmy r_b_draftWar r_b_reader r_b_armyReader r_b_warReader r_b_markedArmies r_b_markedWars r_b_latest r_b_trial r_b_foresight r_b_pairs b_latestStatus b_fractionTop b_fractionBottom b_marks A_a a_name a_courage a_weight a_medals a_stood a_fled a_liked a_votes a_count a_living a_pride a_quota a_melted a_lost x1 x3 z_99 e_z_99) (cV ht mv_X11_seenRefusal tb_1042 rfl rfl ⟨Nat.le_of_ble_eq_true rfl, Nat.le_of_ble_eq_true rfl⟩) (P_sub hP.1 [0, 6] rfl) hX rfl rfl rfl hl.1 rfl (Nat.le_of_ble_eq_true rfl) dX11_ask_12 ⟨Nat.le_of_ble_eq_true rfl, Nat.le_of_ble_eq_true rfl⟩ ?_
  refine lv_istore (lv' := [(5, .int z_99), (4, .null), (0, .ref (A_b 0)), (1, .int x1), (2, .int x2), (3, .int x3)]) hx hb dX11_ask_15 hl (by decide) rfl (fun ls hl => ?_)
  refine lv_iload hx hb dX11_ask_17 (lv_at hl 0 rfl) ?_
  refine lv_if_eq (tgt := 29) hx hb dX11_ask_19 (by decide) (fun c_100 => ?_) (fun c_100 => ?_)
  · have h := it c_100 h
    refine lv_aload_n hx hb dX11_ask_29 rfl (lv_at hl 2 rfl) ?_
    refine lv_iload_n hx hb dX11_ask_30 rfl (lv_at hl 3 rfl) ?_
    refine lv_aloadN hx hb dX11_ask_31 (lv_at hl 1 rfl) ?_
    refine lv_iload_n hx hb dX11_ask_33 rfl (lv_at hl 5 rfl) ?_
    obtain ⟨z_101, e_z_101, h⟩ := bi h
    refine roVi (rest := []) ⟨hx, hb, hml, hown, ht⟩ (c_X11_fittingCourages_n2 l D cy fu A_b (A_T 0) (A_a 0) r_b_war r_b_draftArmy r_b_draftWar r_b_reader r_b_armyReader r_b_warReader r_b_markedArmies r_b_markedWars r_b_latest r_b_trial r_b_foresight r_b_pairs b_latestStatus b_fractionTop b_fractionBottom b_marks x1 x3 z_101 e_z_101) (cV ht mv_X11_fittingCourages tb_1046 rfl rfl ⟨Nat.le_of_ble_eq_true rfl, Nat.le_of_ble_eq_true rfl⟩) (P_sub hP.1 [0] rfl) hX rfl rfl rfl hl.1 rfl (Nat.le_of_ble_eq_true rfl) dX11_ask_34 ⟨Nat.le_of_ble_eq_true rfl, Nat.le_of_ble_eq_true rfl⟩ ?_
    refine lv_istore (lv' := [(6, .int z_101), (5, .int z_99), (4, .null), (0, .ref (A_b 0)), (1, .int x1), (2, .int x2), (3, .int x3)]) hx hb dX11_ask_37 hl (by decide) rfl (fun ls hl => ?_)
    refine lv_iload hx hb dX11_ask_39 (lv_at hl 0 rfl) ?_
    obtain ⟨z_102, e_z_102, h⟩ := bi h
    refine roSi (rest := []) ⟨hx, hb, hml, hown, ht⟩ (c_J6_bitCount_0f7a4 l D cy fu  z_101 z_102 e_z_102) (cS ht ms_J6_bitCount_0f7a4 tb_852 rfl rfl ⟨Nat.le_of_ble_eq_true rfl, Nat.le_of_ble_eq_true rfl⟩) (P_sub hP.1 [] rfl) hX rfl hl.1 rfl (Nat.le_of_ble_eq_true rfl) dX11_ask_41 ⟨Nat.le_of_ble_eq_true rfl, Nat.le_of_ble_eq_true rfl⟩ ?_
    refine lv_iconst (v := 2) hx hb dX11_ask_44 (by decide) ?_
    refine lv_icmp_ge (tgt := 55) hx hb dX11_ask_45 (by decide) (fun c_103 => ?_) (fun c_103 => ?_)
    · have h := it c_103 h
      refine lv_aload_n hx hb dX11_ask_55 rfl (lv_at hl 3 rfl) ?_
      refine lv_aload_n hx hb dX11_ask_56 rfl (lv_at hl 3 rfl) ?_
      refine lv_aload_n hx hb dX11_ask_57 rfl (lv_at hl 3 rfl) ?_
      refine xget (i := 0) (j := 0) (k := 4) (T := TX11) hx hb ht tb_iX11 hown hX hP.1 rfl rfl rfl (by decide) tb_433 rfl dX11_ask_58 ?_
      refine xget (i := 6) (j := 0) (k := 3) (T := TX0) hx hb ht tb_iX0 hown hX hP.1 rfl rfl rfl (by decide) tb_47 rfl dX11_ask_61 ?_
      refine lv_iload_n hx hb dX11_ask_64 rfl (lv_at hl 4 rfl) ?_
      obtain ⟨y_104, e_y_104, h⟩ := bi h
      refine xiald (i0 := 6) (j0 := 4) hx hb hX hP.1 rfl rfl e_y_104 dX11_ask_65 ?_
      refine lv_iload hx hb dX11_ask_66 (lv_at hl 0 rfl) ?_
      obtain ⟨z_105, e_z_105, h⟩ := bi h
      refine roVi (rest := [.ref (A_b 0)]) ⟨hx, hb, hml, hown, ht⟩ (c_X11_tellingSize l D cy fu A_b (A_T 0) r_b_war r_b_draftArmy r_b_draftWar r_b_reader r_b_armyReader r_b_warReader r_b_markedArmies r_b_markedWars r_b_latest r_b_trial r_b_foresight r_b_pairs b_latestStatus b_fractionTop b_fractionBottom b_marks A_a a_name a_courage a_weight a_medals a_stood a_fled a_liked a_votes a_count a_living a_pride a_quota a_melted a_lost y_104 z_101 z_105 e_z_105) (cV ht mv_X11_tellingSize tb_1063 rfl rfl ⟨Nat.le_of_ble_eq_true rfl, Nat.le_of_ble_eq_true rfl⟩) (P_sub hP.1 [0, 6] rfl) hX rfl rfl rfl hl.1 rfl (Nat.le_of_ble_eq_true rfl) dX11_ask_68 ⟨Nat.le_of_ble_eq_true rfl, Nat.le_of_ble_eq_true rfl⟩ ?_
      obtain ⟨z_106, e_z_106, h⟩ := bi h
      refine efVi (rest := []) ⟨hx, hb, hml, hown, ht⟩ (c_X11_answer l D cy fu A_b (A_T 0) (A_a 0) r_b_war r_b_draftArmy r_b_draftWar r_b_reader r_b_armyReader r_b_warReader r_b_markedArmies r_b_markedWars r_b_latest r_b_trial r_b_foresight r_b_pairs b_latestStatus b_fractionTop b_fractionBottom b_marks z_105 z_106 e_z_106 _ rfl _ rfl) (cV ht mv_X11_answer tb_696 rfl rfl ⟨Nat.le_of_ble_eq_true rfl, Nat.le_of_ble_eq_true rfl⟩) hP hS hX [0] rfl rfl rfl rfl rfl rfl hl.1 rfl (Nat.le_of_ble_eq_true rfl) dX11_ask_71 ⟨Nat.le_of_ble_eq_true rfl, Nat.le_of_ble_eq_true rfl⟩ (fun H locs hP hS => ?_)
      have hP : PD D A [bl_X11 cy A_b (A_T 0) (A_a 0) r_b_war r_b_draftArmy r_b_draftWar r_b_reader r_b_armyReader r_b_warReader r_b_markedArmies r_b_markedWars r_b_latest r_b_trial r_b_foresight r_b_pairs z_106.2 b_fractionTop b_fractionBottom b_marks, [(A_T 0, .inl (cy 4, 4, .inr (.inr (.inr (.inr (trf4 (A_y0 0) (A_y1 0) (A_y2 0) (A_y3 0)))))))], bl_X8 cy A_y0 y0_row y0_missing y0_sort y0_many, bl_X8 cy A_y1 y1_row y1_missing y1_sort y1_many, bl_X8 cy A_y2 y2_row y2_missing y2_sort y2_many, bl_X8 cy A_y3 y3_row y3_missing y3_sort y3_many, bl_X0 cy A_a a_name a_courage a_weight a_medals a_stood a_fled a_liked a_votes a_count a_living a_pride a_quota a_melted a_lost] H := hP
      cases h
      subst hW1
      exact W.iret hx hb hr (fun _ ht9 _ => ⟨⟨_, (), rfl, rfl, hPt ht9 hP.1⟩, hS.F ht9⟩) hS.2.2 dX11_ask_74
    · have h := ie c_103 h
      refine lv_aload_n hx hb dX11_ask_48 rfl (lv_at hl 3 rfl) ?_
      refine lv_bipush (v := 6) hx hb dX11_ask_49 (by decide) ?_
      obtain ⟨z_107, e_z_107, h⟩ := bi h
      refine efVi (rest := []) ⟨hx, hb, hml, hown, ht⟩ (c_X11_refuse l D cy fu A_b (A_T 0) (A_a 0) r_b_war r_b_draftArmy r_b_draftWar r_b_reader r_b_armyReader r_b_warReader r_b_markedArmies r_b_markedWars r_b_latest r_b_trial r_b_foresight r_b_pairs b_latestStatus b_fractionTop b_fractionBottom b_marks 6 z_107 e_z_107 _ rfl _ rfl) (cV ht mv_X11_refuse tb_543 rfl rfl ⟨Nat.le_of_ble_eq_true rfl, Nat.le_of_ble_eq_true rfl⟩) hP hS hX [0] rfl rfl rfl rfl rfl rfl hl.1 rfl (Nat.le_of_ble_eq_true rfl) dX11_ask_51 ⟨Nat.le_of_ble_eq_true rfl, Nat.le_of_ble_eq_true rfl⟩ (fun H locs hP hS => ?_)
      have hP : PD D A [bl_X11 cy A_b (A_T 0) (A_a 0) r_b_war r_b_draftArmy r_b_draftWar r_b_reader r_b_armyReader r_b_warReader r_b_markedArmies r_b_markedWars r_b_latest r_b_trial r_b_foresight r_b_pairs z_107.2 b_fractionTop b_fractionBottom b_marks, [(A_T 0, .inl (cy 4, 4, .inr (.inr (.inr (.inr (trf4 (A_y0 0) (A_y1 0) (A_y2 0) (A_y3 0)))))))], bl_X8 cy A_y0 y0_row y0_missing y0_sort y0_many, bl_X8 cy A_y1 y1_row y1_missing y1_sort y1_many, bl_X8 cy A_y2 y2_row y2_missing y2_sort y2_many, bl_X8 cy A_y3 y3_row y3_missing y3_sort y3_many, bl_X0 cy A_a a_name a_courage a_weight a_medals a_stood a_fled a_liked a_votes a_count a_living a_pride a_quota a_melted a_lost] H := hP
      cases h
      subst hW1
      exact W.iret hx hb hr (fun _ ht9 _ => ⟨⟨_, (), rfl, rfl, hPt ht9 hP.1⟩, hS.F ht9⟩) hS.2.2 dX11_ask_54
  · have h := ie c_100 h
    refine lv_aload_n hx hb dX11_ask_22 rfl (lv_at hl 2 rfl) ?_
    refine lv_iload hx hb dX11_ask_23 (lv_at hl 0 rfl) ?_
    obtain ⟨z_108, e_z_108, h⟩ := bi h
    refine efVi (rest := []) ⟨hx, hb, hml, hown, ht⟩ (c_X11_refuse l D cy fu A_b (A_T 0) (A_a 0) r_b_war r_b_draftArmy r_b_draftWar r_b_reader r_b_armyReader r_b_warReader r_b_markedArmies r_b_markedWars r_b_latest r_b_trial r_b_foresight r_b_pairs b_latestStatus b_fractionTop b_fractionBottom b_marks z_99 z_108 e_z_108 _ rfl _ rfl) (cV ht mv_X11_refuse tb_543 rfl rfl ⟨Nat.le_of_ble_eq_true rfl, Nat.le_of_ble_eq_true rfl⟩) hP hS hX [0] rfl rfl rfl rfl rfl rfl hl.1 rfl (Nat.le_of_ble_eq_true rfl) dX11_ask_25 ⟨Nat.le_of_ble_eq_true rfl, Nat.le_of_ble_eq_true rfl⟩ (fun H locs hP hS => ?_)
    have hP : PD D A [bl_X11 cy A_b (A_T 0) (A_a 0) r_b_war r_b_draftArmy r_b_draftWar r_b_reader r_b_armyReader r_b_warReader r_b_markedArmies r_b_markedWars r_b_latest r_b_trial r_b_foresight r_b_pairs z_108.2 b_fractionTop b_fractionBottom b_marks, [(A_T 0, .inl (cy 4, 4, .inr (.inr (.inr (.inr (trf4 (A_y0 0) (A_y1 0) (A_y2 0) (A_y3 0)))))))], bl_X8 cy A_y0 y0_row y0_missing y0_sort y0_many, bl_X8 cy A_y1 y1_row y1_missing y1_sort y1_many, bl_X8 cy A_y2 y2_row y2_missing y2_sort y2_many, bl_X8 cy A_y3 y3_row y3_missing y3_sort y3_many, bl_X0 cy A_a a_name a_courage a_weight a_medals a_stood a_fled a_liked a_votes a_count a_living a_pride a_quota a_melted a_lost] H := hP
    cases h
    subst hW1
    exact W.iret hx hb hr (fun _ ht9 _ => ⟨⟨_, (), rfl, rfl, hPt ht9 hP.1⟩, hS.F ht9⟩) hS.2.2 dX11_ask_28
theorem dX5_search_0 : decode cX5_search 0 = .ok (.iload_n 1, 1) := by decide +kernel
theorem dX5_search_1 : decode cX5_search 1 = .ok (.aload_n 0, 1) := by decide +kernel
theorem dX5_search_2 : decode cX5_search 2 = .ok (.getfield 21, 3) := by decide +kernel
theorem dX5_search_5 : decode cX5_search 5 = .ok (.if_icmp .lt 34, 3) := by decide +kernel
theorem dX5_search_8 : decode cX5_search 8 = .ok (.iload 4, 2) := by decide +kernel
theorem dX5_search_10 : decode cX5_search 10 = .ok (.aload_n 0, 1) := by decide +kernel
theorem dX5_search_11 : decode cX5_search 11 = .ok (.getfield 28, 3) := by decide +kernel
theorem dX5_search_14 : decode cX5_search 14 = .ok (.if_icmp .le 24, 3) := by decide +kernel
theorem dX5_search_17 : decode cX5_search 17 = .ok (.aload_n 0, 1) := by decide +kernel
theorem dX5_search_18 : decode cX5_search 18 = .ok (.iload 4, 2) := by decide +kernel
theorem dX5_search_20 : decode cX5_search 20 = .ok (.putfield 28, 3) := by decide +kernel
theorem dX5_search_23 : decode cX5_search 23 = .ok (.aload_n 0, 1) := by decide +kernel
theorem dX5_search_24 : decode cX5_search 24 = .ok (.getfield 15, 3) := by decide +kernel
theorem dX5_search_27 : decode cX5_search 27 = .ok (.iconst 0, 1) := by decide +kernel
theorem dX5_search_28 : decode cX5_search 28 = .ok (.aload_n 0, 1) := by decide +kernel
theorem dX5_search_29 : decode cX5_search 29 = .ok (.getfield 18, 3) := by decide +kernel
theorem dX5_search_32 : decode cX5_search 32 = .ok (.iconst 0, 1) := by decide +kernel
theorem dX5_search_33 : decode cX5_search 33 = .ok (.bipush 8, 2) := by decide +kernel
theorem dX5_search_35 : decode cX5_search 35 = .ok (.invokestatic 63, 3) := by decide +kernel
theorem dX5_search_38 : decode cX5_search 38 = .ok (.return_, 1) := by decide +kernel
theorem dX5_search_39 : decode cX5_search 39 = .ok (.aload_n 0, 1) := by decide +kernel
theorem dX5_search_40 : decode cX5_search 40 = .ok (.getfield 9, 3) := by decide +kernel
theorem dX5_search_43 : decode cX5_search 43 = .ok (.iload_n 1, 1) := by decide +kernel
theorem dX5_search_44 : decode cX5_search 44 = .ok (.iaload, 1) := by decide +kernel
theorem dX5_search_45 : decode cX5_search 45 = .ok (.istore 5, 2) := by decide +kernel
theorem dX5_search_47 : decode cX5_search 47 = .ok (.iconst 0, 1) := by decide +kernel
theorem dX5_search_48 : decode cX5_search 48 = .ok (.istore 6, 2) := by decide +kernel
theorem dX5_search_50 : decode cX5_search 50 = .ok (.iload 6, 2) := by decide +kernel
theorem dX5_search_52 : decode cX5_search 52 = .ok (.aload_n 0, 1) := by decide +kernel
theorem dX5_search_53 : decode cX5_search 53 = .ok (.getfield 31, 3) := by decide +kernel
theorem dX5_search_56 : decode cX5_search 56 = .ok (.getfield 41, 3) := by decide +kernel
theorem dX5_search_59 : decode cX5_search 59 = .ok (.if_icmp .ge 68, 3) := by decide +kernel
theorem dX5_search_62 : decode cX5_search 62 = .ok (.iload_n 2, 1) := by decide +kernel
theorem dX5_search_63 : decode cX5_search 63 = .ok (.iload 6, 2) := by decide +kernel
theorem dX5_search_65 : decode cX5_search 65 = .ok (.ishr, 1) := by decide +kernel
theorem dX5_search_66 : decode cX5_search 66 = .ok (.iconst 1, 1) := by decide +kernel
theorem dX5_search_67 : decode cX5_search 67 = .ok (.iand, 1) := by decide +kernel
theorem dX5_search_68 : decode cX5_search 68 = .ok (.ifCond .eq 53, 3) := by decide +kernel
theorem dX5_search_71 : decode cX5_search 71 = .ok (.aload_n 0, 1) := by decide +kernel
theorem dX5_search_72 : decode cX5_search 72 = .ok (.getfield 15, 3) := by decide +kernel
theorem dX5_search_75 : decode cX5_search 75 = .ok (.iload_n 1, 1) := by decide +kernel
theorem dX5_search_76 : decode cX5_search 76 = .ok (.iload 6, 2) := by decide +kernel
theorem dX5_search_78 : decode cX5_search 78 = .ok (.iastore, 1) := by decide +kernel
theorem dX5_search_79 : decode cX5_search 79 = .ok (.aload_n 0, 1) := by decide +kernel
theorem dX5_search_80 : decode cX5_search 80 = .ok (.iload_n 1, 1) := by decide +kernel
theorem dX5_search_81 : decode cX5_search 81 = .ok (.iconst 1, 1) := by decide +kernel
theorem dX5_search_82 : decode cX5_search 82 = .ok (.iadd, 1) := by decide +kernel
theorem dX5_search_83 : decode cX5_search 83 = .ok (.iload_n 2, 1) := by decide +kernel
theorem dX5_search_84 : decode cX5_search 84 = .ok (.iconst 1, 1) := by decide +kernel
theorem dX5_search_85 : decode cX5_search 85 = .ok (.iload 6, 2) := by decide +kernel
theorem dX5_search_87 : decode cX5_search 87 = .ok (.ishl, 1) := by decide +kernel
theorem dX5_search_88 : decode cX5_search 88 = .ok (.iconst (-1), 1) := by decide +kernel
theorem dX5_search_89 : decode cX5_search 89 = .ok (.ixor, 1) := by decide +kernel
theorem dX5_search_90 : decode cX5_search 90 = .ok (.iand, 1) := by decide +kernel
theorem dX5_search_91 : decode cX5_search 91 = .ok (.iload_n 3, 1) := by decide +kernel
theorem dX5_search_92 : decode cX5_search 92 = .ok (.iload 4, 2) := by decide +kernel
theorem dX5_search_94 : decode cX5_search 94 = .ok (.aload_n 0, 1) := by decide +kernel
theorem dX5_search_95 : decode cX5_search 95 = .ok (.getfield 31, 3) := by decide +kernel
theorem dX5_search_98 : decode cX5_search 98 = .ok (.iload 5, 2) := by decide +kernel
theorem dX5_search_100 : decode cX5_search 100 = .ok (.iload 6, 2) := by decide +kernel
theorem dX5_search_102 : decode cX5_search 102 = .ok (.invokevirtual 69, 3) := by decide +kernel
theorem dX5_search_105 : decode cX5_search 105 = .ok (.iadd, 1) := by decide +kernel
theorem dX5_search_106 : decode cX5_search 106 = .ok (.aload_n 0, 1) := by decide +kernel
theorem dX5_search_107 : decode cX5_search 107 = .ok (.getfield 31, 3) := by decide +kernel
theorem dX5_search_110 : decode cX5_search 110 = .ok (.iload 6, 2) := by decide +kernel
theorem dX5_search_112 : decode cX5_search 112 = .ok (.iload 5, 2) := by decide +kernel
theorem dX5_search_114 : decode cX5_search 114 = .ok (.invokevirtual 69, 3) := by decide +kernel
theorem dX5_search_117 : decode cX5_search 117 = .ok (.iadd, 1) := by decide +kernel
theorem dX5_search_118 : decode cX5_search 118 = .ok (.invokevirtual 59, 3) := by decide +kernel
theorem dX5_search_121 : decode cX5_search 121 = .ok (.iinc 6 1, 3) := by decide +kernel
theorem dX5_search_124 : decode cX5_search 124 = .ok (.goto (-74), 3) := by decide +kernel
theorem dX5_search_127 : decode cX5_search 127 = .ok (.iload_n 3, 1) := by decide +kernel
theorem dX5_search_128 : decode cX5_search 128 = .ok (.ifCond .le 23, 3) := by decide +kernel
theorem dX5_search_131 : decode cX5_search 131 = .ok (.aload_n 0, 1) := by decide +kernel
theorem dX5_search_132 : decode cX5_search 132 = .ok (.getfield 15, 3) := by decide +kernel
theorem dX5_search_135 : decode cX5_search 135 = .ok (.iload_n 1, 1) := by decide +kernel
theorem dX5_search_136 : decode cX5_search 136 = .ok (.iconst (-1), 1) := by decide +kernel
theorem dX5_search_137 : decode cX5_search 137 = .ok (.iastore, 1) := by decide +kernel
theorem dX5_search_138 : decode cX5_search 138 = .ok (.aload_n 0, 1) := by decide +kernel
theorem dX5_search_139 : decode cX5_search 139 = .ok (.iload_n 1, 1) := by decide +kernel
theorem dX5_search_140 : decode cX5_search 140 = .ok (.iconst 1, 1) := by decide +kernel
theorem dX5_search_141 : decode cX5_search 141 = .ok (.iadd, 1) := by decide +kernel
theorem dX5_search_142 : decode cX5_search 142 = .ok (.iload_n 2, 1) := by decide +kernel
theorem dX5_search_143 : decode cX5_search 143 = .ok (.iload_n 3, 1) := by decide +kernel
theorem dX5_search_144 : decode cX5_search 144 = .ok (.iconst 1, 1) := by decide +kernel
theorem dX5_search_145 : decode cX5_search 145 = .ok (.isub, 1) := by decide +kernel
theorem dX5_search_146 : decode cX5_search 146 = .ok (.iload 4, 2) := by decide +kernel
theorem dX5_search_148 : decode cX5_search 148 = .ok (.invokevirtual 59, 3) := by decide +kernel
theorem dX5_search_151 : decode cX5_search 151 = .ok (.return_, 1) := by decide +kernel
theorem mv_X5_search : MV yX5_search RX5 cX5_search 7 none 4 := ⟨tb_1083, tb_1082, ts_28, tb_14, by decide +kernel, by decide +kernel, by decide +kernel⟩
def f_X5_search_B_b50 (fu : Nat) (rec : (Nat → Int32) → (Nat → Int32) → (Nat → Int32) → Int32 → Int32 → (Nat → Int32) → Int32 → Int32 → Int32 → Int32 → Int32 → (Option ((Nat → Int32) × (Nat → Int32) × Int32))) (q_heroes : Nat → Int32) (q_heroCount : Int32) (a_liked : Nat → Int32) (a_count : Int32) (x1 : Int32) (x2 : Int32) (x3 : Int32) (x4 : Int32) (k50 : (Nat → Int32) → (Nat → Int32) → Int32 → Int32 → Int32 → (Option ((Nat → Int32) × (Nat → Int32) × Int32))) (q_tried : Nat → Int32) (q_chosen : Nat → Int32) (q_fondest : Int32) (x5 : Int32) (x6 : Int32) : Option ((Nat → Int32) × (Nat → Int32) × Int32) := (if a_count ≤ x6 then (if x3 ≤ 0 then some (q_tried, q_chosen, q_fondest) else (wrI q_tried 8 x1 (-1)).bind fun q_tried_18 => (rec q_heroes q_tried_18 q_chosen q_heroCount q_fondest a_liked a_count (x1 + 1) x2 (x3 - 1) x4).bind fun z_19 => some (z_19.1, z_19.2.1, z_19.2.2)) else (if ((x2 >>> (x6 &&& 31)) &&& 1) = 0 then bnd (x6 + 1) fun x6_21 => k50 q_tried q_chosen q_fondest x5 x6_21 else (wrI q_tried 8 x1 x6).bind fun q_tried_22 => (f_X0_liking fu a_liked a_count x5 x6).bind fun z_23 => (f_X0_liking fu a_liked a_count x6 x5).bind fun z_24 => (rec q_heroes q_tried_22 q_chosen q_heroCount q_fondest a_liked a_count (x1 + 1) (x2 &&& (((1 : Int32) <<< (x6 &&& 31)) ^^^ (-1))) x3 ((x4 + z_23) + z_24)).bind fun z_25 => bnd (x6 + 1) fun x6_26 => k50 z_25.1 z_25.2.1 z_25.2.2 x5 x6_26))
def f_X5_search_B_l50 (fu : Nat) (rec : (Nat → Int32) → (Nat → Int32) → (Nat → Int32) → Int32 → Int32 → (Nat → Int32) → Int32 → Int32 → Int32 → Int32 → Int32 → (Option ((Nat → Int32) × (Nat → Int32) × Int32))) (q_heroes : Nat → Int32) (q_heroCount : Int32) (a_liked : Nat → Int32) (a_count : Int32) (x1 : Int32) (x2 : Int32) (x3 : Int32) (x4 : Int32) : Nat → (Nat → Int32) → (Nat → Int32) → Int32 → Int32 → Int32 → (Option ((Nat → Int32) × (Nat → Int32) × Int32))
  | 0, _, _, _, _, _ => none
  | n + 1, q_tried, q_chosen, q_fondest, x5, x6 => f_X5_search_B_b50 fu rec q_heroes q_heroCount a_liked a_count x1 x2 x3 x4 (f_X5_search_B_l50 fu rec q_heroes q_heroCount a_liked a_count x1 x2 x3 x4 n) q_tried q_chosen q_fondest x5 x6
def f_X5_search_B (fu : Nat) (rec : (Nat → Int32) → (Nat → Int32) → (Nat → Int32) → Int32 → Int32 → (Nat → Int32) → Int32 → Int32 → Int32 → Int32 → Int32 → (Option ((Nat → Int32) × (Nat → Int32) × Int32))) (q_heroes : Nat → Int32) (q_tried : Nat → Int32) (q_chosen : Nat → Int32) (q_heroCount : Int32) (q_fondest : Int32) (a_liked : Nat → Int32) (a_count : Int32) (x1 : Int32) (x2 : Int32) (x3 : Int32) (x4 : Int32) : Option ((Nat → Int32) × (Nat → Int32) × Int32) := (if x1 < q_heroCount then (rdI q_heroes 8 x1).bind fun y_28 => f_X5_search_B_l50 fu rec q_heroes q_heroCount a_liked a_count x1 x2 x3 x4 fu q_tried q_chosen q_fondest y_28 0 else (if x4 ≤ q_fondest then some (q_tried, q_chosen, q_fondest) else (cpI q_tried 8 q_chosen 8 0 0 8).bind fun q_chosen_30 => some (q_tried, q_chosen_30, x4)))
abbrev rm_X5_search_B (F L : Nat) : Room := { frames := F + 2, cells := 0, slots := 0, locals := L + 60 }
set_option maxHeartbeats 4000000 in
set_option maxRecDepth 100000 in
theorem c_X5_search_B (l : Launch) (D : va_G) (cy : Nat → ClassId) (fu : Nat) (rec : (Nat → Int32) → (Nat → Int32) → (Nat → Int32) → Int32 → Int32 → (Nat → Int32) → Int32 → Int32 → Int32 → Int32 → Int32 → (Option ((Nat → Int32) × (Nat → Int32) × Int32))) (F L : Nat) (hrec : ∀ (A_q : Nat → Nat) (q_heroes : Nat → Int32) (q_tried : Nat → Int32) (q_chosen : Nat → Int32) (q_heroCount : Int32) (q_couples : Int32) (q_fondest : Int32) (A_a : Nat → Nat) (a_name : Nat → Int64) (a_courage : Nat → Int32) (a_weight : Nat → Int32) (a_medals : Nat → Int32) (a_stood : Nat → Int32) (a_fled : Nat → Int32) (a_liked : Nat → Int32) (a_votes : Nat → Int32) (a_count : Int32) (a_living : Int32) (a_pride : Int32) (a_quota : Int32) (a_melted : Int32) (a_lost : Int32) (x1 : Int32) (x2 : Int32) (x3 : Int32) (x4 : Int32) (res : (Nat → Int32) × (Nat → Int32) × Int32) (h : rec q_heroes q_tried q_chosen q_heroCount q_fondest a_liked a_count x1 x2 x3 x4 = some res) (A : Nat → Prop) (hA : A = adr [bl_X5 cy A_q (A_a 0) q_heroes q_tried q_chosen q_heroCount q_couples q_fondest, bl_X0 cy A_a a_name a_courage a_weight a_medals a_stood a_fled a_liked a_votes a_count a_living a_pride a_quota a_melted a_lost]) (W1 : List va_W) (hW1 : W1 = [bl_X5 cy A_q (A_a 0) q_heroes res.1 res.2.1 q_heroCount q_couples res.2.2, bl_X0 cy A_a a_name a_courage a_weight a_medals a_stood a_fled a_liked a_votes a_count a_living a_pride a_quota a_melted a_lost]), Met l yX5_search (WW yX5_search cX5_search 7 none) { frames := F, cells := 0, slots := 0, locals := L } (Ed D cy [.ref (A_q 0), .int x1, .int x2, .int x3, .int x4] [bl_X5 cy A_q (A_a 0) q_heroes q_tried q_chosen q_heroCount q_couples q_fondest, bl_X0 cy A_a a_name a_courage a_weight a_medals a_stood a_fled a_liked a_votes a_count a_living a_pride a_quota a_melted a_lost]) (Qev D A W1) 0 0 A) (A_q : Nat → Nat) (q_heroes : Nat → Int32) (q_tried : Nat → Int32) (q_chosen : Nat → Int32) (q_heroCount : Int32) (q_couples : Int32) (q_fondest : Int32) (A_a : Nat → Nat) (a_name : Nat → Int64) (a_courage : Nat → Int32) (a_weight : Nat → Int32) (a_medals : Nat → Int32) (a_stood : Nat → Int32) (a_fled : Nat → Int32) (a_liked : Nat → Int32) (a_votes : Nat → Int32) (a_count : Int32) (a_living : Int32) (a_pride : Int32) (a_quota : Int32) (a_melted : Int32) (a_lost : Int32) (x1 : Int32) (x2 : Int32) (x3 : Int32) (x4 : Int32) (res : (Nat → Int32) × (Nat → Int32) × Int32) (h : f_X5_search_B fu rec q_heroes q_tried q_chosen q_heroCount q_fondest a_liked a_count x1 x2 x3 x4 = some res) (A : Nat → Prop) (hA : A = adr [bl_X5 cy A_q (A_a 0) q_heroes q_tried q_chosen q_heroCount q_couples q_fondest, bl_X0 cy A_a a_name a_courage a_weight a_medals a_stood a_fled a_liked a_votes a_count a_living a_pride a_quota a_melted a_lost]) (W1 : List va_W) (hW1 : W1 = [bl_X5 cy A_q (A_a 0) q_heroes res.1 res.2.1 q_heroCount q_couples res.2.2, bl_X0 cy A_a a_name a_courage a_weight a_medals a_stood a_fled a_liked a_votes a_count a_living a_pride a_quota a_melted a_lost]) : Met l yX5_search (WW yX5_search cX5_search 7 none) (rm_X5_search_B F L) (Ed D cy [.ref (A_q 0), .int x1, .int x2, .int x3, .int x4] [bl_X5 cy A_q (A_a 0) q_heroes q_tried q_chosen q_heroCount q_couples q_fondest, bl_X0 cy A_a a_name a_courage a_weight a_medals a_stood a_fled a_liked a_votes a_count a_living a_pride a_quota a_melted a_lost]) (Qev D A W1) 0 0 A := by
  refine Met.ofW (cc := cX5_search) (maxL := 7) (ret := none) (by decide) rfl ?_
  intro p e s m args below meth c s₁ B hml hv
  obtain ⟨hargs, hP, hX, hD0⟩ := hv
  have hx := B.exec
  have hb := B.bytes
  have hr := B.returns
  have ht : ∀ w ∈ lw_gd, w.before args s = true := fun w hw => atoms_spec (ws := WW yX5_search cX5_search 7 none) B.pre w (List.mem_cons_of_mem _ hw)
  have hown : s.vm.findClass RX5 = some m.cls := findClass_of_methodNamed B.named
  have hlocks := B.notSynchronized
  have hP : PD D A [bl_X5 cy A_q (A_a 0) q_heroes q_tried q_chosen q_heroCount q_couples q_fondest, bl_X0 cy A_a a_name a_courage a_weight a_medals a_stood a_fled a_liked a_votes a_count a_living a_pride a_quota a_melted a_lost] s.heap := ⟨hP, by rw [hA]; exact hD0.own⟩
  have hS : va_S A s.heap s.heap [] := va_S.rf
  obtain ⟨ls, hl, hent⟩ := ent (m := m) (n := 7) hargs (Nat.le_of_ble_eq_true rfl) (lv := [(0, .ref (A_q 0)), (1, .int x1), (2, .int x2), (3, .int x3), (4, .int x4)]) rfl
  rw [hent]
  clear hent
  have l50 : ∀ (n50 : Nat) (q_tried : Nat → Int32) (q_chosen : Nat → Int32) (q_fondest : Int32) (x5 : Int32) (x6 : Int32) (H : Heap) (locs : List Loc) (_ : PD D A [bl_X5 cy A_q (A_a 0) q_heroes q_tried q_chosen q_heroCount q_couples q_fondest, bl_X0 cy A_a a_name a_courage a_weight a_medals a_stood a_fled a_liked a_votes a_count a_living a_pride a_quota a_melted a_lost] H) (_ : va_S A s.heap H locs) (ls : Array Slot), lv_has ls 7 [(0, .ref (A_q 0)), (1, .int x1), (2, .int x2), (3, .int x3), (4, .int x4), (5, .int x5), (6, .int x6)] → f_X5_search_B_l50 fu rec q_heroes q_heroCount a_liked a_count x1 x2 x3 x4 n50 q_tried q_chosen q_fondest x5 x6 = some res → W p l e (headSpec (WW yX5_search cX5_search 7 none) (rm_X5_search_B F L)).room s m args below meth c H locs 0 0 (MQ below (Qev D A W1) args s 0 0 A) (F0 m 50 ls []) := by
    intro n50
    induction n50 with
    | zero => intro q_tried q_chosen q_fondest x5 x6 H locs hP hS ls hl h; cases h
    | succ n50 ih50 =>
      intro q_tried q_chosen q_fondest x5 x6 H locs hP hS ls hl h
      have h : f_X5_search_B_b50 fu rec q_heroes q_heroCount a_liked a_count x1 x2 x3 x4 (f_X5_search_B_l50 fu rec q_heroes q_heroCount a_liked a_count x1 x2 x3 x4 n50) q_tried q_chosen q_fondest x5 x6 = some res := h
      unfold f_X5_search_B_b50 at h
      refine lv_iload hx hb dX5_search_50 (lv_at hl 6 rfl) ?_
      refine lv_aload_n hx hb dX5_search_52 rfl (lv_at hl 0 rfl) ?_
      refine xget (i := 0) (j := 0) (k := 3) (T := TX5) hx hb ht tb_iX5 hown hX hP.1 rfl rfl rfl (by decide) tb_387 rfl dX5_search_53 ?_
      refine xget (i := 1) (j := 0) (k := 8) (T := TX0) hx hb ht tb_iX0 hown hX hP.1 rfl rfl rfl (by decide) tb_56 rfl dX5_search_56 ?_
      refine lv_icmp_ge (tgt := 127) hx hb dX5_search_59 (by decide) (fun c_16 => ?_) (fun c_16 => ?_)
      · have h := it c_16 h
        refine lv_iload_n hx hb dX5_search_127 rfl (lv_at hl 3 rfl) ?_
        refine lv_if_le (tgt := 151) hx hb dX5_search_128 (by decide) (fun c_17 => ?_) (fun c_17 => ?_)
        · have h := it c_17 h
          cases h
          subst hW1
          exact W.vret hx hb hr (fun _ ht9 _ => ⟨⟨(), rfl, trivial, hPt ht9 hP.1⟩, hS.F ht9⟩) hS.2.2 dX5_search_151
        · have h := ie c_17 h
          refine lv_aload_n hx hb dX5_search_131 rfl (lv_at hl 0 rfl) ?_
          refine xget (i := 0) (j := 0) (k := 1) (T := TX5) hx hb ht tb_iX5 hown hX hP.1 rfl rfl rfl (by decide) tb_385 rfl dX5_search_132 ?_
          refine lv_iload_n hx hb dX5_search_135 rfl (lv_at hl 1 rfl) ?_
          refine lv_iconst (v := (-1)) hx hb dX5_search_136 (by decide) ?_
          obtain ⟨q_tried_18, e_q_tried_18, h⟩ := bi h
          refine xiast (i0 := 0) (j0 := 2) hx hb hX hP hS rfl rfl e_q_tried_18 dX5_search_137 (fun H locs hP hS => ?_)
          have hP : PD D A [bl_X5 cy A_q (A_a 0) q_heroes q_tried_18 q_chosen q_heroCount q_couples q_fondest, bl_X0 cy A_a a_name a_courage a_weight a_medals a_stood a_fled a_liked a_votes a_count a_living a_pride a_quota a_melted a_lost] H := hP
          refine lv_aload_n hx hb dX5_search_138 rfl (lv_at hl 0 rfl) ?_
          refine lv_iload_n hx hb dX5_search_139 rfl (lv_at hl 1 rfl) ?_
          refine lv_iconst (v := 1) hx hb dX5_search_140 (by decide) ?_
          refine lv_iadd hx hb dX5_search_141 ?_
          refine lv_iload_n hx hb dX5_search_142 rfl (lv_at hl 2 rfl) ?_
          refine lv_iload_n hx hb dX5_search_143 rfl (lv_at hl 3 rfl) ?_
          refine lv_iconst (v := 1) hx hb dX5_search_144 (by decide) ?_
          refine lv_isub hx hb dX5_search_145 ?_
          refine lv_iload hx hb dX5_search_146 (lv_at hl 4 rfl) ?_
          obtain ⟨z_19, e_z_19, h⟩ := bi h
          refine efVv (rest := []) ⟨hx, hb, hml, hown, ht⟩ (hrec A_q q_heroes q_tried_18 q_chosen q_heroCount q_couples q_fondest A_a a_name a_courage a_weight a_medals a_stood a_fled a_liked a_votes a_count a_living a_pride a_quota a_melted a_lost (x1 + 1) x2 (x3 - 1) x4 z_19 e_z_19 _ rfl _ rfl) (cV ht mv_X5_search tb_1080 rfl rfl ⟨by show F + 1 ≤ F + 2; omega, by show 8 + (7 + 11) + (L) ≤ L + 60; omega⟩) hP hS hX [0, 1] rfl rfl rfl rfl rfl rfl hl.1 rfl (Nat.le_of_ble_eq_true rfl) dX5_search_148 ⟨Nat.le_of_ble_eq_true rfl, Nat.le_of_ble_eq_true rfl⟩ (fun H locs hP hS => ?_)
          have hP : PD D A [bl_X5 cy A_q (A_a 0) q_heroes z_19.1 z_19.2.1 q_heroCount q_couples z_19.2.2, bl_X0 cy A_a a_name a_courage a_weight a_medals a_stood a_fled a_liked a_votes a_count a_living a_pride a_quota a_melted a_lost] H := hP
          cases h
          subst hW1
          exact W.vret hx hb hr (fun _ ht9 _ => ⟨⟨(), rfl, trivial, hPt ht9 hP.1⟩, hS.F ht9⟩) hS.2.2 dX5_search_151
      · have h := ie c_16 h
        refine lv_iload_n hx hb dX5_search_62 rfl (lv_at hl 2 rfl) ?_
        refine lv_iload hx hb dX5_search_63 (lv_at hl 6 rfl) ?_
        refine lv_ishr hx hb dX5_search_65 ?_
        refine lv_iconst (v := 1) hx hb dX5_search_66 (by decide) ?_
        refine lv_iand hx hb dX5_search_67 ?_
        refine lv_if_eq (tgt := 121) hx hb dX5_search_68 (by decide) (fun c_20 => ?_) (fun c_20 => ?_)
        · have h := it c_20 h
          obtain ⟨x6_21, e_x6_21⟩ : ∃ y : Int32, y = x6 + 1 := ⟨_, rfl⟩
          have h := bn e_x6_21 h
          refine lv_iinc (v := x6_21) (lv' := [(6, .int x6_21), (0, .ref (A_q 0)), (1, .int x1), (2, .int x2), (3, .int x3), (4, .int x4), (5, .int x5)]) hx hb dX5_search_121 hl (k := 6) rfl (by rw [e_x6_21]; rfl) (by decide) rfl (fun ls hl => ?_)
          refine lv_goto (tgt := 50) hx hb dX5_search_124 (by decide) ?_
          exact ih50 q_tried q_chosen q_fondest x5 x6_21 _ _ hP hS ls (lv_sub hl [1, 2, 3, 4, 5, 6, 0] rfl) h
        · have h := ie c_20 h
          refine lv_aload_n hx hb dX5_search_71 rfl (lv_at hl 0 rfl) ?_
          refine xget (i := 0) (j := 0) (k := 1) (T := TX5) hx hb ht tb_iX5 hown hX hP.1 rfl rfl rfl (by decide) tb_385 rfl dX5_search_72 ?_
          refine lv_iload_n hx hb dX5_search_75 rfl (lv_at hl 1 rfl) ?_
          refine lv_iload hx hb dX5_search_76 (lv_at hl 6 rfl) ?_
          obtain ⟨q_tried_22, e_q_tried_22, h⟩ := bi h
          refine xiast (i0 := 0) (j0 := 2) hx hb hX hP hS rfl rfl e_q_tried_22 dX5_search_78 (fun H locs hP hS => ?_)
          have hP : PD D A [bl_X5 cy A_q (A_a 0) q_heroes q_tried_22 q_chosen q_heroCount q_couples q_fondest, bl_X0 cy A_a a_name a_courage a_weight a_medals a_stood a_fled a_liked a_votes a_count a_living a_pride a_quota a_melted a_lost] H := hP
          refine lv_aload_n hx hb dX5_search_79 rfl (lv_at hl 0 rfl) ?_
          refine lv_iload_n hx hb dX5_search_80 rfl (lv_at hl 1 rfl) ?_
          refine lv_iconst (v := 1) hx hb dX5_search_81 (by decide) ?_
          refine lv_iadd hx hb dX5_search_82 ?_
          refine lv_iload_n hx hb dX5_search_83 rfl (lv_at hl 2 rfl) ?_
          refine lv_iconst (v := 1) hx hb dX5_search_84 (by decide) ?_
          refine lv_iload hx hb dX5_search_85 (lv_at hl 6 rfl) ?_
          refine lv_ishl hx hb dX5_search_87 ?_
          refine lv_iconst (v := (-1)) hx hb dX5_search_88 (by decide) ?_
          refine lv_ixor hx hb dX5_search_89 ?_
          refine lv_iand hx hb dX5_search_90 ?_
          refine lv_iload_n hx hb dX5_search_91 rfl (lv_at hl 3 rfl) ?_
          refine lv_iload hx hb dX5_search_92 (lv_at hl 4 rfl) ?_
          refine lv_aload_n hx hb dX5_search_94 rfl (lv_at hl 0 rfl) ?_
          refine xget (i := 0) (j := 0) (k := 3) (T := TX5) hx hb ht tb_iX5 hown hX hP.1 rfl rfl rfl (by decide) tb_387 rfl dX5_search_95 ?_
          refine lv_iload hx hb dX5_search_98 (lv_at hl 5 rfl) ?_
          refine lv_iload hx hb dX5_search_100 (lv_at hl 6 rfl) ?_
          obtain ⟨z_23, e_z_23, h⟩ := bi h
          refine roVi (rest := [.int x4, .int x3, .int (x2 &&& (((1 : Int32) <<< (x6 &&& 31)) ^^^ (-1))), .int (x1 + 1), .ref (A_q 0)]) ⟨hx, hb, hml, hown, ht⟩ (c_X0_liking l D cy fu A_a a_name a_courage a_weight a_medals a_stood a_fled a_liked a_votes a_count a_living a_pride a_quota a_melted a_lost x5 x6 z_23 e_z_23) (cV ht mv_X0_liking tb_1085 rfl rfl ⟨by show 1 + 1 ≤ F + 2; omega, by show 8 + (3 + 11) + (21) ≤ L + 60; omega⟩) (P_sub hP.1 [1] rfl) hX rfl rfl rfl hl.1 rfl (Nat.le_of_ble_eq_true rfl) dX5_search_102 ⟨Nat.le_of_ble_eq_true rfl, Nat.le_of_ble_eq_true rfl⟩ ?_
          refine lv_iadd hx hb dX5_search_105 ?_
          refine lv_aload_n hx hb dX5_search_106 rfl (lv_at hl 0 rfl) ?_
          refine xget (i := 0) (j := 0) (k := 3) (T := TX5) hx hb ht tb_iX5 hown hX hP.1 rfl rfl rfl (by decide) tb_387 rfl dX5_search_107 ?_
          refine lv_iload hx hb dX5_search_110 (lv_at hl 6 rfl) ?_
          refine lv_iload hx hb dX5_search_112 (lv_at hl 5 rfl) ?_
          obtain ⟨z_24, e_z_24, h⟩ := bi h
          refine roVi (rest := [.int (x4 + z_23), .int x3, .int (x2 &&& (((1 : Int32) <<< (x6 &&& 31)) ^^^ (-1))), .int (x1 + 1), .ref (A_q 0)]) ⟨hx, hb, hml, hown, ht⟩ (c_X0_liking l D cy fu A_a a_name a_courage a_weight a_medals a_stood a_fled a_liked a_votes a_count a_living a_pride a_quota a_melted a_lost x6 x5 z_24 e_z_24) (cV ht mv_X0_liking tb_1085 rfl rfl ⟨by show 1 + 1 ≤ F + 2; omega, by show 8 + (3 + 11) + (21) ≤ L + 60; omega⟩) (P_sub hP.1 [1] rfl) hX rfl rfl rfl hl.1 rfl (Nat.le_of_ble_eq_true rfl) dX5_search_114 ⟨Nat.le_of_ble_eq_true rfl, Nat.le_of_ble_eq_true rfl⟩ ?_
          refine lv_iadd hx hb dX5_search_117 ?_
          obtain ⟨z_25, e_z_25, h⟩ := bi h
          refine efVv (rest := []) ⟨hx, hb, hml, hown, ht⟩ (hrec A_q q_heroes q_tried_22 q_chosen q_heroCount q_couples q_fondest A_a a_name a_courage a_weight a_medals a_stood a_fled a_liked a_votes a_count a_living a_pride a_quota a_melted a_lost (x1 + 1) (x2 &&& (((1 : Int32) <<< (x6 &&& 31)) ^^^ (-1))) x3 ((x4 + z_23) + z_24) z_25 e_z_25 _ rfl _ rfl) (cV ht mv_X5_search tb_1080 rfl rfl ⟨by show F + 1 ≤ F + 2; omega, by show 8 + (7 + 11) + (L) ≤ L + 60; omega⟩) hP hS hX [0, 1] rfl rfl rfl rfl rfl rfl hl.1 rfl (Nat.le_of_ble_eq_true rfl) dX5_search_118 ⟨Nat.le_of_ble_eq_true rfl, Nat.le_of_ble_eq_true rfl⟩ (fun H locs hP hS => ?_)
          have hP : PD D A [bl_X5 cy A_q (A_a 0) q_heroes z_25.1 z_25.2.1 q_heroCount q_couples z_25.2.2, bl_X0 cy A_a a_name a_courage a_weight a_medals a_stood a_fled a_liked a_votes a_count a_living a_pride a_quota a_melted a_lost] H := hP
          obtain ⟨x6_26, e_x6_26⟩ : ∃ y : Int32, y = x6 + 1 := ⟨_, rfl⟩
          have h := bn e_x6_26 h
          refine lv_iinc (v := x6_26) (lv' := [(6, .int x6_26), (0, .ref (A_q 0)), (1, .int x1), (2, .int x2), (3, .int x3), (4, .int x4), (5, .int x5)]) hx hb dX5_search_121 hl (k := 6) rfl (by rw [e_x6_26]; rfl) (by decide) rfl (fun ls hl => ?_)
          refine lv_goto (tgt := 50) hx hb dX5_search_124 (by decide) ?_
          exact ih50 z_25.1 z_25.2.1 z_25.2.2 x5 x6_26 _ _ hP hS ls (lv_sub hl [1, 2, 3, 4, 5, 6, 0] rfl) h
  unfold f_X5_search_B at h
  refine lv_iload_n hx hb dX5_search_0 rfl (lv_at hl 1 rfl) ?_
  refine lv_aload_n hx hb dX5_search_1 rfl (lv_at hl 0 rfl) ?_
  refine xget (i := 0) (j := 0) (k := 4) (T := TX5) hx hb ht tb_iX5 hown hX hP.1 rfl rfl rfl (by decide) tb_388 rfl dX5_search_2 ?_
  refine lv_icmp_lt (tgt := 39) hx hb dX5_search_5 (by decide) (fun c_27 => ?_) (fun c_27 => ?_)
  · have h := it c_27 h
    refine lv_aload_n hx hb dX5_search_39 rfl (lv_at hl 0 rfl) ?_
    refine xget (i := 0) (j := 0) (k := 0) (T := TX5) hx hb ht tb_iX5 hown hX hP.1 rfl rfl rfl (by decide) tb_384 rfl dX5_search_40 ?_
    refine lv_iload_n hx hb dX5_search_43 rfl (lv_at hl 1 rfl) ?_
    obtain ⟨y_28, e_y_28, h⟩ := bi h
    refine xiald (i0 := 0) (j0 := 1) hx hb hX hP.1 rfl rfl e_y_28 dX5_search_44 ?_
    refine lv_istore (lv' := [(5, .int y_28), (0, .ref (A_q 0)), (1, .int x1), (2, .int x2), (3, .int x3), (4, .int x4)]) hx hb dX5_search_45 hl (by decide) rfl (fun ls hl => ?_)
    refine lv_iconst (v := 0) hx hb dX5_search_47 (by decide) ?_
    refine lv_istore (lv' := [(6, .int 0), (5, .int y_28), (0, .ref (A_q 0)), (1, .int x1), (2, .int x2), (3, .int x3), (4, .int x4)]) hx hb dX5_search_48 hl (by decide) rfl (fun ls hl => ?_)
    exact l50 fu q_tried q_chosen q_fondest y_28 0 _ _ hP hS ls (lv_sub hl [2, 3, 4, 5, 6, 1, 0] rfl) h
  · have h := ie c_27 h
    refine lv_iload hx hb dX5_search_8 (lv_at hl 4 rfl) ?_
    refine lv_aload_n hx hb dX5_search_10 rfl (lv_at hl 0 rfl) ?_
    refine xget (i := 0) (j := 0) (k := 6) (T := TX5) hx hb ht tb_iX5 hown hX hP.1 rfl rfl rfl (by decide) tb_391 rfl dX5_search_11 ?_
    refine lv_icmp_le (tgt := 38) hx hb dX5_search_14 (by decide) (fun c_29 => ?_) (fun c_29 => ?_)
    · have h := it c_29 h
      cases h
      subst hW1
      exact W.vret hx hb hr (fun _ ht9 _ => ⟨⟨(), rfl, trivial, hPt ht9 hP.1⟩, hS.F ht9⟩) hS.2.2 dX5_search_38
    · have h := ie c_29 h
      refine lv_aload_n hx hb dX5_search_17 rfl (lv_at hl 0 rfl) ?_
      refine lv_iload hx hb dX5_search_18 (lv_at hl 4 rfl) ?_
      refine xput (i := 0) (j := 0) (k := 6) (T := TX5) tyX5 tyX5_ok nmX5 hx hb ht tb_iX5 hown hX hP hS rfl rfl rfl (by decide) tb_391 rfl rfl rfl (Nat.le_of_ble_eq_true rfl) dX5_search_20 (fun H locs hP hS => ?_)
      have hP : PD D A [bl_X5 cy A_q (A_a 0) q_heroes q_tried q_chosen q_heroCount q_couples x4, bl_X0 cy A_a a_name a_courage a_weight a_medals a_stood a_fled a_liked a_votes a_count a_living a_pride a_quota a_melted a_lost] H := hP
      refine lv_aload_n hx hb dX5_search_23 rfl (lv_at hl 0 rfl) ?_
      refine xget (i := 0) (j := 0) (k := 1) (T := TX5) hx hb ht tb_iX5 hown hX hP.1 rfl rfl rfl (by decide) tb_385 rfl dX5_search_24 ?_
      refine lv_iconst (v := 0) hx hb dX5_search_27 (by decide) ?_
      refine lv_aload_n hx hb dX5_search_28 rfl (lv_at hl 0 rfl) ?_
      refine xget (i := 0) (j := 0) (k := 2) (T := TX5) hx hb ht tb_iX5 hown hX hP.1 rfl rfl rfl (by decide) tb_386 rfl dX5_search_29 ?_
      refine lv_iconst (v := 0) hx hb dX5_search_32 (by decide) ?_
      refine lv_bipush (v := 8) hx hb dX5_search_33 (by decide) ?_
      obtain ⟨q_chosen_30, e_q_chosen_30, h⟩ := bi h
      refine xcpI (i0 := 0) (j0 := 2) (i1 := 0) (j1 := 3) hx hb (hml.trans hl.1.symm) hown (ht _ tb_1084) (ht _ tb_557) (ht _ tb_556) (ht _ tb_18) hX hP hS rfl rfl rfl rfl e_q_chosen_30 (by show 1 ≤ F + 2; omega) (by show 0 + (nativeFrameWords "java/lang/System" "arraycopy" 5 + 11) ≤ L + 60; simp [nativeFrameWords] <;> omega) dX5_search_35 (fun H locs hP hS => ?_)
      have hP : PD D A [bl_X5 cy A_q (A_a 0) q_heroes q_tried q_chosen_30 q_heroCount q_couples x4, bl_X0 cy A_a a_name a_courage a_weight a_medals a_stood a_fled a_liked a_votes a_count a_living a_pride a_quota a_melted a_lost] H := hP
      cases h
      subst hW1
      exact W.vret hx hb hr (fun _ ht9 _ => ⟨⟨(), rfl, trivial, hPt ht9 hP.1⟩, hS.F ht9⟩) hS.2.2 dX5_search_38
def f_X5_search (fu : Nat) : Nat → (Nat → Int32) → (Nat → Int32) → (Nat → Int32) → Int32 → Int32 → (Nat → Int32) → Int32 → Int32 → Int32 → Int32 → Int32 → (Option ((Nat → Int32) × (Nat → Int32) × Int32))
  | 0, _, _, _, _, _, _, _, _, _, _, _ => none
  | d + 1, q_heroes, q_tried, q_chosen, q_heroCount, q_fondest, a_liked, a_count, x1, x2, x3, x4 => f_X5_search_B fu (f_X5_search fu d) q_heroes q_tried q_chosen q_heroCount q_fondest a_liked a_count x1 x2 x3 x4
set_option maxHeartbeats 4000000 in
set_option maxRecDepth 100000 in
theorem c_X5_search (l : Launch) (D : va_G) (cy : Nat → ClassId) (fu : Nat) (d : Nat) : ∀ (A_q : Nat → Nat) (q_heroes : Nat → Int32) (q_tried : Nat → Int32) (q_chosen : Nat → Int32) (q_heroCount : Int32) (q_couples : Int32) (q_fondest : Int32) (A_a : Nat → Nat) (a_name : Nat → Int64) (a_courage : Nat → Int32) (a_weight : Nat → Int32) (a_medals : Nat → Int32) (a_stood : Nat → Int32) (a_fled : Nat → Int32) (a_liked : Nat → Int32) (a_votes : Nat → Int32) (a_count : Int32) (a_living : Int32) (a_pride : Int32) (a_quota : Int32) (a_melted : Int32) (a_lost : Int32) (x1 : Int32) (x2 : Int32) (x3 : Int32) (x4 : Int32) (res : (Nat → Int32) × (Nat → Int32) × Int32) (h : f_X5_search fu d q_heroes q_tried q_chosen q_heroCount q_fondest a_liked a_count x1 x2 x3 x4 = some res) (A : Nat → Prop) (hA : A = adr [bl_X5 cy A_q (A_a 0) q_heroes q_tried q_chosen q_heroCount q_couples q_fondest, bl_X0 cy A_a a_name a_courage a_weight a_medals a_stood a_fled a_liked a_votes a_count a_living a_pride a_quota a_melted a_lost]) (W1 : List va_W) (hW1 : W1 = [bl_X5 cy A_q (A_a 0) q_heroes res.1 res.2.1 q_heroCount q_couples res.2.2, bl_X0 cy A_a a_name a_courage a_weight a_medals a_stood a_fled a_liked a_votes a_count a_living a_pride a_quota a_melted a_lost]), Met l yX5_search (WW yX5_search cX5_search 7 none) { frames := 2 * d, cells := 0, slots := 0, locals := 60 * d } (Ed D cy [.ref (A_q 0), .int x1, .int x2, .int x3, .int x4] [bl_X5 cy A_q (A_a 0) q_heroes q_tried q_chosen q_heroCount q_couples q_fondest, bl_X0 cy A_a a_name a_courage a_weight a_medals a_stood a_fled a_liked a_votes a_count a_living a_pride a_quota a_melted a_lost]) (Qev D A W1) 0 0 A := by
  induction d with
  | zero => intro A_q q_heroes q_tried q_chosen q_heroCount q_couples q_fondest A_a a_name a_courage a_weight a_medals a_stood a_fled a_liked a_votes a_count a_living a_pride a_quota a_melted a_lost x1 x2 x3 x4 res h A hA W1 hW1; cases h
  | succ d ih => intro A_q q_heroes q_tried q_chosen q_heroCount q_couples q_fondest A_a a_name a_courage a_weight a_medals a_stood a_fled a_liked a_votes a_count a_living a_pride a_quota a_melted a_lost x1 x2 x3 x4 res h A hA W1 hW1; exact c_X5_search_B l D cy fu (f_X5_search fu d) (2 * d) (60 * d) ih A_q q_heroes q_tried q_chosen q_heroCount q_couples q_fondest A_a a_name a_courage a_weight a_medals a_stood a_fled a_liked a_votes a_count a_living a_pride a_quota a_melted a_lost x1 x2 x3 x4 res h A hA W1 hW1
theorem dX5_match_0 : decode cX5_match 0 = .ok (.aload_n 0, 1) := by decide +kernel
theorem dX5_match_1 : decode cX5_match 1 = .ok (.getfield 31, 3) := by decide +kernel
theorem dX5_match_4 : decode cX5_match 4 = .ok (.iload_n 1, 1) := by decide +kernel
theorem dX5_match_5 : decode cX5_match 5 = .ok (.invokevirtual 35, 3) := by decide +kernel
theorem dX5_match_8 : decode cX5_match 8 = .ok (.istore_n 2, 1) := by decide +kernel
theorem dX5_match_9 : decode cX5_match 9 = .ok (.aload_n 0, 1) := by decide +kernel
theorem dX5_match_10 : decode cX5_match 10 = .ok (.iconst 0, 1) := by decide +kernel
theorem dX5_match_11 : decode cX5_match 11 = .ok (.putfield 21, 3) := by decide +kernel
theorem dX5_match_14 : decode cX5_match 14 = .ok (.iconst 0, 1) := by decide +kernel
theorem dX5_match_15 : decode cX5_match 15 = .ok (.istore_n 3, 1) := by decide +kernel
theorem dX5_match_16 : decode cX5_match 16 = .ok (.iload_n 3, 1) := by decide +kernel
theorem dX5_match_17 : decode cX5_match 17 = .ok (.aload_n 0, 1) := by decide +kernel
theorem dX5_match_18 : decode cX5_match 18 = .ok (.getfield 31, 3) := by decide +kernel
theorem dX5_match_21 : decode cX5_match 21 = .ok (.getfield 41, 3) := by decide +kernel
theorem dX5_match_24 : decode cX5_match 24 = .ok (.if_icmp .ge 48, 3) := by decide +kernel
theorem dX5_match_27 : decode cX5_match 27 = .ok (.aload_n 0, 1) := by decide +kernel
theorem dX5_match_28 : decode cX5_match 28 = .ok (.getfield 31, 3) := by decide +kernel
theorem dX5_match_31 : decode cX5_match 31 = .ok (.iload_n 3, 1) := by decide +kernel
theorem dX5_match_32 : decode cX5_match 32 = .ok (.invokevirtual 44, 3) := by decide +kernel
theorem dX5_match_35 : decode cX5_match 35 = .ok (.ifCond .eq 31, 3) := by decide +kernel
theorem dX5_match_38 : decode cX5_match 38 = .ok (.iload_n 2, 1) := by decide +kernel
theorem dX5_match_39 : decode cX5_match 39 = .ok (.iload_n 3, 1) := by decide +kernel
theorem dX5_match_40 : decode cX5_match 40 = .ok (.ishr, 1) := by decide +kernel
theorem dX5_match_41 : decode cX5_match 41 = .ok (.iconst 1, 1) := by decide +kernel
theorem dX5_match_42 : decode cX5_match 42 = .ok (.iand, 1) := by decide +kernel
theorem dX5_match_43 : decode cX5_match 43 = .ok (.ifCond .ne 23, 3) := by decide +kernel
theorem dX5_match_46 : decode cX5_match 46 = .ok (.aload_n 0, 1) := by decide +kernel
theorem dX5_match_47 : decode cX5_match 47 = .ok (.getfield 9, 3) := by decide +kernel
theorem dX5_match_50 : decode cX5_match 50 = .ok (.aload_n 0, 1) := by decide +kernel
theorem dX5_match_51 : decode cX5_match 51 = .ok (.getfield 21, 3) := by decide +kernel
theorem dX5_match_54 : decode cX5_match 54 = .ok (.iload_n 3, 1) := by decide +kernel
theorem dX5_match_55 : decode cX5_match 55 = .ok (.iastore, 1) := by decide +kernel
theorem dX5_match_56 : decode cX5_match 56 = .ok (.aload_n 0, 1) := by decide +kernel
theorem dX5_match_57 : decode cX5_match 57 = .ok (.dup, 1) := by decide +kernel
theorem dX5_match_58 : decode cX5_match 58 = .ok (.getfield 21, 3) := by decide +kernel
theorem dX5_match_61 : decode cX5_match 61 = .ok (.iconst 1, 1) := by decide +kernel
theorem dX5_match_62 : decode cX5_match 62 = .ok (.iadd, 1) := by decide +kernel
theorem dX5_match_63 : decode cX5_match 63 = .ok (.putfield 21, 3) := by decide +kernel
theorem dX5_match_66 : decode cX5_match 66 = .ok (.iinc 3 1, 3) := by decide +kernel
theorem dX5_match_69 : decode cX5_match 69 = .ok (.goto (-53), 3) := by decide +kernel
theorem dX5_match_72 : decode cX5_match 72 = .ok (.aload_n 0, 1) := by decide +kernel
theorem dX5_match_73 : decode cX5_match 73 = .ok (.aload_n 0, 1) := by decide +kernel
theorem dX5_match_74 : decode cX5_match 74 = .ok (.getfield 21, 3) := by decide +kernel
theorem dX5_match_77 : decode cX5_match 77 = .ok (.iload_n 2, 1) := by decide +kernel
theorem dX5_match_78 : decode cX5_match 78 = .ok (.invokestatic 48, 3) := by decide +kernel
theorem dX5_match_81 : decode cX5_match 81 = .ok (.invokestatic 53, 3) := by decide +kernel
theorem dX5_match_84 : decode cX5_match 84 = .ok (.putfield 25, 3) := by decide +kernel
theorem dX5_match_87 : decode cX5_match 87 = .ok (.aload_n 0, 1) := by decide +kernel
theorem dX5_match_88 : decode cX5_match 88 = .ok (.iconst (-1), 1) := by decide +kernel
theorem dX5_match_89 : decode cX5_match 89 = .ok (.putfield 28, 3) := by decide +kernel
theorem dX5_match_92 : decode cX5_match 92 = .ok (.aload_n 0, 1) := by decide +kernel
theorem dX5_match_93 : decode cX5_match 93 = .ok (.iconst 0, 1) := by decide +kernel
theorem dX5_match_94 : decode cX5_match 94 = .ok (.iload_n 2, 1) := by decide +kernel
theorem dX5_match_95 : decode cX5_match 95 = .ok (.aload_n 0, 1) := by decide +kernel
theorem dX5_match_96 : decode cX5_match 96 = .ok (.getfield 21, 3) := by decide +kernel
theorem dX5_match_99 : decode cX5_match 99 = .ok (.aload_n 0, 1) := by decide +kernel
theorem dX5_match_100 : decode cX5_match 100 = .ok (.getfield 25, 3) := by decide +kernel
theorem dX5_match_103 : decode cX5_match 103 = .ok (.isub, 1) := by decide +kernel
theorem dX5_match_104 : decode cX5_match 104 = .ok (.iconst 0, 1) := by decide +kernel
theorem dX5_match_105 : decode cX5_match 105 = .ok (.invokevirtual 59, 3) := by decide +kernel
theorem dX5_match_108 : decode cX5_match 108 = .ok (.return_, 1) := by decide +kernel
theorem mv_X5_match : MV yX5_match RX5 cX5_match 4 none 1 := ⟨tb_1075, tb_1073, tb_1074, tb_14, by decide +kernel, by decide +kernel, by decide +kernel⟩
def f_X5_match_b16 (fu : Nat) (a_courage : Nat → Int32) (a_medals : Nat → Int32) (a_liked : Nat → Int32) (a_count : Int32) (a_living : Int32) (a_pride : Int32) (x1 : Int32) (k16 : (Nat → Int32) → (Nat → Int32) → (Nat → Int32) → Int32 → Int32 → Int32 → Int32 → Int32 → (Option ((Nat → Int32) × (Nat → Int32) × (Nat → Int32) × Int32 × Int32 × Int32))) (q_heroes : Nat → Int32) (q_tried : Nat → Int32) (q_chosen : Nat → Int32) (q_heroCount : Int32) (q_couples : Int32) (q_fondest : Int32) (x2 : Int32) (x3 : Int32) : Option ((Nat → Int32) × (Nat → Int32) × (Nat → Int32) × Int32 × Int32 × Int32) := (if a_count ≤ x3 then (f_J6_bitCount_0f7a4 fu x2).bind fun z_15 => bnd (if z_15 < q_heroCount then z_15 else q_heroCount) fun q_couples_16 => (f_X5_search fu 10 q_heroes q_tried q_chosen q_heroCount (-1) a_liked a_count 0 x2 (q_heroCount - q_couples_16) 0).bind fun z_17 => some (q_heroes, z_17.1, z_17.2.1, q_heroCount, q_couples_16, z_17.2.2) else (f_X0_lives fu a_count a_living x3).bind fun z_18 => (if z_18 = 0 then bnd (x3 + 1) fun x3_20 => k16 q_heroes q_tried q_chosen q_heroCount q_couples q_fondest x2 x3_20 else (if ((x2 >>> (x3 &&& 31)) &&& 1) = 0 then (wrI q_heroes 8 q_heroCount x3).bind fun q_heroes_23 => bnd (q_heroCount + 1) fun q_heroCount_24 => bnd (x3 + 1) fun x3_25 => k16 q_heroes_23 q_tried q_chosen q_heroCount_24 q_couples q_fondest x2 x3_25 else bnd (x3 + 1) fun x3_22 => k16 q_heroes q_tried q_chosen q_heroCount q_couples q_fondest x2 x3_22)))
def f_X5_match_l16 (fu : Nat) (a_courage : Nat → Int32) (a_medals : Nat → Int32) (a_liked : Nat → Int32) (a_count : Int32) (a_living : Int32) (a_pride : Int32) (x1 : Int32) : Nat → (Nat → Int32) → (Nat → Int32) → (Nat → Int32) → Int32 → Int32 → Int32 → Int32 → Int32 → (Option ((Nat → Int32) × (Nat → Int32) × (Nat → Int32) × Int32 × Int32 × Int32))
  | 0, _, _, _, _, _, _, _, _ => none
  | n + 1, q_heroes, q_tried, q_chosen, q_heroCount, q_couples, q_fondest, x2, x3 => f_X5_match_b16 fu a_courage a_medals a_liked a_count a_living a_pride x1 (f_X5_match_l16 fu a_courage a_medals a_liked a_count a_living a_pride x1 n) q_heroes q_tried q_chosen q_heroCount q_couples q_fondest x2 x3
def f_X5_match (fu : Nat) (q_heroes : Nat → Int32) (q_tried : Nat → Int32) (q_chosen : Nat → Int32) (q_heroCount : Int32) (q_couples : Int32) (q_fondest : Int32) (a_courage : Nat → Int32) (a_medals : Nat → Int32) (a_liked : Nat → Int32) (a_count : Int32) (a_living : Int32) (a_pride : Int32) (x1 : Int32) : Option ((Nat → Int32) × (Nat → Int32) × (Nat → Int32) × Int32 × Int32 × Int32) := (f_X0_runners fu a_courage a_medals a_count a_living a_pride x1).bind fun z_26 => f_X5_match_l16 fu a_courage a_medals a_liked a_count a_living a_pride x1 fu q_heroes q_tried q_chosen 0 q_couples q_fondest z_26 0
abbrev rm_X5_match : Room := { frames := 21, cells := 0, slots := 0, locals := 626 }
set_option maxHeartbeats 4000000 in
set_option maxRecDepth 100000 in
theorem c_X5_match (l : Launch) (D : va_G) (cy : Nat → ClassId) (fu : Nat) (A_q : Nat → Nat) (q_heroes : Nat → Int32) (q_tried : Nat → Int32) (q_chosen : Nat → Int32) (q_heroCount : Int32) (q_couples : Int32) (q_fondest : Int32) (A_a : Nat → Nat) (a_name : Nat → Int64) (a_courage : Nat → Int32) (a_weight : Nat → Int32) (a_medals : Nat → Int32) (a_stood : Nat → Int32) (a_fled : Nat → Int32) (a_liked : Nat → Int32) (a_votes : Nat → Int32) (a_count : Int32) (a_living : Int32) (a_pride : Int32) (a_quota : Int32) (a_melted : Int32) (a_lost : Int32) (x1 : Int32) (res : (Nat → Int32) × (Nat → Int32) × (Nat → Int32) × Int32 × Int32 × Int32) (h : f_X5_match fu q_heroes q_tried q_chosen q_heroCount q_couples q_fondest a_courage a_medals a_liked a_count a_living a_pride x1 = some res) (A : Nat → Prop) (hA : A = adr [bl_X5 cy A_q (A_a 0) q_heroes q_tried q_chosen q_heroCount q_couples q_fondest, bl_X0 cy A_a a_name a_courage a_weight a_medals a_stood a_fled a_liked a_votes a_count a_living a_pride a_quota a_melted a_lost]) (W1 : List va_W) (hW1 : W1 = [bl_X5 cy A_q (A_a 0) res.1 res.2.1 res.2.2.1 res.2.2.2.1 res.2.2.2.2.1 res.2.2.2.2.2, bl_X0 cy A_a a_name a_courage a_weight a_medals a_stood a_fled a_liked a_votes a_count a_living a_pride a_quota a_melted a_lost]) : Met l yX5_match (WW yX5_match cX5_match 4 none) rm_X5_match (Ed D cy [.ref (A_q 0), .int x1] [bl_X5 cy A_q (A_a 0) q_heroes q_tried q_chosen q_heroCount q_couples q_fondest, bl_X0 cy A_a a_name a_courage a_weight a_medals a_stood a_fled a_liked a_votes a_count a_living a_pride a_quota a_melted a_lost]) (Qev D A W1) 0 0 A := by
  refine Met.ofW (cc := cX5_match) (maxL := 4) (ret := none) (by decide) rfl ?_
  intro p e s m args below meth c s₁ B hml hv
  obtain ⟨hargs, hP, hX, hD0⟩ := hv
  have hx := B.exec
  have hb := B.bytes
  have hr := B.returns
  have ht : ∀ w ∈ lw_gd, w.before args s = true := fun w hw => atoms_spec (ws := WW yX5_match cX5_match 4 none) B.pre w (List.mem_cons_of_mem _ hw)
  have hown : s.vm.findClass RX5 = some m.cls := findClass_of_methodNamed B.named
  have hlocks := B.notSynchronized
  have hP : PD D A [bl_X5 cy A_q (A_a 0) q_heroes q_tried q_chosen q_heroCount q_couples q_fondest, bl_X0 cy A_a a_name a_courage a_weight a_medals a_stood a_fled a_liked a_votes a_count a_living a_pride a_quota a_melted a_lost] s.heap := ⟨hP, by rw [hA]; exact hD0.own⟩
  have hS : va_S A s.heap s.heap [] := va_S.rf
  obtain ⟨ls, hl, hent⟩ := ent (m := m) (n := 4) hargs (Nat.le_of_ble_eq_true rfl) (lv := [(0, .ref (A_q 0)), (1, .int x1)]) rfl
  rw [hent]
  clear hent
  have l16 : ∀ (n16 : Nat) (q_heroes : Nat → Int32) (q_tried : Nat → Int32) (q_chosen : Nat → Int32) (q_heroCount : Int32) (q_couples : Int32) (q_fondest : Int32) (x2 : Int32) (x3 : Int32) (H : Heap) (locs : List Loc) (_ : PD D A [bl_X5 cy A_q (A_a 0) q_heroes q_tried q_chosen q_heroCount q_couples q_fondest, bl_X0 cy A_a a_name a_courage a_weight a_medals a_stood a_fled a_liked a_votes a_count a_living a_pride a_quota a_melted a_lost] H) (_ : va_S A s.heap H locs) (ls : Array Slot), lv_has ls 4 [(0, .ref (A_q 0)), (2, .int x2), (3, .int x3)] → f_X5_match_l16 fu a_courage a_medals a_liked a_count a_living a_pride x1 n16 q_heroes q_tried q_chosen q_heroCount q_couples q_fondest x2 x3 = some res → W p l e (headSpec (WW yX5_match cX5_match 4 none) rm_X5_match).room s m args below meth c H locs 0 0 (MQ below (Qev D A W1) args s 0 0 A) (F0 m 16 ls []) := by
    intro n16
    induction n16 with
    | zero => intro q_heroes q_tried q_chosen q_heroCount q_couples q_fondest x2 x3 H locs hP hS ls hl h; cases h
    | succ n16 ih16 =>
      intro q_heroes q_tried q_chosen q_heroCount q_couples q_fondest x2 x3 H locs hP hS ls hl h
      have h : f_X5_match_b16 fu a_courage a_medals a_liked a_count a_living a_pride x1 (f_X5_match_l16 fu a_courage a_medals a_liked a_count a_living a_pride x1 n16) q_heroes q_tried q_chosen q_heroCount q_couples q_fondest x2 x3 = some res := h
      unfold f_X5_match_b16 at h
      refine lv_iload_n hx hb dX5_match_16 rfl (lv_at hl 2 rfl) ?_
      refine lv_aload_n hx hb dX5_match_17 rfl (lv_at hl 0 rfl) ?_
      refine xget (i := 0) (j := 0) (k := 3) (T := TX5) hx hb ht tb_iX5 hown hX hP.1 rfl rfl rfl (by decide) tb_387 rfl dX5_match_18 ?_
      refine xget (i := 1) (j := 0) (k := 8) (T := TX0) hx hb ht tb_iX0 hown hX hP.1 rfl rfl rfl (by decide) tb_56 rfl dX5_match_21 ?_
      refine lv_icmp_ge (tgt := 72) hx hb dX5_match_24 (by decide) (fun c_14 => ?_) (fun c_14 => ?_)
      · have h := it c_14 h
        refine lv_aload_n hx hb dX5_match_72 rfl (lv_at hl 0 rfl) ?_
        refine lv_aload_n hx hb dX5_match_73 rfl (lv_at hl 0 rfl) ?_
        refine xget (i := 0) (j := 0) (k := 4) (T := TX5) hx hb ht tb_iX5 hown hX hP.1 rfl rfl rfl (by decide) tb_388 rfl dX5_match_74 ?_
        refine lv_iload_n hx hb dX5_match_77 rfl (lv_at hl 1 rfl) ?_
        obtain ⟨z_15, e_z_15, h⟩ := bi h
        refine roSi (rest := [.int q_heroCount, .ref (A_q 0)]) ⟨hx, hb, hml, hown, ht⟩ (c_J6_bitCount_0f7a4 l D cy fu  x2 z_15 e_z_15) (cS ht ms_J6_bitCount_0f7a4 tb_1078 rfl rfl ⟨Nat.le_of_ble_eq_true rfl, Nat.le_of_ble_eq_true rfl⟩) (P_sub hP.1 [] rfl) hX rfl hl.1 rfl (Nat.le_of_ble_eq_true rfl) dX5_match_78 ⟨Nat.le_of_ble_eq_true rfl, Nat.le_of_ble_eq_true rfl⟩ ?_
        refine va_mmin hx hb (hml.trans hl.1.symm) hown (ht _ tb_1079) (ht _ tb_583) (ht _ tb_19) (ht _ tb_584) (Nat.le_of_ble_eq_true rfl) (Nat.le_of_ble_eq_true rfl) (Nat.le_of_ble_eq_true rfl) (Nat.le_of_ble_eq_true rfl) dX5_match_81 ?_
        refine lv_topi (fun q_couples_16 e_q_couples_16 => ?_)
        have h := bn e_q_couples_16 h
        refine xput (i := 0) (j := 0) (k := 5) (T := TX5) tyX5 tyX5_ok nmX5 hx hb ht tb_iX5 hown hX hP hS rfl rfl rfl (by decide) tb_389 rfl rfl rfl (Nat.le_of_ble_eq_true rfl) dX5_match_84 (fun H locs hP hS => ?_)
        have hP : PD D A [bl_X5 cy A_q (A_a 0) q_heroes q_tried q_chosen q_heroCount q_couples_16 q_fondest, bl_X0 cy A_a a_name a_courage a_weight a_medals a_stood a_fled a_liked a_votes a_count a_living a_pride a_quota a_melted a_lost] H := hP
        refine lv_aload_n hx hb dX5_match_87 rfl (lv_at hl 0 rfl) ?_
        refine lv_iconst (v := (-1)) hx hb dX5_match_88 (by decide) ?_
        refine xput (i := 0) (j := 0) (k := 6) (T := TX5) tyX5 tyX5_ok nmX5 hx hb ht tb_iX5 hown hX hP hS rfl rfl rfl (by decide) tb_391 rfl rfl rfl (Nat.le_of_ble_eq_true rfl) dX5_match_89 (fun H locs hP hS => ?_)
        have hP : PD D A [bl_X5 cy A_q (A_a 0) q_heroes q_tried q_chosen q_heroCount q_couples_16 (-1), bl_X0 cy A_a a_name a_courage a_weight a_medals a_stood a_fled a_liked a_votes a_count a_living a_pride a_quota a_melted a_lost] H := hP
        refine lv_aload_n hx hb dX5_match_92 rfl (lv_at hl 0 rfl) ?_
        refine lv_iconst (v := 0) hx hb dX5_match_93 (by decide) ?_
        refine lv_iload_n hx hb dX5_match_94 rfl (lv_at hl 1 rfl) ?_
        refine lv_aload_n hx hb dX5_match_95 rfl (lv_at hl 0 rfl) ?_
        refine xget (i := 0) (j := 0) (k := 4) (T := TX5) hx hb ht tb_iX5 hown hX hP.1 rfl rfl rfl (by decide) tb_388 rfl dX5_match_96 ?_
        refine lv_aload_n hx hb dX5_match_99 rfl (lv_at hl 0 rfl) ?_
        refine xget (i := 0) (j := 0) (k := 5) (T := TX5) hx hb ht tb_iX5 hown hX hP.1 rfl rfl rfl (by decide) tb_389 rfl dX5_match_100 ?_
        refine lv_isub hx hb dX5_match_103 ?_
        refine lv_iconst (v := 0) hx hb dX5_match_104 (by decide) ?_
        obtain ⟨z_17, e_z_17, h⟩ := bi h
        refine efVv (rest := []) ⟨hx, hb, hml, hown, ht⟩ (c_X5_search l D cy fu 10 A_q q_heroes q_tried q_chosen q_heroCount q_couples_16 (-1) A_a a_name a_courage a_weight a_medals a_stood a_fled a_liked a_votes a_count a_living a_pride a_quota a_melted a_lost 0 x2 (q_heroCount - q_couples_16) 0 z_17 e_z_17 _ rfl _ rfl) (cV ht mv_X5_search tb_1080 rfl rfl ⟨Nat.le_of_ble_eq_true rfl, Nat.le_of_ble_eq_true rfl⟩) hP hS hX [0, 1] rfl rfl rfl rfl rfl rfl hl.1 rfl (Nat.le_of_ble_eq_true rfl) dX5_match_105 ⟨Nat.le_of_ble_eq_true rfl, Nat.le_of_ble_eq_true rfl⟩ (fun H locs hP hS => ?_)
        have hP : PD D A [bl_X5 cy A_q (A_a 0) q_heroes z_17.1 z_17.2.1 q_heroCount q_couples_16 z_17.2.2, bl_X0 cy A_a a_name a_courage a_weight a_medals a_stood a_fled a_liked a_votes a_count a_living a_pride a_quota a_melted a_lost] H := hP
        cases h
        subst hW1
        exact W.vret hx hb hr (fun _ ht9 _ => ⟨⟨(), rfl, trivial, hPt ht9 hP.1⟩, hS.F ht9⟩) hS.2.2 dX5_match_108
      · have h := ie c_14 h
        refine lv_aload_n hx hb dX5_match_27 rfl (lv_at hl 0 rfl) ?_
        refine xget (i := 0) (j := 0) (k := 3) (T := TX5) hx hb ht tb_iX5 hown hX hP.1 rfl rfl rfl (by decide) tb_387 rfl dX5_match_28 ?_
        refine lv_iload_n hx hb dX5_match_31 rfl (lv_at hl 2 rfl) ?_
        obtain ⟨z_18, e_z_18, h⟩ := bi h
        refine roVi (rest := []) ⟨hx, hb, hml, hown, ht⟩ (c_X0_lives l D cy fu A_a a_name a_courage a_weight a_medals a_stood a_fled a_liked a_votes a_count a_living a_pride a_quota a_melted a_lost x3 z_18 e_z_18) (cV ht mv_X0_lives tb_1077 rfl rfl ⟨Nat.le_of_ble_eq_true rfl, Nat.le_of_ble_eq_true rfl⟩) (P_sub hP.1 [1] rfl) hX rfl rfl rfl hl.1 rfl (Nat.le_of_ble_eq_true rfl) dX5_match_32 ⟨Nat.le_of_ble_eq_true rfl, Nat.le_of_ble_eq_true rfl⟩ ?_
        refine lv_if_eq (tgt := 66) hx hb dX5_match_35 (by decide) (fun c_19 => ?_) (fun c_19 => ?_)
        · have h := it c_19 h
          obtain ⟨x3_20, e_x3_20⟩ : ∃ y : Int32, y = x3 + 1 := ⟨_, rfl⟩
          have h := bn e_x3_20 h
          refine lv_iinc (v := x3_20) (lv' := [(3, .int x3_20), (0, .ref (A_q 0)), (2, .int x2)]) hx hb dX5_match_66 hl (k := 2) rfl (by rw [e_x3_20]; rfl) (by decide) rfl (fun ls hl => ?_)
          refine lv_goto (tgt := 16) hx hb dX5_match_69 (by decide) ?_
          exact ih16 q_heroes q_tried q_chosen q_heroCount q_couples q_fondest x2 x3_20 _ _ hP hS ls (lv_sub hl [1, 2, 0] rfl) h
        · have h := ie c_19 h
          refine lv_iload_n hx hb dX5_match_38 rfl (lv_at hl 1 rfl) ?_
          refine lv_iload_n hx hb dX5_match_39 rfl (lv_at hl 2 rfl) ?_
          refine lv_ishr hx hb dX5_match_40 ?_
          refine lv_iconst (v := 1) hx hb dX5_match_41 (by decide) ?_
          refine lv_iand hx hb dX5_match_42 ?_
          refine lv_if_ne (tgt := 66) hx hb dX5_match_43 (by decide) (fun c_21 => ?_) (fun c_21 => ?_)
          · have h := ie c_21 h
            obtain ⟨x3_22, e_x3_22⟩ : ∃ y : Int32, y = x3 + 1 := ⟨_, rfl⟩
            have h := bn e_x3_22 h
            refine lv_iinc (v := x3_22) (lv' := [(3, .int x3_22), (0, .ref (A_q 0)), (2, .int x2)]) hx hb dX5_match_66 hl (k := 2) rfl (by rw [e_x3_22]; rfl) (by decide) rfl (fun ls hl => ?_)
            refine lv_goto (tgt := 16) hx hb dX5_match_69 (by decide) ?_
            exact ih16 q_heroes q_tried q_chosen q_heroCount q_couples q_fondest x2 x3_22 _ _ hP hS ls (lv_sub hl [1, 2, 0] rfl) h
          · have h := it c_21 h
            refine lv_aload_n hx hb dX5_match_46 rfl (lv_at hl 0 rfl) ?_
            refine xget (i := 0) (j := 0) (k := 0) (T := TX5) hx hb ht tb_iX5 hown hX hP.1 rfl rfl rfl (by decide) tb_384 rfl dX5_match_47 ?_
            refine lv_aload_n hx hb dX5_match_50 rfl (lv_at hl 0 rfl) ?_
            refine xget (i := 0) (j := 0) (k := 4) (T := TX5) hx hb ht tb_iX5 hown hX hP.1 rfl rfl rfl (by decide) tb_388 rfl dX5_match_51 ?_
            refine lv_iload_n hx hb dX5_match_54 rfl (lv_at hl 2 rfl) ?_
            obtain ⟨q_heroes_23, e_q_heroes_23, h⟩ := bi h
            refine xiast (i0 := 0) (j0 := 1) hx hb hX hP hS rfl rfl e_q_heroes_23 dX5_match_55 (fun H locs hP hS => ?_)
            have hP : PD D A [bl_X5 cy A_q (A_a 0) q_heroes_23 q_tried q_chosen q_heroCount q_couples q_fondest, bl_X0 cy A_a a_name a_courage a_weight a_medals a_stood a_fled a_liked a_votes a_count a_living a_pride a_quota a_melted a_lost] H := hP
            refine lv_aload_n hx hb dX5_match_56 rfl (lv_at hl 0 rfl) ?_
            refine lv_dup hx hb dX5_match_57 rfl ?_
            refine xget (i := 0) (j := 0) (k := 4) (T := TX5) hx hb ht tb_iX5 hown hX hP.1 rfl rfl rfl (by decide) tb_388 rfl dX5_match_58 ?_
            refine lv_iconst (v := 1) hx hb dX5_match_61 (by decide) ?_
            refine lv_iadd hx hb dX5_match_62 ?_
            refine lv_topi (fun q_heroCount_24 e_q_heroCount_24 => ?_)
            have h := bn e_q_heroCount_24 h
            refine xput (i := 0) (j := 0) (k := 4) (T := TX5) tyX5 tyX5_ok nmX5 hx hb ht tb_iX5 hown hX hP hS rfl rfl rfl (by decide) tb_388 rfl rfl rfl (Nat.le_of_ble_eq_true rfl) dX5_match_63 (fun H locs hP hS => ?_)
            have hP : PD D A [bl_X5 cy A_q (A_a 0) q_heroes_23 q_tried q_chosen q_heroCount_24 q_couples q_fondest, bl_X0 cy A_a a_name a_courage a_weight a_medals a_stood a_fled a_liked a_votes a_count a_living a_pride a_quota a_melted a_lost] H := hP
            obtain ⟨x3_25, e_x3_25⟩ : ∃ y : Int32, y = x3 + 1 := ⟨_, rfl⟩
            have h := bn e_x3_25 h
            refine lv_iinc (v := x3_25) (lv' := [(3, .int x3_25), (0, .ref (A_q 0)), (2, .int x2)]) hx hb dX5_match_66 hl (k := 2) rfl (by rw [e_x3_25]; rfl) (by decide) rfl (fun ls hl => ?_)
            refine lv_goto (tgt := 16) hx hb dX5_match_69 (by decide) ?_
            exact ih16 q_heroes_23 q_tried q_chosen q_heroCount_24 q_couples q_fondest x2 x3_25 _ _ hP hS ls (lv_sub hl [1, 2, 0] rfl) h
  unfold f_X5_match at h
  refine lv_aload_n hx hb dX5_match_0 rfl (lv_at hl 0 rfl) ?_
  refine xget (i := 0) (j := 0) (k := 3) (T := TX5) hx hb ht tb_iX5 hown hX hP.1 rfl rfl rfl (by decide) tb_387 rfl dX5_match_1 ?_
  refine lv_iload_n hx hb dX5_match_4 rfl (lv_at hl 1 rfl) ?_
  obtain ⟨z_26, e_z_26, h⟩ := bi h
  refine roVi (rest := []) ⟨hx, hb, hml, hown, ht⟩ (c_X0_runners l D cy fu A_a a_name a_courage a_weight a_medals a_stood a_fled a_liked a_votes a_count a_living a_pride a_quota a_melted a_lost x1 z_26 e_z_26) (cV ht mv_X0_runners tb_1076 rfl rfl ⟨Nat.le_of_ble_eq_true rfl, Nat.le_of_ble_eq_true rfl⟩) (P_sub hP.1 [1] rfl) hX rfl rfl rfl hl.1 rfl (Nat.le_of_ble_eq_true rfl) dX5_match_5 ⟨Nat.le_of_ble_eq_true rfl, Nat.le_of_ble_eq_true rfl⟩ ?_
  refine lv_istore_n (lv' := [(2, .int z_26), (0, .ref (A_q 0)), (1, .int x1)]) hx hb dX5_match_8 rfl hl (by decide) rfl (fun ls hl => ?_)
  refine lv_aload_n hx hb dX5_match_9 rfl (lv_at hl 1 rfl) ?_
  refine lv_iconst (v := 0) hx hb dX5_match_10 (by decide) ?_
  refine xput (i := 0) (j := 0) (k := 4) (T := TX5) tyX5 tyX5_ok nmX5 hx hb ht tb_iX5 hown hX hP hS rfl rfl rfl (by decide) tb_388 rfl rfl rfl (Nat.le_of_ble_eq_true rfl) dX5_match_11 (fun H locs hP hS => ?_)
  have hP : PD D A [bl_X5 cy A_q (A_a 0) q_heroes q_tried q_chosen 0 q_couples q_fondest, bl_X0 cy A_a a_name a_courage a_weight a_medals a_stood a_fled a_liked a_votes a_count a_living a_pride a_quota a_melted a_lost] H := hP
  refine lv_iconst (v := 0) hx hb dX5_match_14 (by decide) ?_
  refine lv_istore_n (lv' := [(3, .int 0), (2, .int z_26), (0, .ref (A_q 0)), (1, .int x1)]) hx hb dX5_match_15 rfl hl (by decide) rfl (fun ls hl => ?_)
  exact l16 fu q_heroes q_tried q_chosen 0 q_couples q_fondest z_26 0 _ _ hP hS ls (lv_sub hl [2, 1, 0] rfl) h
theorem dX11_couples_0 : decode cX11_couples 0 = .ok (.iload_n 1, 1) := by decide +kernel
theorem dX11_couples_1 : decode cX11_couples 1 = .ok (.invokestatic 294, 3) := by decide +kernel
theorem dX11_couples_4 : decode cX11_couples 4 = .ok (.ifCond .ne 9, 3) := by decide +kernel
theorem dX11_couples_7 : decode cX11_couples 7 = .ok (.aload_n 0, 1) := by decide +kernel
theorem dX11_couples_8 : decode cX11_couples 8 = .ok (.iconst 1, 1) := by decide +kernel
theorem dX11_couples_9 : decode cX11_couples 9 = .ok (.invokevirtual 143, 3) := by decide +kernel
theorem dX11_couples_12 : decode cX11_couples 12 = .ok (.ireturn, 1) := by decide +kernel
theorem dX11_couples_13 : decode cX11_couples 13 = .ok (.aload_n 0, 1) := by decide +kernel
theorem dX11_couples_14 : decode cX11_couples 14 = .ok (.getfield 106, 3) := by decide +kernel
theorem dX11_couples_17 : decode cX11_couples 17 = .ok (.iload_n 1, 1) := by decide +kernel
theorem dX11_couples_18 : decode cX11_couples 18 = .ok (.invokevirtual 367, 3) := by decide +kernel
theorem dX11_couples_21 : decode cX11_couples 21 = .ok (.aload_n 0, 1) := by decide +kernel
theorem dX11_couples_22 : decode cX11_couples 22 = .ok (.aload_n 0, 1) := by decide +kernel
theorem dX11_couples_23 : decode cX11_couples 23 = .ok (.getfield 106, 3) := by decide +kernel
theorem dX11_couples_26 : decode cX11_couples 26 = .ok (.getfield 370, 3) := by decide +kernel
theorem dX11_couples_29 : decode cX11_couples 29 = .ok (.invokevirtual 193, 3) := by decide +kernel
theorem dX11_couples_32 : decode cX11_couples 32 = .ok (.ireturn, 1) := by decide +kernel
theorem mv_X11_couples : MV yX11_couples RX11 cX11_couples 2 (some .int) 1 := ⟨tb_1071, tb_1069, tb_1070, tb_1, by decide +kernel, by decide +kernel, by decide +kernel⟩
def f_X11_couples (fu : Nat) (b_latestStatus : Int32) (a_courage : Nat → Int32) (a_medals : Nat → Int32) (a_liked : Nat → Int32) (a_count : Int32) (a_living : Int32) (a_pride : Int32) (q_heroes : Nat → Int32) (q_tried : Nat → Int32) (q_chosen : Nat → Int32) (q_heroCount : Int32) (q_couples : Int32) (q_fondest : Int32) (x1 : Int32) : Option (Int32 × Int32 × (Nat → Int32) × (Nat → Int32) × (Nat → Int32) × Int32 × Int32 × Int32) := (f_X11_isSize fu x1).bind fun z_6 => (if z_6 = 0 then (f_X11_refuse fu b_latestStatus 1).bind fun z_10 => some (z_10.1, z_10.2, q_heroes, q_tried, q_chosen, q_heroCount, q_couples, q_fondest) else (f_X5_match fu q_heroes q_tried q_chosen q_heroCount q_couples q_fondest a_courage a_medals a_liked a_count a_living a_pride x1).bind fun z_8 => (f_X11_answer fu b_latestStatus z_8.2.2.2.2.1).bind fun z_9 => some (z_9.1, z_9.2, z_8.1, z_8.2.1, z_8.2.2.1, z_8.2.2.2.1, z_8.2.2.2.2.1, z_8.2.2.2.2.2))
abbrev rm_X11_couples : Room := { frames := 22, cells := 0, slots := 0, locals := 649 }
set_option maxHeartbeats 4000000 in
set_option maxRecDepth 100000 in
theorem c_X11_couples (l : Launch) (D : va_G) (cy : Nat → ClassId) (fu : Nat) (A_b : Nat → Nat) (r_b_trays : Nat) (r_b_war : Nat) (r_b_draftArmy : Nat) (r_b_draftWar : Nat) (r_b_reader : Nat) (r_b_armyReader : Nat) (r_b_warReader : Nat) (r_b_markedArmies : Nat) (r_b_markedWars : Nat) (r_b_latest : Nat) (r_b_trial : Nat) (r_b_foresight : Nat) (b_latestStatus : Int32) (b_fractionTop : Int64) (b_fractionBottom : Int64) (b_marks : Int32) (A_a : Nat → Nat) (a_name : Nat → Int64) (a_courage : Nat → Int32) (a_weight : Nat → Int32) (a_medals : Nat → Int32) (a_stood : Nat → Int32) (a_fled : Nat → Int32) (a_liked : Nat → Int32) (a_votes : Nat → Int32) (a_count : Int32) (a_living : Int32) (a_pride : Int32) (a_quota : Int32) (a_melted : Int32) (a_lost : Int32) (A_q : Nat → Nat) (q_heroes : Nat → Int32) (q_tried : Nat → Int32) (q_chosen : Nat → Int32) (q_heroCount : Int32) (q_couples : Int32) (q_fondest : Int32) (x1 : Int32) (res : Int32 × Int32 × (Nat → Int32) × (Nat → Int32) × (Nat → Int32) × Int32 × Int32 × Int32) (h : f_X11_couples fu b_latestStatus a_courage a_medals a_liked a_count a_living a_pride q_heroes q_tried q_chosen q_heroCount q_couples q_fondest x1 = some res) (A : Nat → Prop) (hA : A = adr [bl_X11 cy A_b r_b_trays (A_a 0) r_b_war r_b_draftArmy r_b_draftWar r_b_reader r_b_armyReader r_b_warReader r_b_markedArmies r_b_markedWars r_b_latest r_b_trial r_b_foresight (A_q 0) b_latestStatus b_fractionTop b_fractionBottom b_marks, bl_X0 cy A_a a_name a_courage a_weight a_medals a_stood a_fled a_liked a_votes a_count a_living a_pride a_quota a_melted a_lost, bl_X5 cy A_q (A_a 0) q_heroes q_tried q_chosen q_heroCount q_couples q_fondest]) (W1 : List va_W) (hW1 : W1 = [bl_X11 cy A_b r_b_trays (A_a 0) r_b_war r_b_draftArmy r_b_draftWar r_b_reader r_b_armyReader r_b_warReader r_b_markedArmies r_b_markedWars r_b_latest r_b_trial r_b_foresight (A_q 0) res.2.1 b_fractionTop b_fractionBottom b_marks, bl_X0 cy A_a a_name a_courage a_weight a_medals a_stood a_fled a_liked a_votes a_count a_living a_pride a_quota a_melted a_lost, bl_X5 cy A_q (A_a 0) res.2.2.1 res.2.2.2.1 res.2.2.2.2.1 res.2.2.2.2.2.1 res.2.2.2.2.2.2.1 res.2.2.2.2.2.2.2]) : Met l yX11_couples (WW yX11_couples cX11_couples 2 (some .int)) rm_X11_couples (Ed D cy [.ref (A_b 0), .int x1] [bl_X11 cy A_b r_b_trays (A_a 0) r_b_war r_b_draftArmy r_b_draftWar r_b_reader r_b_armyReader r_b_warReader r_b_markedArmies r_b_markedWars r_b_latest r_b_trial r_b_foresight (A_q 0) b_latestStatus b_fractionTop b_fractionBottom b_marks, bl_X0 cy A_a a_name a_courage a_weight a_medals a_stood a_fled a_liked a_votes a_count a_living a_pride a_quota a_melted a_lost, bl_X5 cy A_q (A_a 0) q_heroes q_tried q_chosen q_heroCount q_couples q_fondest]) (Qei D res.1 A W1) 0 0 A := by
  refine Met.ofW (cc := cX11_couples) (maxL := 2) (ret := (some .int)) (by decide) rfl ?_
  intro p e s m args below meth c s₁ B hml hv
  obtain ⟨hargs, hP, hX, hD0⟩ := hv
  have hx := B.exec
  have hb := B.bytes
  have hr := B.returns
  have ht : ∀ w ∈ lw_gd, w.before args s = true := fun w hw => atoms_spec (ws := WW yX11_couples cX11_couples 2 (some .int)) B.pre w (List.mem_cons_of_mem _ hw)
  have hown : s.vm.findClass RX11 = some m.cls := findClass_of_methodNamed B.named
  have hlocks := B.notSynchronized
  have hP : PD D A [bl_X11 cy A_b r_b_trays (A_a 0) r_b_war r_b_draftArmy r_b_draftWar r_b_reader r_b_armyReader r_b_warReader r_b_markedArmies r_b_markedWars r_b_latest r_b_trial r_b_foresight (A_q 0) b_latestStatus b_fractionTop b_fractionBottom b_marks, bl_X0 cy A_a a_name a_courage a_weight a_medals a_stood a_fled a_liked a_votes a_count a_living a_pride a_quota a_melted a_lost, bl_X5 cy A_q (A_a 0) q_heroes q_tried q_chosen q_heroCount q_couples q_fondest] s.heap := ⟨hP, by rw [hA]; exact hD0.own⟩
  have hS : va_S A s.heap s.heap [] := va_S.rf
  obtain ⟨ls, hl, hent⟩ := ent (m := m) (n := 2) hargs (Nat.le_of_ble_eq_true rfl) (lv := [(0, .ref (A_b 0)), (1, .int x1)]) rfl
  rw [hent]
  clear hent
  unfold f_X11_couples at h
  refine lv_iload_n hx hb dX11_couples_0 rfl (lv_at hl 1 rfl) ?_
  obtain ⟨z_6, e_z_6, h⟩ := bi h
  refine roSi (rest := []) ⟨hx, hb, hml, hown, ht⟩ (c_X11_isSize l D cy fu  x1 z_6 e_z_6) (cS ht ms_X11_isSize tb_803 rfl rfl ⟨Nat.le_of_ble_eq_true rfl, Nat.le_of_ble_eq_true rfl⟩) (P_sub hP.1 [] rfl) hX rfl hl.1 rfl (Nat.le_of_ble_eq_true rfl) dX11_couples_1 ⟨Nat.le_of_ble_eq_true rfl, Nat.le_of_ble_eq_true rfl⟩ ?_
  refine lv_if_ne (tgt := 13) hx hb dX11_couples_4 (by decide) (fun c_7 => ?_) (fun c_7 => ?_)
  · have h := ie c_7 h
    refine lv_aload_n hx hb dX11_couples_13 rfl (lv_at hl 0 rfl) ?_
    refine xget (i := 0) (j := 0) (k := 17) (T := TX11) hx hb ht tb_iX11 hown hX hP.1 rfl rfl rfl (by decide) tb_446 rfl dX11_couples_14 ?_
    refine lv_iload_n hx hb dX11_couples_17 rfl (lv_at hl 1 rfl) ?_
    obtain ⟨z_8, e_z_8, h⟩ := bi h
    refine efVv (rest := []) ⟨hx, hb, hml, hown, ht⟩ (c_X5_match l D cy fu A_q q_heroes q_tried q_chosen q_heroCount q_couples q_fondest A_a a_name a_courage a_weight a_medals a_stood a_fled a_liked a_votes a_count a_living a_pride a_quota a_melted a_lost x1 z_8 e_z_8 _ rfl _ rfl) (cV ht mv_X5_match tb_1072 rfl rfl ⟨Nat.le_of_ble_eq_true rfl, Nat.le_of_ble_eq_true rfl⟩) hP hS hX [2, 1] rfl rfl rfl rfl rfl rfl hl.1 rfl (Nat.le_of_ble_eq_true rfl) dX11_couples_18 ⟨Nat.le_of_ble_eq_true rfl, Nat.le_of_ble_eq_true rfl⟩ (fun H locs hP hS => ?_)
    have hP : PD D A [bl_X11 cy A_b r_b_trays (A_a 0) r_b_war r_b_draftArmy r_b_draftWar r_b_reader r_b_armyReader r_b_warReader r_b_markedArmies r_b_markedWars r_b_latest r_b_trial r_b_foresight (A_q 0) b_latestStatus b_fractionTop b_fractionBottom b_marks, bl_X0 cy A_a a_name a_courage a_weight a_medals a_stood a_fled a_liked a_votes a_count a_living a_pride a_quota a_melted a_lost, bl_X5 cy A_q (A_a 0) z_8.1 z_8.2.1 z_8.2.2.1 z_8.2.2.2.1 z_8.2.2.2.2.1 z_8.2.2.2.2.2] H := hP
    refine lv_aload_n hx hb dX11_couples_21 rfl (lv_at hl 0 rfl) ?_
    refine lv_aload_n hx hb dX11_couples_22 rfl (lv_at hl 0 rfl) ?_
    refine xget (i := 0) (j := 0) (k := 17) (T := TX11) hx hb ht tb_iX11 hown hX hP.1 rfl rfl rfl (by decide) tb_446 rfl dX11_couples_23 ?_
    refine xget (i := 2) (j := 0) (k := 5) (T := TX5) hx hb ht tb_iX5 hown hX hP.1 rfl rfl rfl (by decide) tb_390 rfl dX11_couples_26 ?_
    obtain ⟨z_9, e_z_9, h⟩ := bi h
    refine efVi (rest := []) ⟨hx, hb, hml, hown, ht⟩ (c_X11_answer l D cy fu A_b r_b_trays (A_a 0) r_b_war r_b_draftArmy r_b_draftWar r_b_reader r_b_armyReader r_b_warReader r_b_markedArmies r_b_markedWars r_b_latest r_b_trial r_b_foresight (A_q 0) b_latestStatus b_fractionTop b_fractionBottom b_marks z_8.2.2.2.2.1 z_9 e_z_9 _ rfl _ rfl) (cV ht mv_X11_answer tb_696 rfl rfl ⟨Nat.le_of_ble_eq_true rfl, Nat.le_of_ble_eq_true rfl⟩) hP hS hX [0] rfl rfl rfl rfl rfl rfl hl.1 rfl (Nat.le_of_ble_eq_true rfl) dX11_couples_29 ⟨Nat.le_of_ble_eq_true rfl, Nat.le_of_ble_eq_true rfl⟩ (fun H locs hP hS => ?_)
    have hP : PD D A [bl_X11 cy A_b r_b_trays (A_a 0) r_b_war r_b_draftArmy r_b_draftWar r_b_reader r_b_armyReader r_b_warReader r_b_markedArmies r_b_markedWars r_b_latest r_b_trial r_b_foresight (A_q 0) z_9.2 b_fractionTop b_fractionBottom b_marks, bl_X0 cy A_a a_name a_courage a_weight a_medals a_stood a_fled a_liked a_votes a_count a_living a_pride a_quota a_melted a_lost, bl_X5 cy A_q (A_a 0) z_8.1 z_8.2.1 z_8.2.2.1 z_8.2.2.2.1 z_8.2.2.2.2.1 z_8.2.2.2.2.2] H := hP
    cases h
    subst hW1
    exact W.iret hx hb hr (fun _ ht9 _ => ⟨⟨_, (), rfl, rfl, hPt ht9 hP.1⟩, hS.F ht9⟩) hS.2.2 dX11_couples_32
  · have h := it c_7 h
    refine lv_aload_n hx hb dX11_couples_7 rfl (lv_at hl 0 rfl) ?_
    refine lv_iconst (v := 1) hx hb dX11_couples_8 (by decide) ?_
    obtain ⟨z_10, e_z_10, h⟩ := bi h
    refine efVi (rest := []) ⟨hx, hb, hml, hown, ht⟩ (c_X11_refuse l D cy fu A_b r_b_trays (A_a 0) r_b_war r_b_draftArmy r_b_draftWar r_b_reader r_b_armyReader r_b_warReader r_b_markedArmies r_b_markedWars r_b_latest r_b_trial r_b_foresight (A_q 0) b_latestStatus b_fractionTop b_fractionBottom b_marks 1 z_10 e_z_10 _ rfl _ rfl) (cV ht mv_X11_refuse tb_543 rfl rfl ⟨Nat.le_of_ble_eq_true rfl, Nat.le_of_ble_eq_true rfl⟩) hP hS hX [0] rfl rfl rfl rfl rfl rfl hl.1 rfl (Nat.le_of_ble_eq_true rfl) dX11_couples_9 ⟨Nat.le_of_ble_eq_true rfl, Nat.le_of_ble_eq_true rfl⟩ (fun H locs hP hS => ?_)
    have hP : PD D A [bl_X11 cy A_b r_b_trays (A_a 0) r_b_war r_b_draftArmy r_b_draftWar r_b_reader r_b_armyReader r_b_warReader r_b_markedArmies r_b_markedWars r_b_latest r_b_trial r_b_foresight (A_q 0) z_10.2 b_fractionTop b_fractionBottom b_marks, bl_X0 cy A_a a_name a_courage a_weight a_medals a_stood a_fled a_liked a_votes a_count a_living a_pride a_quota a_melted a_lost, bl_X5 cy A_q (A_a 0) q_heroes q_tried q_chosen q_heroCount q_couples q_fondest] H := hP
    cases h
    subst hW1
    exact W.iret hx hb hr (fun _ ht9 _ => ⟨⟨_, (), rfl, rfl, hPt ht9 hP.1⟩, hS.F ht9⟩) hS.2.2 dX11_couples_12
theorem dX11_fondness_0 : decode cX11_fondness 0 = .ok (.iload_n 1, 1) := by decide +kernel
theorem dX11_fondness_1 : decode cX11_fondness 1 = .ok (.invokestatic 294, 3) := by decide +kernel
theorem dX11_fondness_4 : decode cX11_fondness 4 = .ok (.ifCond .ne 9, 3) := by decide +kernel
theorem dX11_fondness_7 : decode cX11_fondness 7 = .ok (.aload_n 0, 1) := by decide +kernel
theorem dX11_fondness_8 : decode cX11_fondness 8 = .ok (.iconst 1, 1) := by decide +kernel
theorem dX11_fondness_9 : decode cX11_fondness 9 = .ok (.invokevirtual 143, 3) := by decide +kernel
theorem dX11_fondness_12 : decode cX11_fondness 12 = .ok (.ireturn, 1) := by decide +kernel
theorem dX11_fondness_13 : decode cX11_fondness 13 = .ok (.aload_n 0, 1) := by decide +kernel
theorem dX11_fondness_14 : decode cX11_fondness 14 = .ok (.getfield 106, 3) := by decide +kernel
theorem dX11_fondness_17 : decode cX11_fondness 17 = .ok (.iload_n 1, 1) := by decide +kernel
theorem dX11_fondness_18 : decode cX11_fondness 18 = .ok (.invokevirtual 367, 3) := by decide +kernel
theorem dX11_fondness_21 : decode cX11_fondness 21 = .ok (.aload_n 0, 1) := by decide +kernel
theorem dX11_fondness_22 : decode cX11_fondness 22 = .ok (.aload_n 0, 1) := by decide +kernel
theorem dX11_fondness_23 : decode cX11_fondness 23 = .ok (.getfield 106, 3) := by decide +kernel
theorem dX11_fondness_26 : decode cX11_fondness 26 = .ok (.getfield 373, 3) := by decide +kernel
theorem dX11_fondness_29 : decode cX11_fondness 29 = .ok (.invokevirtual 193, 3) := by decide +kernel
theorem dX11_fondness_32 : decode cX11_fondness 32 = .ok (.ireturn, 1) := by decide +kernel
theorem mv_X11_fondness : MV yX11_fondness RX11 cX11_fondness 2 (some .int) 1 := ⟨tb_1089, tb_1087, tb_1088, tb_1, by decide +kernel, by decide +kernel, by decide +kernel⟩
def f_X11_fondness (fu : Nat) (b_latestStatus : Int32) (a_courage : Nat → Int32) (a_medals : Nat → Int32) (a_liked : Nat → Int32) (a_count : Int32) (a_living : Int32) (a_pride : Int32) (q_heroes : Nat → Int32) (q_tried : Nat → Int32) (q_chosen : Nat → Int32) (q_heroCount : Int32) (q_couples : Int32) (q_fondest : Int32) (x1 : Int32) : Option (Int32 × Int32 × (Nat → Int32) × (Nat → Int32) × (Nat → Int32) × Int32 × Int32 × Int32) := (f_X11_isSize fu x1).bind fun z_6 => (if z_6 = 0 then (f_X11_refuse fu b_latestStatus 1).bind fun z_10 => some (z_10.1, z_10.2, q_heroes, q_tried, q_chosen, q_heroCount, q_couples, q_fondest) else (f_X5_match fu q_heroes q_tried q_chosen q_heroCount q_couples q_fondest a_courage a_medals a_liked a_count a_living a_pride x1).bind fun z_8 => (f_X11_answer fu b_latestStatus z_8.2.2.2.2.2).bind fun z_9 => some (z_9.1, z_9.2, z_8.1, z_8.2.1, z_8.2.2.1, z_8.2.2.2.1, z_8.2.2.2.2.1, z_8.2.2.2.2.2))
abbrev rm_X11_fondness : Room := { frames := 22, cells := 0, slots := 0, locals := 649 }
set_option maxHeartbeats 4000000 in
set_option maxRecDepth 100000 in
theorem c_X11_fondness (l : Launch) (D : va_G) (cy : Nat → ClassId) (fu : Nat) (A_b : Nat → Nat) (r_b_trays : Nat) (r_b_war : Nat) (r_b_draftArmy : Nat) (r_b_draftWar : Nat) (r_b_reader : Nat) (r_b_armyReader : Nat) (r_b_warReader : Nat) (r_b_markedArmies : Nat) (r_b_markedWars : Nat) (r_b_latest : Nat) (r_b_trial : Nat) (r_b_foresight : Nat) (b_latestStatus : Int32) (b_fractionTop : Int64) (b_fractionBottom : Int64) (b_marks : Int32) (A_a : Nat → Nat) (a_name : Nat → Int64) (a_courage : Nat → Int32) (a_weight : Nat → Int32) (a_medals : Nat → Int32) (a_stood : Nat → Int32) (a_fled : Nat → Int32) (a_liked : Nat → Int32) (a_votes : Nat → Int32) (a_count : Int32) (a_living : Int32) (a_pride : Int32) (a_quota : Int32) (a_melted : Int32) (a_lost : Int32) (A_q : Nat → Nat) (q_heroes : Nat → Int32) (q_tried : Nat → Int32) (q_chosen : Nat → Int32) (q_heroCount : Int32) (q_couples : Int32) (q_fondest : Int32) (x1 : Int32) (res : Int32 × Int32 × (Nat → Int32) × (Nat → Int32) × (Nat → Int32) × Int32 × Int32 × Int32) (h : f_X11_fondness fu b_latestStatus a_courage a_medals a_liked a_count a_living a_pride q_heroes q_tried q_chosen q_heroCount q_couples q_fondest x1 = some res) (A : Nat → Prop) (hA : A = adr [bl_X11 cy A_b r_b_trays (A_a 0) r_b_war r_b_draftArmy r_b_draftWar r_b_reader r_b_armyReader r_b_warReader r_b_markedArmies r_b_markedWars r_b_latest r_b_trial r_b_foresight (A_q 0) b_latestStatus b_fractionTop b_fractionBottom b_marks, bl_X0 cy A_a a_name a_courage a_weight a_medals a_stood a_fled a_liked a_votes a_count a_living a_pride a_quota a_melted a_lost, bl_X5 cy A_q (A_a 0) q_heroes q_tried q_chosen q_heroCount q_couples q_fondest]) (W1 : List va_W) (hW1 : W1 = [bl_X11 cy A_b r_b_trays (A_a 0) r_b_war r_b_draftArmy r_b_draftWar r_b_reader r_b_armyReader r_b_warReader r_b_markedArmies r_b_markedWars r_b_latest r_b_trial r_b_foresight (A_q 0) res.2.1 b_fractionTop b_fractionBottom b_marks, bl_X0 cy A_a a_name a_courage a_weight a_medals a_stood a_fled a_liked a_votes a_count a_living a_pride a_quota a_melted a_lost, bl_X5 cy A_q (A_a 0) res.2.2.1 res.2.2.2.1 res.2.2.2.2.1 res.2.2.2.2.2.1 res.2.2.2.2.2.2.1 res.2.2.2.2.2.2.2]) : Met l yX11_fondness (WW yX11_fondness cX11_fondness 2 (some .int)) rm_X11_fondness (Ed D cy [.ref (A_b 0), .int x1] [bl_X11 cy A_b r_b_trays (A_a 0) r_b_war r_b_draftArmy r_b_draftWar r_b_reader r_b_armyReader r_b_warReader r_b_markedArmies r_b_markedWars r_b_latest r_b_trial r_b_foresight (A_q 0) b_latestStatus b_fractionTop b_fractionBottom b_marks, bl_X0 cy A_a a_name a_courage a_weight a_medals a_stood a_fled a_liked a_votes a_count a_living a_pride a_quota a_melted a_lost, bl_X5 cy A_q (A_a 0) q_heroes q_tried q_chosen q_heroCount q_couples q_fondest]) (Qei D res.1 A W1) 0 0 A := by
  refine Met.ofW (cc := cX11_fondness) (maxL := 2) (ret := (some .int)) (by decide) rfl ?_
  intro p e s m args below meth c s₁ B hml hv
  obtain ⟨hargs, hP, hX, hD0⟩ := hv
  have hx := B.exec
  have hb := B.bytes
  have hr := B.returns
  have ht : ∀ w ∈ lw_gd, w.before args s = true := fun w hw => atoms_spec (ws := WW yX11_fondness cX11_fondness 2 (some .int)) B.pre w (List.mem_cons_of_mem _ hw)
  have hown : s.vm.findClass RX11 = some m.cls := findClass_of_methodNamed B.named
  have hlocks := B.notSynchronized
  have hP : PD D A [bl_X11 cy A_b r_b_trays (A_a 0) r_b_war r_b_draftArmy r_b_draftWar r_b_reader r_b_armyReader r_b_warReader r_b_markedArmies r_b_markedWars r_b_latest r_b_trial r_b_foresight (A_q 0) b_latestStatus b_fractionTop b_fractionBottom b_marks, bl_X0 cy A_a a_name a_courage a_weight a_medals a_stood a_fled a_liked a_votes a_count a_living a_pride a_quota a_melted a_lost, bl_X5 cy A_q (A_a 0) q_heroes q_tried q_chosen q_heroCount q_couples q_fondest] s.heap := ⟨hP, by rw [hA]; exact hD0.own⟩
  have hS : va_S A s.heap s.heap [] := va_S.rf
  obtain ⟨ls, hl, hent⟩ := ent (m := m) (n := 2) hargs (Nat.le_of_ble_eq_true rfl) (lv := [(0, .ref (A_b 0)), (1, .int x1)]) rfl
  rw [hent]
  clear hent
  unfold f_X11_fondness at h
  refine lv_iload_n hx hb dX11_fondness_0 rfl (lv_at hl 1 rfl) ?_
  obtain ⟨z_6, e_z_6, h⟩ := bi h
  refine roSi (rest := []) ⟨hx, hb, hml, hown, ht⟩ (c_X11_isSize l D cy fu  x1 z_6 e_z_6) (cS ht ms_X11_isSize tb_803 rfl rfl ⟨Nat.le_of_ble_eq_true rfl, Nat.le_of_ble_eq_true rfl⟩) (P_sub hP.1 [] rfl) hX rfl hl.1 rfl (Nat.le_of_ble_eq_true rfl) dX11_fondness_1 ⟨Nat.le_of_ble_eq_true rfl, Nat.le_of_ble_eq_true rfl⟩ ?_
  refine lv_if_ne (tgt := 13) hx hb dX11_fondness_4 (by decide) (fun c_7 => ?_) (fun c_7 => ?_)
  · have h := ie c_7 h
    refine lv_aload_n hx hb dX11_fondness_13 rfl (lv_at hl 0 rfl) ?_
    refine xget (i := 0) (j := 0) (k := 17) (T := TX11) hx hb ht tb_iX11 hown hX hP.1 rfl rfl rfl (by decide) tb_446 rfl dX11_fondness_14 ?_
    refine lv_iload_n hx hb dX11_fondness_17 rfl (lv_at hl 1 rfl) ?_
    obtain ⟨z_8, e_z_8, h⟩ := bi h
    refine efVv (rest := []) ⟨hx, hb, hml, hown, ht⟩ (c_X5_match l D cy fu A_q q_heroes q_tried q_chosen q_heroCount q_couples q_fondest A_a a_name a_courage a_weight a_medals a_stood a_fled a_liked a_votes a_count a_living a_pride a_quota a_melted a_lost x1 z_8 e_z_8 _ rfl _ rfl) (cV ht mv_X5_match tb_1072 rfl rfl ⟨Nat.le_of_ble_eq_true rfl, Nat.le_of_ble_eq_true rfl⟩) hP hS hX [2, 1] rfl rfl rfl rfl rfl rfl hl.1 rfl (Nat.le_of_ble_eq_true rfl) dX11_fondness_18 ⟨Nat.le_of_ble_eq_true rfl, Nat.le_of_ble_eq_true rfl⟩ (fun H locs hP hS => ?_)
    have hP : PD D A [bl_X11 cy A_b r_b_trays (A_a 0) r_b_war r_b_draftArmy r_b_draftWar r_b_reader r_b_armyReader r_b_warReader r_b_markedArmies r_b_markedWars r_b_latest r_b_trial r_b_foresight (A_q 0) b_latestStatus b_fractionTop b_fractionBottom b_marks, bl_X0 cy A_a a_name a_courage a_weight a_medals a_stood a_fled a_liked a_votes a_count a_living a_pride a_quota a_melted a_lost, bl_X5 cy A_q (A_a 0) z_8.1 z_8.2.1 z_8.2.2.1 z_8.2.2.2.1 z_8.2.2.2.2.1 z_8.2.2.2.2.2] H := hP
    refine lv_aload_n hx hb dX11_fondness_21 rfl (lv_at hl 0 rfl) ?_
    refine lv_aload_n hx hb dX11_fondness_22 rfl (lv_at hl 0 rfl) ?_
    refine xget (i := 0) (j := 0) (k := 17) (T := TX11) hx hb ht tb_iX11 hown hX hP.1 rfl rfl rfl (by decide) tb_446 rfl dX11_fondness_23 ?_
    refine xget (i := 2) (j := 0) (k := 6) (T := TX5) hx hb ht tb_iX5 hown hX hP.1 rfl rfl rfl (by decide) tb_392 rfl dX11_fondness_26 ?_
    obtain ⟨z_9, e_z_9, h⟩ := bi h
    refine efVi (rest := []) ⟨hx, hb, hml, hown, ht⟩ (c_X11_answer l D cy fu A_b r_b_trays (A_a 0) r_b_war r_b_draftArmy r_b_draftWar r_b_reader r_b_armyReader r_b_warReader r_b_markedArmies r_b_markedWars r_b_latest r_b_trial r_b_foresight (A_q 0) b_latestStatus b_fractionTop b_fractionBottom b_marks z_8.2.2.2.2.2 z_9 e_z_9 _ rfl _ rfl) (cV ht mv_X11_answer tb_696 rfl rfl ⟨Nat.le_of_ble_eq_true rfl, Nat.le_of_ble_eq_true rfl⟩) hP hS hX [0] rfl rfl rfl rfl rfl rfl hl.1 rfl (Nat.le_of_ble_eq_true rfl) dX11_fondness_29 ⟨Nat.le_of_ble_eq_true rfl, Nat.le_of_ble_eq_true rfl⟩ (fun H locs hP hS => ?_)
    have hP : PD D A [bl_X11 cy A_b r_b_trays (A_a 0) r_b_war r_b_draftArmy r_b_draftWar r_b_reader r_b_armyReader r_b_warReader r_b_markedArmies r_b_markedWars r_b_latest r_b_trial r_b_foresight (A_q 0) z_9.2 b_fractionTop b_fractionBottom b_marks, bl_X0 cy A_a a_name a_courage a_weight a_medals a_stood a_fled a_liked a_votes a_count a_living a_pride a_quota a_melted a_lost, bl_X5 cy A_q (A_a 0) z_8.1 z_8.2.1 z_8.2.2.1 z_8.2.2.2.1 z_8.2.2.2.2.1 z_8.2.2.2.2.2] H := hP
    cases h
    subst hW1
    exact W.iret hx hb hr (fun _ ht9 _ => ⟨⟨_, (), rfl, rfl, hPt ht9 hP.1⟩, hS.F ht9⟩) hS.2.2 dX11_fondness_32
  · have h := it c_7 h
    refine lv_aload_n hx hb dX11_fondness_7 rfl (lv_at hl 0 rfl) ?_
    refine lv_iconst (v := 1) hx hb dX11_fondness_8 (by decide) ?_
    obtain ⟨z_10, e_z_10, h⟩ := bi h
    refine efVi (rest := []) ⟨hx, hb, hml, hown, ht⟩ (c_X11_refuse l D cy fu A_b r_b_trays (A_a 0) r_b_war r_b_draftArmy r_b_draftWar r_b_reader r_b_armyReader r_b_warReader r_b_markedArmies r_b_markedWars r_b_latest r_b_trial r_b_foresight (A_q 0) b_latestStatus b_fractionTop b_fractionBottom b_marks 1 z_10 e_z_10 _ rfl _ rfl) (cV ht mv_X11_refuse tb_543 rfl rfl ⟨Nat.le_of_ble_eq_true rfl, Nat.le_of_ble_eq_true rfl⟩) hP hS hX [0] rfl rfl rfl rfl rfl rfl hl.1 rfl (Nat.le_of_ble_eq_true rfl) dX11_fondness_9 ⟨Nat.le_of_ble_eq_true rfl, Nat.le_of_ble_eq_true rfl⟩ (fun H locs hP hS => ?_)
    have hP : PD D A [bl_X11 cy A_b r_b_trays (A_a 0) r_b_war r_b_draftArmy r_b_draftWar r_b_reader r_b_armyReader r_b_warReader r_b_markedArmies r_b_markedWars r_b_latest r_b_trial r_b_foresight (A_q 0) z_10.2 b_fractionTop b_fractionBottom b_marks, bl_X0 cy A_a a_name a_courage a_weight a_medals a_stood a_fled a_liked a_votes a_count a_living a_pride a_quota a_melted a_lost, bl_X5 cy A_q (A_a 0) q_heroes q_tried q_chosen q_heroCount q_couples q_fondest] H := hP
    cases h
    subst hW1
    exact W.iret hx hb hr (fun _ ht9 _ => ⟨⟨_, (), rfl, rfl, hPt ht9 hP.1⟩, hS.F ht9⟩) hS.2.2 dX11_fondness_12
theorem dX5_partnerOf_0 : decode cX5_partnerOf 0 = .ok (.iconst 0, 1) := by decide +kernel
theorem dX5_partnerOf_1 : decode cX5_partnerOf 1 = .ok (.istore_n 2, 1) := by decide +kernel
theorem dX5_partnerOf_2 : decode cX5_partnerOf 2 = .ok (.iload_n 2, 1) := by decide +kernel
theorem dX5_partnerOf_3 : decode cX5_partnerOf 3 = .ok (.aload_n 0, 1) := by decide +kernel
theorem dX5_partnerOf_4 : decode cX5_partnerOf 4 = .ok (.getfield 21, 3) := by decide +kernel
theorem dX5_partnerOf_7 : decode cX5_partnerOf 7 = .ok (.if_icmp .ge 43, 3) := by decide +kernel
theorem dX5_partnerOf_10 : decode cX5_partnerOf 10 = .ok (.aload_n 0, 1) := by decide +kernel
theorem dX5_partnerOf_11 : decode cX5_partnerOf 11 = .ok (.getfield 9, 3) := by decide +kernel
theorem dX5_partnerOf_14 : decode cX5_partnerOf 14 = .ok (.iload_n 2, 1) := by decide +kernel
theorem dX5_partnerOf_15 : decode cX5_partnerOf 15 = .ok (.iaload, 1) := by decide +kernel
theorem dX5_partnerOf_16 : decode cX5_partnerOf 16 = .ok (.iload_n 1, 1) := by decide +kernel
theorem dX5_partnerOf_17 : decode cX5_partnerOf 17 = .ok (.if_icmp .ne 10, 3) := by decide +kernel
theorem dX5_partnerOf_20 : decode cX5_partnerOf 20 = .ok (.aload_n 0, 1) := by decide +kernel
theorem dX5_partnerOf_21 : decode cX5_partnerOf 21 = .ok (.getfield 18, 3) := by decide +kernel
theorem dX5_partnerOf_24 : decode cX5_partnerOf 24 = .ok (.iload_n 2, 1) := by decide +kernel
theorem dX5_partnerOf_25 : decode cX5_partnerOf 25 = .ok (.iaload, 1) := by decide +kernel
theorem dX5_partnerOf_26 : decode cX5_partnerOf 26 = .ok (.ireturn, 1) := by decide +kernel
theorem dX5_partnerOf_27 : decode cX5_partnerOf 27 = .ok (.aload_n 0, 1) := by decide +kernel
theorem dX5_partnerOf_28 : decode cX5_partnerOf 28 = .ok (.getfield 18, 3) := by decide +kernel
theorem dX5_partnerOf_31 : decode cX5_partnerOf 31 = .ok (.iload_n 2, 1) := by decide +kernel
theorem dX5_partnerOf_32 : decode cX5_partnerOf 32 = .ok (.iaload, 1) := by decide +kernel
theorem dX5_partnerOf_33 : decode cX5_partnerOf 33 = .ok (.iload_n 1, 1) := by decide +kernel
theorem dX5_partnerOf_34 : decode cX5_partnerOf 34 = .ok (.if_icmp .ne 10, 3) := by decide +kernel
theorem dX5_partnerOf_37 : decode cX5_partnerOf 37 = .ok (.aload_n 0, 1) := by decide +kernel
theorem dX5_partnerOf_38 : decode cX5_partnerOf 38 = .ok (.getfield 9, 3) := by decide +kernel
theorem dX5_partnerOf_41 : decode cX5_partnerOf 41 = .ok (.iload_n 2, 1) := by decide +kernel
theorem dX5_partnerOf_42 : decode cX5_partnerOf 42 = .ok (.iaload, 1) := by decide +kernel
theorem dX5_partnerOf_43 : decode cX5_partnerOf 43 = .ok (.ireturn, 1) := by decide +kernel
theorem dX5_partnerOf_44 : decode cX5_partnerOf 44 = .ok (.iinc 2 1, 3) := by decide +kernel
theorem dX5_partnerOf_47 : decode cX5_partnerOf 47 = .ok (.goto (-45), 3) := by decide +kernel
theorem dX5_partnerOf_50 : decode cX5_partnerOf 50 = .ok (.iconst (-1), 1) := by decide +kernel
theorem dX5_partnerOf_51 : decode cX5_partnerOf 51 = .ok (.ireturn, 1) := by decide +kernel
theorem mv_X5_partnerOf : MV yX5_partnerOf RX5 cX5_partnerOf 3 (some .int) 1 := ⟨tb_1097, tb_1095, tb_1096, tb_14, by decide +kernel, by decide +kernel, by decide +kernel⟩
def f_X5_partnerOf_b2 (fu : Nat) (q_heroes : Nat → Int32) (q_chosen : Nat → Int32) (q_heroCount : Int32) (x1 : Int32) (k2 : Int32 → Option (Int32)) (x2 : Int32) : Option (Int32) := (if q_heroCount ≤ x2 then some ((-1)) else (rdI q_heroes 8 x2).bind fun y_10 => (if y_10 = x1 then (rdI q_chosen 8 x2).bind fun y_16 => some (y_16) else (rdI q_chosen 8 x2).bind fun y_12 => (if y_12 = x1 then (rdI q_heroes 8 x2).bind fun y_15 => some (y_15) else bnd (x2 + 1) fun x2_14 => k2 x2_14)))
def f_X5_partnerOf_l2 (fu : Nat) (q_heroes : Nat → Int32) (q_chosen : Nat → Int32) (q_heroCount : Int32) (x1 : Int32) : Nat → Int32 → Option (Int32)
  | 0, _ => none
  | n + 1, x2 => f_X5_partnerOf_b2 fu q_heroes q_chosen q_heroCount x1 (f_X5_partnerOf_l2 fu q_heroes q_chosen q_heroCount x1 n) x2
def f_X5_partnerOf (fu : Nat) (q_heroes : Nat → Int32) (q_chosen : Nat → Int32) (q_heroCount : Int32) (x1 : Int32) : Option (Int32) := f_X5_partnerOf_l2 fu q_heroes q_chosen q_heroCount x1 fu 0
abbrev rm_X5_partnerOf : Room := { frames := 0, cells := 0, slots := 0, locals := 0 }
set_option maxHeartbeats 4000000 in
set_option maxRecDepth 100000 in
theorem c_X5_partnerOf (l : Launch) (D : va_G) (cy : Nat → ClassId) (fu : Nat) (A_q : Nat → Nat) (q_heroes : Nat → Int32) (q_tried : Nat → Int32) (q_chosen : Nat → Int32) (q_heroCount : Int32) (q_couples : Int32) (q_fondest : Int32) (A_a : Nat → Nat) (a_name : Nat → Int64) (a_courage : Nat → Int32) (a_weight : Nat → Int32) (a_medals : Nat → Int32) (a_stood : Nat → Int32) (a_fled : Nat → Int32) (a_liked : Nat → Int32) (a_votes : Nat → Int32) (a_count : Int32) (a_living : Int32) (a_pride : Int32) (a_quota : Int32) (a_melted : Int32) (a_lost : Int32) (x1 : Int32) (res : Int32) (h : f_X5_partnerOf fu q_heroes q_chosen q_heroCount x1 = some res) : Met l yX5_partnerOf (WW yX5_partnerOf cX5_partnerOf 3 (some .int)) rm_X5_partnerOf (Rd D cy [.ref (A_q 0), .int x1] [bl_X5 cy A_q (A_a 0) q_heroes q_tried q_chosen q_heroCount q_couples q_fondest, bl_X0 cy A_a a_name a_courage a_weight a_medals a_stood a_fled a_liked a_votes a_count a_living a_pride a_quota a_melted a_lost]) (vp_Si (fun v => v = res)) 0 0 (fun _ => False) := by
  refine Met.ofW (cc := cX5_partnerOf) (maxL := 3) (ret := (some .int)) (by decide) rfl ?_
  intro p e s m args below meth c s₁ B hml hv
  obtain ⟨hargs, hP, hX⟩ := hv
  have hx := B.exec
  have hb := B.bytes
  have hr := B.returns
  have ht : ∀ w ∈ lw_gd, w.before args s = true := fun w hw => atoms_spec (ws := WW yX5_partnerOf cX5_partnerOf 3 (some .int)) B.pre w (List.mem_cons_of_mem _ hw)
  have hown : s.vm.findClass RX5 = some m.cls := findClass_of_methodNamed B.named
  have hlocks := B.notSynchronized
  have hP : PB D [bl_X5 cy A_q (A_a 0) q_heroes q_tried q_chosen q_heroCount q_couples q_fondest, bl_X0 cy A_a a_name a_courage a_weight a_medals a_stood a_fled a_liked a_votes a_count a_living a_pride a_quota a_melted a_lost] s.heap := hP
  obtain ⟨ls, hl, hent⟩ := ent (m := m) (n := 3) hargs (Nat.le_of_ble_eq_true rfl) (lv := [(0, .ref (A_q 0)), (1, .int x1)]) rfl
  rw [hent]
  clear hent
  have l2 : ∀ (n2 : Nat) (x2 : Int32) (ls : Array Slot), lv_has ls 3 [(0, .ref (A_q 0)), (1, .int x1), (2, .int x2)] → f_X5_partnerOf_l2 fu q_heroes q_chosen q_heroCount x1 n2 x2 = some res → W p l e (headSpec (WW yX5_partnerOf cX5_partnerOf 3 (some .int)) rm_X5_partnerOf).room s m args below meth c s.heap [] 0 0 (MQ below (vp_Si (fun v => v = res)) args s 0 0 (fun _ => False)) (F0 m 2 ls []) := by
    intro n2
    induction n2 with
    | zero => intro x2 ls hl h; cases h
    | succ n2 ih2 =>
      intro x2 ls hl h
      have h : f_X5_partnerOf_b2 fu q_heroes q_chosen q_heroCount x1 (f_X5_partnerOf_l2 fu q_heroes q_chosen q_heroCount x1 n2) x2 = some res := h
      unfold f_X5_partnerOf_b2 at h
      refine lv_iload_n hx hb dX5_partnerOf_2 rfl (lv_at hl 2 rfl) ?_
      refine lv_aload_n hx hb dX5_partnerOf_3 rfl (lv_at hl 0 rfl) ?_
      refine xget (i := 0) (j := 0) (k := 4) (T := TX5) hx hb ht tb_iX5 hown hX hP rfl rfl rfl (by decide) tb_388 rfl dX5_partnerOf_4 ?_
      refine lv_icmp_ge (tgt := 50) hx hb dX5_partnerOf_7 (by decide) (fun c_9 => ?_) (fun c_9 => ?_)
      · have h := it c_9 h
        refine lv_iconst (v := (-1)) hx hb dX5_partnerOf_50 (by decide) ?_
        cases h
        exact W.iret hx hb hr (fun _ ht9 _ => ⟨_, rfl, rfl, ht9⟩) (fun _ hq => by cases hq) dX5_partnerOf_51
      · have h := ie c_9 h
        refine lv_aload_n hx hb dX5_partnerOf_10 rfl (lv_at hl 0 rfl) ?_
        refine xget (i := 0) (j := 0) (k := 0) (T := TX5) hx hb ht tb_iX5 hown hX hP rfl rfl rfl (by decide) tb_384 rfl dX5_partnerOf_11 ?_
        refine lv_iload_n hx hb dX5_partnerOf_14 rfl (lv_at hl 2 rfl) ?_
        obtain ⟨y_10, e_y_10, h⟩ := bi h
        refine xiald (i0 := 0) (j0 := 1) hx hb hX hP rfl rfl e_y_10 dX5_partnerOf_15 ?_
        refine lv_iload_n hx hb dX5_partnerOf_16 rfl (lv_at hl 1 rfl) ?_
        refine lv_icmp_ne (tgt := 27) hx hb dX5_partnerOf_17 (by decide) (fun c_11 => ?_) (fun c_11 => ?_)
        · have h := ie c_11 h
          refine lv_aload_n hx hb dX5_partnerOf_27 rfl (lv_at hl 0 rfl) ?_
          refine xget (i := 0) (j := 0) (k := 2) (T := TX5) hx hb ht tb_iX5 hown hX hP rfl rfl rfl (by decide) tb_386 rfl dX5_partnerOf_28 ?_
          refine lv_iload_n hx hb dX5_partnerOf_31 rfl (lv_at hl 2 rfl) ?_
          obtain ⟨y_12, e_y_12, h⟩ := bi h
          refine xiald (i0 := 0) (j0 := 3) hx hb hX hP rfl rfl e_y_12 dX5_partnerOf_32 ?_
          refine lv_iload_n hx hb dX5_partnerOf_33 rfl (lv_at hl 1 rfl) ?_
          refine lv_icmp_ne (tgt := 44) hx hb dX5_partnerOf_34 (by decide) (fun c_13 => ?_) (fun c_13 => ?_)
          · have h := ie c_13 h
            obtain ⟨x2_14, e_x2_14⟩ : ∃ y : Int32, y = x2 + 1 := ⟨_, rfl⟩
            have h := bn e_x2_14 h
            refine lv_iinc (v := x2_14) (lv' := [(2, .int x2_14), (0, .ref (A_q 0)), (1, .int x1)]) hx hb dX5_partnerOf_44 hl (k := 2) rfl (by rw [e_x2_14]; rfl) (by decide) rfl (fun ls hl => ?_)
            refine lv_goto (tgt := 2) hx hb dX5_partnerOf_47 (by decide) ?_
            exact ih2 x2_14 ls (lv_sub hl [1, 2, 0] rfl) h
          · have h := it c_13 h
            refine lv_aload_n hx hb dX5_partnerOf_37 rfl (lv_at hl 0 rfl) ?_
            refine xget (i := 0) (j := 0) (k := 0) (T := TX5) hx hb ht tb_iX5 hown hX hP rfl rfl rfl (by decide) tb_384 rfl dX5_partnerOf_38 ?_
            refine lv_iload_n hx hb dX5_partnerOf_41 rfl (lv_at hl 2 rfl) ?_
            obtain ⟨y_15, e_y_15, h⟩ := bi h
            refine xiald (i0 := 0) (j0 := 1) hx hb hX hP rfl rfl e_y_15 dX5_partnerOf_42 ?_
            cases h
            exact W.iret hx hb hr (fun _ ht9 _ => ⟨_, rfl, rfl, ht9⟩) (fun _ hq => by cases hq) dX5_partnerOf_43
        · have h := it c_11 h
          refine lv_aload_n hx hb dX5_partnerOf_20 rfl (lv_at hl 0 rfl) ?_
          refine xget (i := 0) (j := 0) (k := 2) (T := TX5) hx hb ht tb_iX5 hown hX hP rfl rfl rfl (by decide) tb_386 rfl dX5_partnerOf_21 ?_
          refine lv_iload_n hx hb dX5_partnerOf_24 rfl (lv_at hl 2 rfl) ?_
          obtain ⟨y_16, e_y_16, h⟩ := bi h
          refine xiald (i0 := 0) (j0 := 3) hx hb hX hP rfl rfl e_y_16 dX5_partnerOf_25 ?_
          cases h
          exact W.iret hx hb hr (fun _ ht9 _ => ⟨_, rfl, rfl, ht9⟩) (fun _ hq => by cases hq) dX5_partnerOf_26
  unfold f_X5_partnerOf at h
  refine lv_iconst (v := 0) hx hb dX5_partnerOf_0 (by decide) ?_
  refine lv_istore_n (lv' := [(2, .int 0), (0, .ref (A_q 0)), (1, .int x1)]) hx hb dX5_partnerOf_1 rfl hl (by decide) rfl (fun ls hl => ?_)
  exact l2 fu 0 ls (lv_sub hl [1, 2, 0] rfl) h
theorem dX11_partner_0 : decode cX11_partner 0 = .ok (.aload_n 0, 1) := by decide +kernel
theorem dX11_partner_1 : decode cX11_partner 1 = .ok (.getfield 29, 3) := by decide +kernel
theorem dX11_partner_4 : decode cX11_partner 4 = .ok (.iload_n 1, 1) := by decide +kernel
theorem dX11_partner_5 : decode cX11_partner 5 = .ok (.invokevirtual 248, 3) := by decide +kernel
theorem dX11_partner_8 : decode cX11_partner 8 = .ok (.ifCond .eq 10, 3) := by decide +kernel
theorem dX11_partner_11 : decode cX11_partner 11 = .ok (.iload_n 2, 1) := by decide +kernel
theorem dX11_partner_12 : decode cX11_partner 12 = .ok (.invokestatic 294, 3) := by decide +kernel
theorem dX11_partner_15 : decode cX11_partner 15 = .ok (.ifCond .ne 9, 3) := by decide +kernel
theorem dX11_partner_18 : decode cX11_partner 18 = .ok (.aload_n 0, 1) := by decide +kernel
theorem dX11_partner_19 : decode cX11_partner 19 = .ok (.iconst 1, 1) := by decide +kernel
theorem dX11_partner_20 : decode cX11_partner 20 = .ok (.invokevirtual 143, 3) := by decide +kernel
theorem dX11_partner_23 : decode cX11_partner 23 = .ok (.ireturn, 1) := by decide +kernel
theorem dX11_partner_24 : decode cX11_partner 24 = .ok (.aload_n 0, 1) := by decide +kernel
theorem dX11_partner_25 : decode cX11_partner 25 = .ok (.getfield 106, 3) := by decide +kernel
theorem dX11_partner_28 : decode cX11_partner 28 = .ok (.iload_n 2, 1) := by decide +kernel
theorem dX11_partner_29 : decode cX11_partner 29 = .ok (.invokevirtual 367, 3) := by decide +kernel
theorem dX11_partner_32 : decode cX11_partner 32 = .ok (.aload_n 0, 1) := by decide +kernel
theorem dX11_partner_33 : decode cX11_partner 33 = .ok (.getfield 106, 3) := by decide +kernel
theorem dX11_partner_36 : decode cX11_partner 36 = .ok (.iload_n 1, 1) := by decide +kernel
theorem dX11_partner_37 : decode cX11_partner 37 = .ok (.invokevirtual 376, 3) := by decide +kernel
theorem dX11_partner_40 : decode cX11_partner 40 = .ok (.istore_n 3, 1) := by decide +kernel
theorem dX11_partner_41 : decode cX11_partner 41 = .ok (.iload_n 3, 1) := by decide +kernel
theorem dX11_partner_42 : decode cX11_partner 42 = .ok (.iconst (-1), 1) := by decide +kernel
theorem dX11_partner_43 : decode cX11_partner 43 = .ok (.if_icmp .ne 12, 3) := by decide +kernel
theorem dX11_partner_46 : decode cX11_partner 46 = .ok (.aload_n 0, 1) := by decide +kernel
theorem dX11_partner_47 : decode cX11_partner 47 = .ok (.bipush 6, 2) := by decide +kernel
theorem dX11_partner_49 : decode cX11_partner 49 = .ok (.invokevirtual 143, 3) := by decide +kernel
theorem dX11_partner_52 : decode cX11_partner 52 = .ok (.goto 8, 3) := by decide +kernel
theorem dX11_partner_55 : decode cX11_partner 55 = .ok (.aload_n 0, 1) := by decide +kernel
theorem dX11_partner_56 : decode cX11_partner 56 = .ok (.iload_n 3, 1) := by decide +kernel
theorem dX11_partner_57 : decode cX11_partner 57 = .ok (.invokevirtual 193, 3) := by decide +kernel
theorem dX11_partner_60 : decode cX11_partner 60 = .ok (.ireturn, 1) := by decide +kernel
theorem mv_X11_partner : MV yX11_partner RX11 cX11_partner 4 (some .int) 2 := ⟨tb_1093, tb_1091, tb_1092, tb_1, by decide +kernel, by decide +kernel, by decide +kernel⟩
def f_X11_partner (fu : Nat) (b_latestStatus : Int32) (a_courage : Nat → Int32) (a_medals : Nat → Int32) (a_liked : Nat → Int32) (a_count : Int32) (a_living : Int32) (a_pride : Int32) (q_heroes : Nat → Int32) (q_tried : Nat → Int32) (q_chosen : Nat → Int32) (q_heroCount : Int32) (q_couples : Int32) (q_fondest : Int32) (x1 : Int32) (x2 : Int32) : Option (Int32 × Int32 × (Nat → Int32) × (Nat → Int32) × (Nat → Int32) × Int32 × Int32 × Int32) := (f_X0_isMan fu a_count x1).bind fun z_12 => (if z_12 = 0 then (f_X11_refuse fu b_latestStatus 1).bind fun z_14 => some (z_14.1, z_14.2, q_heroes, q_tried, q_chosen, q_heroCount, q_couples, q_fondest) else (f_X11_isSize fu x2).bind fun z_15 => (if z_15 = 0 then (f_X11_refuse fu b_latestStatus 1).bind fun z_22 => some (z_22.1, z_22.2, q_heroes, q_tried, q_chosen, q_heroCount, q_couples, q_fondest) else (f_X5_match fu q_heroes q_tried q_chosen q_heroCount q_couples q_fondest a_courage a_medals a_liked a_count a_living a_pride x2).bind fun z_17 => (f_X5_partnerOf fu z_17.1 z_17.2.2.1 z_17.2.2.2.1 x1).bind fun z_18 => (if z_18 = (-1) then (f_X11_refuse fu b_latestStatus 6).bind fun z_21 => some (z_21.1, z_21.2, z_17.1, z_17.2.1, z_17.2.2.1, z_17.2.2.2.1, z_17.2.2.2.2.1, z_17.2.2.2.2.2) else (f_X11_answer fu b_latestStatus z_18).bind fun z_20 => some (z_20.1, z_20.2, z_17.1, z_17.2.1, z_17.2.2.1, z_17.2.2.2.1, z_17.2.2.2.2.1, z_17.2.2.2.2.2))))
abbrev rm_X11_partner : Room := { frames := 22, cells := 0, slots := 0, locals := 649 }
set_option maxHeartbeats 4000000 in
set_option maxRecDepth 100000 in
theorem c_X11_partner (l : Launch) (D : va_G) (cy : Nat → ClassId) (fu : Nat) (A_b : Nat → Nat) (r_b_trays : Nat) (r_b_war : Nat) (r_b_draftArmy : Nat) (r_b_draftWar : Nat) (r_b_reader : Nat) (r_b_armyReader : Nat) (r_b_warReader : Nat) (r_b_markedArmies : Nat) (r_b_markedWars : Nat) (r_b_latest : Nat) (r_b_trial : Nat) (r_b_foresight : Nat) (b_latestStatus : Int32) (b_fractionTop : Int64) (b_fractionBottom : Int64) (b_marks : Int32) (A_a : Nat → Nat) (a_name : Nat → Int64) (a_courage : Nat → Int32) (a_weight : Nat → Int32) (a_medals : Nat → Int32) (a_stood : Nat → Int32) (a_fled : Nat → Int32) (a_liked : Nat → Int32) (a_votes : Nat → Int32) (a_count : Int32) (a_living : Int32) (a_pride : Int32) (a_quota : Int32) (a_melted : Int32) (a_lost : Int32) (A_q : Nat → Nat) (q_heroes : Nat → Int32) (q_tried : Nat → Int32) (q_chosen : Nat → Int32) (q_heroCount : Int32) (q_couples : Int32) (q_fondest : Int32) (x1 : Int32) (x2 : Int32) (res : Int32 × Int32 × (Nat → Int32) × (Nat → Int32) × (Nat → Int32) × Int32 × Int32 × Int32) (h : f_X11_partner fu b_latestStatus a_courage a_medals a_liked a_count a_living a_pride q_heroes q_tried q_chosen q_heroCount q_couples q_fondest x1 x2 = some res) (A : Nat → Prop) (hA : A = adr [bl_X11 cy A_b r_b_trays (A_a 0) r_b_war r_b_draftArmy r_b_draftWar r_b_reader r_b_armyReader r_b_warReader r_b_markedArmies r_b_markedWars r_b_latest r_b_trial r_b_foresight (A_q 0) b_latestStatus b_fractionTop b_fractionBottom b_marks, bl_X0 cy A_a a_name a_courage a_weight a_medals a_stood a_fled a_liked a_votes a_count a_living a_pride a_quota a_melted a_lost, bl_X5 cy A_q (A_a 0) q_heroes q_tried q_chosen q_heroCount q_couples q_fondest]) (W1 : List va_W) (hW1 : W1 = [bl_X11 cy A_b r_b_trays (A_a 0) r_b_war r_b_draftArmy r_b_draftWar r_b_reader r_b_armyReader r_b_warReader r_b_markedArmies r_b_markedWars r_b_latest r_b_trial r_b_foresight (A_q 0) res.2.1 b_fractionTop b_fractionBottom b_marks, bl_X0 cy A_a a_name a_courage a_weight a_medals a_stood a_fled a_liked a_votes a_count a_living a_pride a_quota a_melted a_lost, bl_X5 cy A_q (A_a 0) res.2.2.1 res.2.2.2.1 res.2.2.2.2.1 res.2.2.2.2.2.1 res.2.2.2.2.2.2.1 res.2.2.2.2.2.2.2]) : Met l yX11_partner (WW yX11_partner cX11_partner 4 (some .int)) rm_X11_partner (Ed D cy [.ref (A_b 0), .int x1, .int x2] [bl_X11 cy A_b r_b_trays (A_a 0) r_b_war r_b_draftArmy r_b_draftWar r_b_reader r_b_armyReader r_b_warReader r_b_markedArmies r_b_markedWars r_b_latest r_b_trial r_b_foresight (A_q 0) b_latestStatus b_fractionTop b_fractionBottom b_marks, bl_X0 cy A_a a_name a_courage a_weight a_medals a_stood a_fled a_liked a_votes a_count a_living a_pride a_quota a_melted a_lost, bl_X5 cy A_q (A_a 0) q_heroes q_tried q_chosen q_heroCount q_couples q_fondest]) (Qei D res.1 A W1) 0 0 A := by
  refine Met.ofW (cc := cX11_partner) (maxL := 4) (ret := (some .int)) (by decide) rfl ?_
  intro p e s m args below meth c s₁ B hml hv
  obtain ⟨hargs, hP, hX, hD0⟩ := hv
  have hx := B.exec
  have hb := B.bytes
  have hr := B.returns
  have ht : ∀ w ∈ lw_gd, w.before args s = true := fun w hw => atoms_spec (ws := WW yX11_partner cX11_partner 4 (some .int)) B.pre w (List.mem_cons_of_mem _ hw)
  have hown : s.vm.findClass RX11 = some m.cls := findClass_of_methodNamed B.named
  have hlocks := B.notSynchronized
  have hP : PD D A [bl_X11 cy A_b r_b_trays (A_a 0) r_b_war r_b_draftArmy r_b_draftWar r_b_reader r_b_armyReader r_b_warReader r_b_markedArmies r_b_markedWars r_b_latest r_b_trial r_b_foresight (A_q 0) b_latestStatus b_fractionTop b_fractionBottom b_marks, bl_X0 cy A_a a_name a_courage a_weight a_medals a_stood a_fled a_liked a_votes a_count a_living a_pride a_quota a_melted a_lost, bl_X5 cy A_q (A_a 0) q_heroes q_tried q_chosen q_heroCount q_couples q_fondest] s.heap := ⟨hP, by rw [hA]; exact hD0.own⟩
  have hS : va_S A s.heap s.heap [] := va_S.rf
  obtain ⟨ls, hl, hent⟩ := ent (m := m) (n := 4) hargs (Nat.le_of_ble_eq_true rfl) (lv := [(0, .ref (A_b 0)), (1, .int x1), (2, .int x2)]) rfl
  rw [hent]
  clear hent
  unfold f_X11_partner at h
  refine lv_aload_n hx hb dX11_partner_0 rfl (lv_at hl 0 rfl) ?_
  refine xget (i := 0) (j := 0) (k := 4) (T := TX11) hx hb ht tb_iX11 hown hX hP.1 rfl rfl rfl (by decide) tb_433 rfl dX11_partner_1 ?_
  refine lv_iload_n hx hb dX11_partner_4 rfl (lv_at hl 1 rfl) ?_
  obtain ⟨z_12, e_z_12, h⟩ := bi h
  refine roVi (rest := []) ⟨hx, hb, hml, hown, ht⟩ (c_X0_isMan l D cy fu A_a a_name a_courage a_weight a_medals a_stood a_fled a_liked a_votes a_count a_living a_pride a_quota a_melted a_lost x1 z_12 e_z_12) (cV ht mv_X0_isMan tb_774 rfl rfl ⟨Nat.le_of_ble_eq_true rfl, Nat.le_of_ble_eq_true rfl⟩) (P_sub hP.1 [1] rfl) hX rfl rfl rfl hl.1 rfl (Nat.le_of_ble_eq_true rfl) dX11_partner_5 ⟨Nat.le_of_ble_eq_true rfl, Nat.le_of_ble_eq_true rfl⟩ ?_
  refine lv_if_eq (tgt := 18) hx hb dX11_partner_8 (by decide) (fun c_13 => ?_) (fun c_13 => ?_)
  · have h := it c_13 h
    refine lv_aload_n hx hb dX11_partner_18 rfl (lv_at hl 0 rfl) ?_
    refine lv_iconst (v := 1) hx hb dX11_partner_19 (by decide) ?_
    obtain ⟨z_14, e_z_14, h⟩ := bi h
    refine efVi (rest := []) ⟨hx, hb, hml, hown, ht⟩ (c_X11_refuse l D cy fu A_b r_b_trays (A_a 0) r_b_war r_b_draftArmy r_b_draftWar r_b_reader r_b_armyReader r_b_warReader r_b_markedArmies r_b_markedWars r_b_latest r_b_trial r_b_foresight (A_q 0) b_latestStatus b_fractionTop b_fractionBottom b_marks 1 z_14 e_z_14 _ rfl _ rfl) (cV ht mv_X11_refuse tb_543 rfl rfl ⟨Nat.le_of_ble_eq_true rfl, Nat.le_of_ble_eq_true rfl⟩) hP hS hX [0] rfl rfl rfl rfl rfl rfl hl.1 rfl (Nat.le_of_ble_eq_true rfl) dX11_partner_20 ⟨Nat.le_of_ble_eq_true rfl, Nat.le_of_ble_eq_true rfl⟩ (fun H locs hP hS => ?_)
    have hP : PD D A [bl_X11 cy A_b r_b_trays (A_a 0) r_b_war r_b_draftArmy r_b_draftWar r_b_reader r_b_armyReader r_b_warReader r_b_markedArmies r_b_markedWars r_b_latest r_b_trial r_b_foresight (A_q 0) z_14.2 b_fractionTop b_fractionBottom b_marks, bl_X0 cy A_a a_name a_courage a_weight a_medals a_stood a_fled a_liked a_votes a_count a_living a_pride a_quota a_melted a_lost, bl_X5 cy A_q (A_a 0) q_heroes q_tried q_chosen q_heroCount q_couples q_fondest] H := hP
    cases h
    subst hW1
    exact W.iret hx hb hr (fun _ ht9 _ => ⟨⟨_, (), rfl, rfl, hPt ht9 hP.1⟩, hS.F ht9⟩) hS.2.2 dX11_partner_23
  · have h := ie c_13 h
    refine lv_iload_n hx hb dX11_partner_11 rfl (lv_at hl 2 rfl) ?_
    obtain ⟨z_15, e_z_15, h⟩ := bi h
    refine roSi (rest := []) ⟨hx, hb, hml, hown, ht⟩ (c_X11_isSize l D cy fu  x2 z_15 e_z_15) (cS ht ms_X11_isSize tb_803 rfl rfl ⟨Nat.le_of_ble_eq_true rfl, Nat.le_of_ble_eq_true rfl⟩) (P_sub hP.1 [] rfl) hX rfl hl.1 rfl (Nat.le_of_ble_eq_true rfl) dX11_partner_12 ⟨Nat.le_of_ble_eq_true rfl, Nat.le_of_ble_eq_true rfl⟩ ?_
    refine lv_if_ne (tgt := 24) hx hb dX11_partner_15 (by decide) (fun c_16 => ?_) (fun c_16 => ?_)
    · have h := ie c_16 h
      refine lv_aload_n hx hb dX11_partner_24 rfl (lv_at hl 0 rfl) ?_
      refine xget (i := 0) (j := 0) (k := 17) (T := TX11) hx hb ht tb_iX11 hown hX hP.1 rfl rfl rfl (by decide) tb_446 rfl dX11_partner_25 ?_
      refine lv_iload_n hx hb dX11_partner_28 rfl (lv_at hl 2 rfl) ?_
      obtain ⟨z_17, e_z_17, h⟩ := bi h
      refine efVv (rest := []) ⟨hx, hb, hml, hown, ht⟩ (c_X5_match l D cy fu A_q q_heroes q_tried q_chosen q_heroCount q_couples q_fondest A_a a_name a_courage a_weight a_medals a_stood a_fled a_liked a_votes a_count a_living a_pride a_quota a_melted a_lost x2 z_17 e_z_17 _ rfl _ rfl) (cV ht mv_X5_match tb_1072 rfl rfl ⟨Nat.le_of_ble_eq_true rfl, Nat.le_of_ble_eq_true rfl⟩) hP hS hX [2, 1] rfl rfl rfl rfl rfl rfl hl.1 rfl (Nat.le_of_ble_eq_true rfl) dX11_partner_29 ⟨Nat.le_of_ble_eq_true rfl, Nat.le_of_ble_eq_true rfl⟩ (fun H locs hP hS => ?_)
      have hP : PD D A [bl_X11 cy A_b r_b_trays (A_a 0) r_b_war r_b_draftArmy r_b_draftWar r_b_reader r_b_armyReader r_b_warReader r_b_markedArmies r_b_markedWars r_b_latest r_b_trial r_b_foresight (A_q 0) b_latestStatus b_fractionTop b_fractionBottom b_marks, bl_X0 cy A_a a_name a_courage a_weight a_medals a_stood a_fled a_liked a_votes a_count a_living a_pride a_quota a_melted a_lost, bl_X5 cy A_q (A_a 0) z_17.1 z_17.2.1 z_17.2.2.1 z_17.2.2.2.1 z_17.2.2.2.2.1 z_17.2.2.2.2.2] H := hP
      refine lv_aload_n hx hb dX11_partner_32 rfl (lv_at hl 0 rfl) ?_
      refine xget (i := 0) (j := 0) (k := 17) (T := TX11) hx hb ht tb_iX11 hown hX hP.1 rfl rfl rfl (by decide) tb_446 rfl dX11_partner_33 ?_
      refine lv_iload_n hx hb dX11_partner_36 rfl (lv_at hl 1 rfl) ?_
      obtain ⟨z_18, e_z_18, h⟩ := bi h
      refine roVi (rest := []) ⟨hx, hb, hml, hown, ht⟩ (c_X5_partnerOf l D cy fu A_q z_17.1 z_17.2.1 z_17.2.2.1 z_17.2.2.2.1 z_17.2.2.2.2.1 z_17.2.2.2.2.2 A_a a_name a_courage a_weight a_medals a_stood a_fled a_liked a_votes a_count a_living a_pride a_quota a_melted a_lost x1 z_18 e_z_18) (cV ht mv_X5_partnerOf tb_1094 rfl rfl ⟨Nat.le_of_ble_eq_true rfl, Nat.le_of_ble_eq_true rfl⟩) (P_sub hP.1 [2, 1] rfl) hX rfl rfl rfl hl.1 rfl (Nat.le_of_ble_eq_true rfl) dX11_partner_37 ⟨Nat.le_of_ble_eq_true rfl, Nat.le_of_ble_eq_true rfl⟩ ?_
      refine lv_istore_n (lv' := [(3, .int z_18), (0, .ref (A_b 0)), (1, .int x1), (2, .int x2)]) hx hb dX11_partner_40 rfl hl (by decide) rfl (fun ls hl => ?_)
      refine lv_iload_n hx hb dX11_partner_41 rfl (lv_at hl 0 rfl) ?_
      refine lv_iconst (v := (-1)) hx hb dX11_partner_42 (by decide) ?_
      refine lv_icmp_ne (tgt := 55) hx hb dX11_partner_43 (by decide) (fun c_19 => ?_) (fun c_19 => ?_)
      · have h := ie c_19 h
        refine lv_aload_n hx hb dX11_partner_55 rfl (lv_at hl 1 rfl) ?_
        refine lv_iload_n hx hb dX11_partner_56 rfl (lv_at hl 0 rfl) ?_
        obtain ⟨z_20, e_z_20, h⟩ := bi h
        refine efVi (rest := []) ⟨hx, hb, hml, hown, ht⟩ (c_X11_answer l D cy fu A_b r_b_trays (A_a 0) r_b_war r_b_draftArmy r_b_draftWar r_b_reader r_b_armyReader r_b_warReader r_b_markedArmies r_b_markedWars r_b_latest r_b_trial r_b_foresight (A_q 0) b_latestStatus b_fractionTop b_fractionBottom b_marks z_18 z_20 e_z_20 _ rfl _ rfl) (cV ht mv_X11_answer tb_696 rfl rfl ⟨Nat.le_of_ble_eq_true rfl, Nat.le_of_ble_eq_true rfl⟩) hP hS hX [0] rfl rfl rfl rfl rfl rfl hl.1 rfl (Nat.le_of_ble_eq_true rfl) dX11_partner_57 ⟨Nat.le_of_ble_eq_true rfl, Nat.le_of_ble_eq_true rfl⟩ (fun H locs hP hS => ?_)
        have hP : PD D A [bl_X11 cy A_b r_b_trays (A_a 0) r_b_war r_b_draftArmy r_b_draftWar r_b_reader r_b_armyReader r_b_warReader r_b_markedArmies r_b_markedWars r_b_latest r_b_trial r_b_foresight (A_q 0) z_20.2 b_fractionTop b_fractionBottom b_marks, bl_X0 cy A_a a_name a_courage a_weight a_medals a_stood a_fled a_liked a_votes a_count a_living a_pride a_quota a_melted a_lost, bl_X5 cy A_q (A_a 0) z_17.1 z_17.2.1 z_17.2.2.1 z_17.2.2.2.1 z_17.2.2.2.2.1 z_17.2.2.2.2.2] H := hP
        cases h
        subst hW1
        exact W.iret hx hb hr (fun _ ht9 _ => ⟨⟨_, (), rfl, rfl, hPt ht9 hP.1⟩, hS.F ht9⟩) hS.2.2 dX11_partner_60
      · have h := it c_19 h
        refine lv_aload_n hx hb dX11_partner_46 rfl (lv_at hl 1 rfl) ?_
        refine lv_bipush (v := 6) hx hb dX11_partner_47 (by decide) ?_
        obtain ⟨z_21, e_z_21, h⟩ := bi h
        refine efVi (rest := []) ⟨hx, hb, hml, hown, ht⟩ (c_X11_refuse l D cy fu A_b r_b_trays (A_a 0) r_b_war r_b_draftArmy r_b_draftWar r_b_reader r_b_armyReader r_b_warReader r_b_markedArmies r_b_markedWars r_b_latest r_b_trial r_b_foresight (A_q 0) b_latestStatus b_fractionTop b_fractionBottom b_marks 6 z_21 e_z_21 _ rfl _ rfl) (cV ht mv_X11_refuse tb_543 rfl rfl ⟨Nat.le_of_ble_eq_true rfl, Nat.le_of_ble_eq_true rfl⟩) hP hS hX [0] rfl rfl rfl rfl rfl rfl hl.1 rfl (Nat.le_of_ble_eq_true rfl) dX11_partner_49 ⟨Nat.le_of_ble_eq_true rfl, Nat.le_of_ble_eq_true rfl⟩ (fun H locs hP hS => ?_)
        have hP : PD D A [bl_X11 cy A_b r_b_trays (A_a 0) r_b_war r_b_draftArmy r_b_draftWar r_b_reader r_b_armyReader r_b_warReader r_b_markedArmies r_b_markedWars r_b_latest r_b_trial r_b_foresight (A_q 0) z_21.2 b_fractionTop b_fractionBottom b_marks, bl_X0 cy A_a a_name a_courage a_weight a_medals a_stood a_fled a_liked a_votes a_count a_living a_pride a_quota a_melted a_lost, bl_X5 cy A_q (A_a 0) z_17.1 z_17.2.1 z_17.2.2.1 z_17.2.2.2.1 z_17.2.2.2.2.1 z_17.2.2.2.2.2] H := hP
        refine lv_goto (tgt := 60) hx hb dX11_partner_52 (by decide) ?_
        cases h
        subst hW1
        exact W.iret hx hb hr (fun _ ht9 _ => ⟨⟨_, (), rfl, rfl, hPt ht9 hP.1⟩, hS.F ht9⟩) hS.2.2 dX11_partner_60
    · have h := it c_16 h
      refine lv_aload_n hx hb dX11_partner_18 rfl (lv_at hl 0 rfl) ?_
      refine lv_iconst (v := 1) hx hb dX11_partner_19 (by decide) ?_
      obtain ⟨z_22, e_z_22, h⟩ := bi h
      refine efVi (rest := []) ⟨hx, hb, hml, hown, ht⟩ (c_X11_refuse l D cy fu A_b r_b_trays (A_a 0) r_b_war r_b_draftArmy r_b_draftWar r_b_reader r_b_armyReader r_b_warReader r_b_markedArmies r_b_markedWars r_b_latest r_b_trial r_b_foresight (A_q 0) b_latestStatus b_fractionTop b_fractionBottom b_marks 1 z_22 e_z_22 _ rfl _ rfl) (cV ht mv_X11_refuse tb_543 rfl rfl ⟨Nat.le_of_ble_eq_true rfl, Nat.le_of_ble_eq_true rfl⟩) hP hS hX [0] rfl rfl rfl rfl rfl rfl hl.1 rfl (Nat.le_of_ble_eq_true rfl) dX11_partner_20 ⟨Nat.le_of_ble_eq_true rfl, Nat.le_of_ble_eq_true rfl⟩ (fun H locs hP hS => ?_)
      have hP : PD D A [bl_X11 cy A_b r_b_trays (A_a 0) r_b_war r_b_draftArmy r_b_draftWar r_b_reader r_b_armyReader r_b_warReader r_b_markedArmies r_b_markedWars r_b_latest r_b_trial r_b_foresight (A_q 0) z_22.2 b_fractionTop b_fractionBottom b_marks, bl_X0 cy A_a a_name a_courage a_weight a_medals a_stood a_fled a_liked a_votes a_count a_living a_pride a_quota a_melted a_lost, bl_X5 cy A_q (A_a 0) q_heroes q_tried q_chosen q_heroCount q_couples q_fondest] H := hP
      cases h
      subst hW1
      exact W.iret hx hb hr (fun _ ht9 _ => ⟨⟨_, (), rfl, rfl, hPt ht9 hP.1⟩, hS.F ht9⟩) hS.2.2 dX11_partner_23
theorem dX11_gameRefusal_0 : decode cX11_gameRefusal 0 = .ok (.aload_n 0, 1) := by decide +kernel
theorem dX11_gameRefusal_1 : decode cX11_gameRefusal 1 = .ok (.getfield 29, 3) := by decide +kernel
theorem dX11_gameRefusal_4 : decode cX11_gameRefusal 4 = .ok (.iload_n 1, 1) := by decide +kernel
theorem dX11_gameRefusal_5 : decode cX11_gameRefusal 5 = .ok (.invokevirtual 248, 3) := by decide +kernel
theorem dX11_gameRefusal_8 : decode cX11_gameRefusal 8 = .ok (.ifCond .eq 23, 3) := by decide +kernel
theorem dX11_gameRefusal_11 : decode cX11_gameRefusal 11 = .ok (.aload_n 0, 1) := by decide +kernel
theorem dX11_gameRefusal_12 : decode cX11_gameRefusal 12 = .ok (.getfield 29, 3) := by decide +kernel
theorem dX11_gameRefusal_15 : decode cX11_gameRefusal 15 = .ok (.iload_n 2, 1) := by decide +kernel
theorem dX11_gameRefusal_16 : decode cX11_gameRefusal 16 = .ok (.invokevirtual 248, 3) := by decide +kernel
theorem dX11_gameRefusal_19 : decode cX11_gameRefusal 19 = .ok (.ifCond .eq 12, 3) := by decide +kernel
theorem dX11_gameRefusal_22 : decode cX11_gameRefusal 22 = .ok (.iload_n 1, 1) := by decide +kernel
theorem dX11_gameRefusal_23 : decode cX11_gameRefusal 23 = .ok (.iload_n 2, 1) := by decide +kernel
theorem dX11_gameRefusal_24 : decode cX11_gameRefusal 24 = .ok (.if_icmp .eq 7, 3) := by decide +kernel
theorem dX11_gameRefusal_27 : decode cX11_gameRefusal 27 = .ok (.iconst 1, 1) := by decide +kernel
theorem dX11_gameRefusal_28 : decode cX11_gameRefusal 28 = .ok (.goto 4, 3) := by decide +kernel
theorem dX11_gameRefusal_31 : decode cX11_gameRefusal 31 = .ok (.iconst 0, 1) := by decide +kernel
theorem dX11_gameRefusal_32 : decode cX11_gameRefusal 32 = .ok (.istore 5, 2) := by decide +kernel
theorem dX11_gameRefusal_34 : decode cX11_gameRefusal 34 = .ok (.iload 5, 2) := by decide +kernel
theorem dX11_gameRefusal_36 : decode cX11_gameRefusal 36 = .ok (.ifCond .eq 17, 3) := by decide +kernel
theorem dX11_gameRefusal_39 : decode cX11_gameRefusal 39 = .ok (.aload_n 3, 1) := by decide +kernel
theorem dX11_gameRefusal_40 : decode cX11_gameRefusal 40 = .ok (.ifnull 13, 3) := by decide +kernel
theorem dX11_gameRefusal_43 : decode cX11_gameRefusal 43 = .ok (.iload 4, 2) := by decide +kernel
theorem dX11_gameRefusal_45 : decode cX11_gameRefusal 45 = .ok (.iconst 0, 1) := by decide +kernel
theorem dX11_gameRefusal_46 : decode cX11_gameRefusal 46 = .ok (.iconst 4, 1) := by decide +kernel
theorem dX11_gameRefusal_47 : decode cX11_gameRefusal 47 = .ok (.invokestatic 115, 3) := by decide +kernel
theorem dX11_gameRefusal_50 : decode cX11_gameRefusal 50 = .ok (.ifCond .ne 5, 3) := by decide +kernel
theorem dX11_gameRefusal_53 : decode cX11_gameRefusal 53 = .ok (.iconst 1, 1) := by decide +kernel
theorem dX11_gameRefusal_54 : decode cX11_gameRefusal 54 = .ok (.ireturn, 1) := by decide +kernel
theorem dX11_gameRefusal_55 : decode cX11_gameRefusal 55 = .ok (.aload_n 3, 1) := by decide +kernel
theorem dX11_gameRefusal_56 : decode cX11_gameRefusal 56 = .ok (.iload 4, 2) := by decide +kernel
theorem dX11_gameRefusal_58 : decode cX11_gameRefusal 58 = .ok (.iconst 1, 1) := by decide +kernel
theorem dX11_gameRefusal_59 : decode cX11_gameRefusal 59 = .ok (.invokevirtual 419, 3) := by decide +kernel
theorem dX11_gameRefusal_62 : decode cX11_gameRefusal 62 = .ok (.istore 6, 2) := by decide +kernel
theorem dX11_gameRefusal_64 : decode cX11_gameRefusal 64 = .ok (.iload 6, 2) := by decide +kernel
theorem dX11_gameRefusal_66 : decode cX11_gameRefusal 66 = .ok (.ifCond .eq 6, 3) := by decide +kernel
theorem dX11_gameRefusal_69 : decode cX11_gameRefusal 69 = .ok (.iload 6, 2) := by decide +kernel
theorem dX11_gameRefusal_71 : decode cX11_gameRefusal 71 = .ok (.ireturn, 1) := by decide +kernel
theorem dX11_gameRefusal_72 : decode cX11_gameRefusal 72 = .ok (.aload_n 0, 1) := by decide +kernel
theorem dX11_gameRefusal_73 : decode cX11_gameRefusal 73 = .ok (.getfield 29, 3) := by decide +kernel
theorem dX11_gameRefusal_76 : decode cX11_gameRefusal 76 = .ok (.iload_n 1, 1) := by decide +kernel
theorem dX11_gameRefusal_77 : decode cX11_gameRefusal 77 = .ok (.invokevirtual 257, 3) := by decide +kernel
theorem dX11_gameRefusal_80 : decode cX11_gameRefusal 80 = .ok (.ifCond .eq 18, 3) := by decide +kernel
theorem dX11_gameRefusal_83 : decode cX11_gameRefusal 83 = .ok (.aload_n 0, 1) := by decide +kernel
theorem dX11_gameRefusal_84 : decode cX11_gameRefusal 84 = .ok (.getfield 29, 3) := by decide +kernel
theorem dX11_gameRefusal_87 : decode cX11_gameRefusal 87 = .ok (.iload_n 2, 1) := by decide +kernel
theorem dX11_gameRefusal_88 : decode cX11_gameRefusal 88 = .ok (.invokevirtual 257, 3) := by decide +kernel
theorem dX11_gameRefusal_91 : decode cX11_gameRefusal 91 = .ok (.ifCond .eq 7, 3) := by decide +kernel
theorem dX11_gameRefusal_94 : decode cX11_gameRefusal 94 = .ok (.iconst 0, 1) := by decide +kernel
theorem dX11_gameRefusal_95 : decode cX11_gameRefusal 95 = .ok (.goto 5, 3) := by decide +kernel
theorem dX11_gameRefusal_98 : decode cX11_gameRefusal 98 = .ok (.bipush 7, 2) := by decide +kernel
theorem dX11_gameRefusal_100 : decode cX11_gameRefusal 100 = .ok (.ireturn, 1) := by decide +kernel
theorem mv_X11_gameRefusal : MV yX11_gameRefusal RX11 cX11_gameRefusal 7 (some .int) 4 := ⟨tb_1105, tb_1104, ts_29, tb_1, by decide +kernel, by decide +kernel, by decide +kernel⟩
def f_X11_gameRefusal_j32 (fu : Nat) (y_row : Nat → Int64) (y_missing : Int32) (y_many : Int32) (a_count : Int32) (a_living : Int32) (x1 : Int32) (x2 : Int32) (x4 : Int32) (s0 : Int32) : Option (Int32) := (if s0 = 0 then some (1) else (f_X11_within fu x4 0 4).bind fun z_16 => (if z_16 = 0 then some (1) else (f_X8_sizesRefusal fu y_row y_missing y_many x4 1).bind fun z_18 => (if z_18 = 0 then (f_X0_lives fu a_count a_living x1).bind fun z_20 => (if z_20 = 0 then some (7) else (f_X0_lives fu a_count a_living x2).bind fun z_22 => (if z_22 = 0 then some (7) else some (0))) else some (z_18))))
def f_X11_gameRefusal (fu : Nat) (y_row : Nat → Int64) (y_missing : Int32) (y_many : Int32) (a_count : Int32) (a_living : Int32) (x1 : Int32) (x2 : Int32) (x4 : Int32) : Option (Int32) := (f_X0_isMan fu a_count x1).bind fun z_24 => (if z_24 = 0 then f_X11_gameRefusal_j32 fu y_row y_missing y_many a_count a_living x1 x2 x4 0 else (f_X0_isMan fu a_count x2).bind fun z_26 => (if z_26 = 0 then f_X11_gameRefusal_j32 fu y_row y_missing y_many a_count a_living x1 x2 x4 0 else (if x1 = x2 then f_X11_gameRefusal_j32 fu y_row y_missing y_many a_count a_living x1 x2 x4 0 else f_X11_gameRefusal_j32 fu y_row y_missing y_many a_count a_living x1 x2 x4 1)))
abbrev rm_X11_gameRefusal : Room := { frames := 3, cells := 0, slots := 0, locals := 68 }
set_option maxHeartbeats 4000000 in
set_option maxRecDepth 100000 in
theorem c_X11_gameRefusal (l : Launch) (D : va_G) (cy : Nat → ClassId) (fu : Nat) (A_b : Nat → Nat) (r_b_trays : Nat) (r_b_war : Nat) (r_b_draftArmy : Nat) (r_b_draftWar : Nat) (r_b_reader : Nat) (r_b_armyReader : Nat) (r_b_warReader : Nat) (r_b_markedArmies : Nat) (r_b_markedWars : Nat) (r_b_latest : Nat) (r_b_trial : Nat) (r_b_foresight : Nat) (r_b_pairs : Nat) (b_latestStatus : Int32) (b_fractionTop : Int64) (b_fractionBottom : Int64) (b_marks : Int32) (A_y : Nat → Nat) (y_row : Nat → Int64) (y_missing : Int32) (y_sort : Int32) (y_many : Int32) (A_a : Nat → Nat) (a_name : Nat → Int64) (a_courage : Nat → Int32) (a_weight : Nat → Int32) (a_medals : Nat → Int32) (a_stood : Nat → Int32) (a_fled : Nat → Int32) (a_liked : Nat → Int32) (a_votes : Nat → Int32) (a_count : Int32) (a_living : Int32) (a_pride : Int32) (a_quota : Int32) (a_melted : Int32) (a_lost : Int32) (x1 : Int32) (x2 : Int32) (x4 : Int32) (res : Int32) (h : f_X11_gameRefusal fu y_row y_missing y_many a_count a_living x1 x2 x4 = some res) : Met l yX11_gameRefusal (WW yX11_gameRefusal cX11_gameRefusal 7 (some .int)) rm_X11_gameRefusal (Rd D cy [.ref (A_b 0), .int x1, .int x2, .ref (A_y 0), .int x4] [bl_X11 cy A_b r_b_trays (A_a 0) r_b_war r_b_draftArmy r_b_draftWar r_b_reader r_b_armyReader r_b_warReader r_b_markedArmies r_b_markedWars r_b_latest r_b_trial r_b_foresight r_b_pairs b_latestStatus b_fractionTop b_fractionBottom b_marks, bl_X8 cy A_y y_row y_missing y_sort y_many, bl_X0 cy A_a a_name a_courage a_weight a_medals a_stood a_fled a_liked a_votes a_count a_living a_pride a_quota a_melted a_lost]) (vp_Si (fun v => v = res)) 0 0 (fun _ => False) := by
  refine Met.ofW (cc := cX11_gameRefusal) (maxL := 7) (ret := (some .int)) (by decide) rfl ?_
  intro p e s m args below meth c s₁ B hml hv
  obtain ⟨hargs, hP, hX⟩ := hv
  have hx := B.exec
  have hb := B.bytes
  have hr := B.returns
  have ht : ∀ w ∈ lw_gd, w.before args s = true := fun w hw => atoms_spec (ws := WW yX11_gameRefusal cX11_gameRefusal 7 (some .int)) B.pre w (List.mem_cons_of_mem _ hw)
  have hown : s.vm.findClass RX11 = some m.cls := findClass_of_methodNamed B.named
  have hlocks := B.notSynchronized
  have hP : PB D [bl_X11 cy A_b r_b_trays (A_a 0) r_b_war r_b_draftArmy r_b_draftWar r_b_reader r_b_armyReader r_b_warReader r_b_markedArmies r_b_markedWars r_b_latest r_b_trial r_b_foresight r_b_pairs b_latestStatus b_fractionTop b_fractionBottom b_marks, bl_X8 cy A_y y_row y_missing y_sort y_many, bl_X0 cy A_a a_name a_courage a_weight a_medals a_stood a_fled a_liked a_votes a_count a_living a_pride a_quota a_melted a_lost] s.heap := hP
  obtain ⟨ls, hl, hent⟩ := ent (m := m) (n := 7) hargs (Nat.le_of_ble_eq_true rfl) (lv := [(0, .ref (A_b 0)), (1, .int x1), (2, .int x2), (3, .ref (A_y 0)), (4, .int x4)]) rfl
  rw [hent]
  clear hent
  have j32 : ∀ (s0 : Int32) (ls : Array Slot), lv_has ls 7 [(0, .ref (A_b 0)), (1, .int x1), (2, .int x2), (3, .ref (A_y 0)), (4, .int x4)] → f_X11_gameRefusal_j32 fu y_row y_missing y_many a_count a_living x1 x2 x4 s0 = some res → W p l e (headSpec (WW yX11_gameRefusal cX11_gameRefusal 7 (some .int)) rm_X11_gameRefusal).room s m args below meth c s.heap [] 0 0 (MQ below (vp_Si (fun v => v = res)) args s 0 0 (fun _ => False)) (F0 m 32 ls [.int s0]) := by
    intro s0 ls hl h
    unfold f_X11_gameRefusal_j32 at h
    refine lv_istore (lv' := [(5, .int s0), (0, .ref (A_b 0)), (1, .int x1), (2, .int x2), (3, .ref (A_y 0)), (4, .int x4)]) hx hb dX11_gameRefusal_32 hl (by decide) rfl (fun ls hl => ?_)
    refine lv_iload hx hb dX11_gameRefusal_34 (lv_at hl 0 rfl) ?_
    refine lv_if_eq (tgt := 53) hx hb dX11_gameRefusal_36 (by decide) (fun c_15 => ?_) (fun c_15 => ?_)
    · have h := it c_15 h
      refine lv_iconst (v := 1) hx hb dX11_gameRefusal_53 (by decide) ?_
      cases h
      exact W.iret hx hb hr (fun _ ht9 _ => ⟨_, rfl, rfl, ht9⟩) (fun _ hq => by cases hq) dX11_gameRefusal_54
    · have h := ie c_15 h
      refine lv_aload_n hx hb dX11_gameRefusal_39 rfl (lv_at hl 4 rfl) ?_
      refine lv_ifnull hx hb dX11_gameRefusal_40 ?_
      refine lv_iload hx hb dX11_gameRefusal_43 (lv_at hl 5 rfl) ?_
      refine lv_iconst (v := 0) hx hb dX11_gameRefusal_45 (by decide) ?_
      refine lv_iconst (v := 4) hx hb dX11_gameRefusal_46 (by decide) ?_
      obtain ⟨z_16, e_z_16, h⟩ := bi h
      refine roSi (rest := []) ⟨hx, hb, hml, hown, ht⟩ (c_X11_within l D cy fu  x4 0 4 z_16 e_z_16) (cS ht ms_X11_within tb_504 rfl rfl ⟨Nat.le_of_ble_eq_true rfl, Nat.le_of_ble_eq_true rfl⟩) (P_sub hP [] rfl) hX rfl hl.1 rfl (Nat.le_of_ble_eq_true rfl) dX11_gameRefusal_47 ⟨Nat.le_of_ble_eq_true rfl, Nat.le_of_ble_eq_true rfl⟩ ?_
      refine lv_if_ne (tgt := 55) hx hb dX11_gameRefusal_50 (by decide) (fun c_17 => ?_) (fun c_17 => ?_)
      · have h := ie c_17 h
        refine lv_aload_n hx hb dX11_gameRefusal_55 rfl (lv_at hl 4 rfl) ?_
        refine lv_iload hx hb dX11_gameRefusal_56 (lv_at hl 5 rfl) ?_
        refine lv_iconst (v := 1) hx hb dX11_gameRefusal_58 (by decide) ?_
        obtain ⟨z_18, e_z_18, h⟩ := bi h
        refine roVi (rest := []) ⟨hx, hb, hml, hown, ht⟩ (c_X8_sizesRefusal l D cy fu A_y y_row y_missing y_sort y_many x4 1 z_18 e_z_18) (cV ht mv_X8_sizesRefusal tb_985 rfl rfl ⟨Nat.le_of_ble_eq_true rfl, Nat.le_of_ble_eq_true rfl⟩) (P_sub hP [1] rfl) hX rfl rfl rfl hl.1 rfl (Nat.le_of_ble_eq_true rfl) dX11_gameRefusal_59 ⟨Nat.le_of_ble_eq_true rfl, Nat.le_of_ble_eq_true rfl⟩ ?_
        refine lv_istore (lv' := [(6, .int z_18), (5, .int s0), (0, .ref (A_b 0)), (1, .int x1), (2, .int x2), (3, .ref (A_y 0)), (4, .int x4)]) hx hb dX11_gameRefusal_62 hl (by decide) rfl (fun ls hl => ?_)
        refine lv_iload hx hb dX11_gameRefusal_64 (lv_at hl 0 rfl) ?_
        refine lv_if_eq (tgt := 72) hx hb dX11_gameRefusal_66 (by decide) (fun c_19 => ?_) (fun c_19 => ?_)
        · have h := it c_19 h
          refine lv_aload_n hx hb dX11_gameRefusal_72 rfl (lv_at hl 2 rfl) ?_
          refine xget (i := 0) (j := 0) (k := 4) (T := TX11) hx hb ht tb_iX11 hown hX hP rfl rfl rfl (by decide) tb_433 rfl dX11_gameRefusal_73 ?_
          refine lv_iload_n hx hb dX11_gameRefusal_76 rfl (lv_at hl 3 rfl) ?_
          obtain ⟨z_20, e_z_20, h⟩ := bi h
          refine roVi (rest := []) ⟨hx, hb, hml, hown, ht⟩ (c_X0_lives l D cy fu A_a a_name a_courage a_weight a_medals a_stood a_fled a_liked a_votes a_count a_living a_pride a_quota a_melted a_lost x1 z_20 e_z_20) (cV ht mv_X0_lives tb_775 rfl rfl ⟨Nat.le_of_ble_eq_true rfl, Nat.le_of_ble_eq_true rfl⟩) (P_sub hP [2] rfl) hX rfl rfl rfl hl.1 rfl (Nat.le_of_ble_eq_true rfl) dX11_gameRefusal_77 ⟨Nat.le_of_ble_eq_true rfl, Nat.le_of_ble_eq_true rfl⟩ ?_
          refine lv_if_eq (tgt := 98) hx hb dX11_gameRefusal_80 (by decide) (fun c_21 => ?_) (fun c_21 => ?_)
          · have h := it c_21 h
            refine lv_bipush (v := 7) hx hb dX11_gameRefusal_98 (by decide) ?_
            cases h
            exact W.iret hx hb hr (fun _ ht9 _ => ⟨_, rfl, rfl, ht9⟩) (fun _ hq => by cases hq) dX11_gameRefusal_100
          · have h := ie c_21 h
            refine lv_aload_n hx hb dX11_gameRefusal_83 rfl (lv_at hl 2 rfl) ?_
            refine xget (i := 0) (j := 0) (k := 4) (T := TX11) hx hb ht tb_iX11 hown hX hP rfl rfl rfl (by decide) tb_433 rfl dX11_gameRefusal_84 ?_
            refine lv_iload_n hx hb dX11_gameRefusal_87 rfl (lv_at hl 4 rfl) ?_
            obtain ⟨z_22, e_z_22, h⟩ := bi h
            refine roVi (rest := []) ⟨hx, hb, hml, hown, ht⟩ (c_X0_lives l D cy fu A_a a_name a_courage a_weight a_medals a_stood a_fled a_liked a_votes a_count a_living a_pride a_quota a_melted a_lost x2 z_22 e_z_22) (cV ht mv_X0_lives tb_775 rfl rfl ⟨Nat.le_of_ble_eq_true rfl, Nat.le_of_ble_eq_true rfl⟩) (P_sub hP [2] rfl) hX rfl rfl rfl hl.1 rfl (Nat.le_of_ble_eq_true rfl) dX11_gameRefusal_88 ⟨Nat.le_of_ble_eq_true rfl, Nat.le_of_ble_eq_true rfl⟩ ?_
            refine lv_if_eq (tgt := 98) hx hb dX11_gameRefusal_91 (by decide) (fun c_23 => ?_) (fun c_23 => ?_)
            · have h := it c_23 h
              refine lv_bipush (v := 7) hx hb dX11_gameRefusal_98 (by decide) ?_
              cases h
              exact W.iret hx hb hr (fun _ ht9 _ => ⟨_, rfl, rfl, ht9⟩) (fun _ hq => by cases hq) dX11_gameRefusal_100
            · have h := ie c_23 h
              refine lv_iconst (v := 0) hx hb dX11_gameRefusal_94 (by decide) ?_
              refine lv_goto (tgt := 100) hx hb dX11_gameRefusal_95 (by decide) ?_
              cases h
              exact W.iret hx hb hr (fun _ ht9 _ => ⟨_, rfl, rfl, ht9⟩) (fun _ hq => by cases hq) dX11_gameRefusal_100
        · have h := ie c_19 h
          refine lv_iload hx hb dX11_gameRefusal_69 (lv_at hl 0 rfl) ?_
          cases h
          exact W.iret hx hb hr (fun _ ht9 _ => ⟨_, rfl, rfl, ht9⟩) (fun _ hq => by cases hq) dX11_gameRefusal_71
      · have h := it c_17 h
        refine lv_iconst (v := 1) hx hb dX11_gameRefusal_53 (by decide) ?_
        cases h
        exact W.iret hx hb hr (fun _ ht9 _ => ⟨_, rfl, rfl, ht9⟩) (fun _ hq => by cases hq) dX11_gameRefusal_54
  unfold f_X11_gameRefusal at h
  refine lv_aload_n hx hb dX11_gameRefusal_0 rfl (lv_at hl 0 rfl) ?_
  refine xget (i := 0) (j := 0) (k := 4) (T := TX11) hx hb ht tb_iX11 hown hX hP rfl rfl rfl (by decide) tb_433 rfl dX11_gameRefusal_1 ?_
  refine lv_iload_n hx hb dX11_gameRefusal_4 rfl (lv_at hl 1 rfl) ?_
  obtain ⟨z_24, e_z_24, h⟩ := bi h
  refine roVi (rest := []) ⟨hx, hb, hml, hown, ht⟩ (c_X0_isMan l D cy fu A_a a_name a_courage a_weight a_medals a_stood a_fled a_liked a_votes a_count a_living a_pride a_quota a_melted a_lost x1 z_24 e_z_24) (cV ht mv_X0_isMan tb_774 rfl rfl ⟨Nat.le_of_ble_eq_true rfl, Nat.le_of_ble_eq_true rfl⟩) (P_sub hP [2] rfl) hX rfl rfl rfl hl.1 rfl (Nat.le_of_ble_eq_true rfl) dX11_gameRefusal_5 ⟨Nat.le_of_ble_eq_true rfl, Nat.le_of_ble_eq_true rfl⟩ ?_
  refine lv_if_eq (tgt := 31) hx hb dX11_gameRefusal_8 (by decide) (fun c_25 => ?_) (fun c_25 => ?_)
  · have h := it c_25 h
    refine lv_iconst (v := 0) hx hb dX11_gameRefusal_31 (by decide) ?_
    exact j32 0 ls (lv_sub hl [0, 1, 2, 3, 4] rfl) h
  · have h := ie c_25 h
    refine lv_aload_n hx hb dX11_gameRefusal_11 rfl (lv_at hl 0 rfl) ?_
    refine xget (i := 0) (j := 0) (k := 4) (T := TX11) hx hb ht tb_iX11 hown hX hP rfl rfl rfl (by decide) tb_433 rfl dX11_gameRefusal_12 ?_
    refine lv_iload_n hx hb dX11_gameRefusal_15 rfl (lv_at hl 2 rfl) ?_
    obtain ⟨z_26, e_z_26, h⟩ := bi h
    refine roVi (rest := []) ⟨hx, hb, hml, hown, ht⟩ (c_X0_isMan l D cy fu A_a a_name a_courage a_weight a_medals a_stood a_fled a_liked a_votes a_count a_living a_pride a_quota a_melted a_lost x2 z_26 e_z_26) (cV ht mv_X0_isMan tb_774 rfl rfl ⟨Nat.le_of_ble_eq_true rfl, Nat.le_of_ble_eq_true rfl⟩) (P_sub hP [2] rfl) hX rfl rfl rfl hl.1 rfl (Nat.le_of_ble_eq_true rfl) dX11_gameRefusal_16 ⟨Nat.le_of_ble_eq_true rfl, Nat.le_of_ble_eq_true rfl⟩ ?_
    refine lv_if_eq (tgt := 31) hx hb dX11_gameRefusal_19 (by decide) (fun c_27 => ?_) (fun c_27 => ?_)
    · have h := it c_27 h
      refine lv_iconst (v := 0) hx hb dX11_gameRefusal_31 (by decide) ?_
      exact j32 0 ls (lv_sub hl [0, 1, 2, 3, 4] rfl) h
    · have h := ie c_27 h
      refine lv_iload_n hx hb dX11_gameRefusal_22 rfl (lv_at hl 1 rfl) ?_
      refine lv_iload_n hx hb dX11_gameRefusal_23 rfl (lv_at hl 2 rfl) ?_
      refine lv_icmp_eq (tgt := 31) hx hb dX11_gameRefusal_24 (by decide) (fun c_28 => ?_) (fun c_28 => ?_)
      · have h := it c_28 h
        refine lv_iconst (v := 0) hx hb dX11_gameRefusal_31 (by decide) ?_
        exact j32 0 ls (lv_sub hl [0, 1, 2, 3, 4] rfl) h
      · have h := ie c_28 h
        refine lv_iconst (v := 1) hx hb dX11_gameRefusal_27 (by decide) ?_
        refine lv_goto (tgt := 32) hx hb dX11_gameRefusal_28 (by decide) ?_
        exact j32 1 ls (lv_sub hl [0, 1, 2, 3, 4] rfl) h
theorem dX4_valueIfStood_0 : decode cX4_valueIfStood 0 = .ok (.aload_n 0, 1) := by decide +kernel
theorem dX4_valueIfStood_1 : decode cX4_valueIfStood 1 = .ok (.getfield 12, 3) := by decide +kernel
theorem dX4_valueIfStood_4 : decode cX4_valueIfStood 4 = .ok (.aload_n 0, 1) := by decide +kernel
theorem dX4_valueIfStood_5 : decode cX4_valueIfStood 5 = .ok (.getfield 12, 3) := by decide +kernel
theorem dX4_valueIfStood_8 : decode cX4_valueIfStood 8 = .ok (.aload_n 0, 1) := by decide +kernel
theorem dX4_valueIfStood_9 : decode cX4_valueIfStood 9 = .ok (.getfield 18, 3) := by decide +kernel
theorem dX4_valueIfStood_12 : decode cX4_valueIfStood 12 = .ok (.iload_n 3, 1) := by decide +kernel
theorem dX4_valueIfStood_13 : decode cX4_valueIfStood 13 = .ok (.iaload, 1) := by decide +kernel
theorem dX4_valueIfStood_14 : decode cX4_valueIfStood 14 = .ok (.invokevirtual 62, 3) := by decide +kernel
theorem dX4_valueIfStood_17 : decode cX4_valueIfStood 17 = .ok (.invokevirtual 66, 3) := by decide +kernel
theorem dX4_valueIfStood_20 : decode cX4_valueIfStood 20 = .ok (.istore 4, 2) := by decide +kernel
theorem dX4_valueIfStood_22 : decode cX4_valueIfStood 22 = .ok (.aload_n 0, 1) := by decide +kernel
theorem dX4_valueIfStood_23 : decode cX4_valueIfStood 23 = .ok (.getfield 12, 3) := by decide +kernel
theorem dX4_valueIfStood_26 : decode cX4_valueIfStood 26 = .ok (.iload 4, 2) := by decide +kernel
theorem dX4_valueIfStood_28 : decode cX4_valueIfStood 28 = .ok (.invokevirtual 69, 3) := by decide +kernel
theorem dX4_valueIfStood_31 : decode cX4_valueIfStood 31 = .ok (.istore 5, 2) := by decide +kernel
theorem dX4_valueIfStood_33 : decode cX4_valueIfStood 33 = .ok (.aload_n 0, 1) := by decide +kernel
theorem dX4_valueIfStood_34 : decode cX4_valueIfStood 34 = .ok (.iload_n 1, 1) := by decide +kernel
theorem dX4_valueIfStood_35 : decode cX4_valueIfStood 35 = .ok (.iload_n 2, 1) := by decide +kernel
theorem dX4_valueIfStood_36 : decode cX4_valueIfStood 36 = .ok (.iload_n 3, 1) := by decide +kernel
theorem dX4_valueIfStood_37 : decode cX4_valueIfStood 37 = .ok (.iconst 1, 1) := by decide +kernel
theorem dX4_valueIfStood_38 : decode cX4_valueIfStood 38 = .ok (.iadd, 1) := by decide +kernel
theorem dX4_valueIfStood_39 : decode cX4_valueIfStood 39 = .ok (.invokevirtual 86, 3) := by decide +kernel
theorem dX4_valueIfStood_42 : decode cX4_valueIfStood 42 = .ok (.istore 6, 2) := by decide +kernel
theorem dX4_valueIfStood_44 : decode cX4_valueIfStood 44 = .ok (.iload 5, 2) := by decide +kernel
theorem dX4_valueIfStood_46 : decode cX4_valueIfStood 46 = .ok (.ifCond .eq 12, 3) := by decide +kernel
theorem dX4_valueIfStood_49 : decode cX4_valueIfStood 49 = .ok (.aload_n 0, 1) := by decide +kernel
theorem dX4_valueIfStood_50 : decode cX4_valueIfStood 50 = .ok (.getfield 12, 3) := by decide +kernel
theorem dX4_valueIfStood_53 : decode cX4_valueIfStood 53 = .ok (.iload 4, 2) := by decide +kernel
theorem dX4_valueIfStood_55 : decode cX4_valueIfStood 55 = .ok (.invokevirtual 82, 3) := by decide +kernel
theorem dX4_valueIfStood_58 : decode cX4_valueIfStood 58 = .ok (.iload 6, 2) := by decide +kernel
theorem dX4_valueIfStood_60 : decode cX4_valueIfStood 60 = .ok (.ireturn, 1) := by decide +kernel
theorem mv_X4_valueIfStood : MV yX4_valueIfStood RX4 cX4_valueIfStood 7 (some .int) 3 := ⟨tb_1117, tb_1116, ts_31, tb_13, by decide +kernel, by decide +kernel, by decide +kernel⟩
theorem dX4_valueFrom_0 : decode cX4_valueFrom 0 = .ok (.iload_n 3, 1) := by decide +kernel
theorem dX4_valueFrom_1 : decode cX4_valueFrom 1 = .ok (.aload_n 0, 1) := by decide +kernel
theorem dX4_valueFrom_2 : decode cX4_valueFrom 2 = .ok (.getfield 22, 3) := by decide +kernel
theorem dX4_valueFrom_5 : decode cX4_valueFrom 5 = .ok (.if_icmp .lt 23, 3) := by decide +kernel
theorem dX4_valueFrom_8 : decode cX4_valueFrom 8 = .ok (.aload_n 0, 1) := by decide +kernel
theorem dX4_valueFrom_9 : decode cX4_valueFrom 9 = .ok (.getfield 12, 3) := by decide +kernel
theorem dX4_valueFrom_12 : decode cX4_valueFrom 12 = .ok (.getfield 52, 3) := by decide +kernel
theorem dX4_valueFrom_15 : decode cX4_valueFrom 15 = .ok (.iload_n 1, 1) := by decide +kernel
theorem dX4_valueFrom_16 : decode cX4_valueFrom 16 = .ok (.iaload, 1) := by decide +kernel
theorem dX4_valueFrom_17 : decode cX4_valueFrom 17 = .ok (.aload_n 0, 1) := by decide +kernel
theorem dX4_valueFrom_18 : decode cX4_valueFrom 18 = .ok (.getfield 12, 3) := by decide +kernel
theorem dX4_valueFrom_21 : decode cX4_valueFrom 21 = .ok (.getfield 52, 3) := by decide +kernel
theorem dX4_valueFrom_24 : decode cX4_valueFrom 24 = .ok (.iload_n 2, 1) := by decide +kernel
theorem dX4_valueFrom_25 : decode cX4_valueFrom 25 = .ok (.iaload, 1) := by decide +kernel
theorem dX4_valueFrom_26 : decode cX4_valueFrom 26 = .ok (.isub, 1) := by decide +kernel
theorem dX4_valueFrom_27 : decode cX4_valueFrom 27 = .ok (.ireturn, 1) := by decide +kernel
theorem dX4_valueFrom_28 : decode cX4_valueFrom 28 = .ok (.iload_n 3, 1) := by decide +kernel
theorem dX4_valueFrom_29 : decode cX4_valueFrom 29 = .ok (.iconst 2, 1) := by decide +kernel
theorem dX4_valueFrom_30 : decode cX4_valueFrom 30 = .ok (.irem, 1) := by decide +kernel
theorem dX4_valueFrom_31 : decode cX4_valueFrom 31 = .ok (.ifCond .ne 7, 3) := by decide +kernel
theorem dX4_valueFrom_34 : decode cX4_valueFrom 34 = .ok (.iconst 1, 1) := by decide +kernel
theorem dX4_valueFrom_35 : decode cX4_valueFrom 35 = .ok (.goto 4, 3) := by decide +kernel
theorem dX4_valueFrom_38 : decode cX4_valueFrom 38 = .ok (.iconst 0, 1) := by decide +kernel
theorem dX4_valueFrom_39 : decode cX4_valueFrom 39 = .ok (.istore 4, 2) := by decide +kernel
theorem dX4_valueFrom_41 : decode cX4_valueFrom 41 = .ok (.aload_n 0, 1) := by decide +kernel
theorem dX4_valueFrom_42 : decode cX4_valueFrom 42 = .ok (.iload_n 1, 1) := by decide +kernel
theorem dX4_valueFrom_43 : decode cX4_valueFrom 43 = .ok (.iload_n 2, 1) := by decide +kernel
theorem dX4_valueFrom_44 : decode cX4_valueFrom 44 = .ok (.iload_n 3, 1) := by decide +kernel
theorem dX4_valueFrom_45 : decode cX4_valueFrom 45 = .ok (.iconst 1, 1) := by decide +kernel
theorem dX4_valueFrom_46 : decode cX4_valueFrom 46 = .ok (.iadd, 1) := by decide +kernel
theorem dX4_valueFrom_47 : decode cX4_valueFrom 47 = .ok (.invokevirtual 86, 3) := by decide +kernel
theorem dX4_valueFrom_50 : decode cX4_valueFrom 50 = .ok (.istore 5, 2) := by decide +kernel
theorem dX4_valueFrom_52 : decode cX4_valueFrom 52 = .ok (.aload_n 0, 1) := by decide +kernel
theorem dX4_valueFrom_53 : decode cX4_valueFrom 53 = .ok (.getfield 12, 3) := by decide +kernel
theorem dX4_valueFrom_56 : decode cX4_valueFrom 56 = .ok (.iload 4, 2) := by decide +kernel
theorem dX4_valueFrom_58 : decode cX4_valueFrom 58 = .ok (.ifCond .eq 7, 3) := by decide +kernel
theorem dX4_valueFrom_61 : decode cX4_valueFrom 61 = .ok (.iload_n 1, 1) := by decide +kernel
theorem dX4_valueFrom_62 : decode cX4_valueFrom 62 = .ok (.goto 4, 3) := by decide +kernel
theorem dX4_valueFrom_65 : decode cX4_valueFrom 65 = .ok (.iload_n 2, 1) := by decide +kernel
theorem dX4_valueFrom_66 : decode cX4_valueFrom 66 = .ok (.aload_n 0, 1) := by decide +kernel
theorem dX4_valueFrom_67 : decode cX4_valueFrom 67 = .ok (.getfield 18, 3) := by decide +kernel
theorem dX4_valueFrom_70 : decode cX4_valueFrom 70 = .ok (.iload_n 3, 1) := by decide +kernel
theorem dX4_valueFrom_71 : decode cX4_valueFrom 71 = .ok (.iaload, 1) := by decide +kernel
theorem dX4_valueFrom_72 : decode cX4_valueFrom 72 = .ok (.invokevirtual 58, 3) := by decide +kernel
theorem dX4_valueFrom_75 : decode cX4_valueFrom 75 = .ok (.ifCond .ne 6, 3) := by decide +kernel
theorem dX4_valueFrom_78 : decode cX4_valueFrom 78 = .ok (.iload 5, 2) := by decide +kernel
theorem dX4_valueFrom_80 : decode cX4_valueFrom 80 = .ok (.ireturn, 1) := by decide +kernel
theorem dX4_valueFrom_81 : decode cX4_valueFrom 81 = .ok (.aload_n 0, 1) := by decide +kernel
theorem dX4_valueFrom_82 : decode cX4_valueFrom 82 = .ok (.iload_n 1, 1) := by decide +kernel
theorem dX4_valueFrom_83 : decode cX4_valueFrom 83 = .ok (.iload_n 2, 1) := by decide +kernel
theorem dX4_valueFrom_84 : decode cX4_valueFrom 84 = .ok (.iload_n 3, 1) := by decide +kernel
theorem dX4_valueFrom_85 : decode cX4_valueFrom 85 = .ok (.invokevirtual 89, 3) := by decide +kernel
theorem dX4_valueFrom_88 : decode cX4_valueFrom 88 = .ok (.istore 6, 2) := by decide +kernel
theorem dX4_valueFrom_90 : decode cX4_valueFrom 90 = .ok (.iload 4, 2) := by decide +kernel
theorem dX4_valueFrom_92 : decode cX4_valueFrom 92 = .ok (.ifCond .eq 13, 3) := by decide +kernel
theorem dX4_valueFrom_95 : decode cX4_valueFrom 95 = .ok (.iload 5, 2) := by decide +kernel
theorem dX4_valueFrom_97 : decode cX4_valueFrom 97 = .ok (.iload 6, 2) := by decide +kernel
theorem dX4_valueFrom_99 : decode cX4_valueFrom 99 = .ok (.invokestatic 36, 3) := by decide +kernel
theorem dX4_valueFrom_102 : decode cX4_valueFrom 102 = .ok (.goto 10, 3) := by decide +kernel
theorem dX4_valueFrom_105 : decode cX4_valueFrom 105 = .ok (.iload 5, 2) := by decide +kernel
theorem dX4_valueFrom_107 : decode cX4_valueFrom 107 = .ok (.iload 6, 2) := by decide +kernel
theorem dX4_valueFrom_109 : decode cX4_valueFrom 109 = .ok (.invokestatic 30, 3) := by decide +kernel
theorem dX4_valueFrom_112 : decode cX4_valueFrom 112 = .ok (.ireturn, 1) := by decide +kernel
theorem mv_X4_valueFrom : MV yX4_valueFrom RX4 cX4_valueFrom 7 (some .int) 3 := ⟨tb_1113, tb_1112, ts_30, tb_13, by decide +kernel, by decide +kernel, by decide +kernel⟩
def f_X4_valueIfStood (fu : Nat) (rec : (Nat → Int32) → Int32 → (Nat → Int32) → (Nat → Int32) → (Nat → Int32) → (Nat → Int32) → (Nat → Int32) → Int32 → Int32 → Int32 → Int32 → Int32 → Int32 → (Option (Int32 × (Nat → Int32) × (Nat → Int32)))) (f_sizes : Nat → Int32) (f_dangers : Int32) (a_courage : Nat → Int32) (a_weight : Nat → Int32) (a_medals : Nat → Int32) (a_liked : Nat → Int32) (a_votes : Nat → Int32) (a_count : Int32) (a_living : Int32) (a_pride : Int32) (x1 : Int32) (x2 : Int32) (x3 : Int32) : Option (Int32 × (Nat → Int32) × (Nat → Int32)) := (rdI f_sizes 4 x3).bind fun y_8 => (f_X0_runners fu a_courage a_medals a_count a_living a_pride y_8).bind fun z_9 => (f_X0_winnerOf fu a_weight a_liked a_votes a_count a_living z_9).bind fun z_10 => (f_X0_pin fu a_medals a_count z_10.1).bind fun z_11 => (rec f_sizes f_dangers a_courage a_weight z_11.2 a_liked z_10.2 a_count a_living a_pride x1 x2 (x3 + 1)).bind fun z_12 => (if z_11.1 = 0 then some (z_12.1, z_12.2.1, z_12.2.2) else (f_X0_unpin fu z_12.2.1 a_count z_10.1).bind fun z_14 => some (z_12.1, z_14, z_12.2.2))
abbrev rm_X4_valueIfStood (F L : Nat) : Room := { frames := F + 2, cells := 0, slots := 0, locals := L + 50 }
set_option maxHeartbeats 4000000 in
set_option maxRecDepth 100000 in
theorem c_X4_valueIfStood (l : Launch) (D : va_G) (cy : Nat → ClassId) (fu : Nat) (rec : (Nat → Int32) → Int32 → (Nat → Int32) → (Nat → Int32) → (Nat → Int32) → (Nat → Int32) → (Nat → Int32) → Int32 → Int32 → Int32 → Int32 → Int32 → Int32 → (Option (Int32 × (Nat → Int32) × (Nat → Int32)))) (F L : Nat) (hrec : ∀ (A_f : Nat → Nat) (f_sizes : Nat → Int32) (f_dangers : Int32) (A_a : Nat → Nat) (a_name : Nat → Int64) (a_courage : Nat → Int32) (a_weight : Nat → Int32) (a_medals : Nat → Int32) (a_stood : Nat → Int32) (a_fled : Nat → Int32) (a_liked : Nat → Int32) (a_votes : Nat → Int32) (a_count : Int32) (a_living : Int32) (a_pride : Int32) (a_quota : Int32) (a_melted : Int32) (a_lost : Int32) (x1 : Int32) (x2 : Int32) (x3 : Int32) (res : Int32 × (Nat → Int32) × (Nat → Int32)) (h : rec f_sizes f_dangers a_courage a_weight a_medals a_liked a_votes a_count a_living a_pride x1 x2 x3 = some res) (A : Nat → Prop) (hA : A = adr [bl_X4 cy A_f (A_a 0) f_sizes f_dangers, bl_X0 cy A_a a_name a_courage a_weight a_medals a_stood a_fled a_liked a_votes a_count a_living a_pride a_quota a_melted a_lost]) (W1 : List va_W) (hW1 : W1 = [bl_X4 cy A_f (A_a 0) f_sizes f_dangers, bl_X0 cy A_a a_name a_courage a_weight res.2.1 a_stood a_fled a_liked res.2.2 a_count a_living a_pride a_quota a_melted a_lost]), Met l yX4_valueFrom (WW yX4_valueFrom cX4_valueFrom 7 (some .int)) { frames := F, cells := 0, slots := 0, locals := L } (Ed D cy [.ref (A_f 0), .int x1, .int x2, .int x3] [bl_X4 cy A_f (A_a 0) f_sizes f_dangers, bl_X0 cy A_a a_name a_courage a_weight a_medals a_stood a_fled a_liked a_votes a_count a_living a_pride a_quota a_melted a_lost]) (Qei D res.1 A W1) 0 0 A) (A_f : Nat → Nat) (f_sizes : Nat → Int32) (f_dangers : Int32) (A_a : Nat → Nat) (a_name : Nat → Int64) (a_courage : Nat → Int32) (a_weight : Nat → Int32) (a_medals : Nat → Int32) (a_stood : Nat → Int32) (a_fled : Nat → Int32) (a_liked : Nat → Int32) (a_votes : Nat → Int32) (a_count : Int32) (a_living : Int32) (a_pride : Int32) (a_quota : Int32) (a_melted : Int32) (a_lost : Int32) (x1 : Int32) (x2 : Int32) (x3 : Int32) (res : Int32 × (Nat → Int32) × (Nat → Int32)) (h : f_X4_valueIfStood fu rec f_sizes f_dangers a_courage a_weight a_medals a_liked a_votes a_count a_living a_pride x1 x2 x3 = some res) (A : Nat → Prop) (hA : A = adr [bl_X4 cy A_f (A_a 0) f_sizes f_dangers, bl_X0 cy A_a a_name a_courage a_weight a_medals a_stood a_fled a_liked a_votes a_count a_living a_pride a_quota a_melted a_lost]) (W1 : List va_W) (hW1 : W1 = [bl_X4 cy A_f (A_a 0) f_sizes f_dangers, bl_X0 cy A_a a_name a_courage a_weight res.2.1 a_stood a_fled a_liked res.2.2 a_count a_living a_pride a_quota a_melted a_lost]) : Met l yX4_valueIfStood (WW yX4_valueIfStood cX4_valueIfStood 7 (some .int)) (rm_X4_valueIfStood F L) (Ed D cy [.ref (A_f 0), .int x1, .int x2, .int x3] [bl_X4 cy A_f (A_a 0) f_sizes f_dangers, bl_X0 cy A_a a_name a_courage a_weight a_medals a_stood a_fled a_liked a_votes a_count a_living a_pride a_quota a_melted a_lost]) (Qei D res.1 A W1) 0 0 A := by
  refine Met.ofW (cc := cX4_valueIfStood) (maxL := 7) (ret := (some .int)) (by decide) rfl ?_
  intro p e s m args below meth c s₁ B hml hv
  obtain ⟨hargs, hP, hX, hD0⟩ := hv
  have hx := B.exec
  have hb := B.bytes
  have hr := B.returns
  have ht : ∀ w ∈ lw_gd, w.before args s = true := fun w hw => atoms_spec (ws := WW yX4_valueIfStood cX4_valueIfStood 7 (some .int)) B.pre w (List.mem_cons_of_mem _ hw)
  have hown : s.vm.findClass RX4 = some m.cls := findClass_of_methodNamed B.named
  have hlocks := B.notSynchronized
  have hP : PD D A [bl_X4 cy A_f (A_a 0) f_sizes f_dangers, bl_X0 cy A_a a_name a_courage a_weight a_medals a_stood a_fled a_liked a_votes a_count a_living a_pride a_quota a_melted a_lost] s.heap := ⟨hP, by rw [hA]; exact hD0.own⟩
  have hS : va_S A s.heap s.heap [] := va_S.rf
  obtain ⟨ls, hl, hent⟩ := ent (m := m) (n := 7) hargs (Nat.le_of_ble_eq_true rfl) (lv := [(0, .ref (A_f 0)), (1, .int x1), (2, .int x2), (3, .int x3)]) rfl
  rw [hent]
  clear hent
  unfold f_X4_valueIfStood at h
  refine lv_aload_n hx hb dX4_valueIfStood_0 rfl (lv_at hl 0 rfl) ?_
  refine xget (i := 0) (j := 0) (k := 0) (T := TX4) hx hb ht tb_iX4 hown hX hP.1 rfl rfl rfl (by decide) tb_368 rfl dX4_valueIfStood_1 ?_
  refine lv_aload_n hx hb dX4_valueIfStood_4 rfl (lv_at hl 0 rfl) ?_
  refine xget (i := 0) (j := 0) (k := 0) (T := TX4) hx hb ht tb_iX4 hown hX hP.1 rfl rfl rfl (by decide) tb_368 rfl dX4_valueIfStood_5 ?_
  refine lv_aload_n hx hb dX4_valueIfStood_8 rfl (lv_at hl 0 rfl) ?_
  refine xget (i := 0) (j := 0) (k := 1) (T := TX4) hx hb ht tb_iX4 hown hX hP.1 rfl rfl rfl (by decide) tb_369 rfl dX4_valueIfStood_9 ?_
  refine lv_iload_n hx hb dX4_valueIfStood_12 rfl (lv_at hl 3 rfl) ?_
  obtain ⟨y_8, e_y_8, h⟩ := bi h
  refine xiald (i0 := 0) (j0 := 1) hx hb hX hP.1 rfl rfl e_y_8 dX4_valueIfStood_13 ?_
  obtain ⟨z_9, e_z_9, h⟩ := bi h
  refine roVi (rest := [.ref (A_a 0)]) ⟨hx, hb, hml, hown, ht⟩ (c_X0_runners l D cy fu A_a a_name a_courage a_weight a_medals a_stood a_fled a_liked a_votes a_count a_living a_pride a_quota a_melted a_lost y_8 z_9 e_z_9) (cV ht mv_X0_runners tb_1008 rfl rfl ⟨by show 1 + 1 ≤ F + 2; omega, by show 8 + (4 + 11) + (23) ≤ L + 50; omega⟩) (P_sub hP.1 [1] rfl) hX rfl rfl rfl hl.1 rfl (Nat.le_of_ble_eq_true rfl) dX4_valueIfStood_14 ⟨Nat.le_of_ble_eq_true rfl, Nat.le_of_ble_eq_true rfl⟩ ?_
  obtain ⟨z_10, e_z_10, h⟩ := bi h
  refine efVi (rest := []) ⟨hx, hb, hml, hown, ht⟩ (c_X0_winnerOf l D cy fu A_a a_name a_courage a_weight a_medals a_stood a_fled a_liked a_votes a_count a_living a_pride a_quota a_melted a_lost z_9 z_10 e_z_10 _ rfl _ rfl) (cV ht mv_X0_winnerOf tb_1013 rfl rfl ⟨by show 1 + 1 ≤ F + 2; omega, by show 8 + (5 + 11) + (26) ≤ L + 50; omega⟩) hP hS hX [1] rfl rfl rfl rfl rfl rfl hl.1 rfl (Nat.le_of_ble_eq_true rfl) dX4_valueIfStood_17 ⟨Nat.le_of_ble_eq_true rfl, Nat.le_of_ble_eq_true rfl⟩ (fun H locs hP hS => ?_)
  have hP : PD D A [bl_X4 cy A_f (A_a 0) f_sizes f_dangers, bl_X0 cy A_a a_name a_courage a_weight a_medals a_stood a_fled a_liked z_10.2 a_count a_living a_pride a_quota a_melted a_lost] H := hP
  refine lv_istore (lv' := [(4, .int z_10.1), (0, .ref (A_f 0)), (1, .int x1), (2, .int x2), (3, .int x3)]) hx hb dX4_valueIfStood_20 hl (by decide) rfl (fun ls hl => ?_)
  refine lv_aload_n hx hb dX4_valueIfStood_22 rfl (lv_at hl 1 rfl) ?_
  refine xget (i := 0) (j := 0) (k := 0) (T := TX4) hx hb ht tb_iX4 hown hX hP.1 rfl rfl rfl (by decide) tb_368 rfl dX4_valueIfStood_23 ?_
  refine lv_iload hx hb dX4_valueIfStood_26 (lv_at hl 0 rfl) ?_
  obtain ⟨z_11, e_z_11, h⟩ := bi h
  refine efVi (rest := []) ⟨hx, hb, hml, hown, ht⟩ (c_X0_pin l D cy fu A_a a_name a_courage a_weight a_medals a_stood a_fled a_liked z_10.2 a_count a_living a_pride a_quota a_melted a_lost z_10.1 z_11 e_z_11 _ rfl _ rfl) (cV ht mv_X0_pin tb_1014 rfl rfl ⟨by show 1 + 1 ≤ F + 2; omega, by show 8 + (2 + 11) + (21) ≤ L + 50; omega⟩) hP hS hX [1] rfl rfl rfl rfl rfl rfl hl.1 rfl (Nat.le_of_ble_eq_true rfl) dX4_valueIfStood_28 ⟨Nat.le_of_ble_eq_true rfl, Nat.le_of_ble_eq_true rfl⟩ (fun H locs hP hS => ?_)
  have hP : PD D A [bl_X4 cy A_f (A_a 0) f_sizes f_dangers, bl_X0 cy A_a a_name a_courage a_weight z_11.2 a_stood a_fled a_liked z_10.2 a_count a_living a_pride a_quota a_melted a_lost] H := hP
  refine lv_istore (lv' := [(5, .int z_11.1), (4, .int z_10.1), (0, .ref (A_f 0)), (1, .int x1), (2, .int x2), (3, .int x3)]) hx hb dX4_valueIfStood_31 hl (by decide) rfl (fun ls hl => ?_)
  refine lv_aload_n hx hb dX4_valueIfStood_33 rfl (lv_at hl 2 rfl) ?_
  refine lv_iload_n hx hb dX4_valueIfStood_34 rfl (lv_at hl 3 rfl) ?_
  refine lv_iload_n hx hb dX4_valueIfStood_35 rfl (lv_at hl 4 rfl) ?_
  refine lv_iload_n hx hb dX4_valueIfStood_36 rfl (lv_at hl 5 rfl) ?_
  refine lv_iconst (v := 1) hx hb dX4_valueIfStood_37 (by decide) ?_
  refine lv_iadd hx hb dX4_valueIfStood_38 ?_
  obtain ⟨z_12, e_z_12, h⟩ := bi h
  refine efVi (rest := []) ⟨hx, hb, hml, hown, ht⟩ (hrec A_f f_sizes f_dangers A_a a_name a_courage a_weight z_11.2 a_stood a_fled a_liked z_10.2 a_count a_living a_pride a_quota a_melted a_lost x1 x2 (x3 + 1) z_12 e_z_12 _ rfl _ rfl) (cV ht mv_X4_valueFrom tb_1110 rfl rfl ⟨by show F + 1 ≤ F + 2; omega, by show 8 + (7 + 11) + (L) ≤ L + 50; omega⟩) hP hS hX [0, 1] rfl rfl rfl rfl rfl rfl hl.1 rfl (Nat.le_of_ble_eq_true rfl) dX4_valueIfStood_39 ⟨Nat.le_of_ble_eq_true rfl, Nat.le_of_ble_eq_true rfl⟩ (fun H locs hP hS => ?_)
  have hP : PD D A [bl_X4 cy A_f (A_a 0) f_sizes f_dangers, bl_X0 cy A_a a_name a_courage a_weight z_12.2.1 a_stood a_fled a_liked z_12.2.2 a_count a_living a_pride a_quota a_melted a_lost] H := hP
  refine lv_istore (lv' := [(6, .int z_12.1), (5, .int z_11.1), (4, .int z_10.1), (0, .ref (A_f 0)), (1, .int x1), (2, .int x2), (3, .int x3)]) hx hb dX4_valueIfStood_42 hl (by decide) rfl (fun ls hl => ?_)
  refine lv_iload hx hb dX4_valueIfStood_44 (lv_at hl 1 rfl) ?_
  refine lv_if_eq (tgt := 58) hx hb dX4_valueIfStood_46 (by decide) (fun c_13 => ?_) (fun c_13 => ?_)
  · have h := it c_13 h
    refine lv_iload hx hb dX4_valueIfStood_58 (lv_at hl 0 rfl) ?_
    cases h
    subst hW1
    exact W.iret hx hb hr (fun _ ht9 _ => ⟨⟨_, (), rfl, rfl, hPt ht9 hP.1⟩, hS.F ht9⟩) hS.2.2 dX4_valueIfStood_60
  · have h := ie c_13 h
    refine lv_aload_n hx hb dX4_valueIfStood_49 rfl (lv_at hl 3 rfl) ?_
    refine xget (i := 0) (j := 0) (k := 0) (T := TX4) hx hb ht tb_iX4 hown hX hP.1 rfl rfl rfl (by decide) tb_368 rfl dX4_valueIfStood_50 ?_
    refine lv_iload hx hb dX4_valueIfStood_53 (lv_at hl 2 rfl) ?_
    obtain ⟨z_14, e_z_14, h⟩ := bi h
    refine efVv (rest := []) ⟨hx, hb, hml, hown, ht⟩ (c_X0_unpin l D cy fu A_a a_name a_courage a_weight z_12.2.1 a_stood a_fled a_liked z_12.2.2 a_count a_living a_pride a_quota a_melted a_lost z_10.1 z_14 e_z_14 _ rfl _ rfl) (cV ht mv_X0_unpin tb_1015 rfl rfl ⟨by show 1 + 1 ≤ F + 2; omega, by show 8 + (2 + 11) + (21) ≤ L + 50; omega⟩) hP hS hX [1] rfl rfl rfl rfl rfl rfl hl.1 rfl (Nat.le_of_ble_eq_true rfl) dX4_valueIfStood_55 ⟨Nat.le_of_ble_eq_true rfl, Nat.le_of_ble_eq_true rfl⟩ (fun H locs hP hS => ?_)
    have hP : PD D A [bl_X4 cy A_f (A_a 0) f_sizes f_dangers, bl_X0 cy A_a a_name a_courage a_weight z_14 a_stood a_fled a_liked z_12.2.2 a_count a_living a_pride a_quota a_melted a_lost] H := hP
    refine lv_iload hx hb dX4_valueIfStood_58 (lv_at hl 0 rfl) ?_
    cases h
    subst hW1
    exact W.iret hx hb hr (fun _ ht9 _ => ⟨⟨_, (), rfl, rfl, hPt ht9 hP.1⟩, hS.F ht9⟩) hS.2.2 dX4_valueIfStood_60
