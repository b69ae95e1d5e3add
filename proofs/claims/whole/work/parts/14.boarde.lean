theorem dX11_most_0 : decode cX11_most 0 = .ok (.aload_n 0, 1) := by decide +kernel
theorem dX11_most_1 : decode cX11_most 1 = .ok (.iload_n 2, 1) := by decide +kernel
theorem dX11_most_2 : decode cX11_most 2 = .ok (.invokevirtual 111, 3) := by decide +kernel
theorem dX11_most_5 : decode cX11_most 5 = .ok (.astore 4, 2) := by decide +kernel
theorem dX11_most_7 : decode cX11_most 7 = .ok (.aload_n 0, 1) := by decide +kernel
theorem dX11_most_8 : decode cX11_most 8 = .ok (.iload_n 1, 1) := by decide +kernel
theorem dX11_most_9 : decode cX11_most 9 = .ok (.aload 4, 2) := by decide +kernel
theorem dX11_most_11 : decode cX11_most 11 = .ok (.iload_n 3, 1) := by decide +kernel
theorem dX11_most_12 : decode cX11_most 12 = .ok (.invokevirtual 338, 3) := by decide +kernel
theorem dX11_most_15 : decode cX11_most 15 = .ok (.istore 5, 2) := by decide +kernel
theorem dX11_most_17 : decode cX11_most 17 = .ok (.iload 5, 2) := by decide +kernel
theorem dX11_most_19 : decode cX11_most 19 = .ok (.ifCond .eq 10, 3) := by decide +kernel
theorem dX11_most_22 : decode cX11_most 22 = .ok (.aload_n 0, 1) := by decide +kernel
theorem dX11_most_23 : decode cX11_most 23 = .ok (.iload 5, 2) := by decide +kernel
theorem dX11_most_25 : decode cX11_most 25 = .ok (.invokevirtual 143, 3) := by decide +kernel
theorem dX11_most_28 : decode cX11_most 28 = .ok (.ireturn, 1) := by decide +kernel
theorem dX11_most_29 : decode cX11_most 29 = .ok (.aload_n 0, 1) := by decide +kernel
theorem dX11_most_30 : decode cX11_most 30 = .ok (.getfield 97, 3) := by decide +kernel
theorem dX11_most_33 : decode cX11_most 33 = .ok (.aload_n 0, 1) := by decide +kernel
theorem dX11_most_34 : decode cX11_most 34 = .ok (.getfield 29, 3) := by decide +kernel
theorem dX11_most_37 : decode cX11_most 37 = .ok (.aload 4, 2) := by decide +kernel
theorem dX11_most_39 : decode cX11_most 39 = .ok (.iload_n 3, 1) := by decide +kernel
theorem dX11_most_40 : decode cX11_most 40 = .ok (.invokevirtual 342, 3) := by decide +kernel
theorem dX11_most_43 : decode cX11_most 43 = .ok (.aload_n 0, 1) := by decide +kernel
theorem dX11_most_44 : decode cX11_most 44 = .ok (.aload_n 0, 1) := by decide +kernel
theorem dX11_most_45 : decode cX11_most 45 = .ok (.getfield 97, 3) := by decide +kernel
theorem dX11_most_48 : decode cX11_most 48 = .ok (.iload_n 1, 1) := by decide +kernel
theorem dX11_most_49 : decode cX11_most 49 = .ok (.invokevirtual 346, 3) := by decide +kernel
theorem dX11_most_52 : decode cX11_most 52 = .ok (.invokevirtual 193, 3) := by decide +kernel
theorem dX11_most_55 : decode cX11_most 55 = .ok (.ireturn, 1) := by decide +kernel
theorem mv_X11_most : MV yX11_most RX11 cX11_most 6 (some .int) 3 := ⟨tb_980, tb_978, tb_979, tb_1, by decide +kernel, by decide +kernel, by decide +kernel⟩
def f_X11_most (fu : Nat) (b_latestStatus : Int32) (y0_row : Nat → Int64) (y0_missing : Int32) (y0_many : Int32) (y1_row : Nat → Int64) (y1_missing : Int32) (y1_many : Int32) (y2_row : Nat → Int64) (y2_missing : Int32) (y2_many : Int32) (y3_row : Nat → Int64) (y3_missing : Int32) (y3_many : Int32) (a_name : Nat → Int64) (a_courage : Nat → Int32) (a_weight : Nat → Int32) (a_medals : Nat → Int32) (a_stood : Nat → Int32) (a_fled : Nat → Int32) (a_liked : Nat → Int32) (a_count : Int32) (a_living : Int32) (a_pride : Int32) (a_quota : Int32) (a_melted : Int32) (a_lost : Int32) (f_sizes : Nat → Int32) (f_dangers : Int32) (n_name : Nat → Int64) (n_courage : Nat → Int32) (n_weight : Nat → Int32) (n_medals : Nat → Int32) (n_stood : Nat → Int32) (n_fled : Nat → Int32) (n_liked : Nat → Int32) (n_votes : Nat → Int32) (n_count : Int32) (n_living : Int32) (n_pride : Int32) (n_quota : Int32) (n_melted : Int32) (n_lost : Int32) (x1 : Int32) (x2 : Int32) (x3 : Int32) : Option (Int32 × Int32 × (Nat → Int32) × Int32 × (Nat → Int64) × (Nat → Int32) × (Nat → Int32) × (Nat → Int32) × (Nat → Int32) × (Nat → Int32) × (Nat → Int32) × (Nat → Int32) × Int32 × Int32 × Int32 × Int32 × Int32 × Int32) := (if x2 = 0 then (f_X11_ordersRefusal fu y0_row y0_missing y0_many a_count a_living x1 x3).bind fun z_36 => (if z_36 = 0 then (f_X4_look fu f_sizes f_dangers n_name n_courage n_weight n_medals n_stood n_fled n_liked n_count n_living n_pride n_quota n_melted n_lost a_name a_courage a_weight a_medals a_stood a_fled a_liked a_count a_living a_pride a_quota a_melted a_lost y0_row y0_many x3).bind fun z_38 => (f_X4_mostFor fu z_38.1 z_38.2.1 z_38.2.2.2.1 z_38.2.2.2.2.1 z_38.2.2.2.2.2.1 z_38.2.2.2.2.2.2.2.2.1 n_votes z_38.2.2.2.2.2.2.2.2.2.1 z_38.2.2.2.2.2.2.2.2.2.2.1 z_38.2.2.2.2.2.2.2.2.2.2.2.1 x1).bind fun z_39 => (f_X11_answer fu b_latestStatus z_39.1).bind fun z_40 => some (z_40.1, z_40.2, z_38.1, z_38.2.1, z_38.2.2.1, z_38.2.2.2.1, z_38.2.2.2.2.1, z_39.2.1, z_38.2.2.2.2.2.2.1, z_38.2.2.2.2.2.2.2.1, z_38.2.2.2.2.2.2.2.2.1, z_39.2.2, z_38.2.2.2.2.2.2.2.2.2.1, z_38.2.2.2.2.2.2.2.2.2.2.1, z_38.2.2.2.2.2.2.2.2.2.2.2.1, z_38.2.2.2.2.2.2.2.2.2.2.2.2.1, z_38.2.2.2.2.2.2.2.2.2.2.2.2.2.1, z_38.2.2.2.2.2.2.2.2.2.2.2.2.2.2) else (f_X11_refuse fu b_latestStatus z_36).bind fun z_41 => some (z_41.1, z_41.2, f_sizes, f_dangers, n_name, n_courage, n_weight, n_medals, n_stood, n_fled, n_liked, n_votes, n_count, n_living, n_pride, n_quota, n_melted, n_lost)) else (if x2 = 1 then (f_X11_ordersRefusal fu y1_row y1_missing y1_many a_count a_living x1 x3).bind fun z_43 => (if z_43 = 0 then (f_X4_look fu f_sizes f_dangers n_name n_courage n_weight n_medals n_stood n_fled n_liked n_count n_living n_pride n_quota n_melted n_lost a_name a_courage a_weight a_medals a_stood a_fled a_liked a_count a_living a_pride a_quota a_melted a_lost y1_row y1_many x3).bind fun z_45 => (f_X4_mostFor fu z_45.1 z_45.2.1 z_45.2.2.2.1 z_45.2.2.2.2.1 z_45.2.2.2.2.2.1 z_45.2.2.2.2.2.2.2.2.1 n_votes z_45.2.2.2.2.2.2.2.2.2.1 z_45.2.2.2.2.2.2.2.2.2.2.1 z_45.2.2.2.2.2.2.2.2.2.2.2.1 x1).bind fun z_46 => (f_X11_answer fu b_latestStatus z_46.1).bind fun z_47 => some (z_47.1, z_47.2, z_45.1, z_45.2.1, z_45.2.2.1, z_45.2.2.2.1, z_45.2.2.2.2.1, z_46.2.1, z_45.2.2.2.2.2.2.1, z_45.2.2.2.2.2.2.2.1, z_45.2.2.2.2.2.2.2.2.1, z_46.2.2, z_45.2.2.2.2.2.2.2.2.2.1, z_45.2.2.2.2.2.2.2.2.2.2.1, z_45.2.2.2.2.2.2.2.2.2.2.2.1, z_45.2.2.2.2.2.2.2.2.2.2.2.2.1, z_45.2.2.2.2.2.2.2.2.2.2.2.2.2.1, z_45.2.2.2.2.2.2.2.2.2.2.2.2.2.2) else (f_X11_refuse fu b_latestStatus z_43).bind fun z_48 => some (z_48.1, z_48.2, f_sizes, f_dangers, n_name, n_courage, n_weight, n_medals, n_stood, n_fled, n_liked, n_votes, n_count, n_living, n_pride, n_quota, n_melted, n_lost)) else (if x2 = 2 then (f_X11_ordersRefusal fu y2_row y2_missing y2_many a_count a_living x1 x3).bind fun z_50 => (if z_50 = 0 then (f_X4_look fu f_sizes f_dangers n_name n_courage n_weight n_medals n_stood n_fled n_liked n_count n_living n_pride n_quota n_melted n_lost a_name a_courage a_weight a_medals a_stood a_fled a_liked a_count a_living a_pride a_quota a_melted a_lost y2_row y2_many x3).bind fun z_52 => (f_X4_mostFor fu z_52.1 z_52.2.1 z_52.2.2.2.1 z_52.2.2.2.2.1 z_52.2.2.2.2.2.1 z_52.2.2.2.2.2.2.2.2.1 n_votes z_52.2.2.2.2.2.2.2.2.2.1 z_52.2.2.2.2.2.2.2.2.2.2.1 z_52.2.2.2.2.2.2.2.2.2.2.2.1 x1).bind fun z_53 => (f_X11_answer fu b_latestStatus z_53.1).bind fun z_54 => some (z_54.1, z_54.2, z_52.1, z_52.2.1, z_52.2.2.1, z_52.2.2.2.1, z_52.2.2.2.2.1, z_53.2.1, z_52.2.2.2.2.2.2.1, z_52.2.2.2.2.2.2.2.1, z_52.2.2.2.2.2.2.2.2.1, z_53.2.2, z_52.2.2.2.2.2.2.2.2.2.1, z_52.2.2.2.2.2.2.2.2.2.2.1, z_52.2.2.2.2.2.2.2.2.2.2.2.1, z_52.2.2.2.2.2.2.2.2.2.2.2.2.1, z_52.2.2.2.2.2.2.2.2.2.2.2.2.2.1, z_52.2.2.2.2.2.2.2.2.2.2.2.2.2.2) else (f_X11_refuse fu b_latestStatus z_50).bind fun z_55 => some (z_55.1, z_55.2, f_sizes, f_dangers, n_name, n_courage, n_weight, n_medals, n_stood, n_fled, n_liked, n_votes, n_count, n_living, n_pride, n_quota, n_melted, n_lost)) else (if x2 = 3 then (f_X11_ordersRefusal fu y3_row y3_missing y3_many a_count a_living x1 x3).bind fun z_57 => (if z_57 = 0 then (f_X4_look fu f_sizes f_dangers n_name n_courage n_weight n_medals n_stood n_fled n_liked n_count n_living n_pride n_quota n_melted n_lost a_name a_courage a_weight a_medals a_stood a_fled a_liked a_count a_living a_pride a_quota a_melted a_lost y3_row y3_many x3).bind fun z_59 => (f_X4_mostFor fu z_59.1 z_59.2.1 z_59.2.2.2.1 z_59.2.2.2.2.1 z_59.2.2.2.2.2.1 z_59.2.2.2.2.2.2.2.2.1 n_votes z_59.2.2.2.2.2.2.2.2.2.1 z_59.2.2.2.2.2.2.2.2.2.2.1 z_59.2.2.2.2.2.2.2.2.2.2.2.1 x1).bind fun z_60 => (f_X11_answer fu b_latestStatus z_60.1).bind fun z_61 => some (z_61.1, z_61.2, z_59.1, z_59.2.1, z_59.2.2.1, z_59.2.2.2.1, z_59.2.2.2.2.1, z_60.2.1, z_59.2.2.2.2.2.2.1, z_59.2.2.2.2.2.2.2.1, z_59.2.2.2.2.2.2.2.2.1, z_60.2.2, z_59.2.2.2.2.2.2.2.2.2.1, z_59.2.2.2.2.2.2.2.2.2.2.1, z_59.2.2.2.2.2.2.2.2.2.2.2.1, z_59.2.2.2.2.2.2.2.2.2.2.2.2.1, z_59.2.2.2.2.2.2.2.2.2.2.2.2.2.1, z_59.2.2.2.2.2.2.2.2.2.2.2.2.2.2) else (f_X11_refuse fu b_latestStatus z_57).bind fun z_62 => some (z_62.1, z_62.2, f_sizes, f_dangers, n_name, n_courage, n_weight, n_medals, n_stood, n_fled, n_liked, n_votes, n_count, n_living, n_pride, n_quota, n_melted, n_lost)) else (f_X11_ordersRefusal_n2 fu a_count x1 x3).bind fun z_63 => (if z_63 = 0 then (f_X4_look_n2 fu f_dangers n_name n_courage n_weight n_medals n_stood n_fled n_liked n_count n_living n_pride n_quota n_melted n_lost a_name a_courage a_weight a_medals a_stood a_fled a_liked a_count a_living a_pride a_quota a_melted a_lost x3).bind fun z_65 => (f_X4_mostFor fu f_sizes z_65.1 z_65.2.2.1 z_65.2.2.2.1 z_65.2.2.2.2.1 z_65.2.2.2.2.2.2.2.1 n_votes z_65.2.2.2.2.2.2.2.2.1 z_65.2.2.2.2.2.2.2.2.2.1 z_65.2.2.2.2.2.2.2.2.2.2.1 x1).bind fun z_66 => (f_X11_answer fu b_latestStatus z_66.1).bind fun z_67 => some (z_67.1, z_67.2, f_sizes, z_65.1, z_65.2.1, z_65.2.2.1, z_65.2.2.2.1, z_66.2.1, z_65.2.2.2.2.2.1, z_65.2.2.2.2.2.2.1, z_65.2.2.2.2.2.2.2.1, z_66.2.2, z_65.2.2.2.2.2.2.2.2.1, z_65.2.2.2.2.2.2.2.2.2.1, z_65.2.2.2.2.2.2.2.2.2.2.1, z_65.2.2.2.2.2.2.2.2.2.2.2.1, z_65.2.2.2.2.2.2.2.2.2.2.2.2.1, z_65.2.2.2.2.2.2.2.2.2.2.2.2.2) else (f_X11_refuse fu b_latestStatus z_63).bind fun z_68 => some (z_68.1, z_68.2, f_sizes, f_dangers, n_name, n_courage, n_weight, n_medals, n_stood, n_fled, n_liked, n_votes, n_count, n_living, n_pride, n_quota, n_melted, n_lost))))))
abbrev rm_X11_most : Room := { frames := 20, cells := 0, slots := 0, locals := 502 }
set_option maxHeartbeats 4000000 in
set_option maxRecDepth 100000 in
theorem c_X11_most (l : Launch) (D : va_G) (cy : Nat → ClassId) (fu : Nat) (A_b : Nat → Nat) (r_b_war : Nat) (r_b_draftArmy : Nat) (r_b_draftWar : Nat) (r_b_reader : Nat) (r_b_armyReader : Nat) (r_b_warReader : Nat) (r_b_markedArmies : Nat) (r_b_markedWars : Nat) (r_b_latest : Nat) (r_b_trial : Nat) (r_b_pairs : Nat) (b_latestStatus : Int32) (b_fractionTop : Int64) (b_fractionBottom : Int64) (b_marks : Int32) (A_T : Nat → Nat) (A_y0 : Nat → Nat) (y0_row : Nat → Int64) (y0_missing : Int32) (y0_sort : Int32) (y0_many : Int32) (A_y1 : Nat → Nat) (y1_row : Nat → Int64) (y1_missing : Int32) (y1_sort : Int32) (y1_many : Int32) (A_y2 : Nat → Nat) (y2_row : Nat → Int64) (y2_missing : Int32) (y2_sort : Int32) (y2_many : Int32) (A_y3 : Nat → Nat) (y3_row : Nat → Int64) (y3_missing : Int32) (y3_sort : Int32) (y3_many : Int32) (A_a : Nat → Nat) (a_name : Nat → Int64) (a_courage : Nat → Int32) (a_weight : Nat → Int32) (a_medals : Nat → Int32) (a_stood : Nat → Int32) (a_fled : Nat → Int32) (a_liked : Nat → Int32) (a_votes : Nat → Int32) (a_count : Int32) (a_living : Int32) (a_pride : Int32) (a_quota : Int32) (a_melted : Int32) (a_lost : Int32) (A_f : Nat → Nat) (f_sizes : Nat → Int32) (f_dangers : Int32) (A_n : Nat → Nat) (n_name : Nat → Int64) (n_courage : Nat → Int32) (n_weight : Nat → Int32) (n_medals : Nat → Int32) (n_stood : Nat → Int32) (n_fled : Nat → Int32) (n_liked : Nat → Int32) (n_votes : Nat → Int32) (n_count : Int32) (n_living : Int32) (n_pride : Int32) (n_quota : Int32) (n_melted : Int32) (n_lost : Int32) (x1 : Int32) (x2 : Int32) (x3 : Int32) (res : Int32 × Int32 × (Nat → Int32) × Int32 × (Nat → Int64) × (Nat → Int32) × (Nat → Int32) × (Nat → Int32) × (Nat → Int32) × (Nat → Int32) × (Nat → Int32) × (Nat → Int32) × Int32 × Int32 × Int32 × Int32 × Int32 × Int32) (h : f_X11_most fu b_latestStatus y0_row y0_missing y0_many y1_row y1_missing y1_many y2_row y2_missing y2_many y3_row y3_missing y3_many a_name a_courage a_weight a_medals a_stood a_fled a_liked a_count a_living a_pride a_quota a_melted a_lost f_sizes f_dangers n_name n_courage n_weight n_medals n_stood n_fled n_liked n_votes n_count n_living n_pride n_quota n_melted n_lost x1 x2 x3 = some res) (A : Nat → Prop) (hA : A = adr [bl_X11 cy A_b (A_T 0) (A_a 0) r_b_war r_b_draftArmy r_b_draftWar r_b_reader r_b_armyReader r_b_warReader r_b_markedArmies r_b_markedWars r_b_latest r_b_trial (A_f 0) r_b_pairs b_latestStatus b_fractionTop b_fractionBottom b_marks, [(A_T 0, .inl (cy 4, 4, .inr (.inr (.inr (.inr (trf4 (A_y0 0) (A_y1 0) (A_y2 0) (A_y3 0)))))))], bl_X8 cy A_y0 y0_row y0_missing y0_sort y0_many, bl_X8 cy A_y1 y1_row y1_missing y1_sort y1_many, bl_X8 cy A_y2 y2_row y2_missing y2_sort y2_many, bl_X8 cy A_y3 y3_row y3_missing y3_sort y3_many, bl_X0 cy A_a a_name a_courage a_weight a_medals a_stood a_fled a_liked a_votes a_count a_living a_pride a_quota a_melted a_lost, bl_X4 cy A_f (A_n 0) f_sizes f_dangers, bl_X0 cy A_n n_name n_courage n_weight n_medals n_stood n_fled n_liked n_votes n_count n_living n_pride n_quota n_melted n_lost]) (W1 : List va_W) (hW1 : W1 = [bl_X11 cy A_b (A_T 0) (A_a 0) r_b_war r_b_draftArmy r_b_draftWar r_b_reader r_b_armyReader r_b_warReader r_b_markedArmies r_b_markedWars r_b_latest r_b_trial (A_f 0) r_b_pairs res.2.1 b_fractionTop b_fractionBottom b_marks, [(A_T 0, .inl (cy 4, 4, .inr (.inr (.inr (.inr (trf4 (A_y0 0) (A_y1 0) (A_y2 0) (A_y3 0)))))))], bl_X8 cy A_y0 y0_row y0_missing y0_sort y0_many, bl_X8 cy A_y1 y1_row y1_missing y1_sort y1_many, bl_X8 cy A_y2 y2_row y2_missing y2_sort y2_many, bl_X8 cy A_y3 y3_row y3_missing y3_sort y3_many, bl_X0 cy A_a a_name a_courage a_weight a_medals a_stood a_fled a_liked a_votes a_count a_living a_pride a_quota a_melted a_lost, bl_X4 cy A_f (A_n 0) res.2.2.1 res.2.2.2.1, bl_X0 cy A_n res.2.2.2.2.1 res.2.2.2.2.2.1 res.2.2.2.2.2.2.1 res.2.2.2.2.2.2.2.1 res.2.2.2.2.2.2.2.2.1 res.2.2.2.2.2.2.2.2.2.1 res.2.2.2.2.2.2.2.2.2.2.1 res.2.2.2.2.2.2.2.2.2.2.2.1 res.2.2.2.2.2.2.2.2.2.2.2.2.1 res.2.2.2.2.2.2.2.2.2.2.2.2.2.1 res.2.2.2.2.2.2.2.2.2.2.2.2.2.2.1 res.2.2.2.2.2.2.2.2.2.2.2.2.2.2.2.1 res.2.2.2.2.2.2.2.2.2.2.2.2.2.2.2.2.1 res.2.2.2.2.2.2.2.2.2.2.2.2.2.2.2.2.2]) : Met l yX11_most (WW yX11_most cX11_most 6 (some .int)) rm_X11_most (Ed D cy [.ref (A_b 0), .int x1, .int x2, .int x3] [bl_X11 cy A_b (A_T 0) (A_a 0) r_b_war r_b_draftArmy r_b_draftWar r_b_reader r_b_armyReader r_b_warReader r_b_markedArmies r_b_markedWars r_b_latest r_b_trial (A_f 0) r_b_pairs b_latestStatus b_fractionTop b_fractionBottom b_marks, [(A_T 0, .inl (cy 4, 4, .inr (.inr (.inr (.inr (trf4 (A_y0 0) (A_y1 0) (A_y2 0) (A_y3 0)))))))], bl_X8 cy A_y0 y0_row y0_missing y0_sort y0_many, bl_X8 cy A_y1 y1_row y1_missing y1_sort y1_many, bl_X8 cy A_y2 y2_row y2_missing y2_sort y2_many, bl_X8 cy A_y3 y3_row y3_missing y3_sort y3_many, bl_X0 cy A_a a_name a_courage a_weight a_medals a_stood a_fled a_liked a_votes a_count a_living a_pride a_quota a_melted a_lost, bl_X4 cy A_f (A_n 0) f_sizes f_dangers, bl_X0 cy A_n n_name n_courage n_weight n_medals n_stood n_fled n_liked n_votes n_count n_living n_pride n_quota n_melted n_lost]) (Qei D res.1 A W1) 0 0 A := by
  refine Met.ofW (cc := cX11_most) (maxL := 6) (ret := (some .int)) (by decide) rfl ?_
  intro p e s m args below meth c s₁ B hml hv
  obtain ⟨hargs, hP, hX, hD0⟩ := hv
  have hx := B.exec
  have hb := B.bytes
  have hr := B.returns
  have ht : ∀ w ∈ lw_gd, w.before args s = true := fun w hw => atoms_spec (ws := WW yX11_most cX11_most 6 (some .int)) B.pre w (List.mem_cons_of_mem _ hw)
  have hown : s.vm.findClass RX11 = some m.cls := findClass_of_methodNamed B.named
  have hlocks := B.notSynchronized
  have hP : PD D A [bl_X11 cy A_b (A_T 0) (A_a 0) r_b_war r_b_draftArmy r_b_draftWar r_b_reader r_b_armyReader r_b_warReader r_b_markedArmies r_b_markedWars r_b_latest r_b_trial (A_f 0) r_b_pairs b_latestStatus b_fractionTop b_fractionBottom b_marks, [(A_T 0, .inl (cy 4, 4, .inr (.inr (.inr (.inr (trf4 (A_y0 0) (A_y1 0) (A_y2 0) (A_y3 0)))))))], bl_X8 cy A_y0 y0_row y0_missing y0_sort y0_many, bl_X8 cy A_y1 y1_row y1_missing y1_sort y1_many, bl_X8 cy A_y2 y2_row y2_missing y2_sort y2_many, bl_X8 cy A_y3 y3_row y3_missing y3_sort y3_many, bl_X0 cy A_a a_name a_courage a_weight a_medals a_stood a_fled a_liked a_votes a_count a_living a_pride a_quota a_melted a_lost, bl_X4 cy A_f (A_n 0) f_sizes f_dangers, bl_X0 cy A_n n_name n_courage n_weight n_medals n_stood n_fled n_liked n_votes n_count n_living n_pride n_quota n_melted n_lost] s.heap := ⟨hP, by rw [hA]; exact hD0.own⟩
  have hS : va_S A s.heap s.heap [] := va_S.rf
  obtain ⟨ls, hl, hent⟩ := ent (m := m) (n := 6) hargs (Nat.le_of_ble_eq_true rfl) (lv := [(0, .ref (A_b 0)), (1, .int x1), (2, .int x2), (3, .int x3)]) rfl
  rw [hent]
  clear hent
  unfold f_X11_most at h
  refine lv_aload_n hx hb dX11_most_0 rfl (lv_at hl 0 rfl) ?_
  refine lv_iload_n hx hb dX11_most_1 rfl (lv_at hl 2 rfl) ?_
  by_cases c_35 : x2 = 0
  · have h := it c_35 h
    refine roVq (rest := []) ⟨hx, hb, hml, hown, ht⟩ (c_X11_trayAt l D cy fu A_b (A_a 0) r_b_war r_b_draftArmy r_b_draftWar r_b_reader r_b_armyReader r_b_warReader r_b_markedArmies r_b_markedWars r_b_latest r_b_trial (A_f 0) r_b_pairs b_latestStatus b_fractionTop b_fractionBottom b_marks A_T (trf4 (A_y0 0) (A_y1 0) (A_y2 0) (A_y3 0)) x2 (some (A_y0 0)) (tray_0 c_35)) (cV ht mv_X11_trayAt tb_500 rfl rfl ⟨Nat.le_of_ble_eq_true rfl, Nat.le_of_ble_eq_true rfl⟩) (P_sub hP.1 [0, 1] rfl) hX rfl rfl rfl hl.1 rfl (Nat.le_of_ble_eq_true rfl) dX11_most_2 ⟨Nat.le_of_ble_eq_true rfl, Nat.le_of_ble_eq_true rfl⟩ ?_
    refine lv_astore (lv' := [(4, .ref (A_y0 0)), (0, .ref (A_b 0)), (1, .int x1), (2, .int x2), (3, .int x3)]) hx hb dX11_most_5 hl (by decide) rfl (fun ls hl => ?_)
    refine lv_aload_n hx hb dX11_most_7 rfl (lv_at hl 1 rfl) ?_
    refine lv_iload_n hx hb dX11_most_8 rfl (lv_at hl 2 rfl) ?_
    refine lv_aload hx hb dX11_most_9 (lv_at hl 0 rfl) ?_
    refine lv_iload_n hx hb dX11_most_11 rfl (lv_at hl 4 rfl) ?_
    obtain ⟨z_36, e_z_36, h⟩ := bi h
    refine roVi (rest := []) ⟨hx, hb, hml, hown, ht⟩ (c_X11_ordersRefusal l D cy fu A_b (A_T 0) r_b_war r_b_draftArmy r_b_draftWar r_b_reader r_b_armyReader r_b_warReader r_b_markedArmies r_b_markedWars r_b_latest r_b_trial (A_f 0) r_b_pairs b_latestStatus b_fractionTop b_fractionBottom b_marks A_y0 y0_row y0_missing y0_sort y0_many A_a a_name a_courage a_weight a_medals a_stood a_fled a_liked a_votes a_count a_living a_pride a_quota a_melted a_lost x1 x3 z_36 e_z_36) (cV ht mv_X11_ordersRefusal tb_981 rfl rfl ⟨Nat.le_of_ble_eq_true rfl, Nat.le_of_ble_eq_true rfl⟩) (P_sub hP.1 [0, 2, 6] rfl) hX rfl rfl rfl hl.1 rfl (Nat.le_of_ble_eq_true rfl) dX11_most_12 ⟨Nat.le_of_ble_eq_true rfl, Nat.le_of_ble_eq_true rfl⟩ ?_
    refine lv_istore (lv' := [(5, .int z_36), (4, .ref (A_y0 0)), (0, .ref (A_b 0)), (1, .int x1), (2, .int x2), (3, .int x3)]) hx hb dX11_most_15 hl (by decide) rfl (fun ls hl => ?_)
    refine lv_iload hx hb dX11_most_17 (lv_at hl 0 rfl) ?_
    refine lv_if_eq (tgt := 29) hx hb dX11_most_19 (by decide) (fun c_37 => ?_) (fun c_37 => ?_)
    · have h := it c_37 h
      refine lv_aload_n hx hb dX11_most_29 rfl (lv_at hl 2 rfl) ?_
      refine xget (i := 0) (j := 0) (k := 16) (T := TX11) hx hb ht tb_iX11 hown hX hP.1 rfl rfl rfl (by decide) tb_445 rfl dX11_most_30 ?_
      refine lv_aload_n hx hb dX11_most_33 rfl (lv_at hl 2 rfl) ?_
      refine xget (i := 0) (j := 0) (k := 4) (T := TX11) hx hb ht tb_iX11 hown hX hP.1 rfl rfl rfl (by decide) tb_433 rfl dX11_most_34 ?_
      refine lv_aload hx hb dX11_most_37 (lv_at hl 1 rfl) ?_
      refine lv_iload_n hx hb dX11_most_39 rfl (lv_at hl 5 rfl) ?_
      obtain ⟨z_38, e_z_38, h⟩ := bi h
      refine efVv (rest := []) ⟨hx, hb, hml, hown, ht⟩ (c_X4_look l D cy fu A_f f_sizes f_dangers A_n n_name n_courage n_weight n_medals n_stood n_fled n_liked n_votes n_count n_living n_pride n_quota n_melted n_lost A_a a_name a_courage a_weight a_medals a_stood a_fled a_liked a_votes a_count a_living a_pride a_quota a_melted a_lost A_y0 y0_row y0_missing y0_sort y0_many x3 z_38 e_z_38 _ rfl _ rfl) (cV ht mv_X4_look tb_991 rfl rfl ⟨Nat.le_of_ble_eq_true rfl, Nat.le_of_ble_eq_true rfl⟩) hP hS hX [7, 8, 6, 2] rfl rfl rfl rfl rfl rfl hl.1 rfl (Nat.le_of_ble_eq_true rfl) dX11_most_40 ⟨Nat.le_of_ble_eq_true rfl, Nat.le_of_ble_eq_true rfl⟩ (fun H locs hP hS => ?_)
      have hP : PD D A [bl_X11 cy A_b (A_T 0) (A_a 0) r_b_war r_b_draftArmy r_b_draftWar r_b_reader r_b_armyReader r_b_warReader r_b_markedArmies r_b_markedWars r_b_latest r_b_trial (A_f 0) r_b_pairs b_latestStatus b_fractionTop b_fractionBottom b_marks, [(A_T 0, .inl (cy 4, 4, .inr (.inr (.inr (.inr (trf4 (A_y0 0) (A_y1 0) (A_y2 0) (A_y3 0)))))))], bl_X8 cy A_y0 y0_row y0_missing y0_sort y0_many, bl_X8 cy A_y1 y1_row y1_missing y1_sort y1_many, bl_X8 cy A_y2 y2_row y2_missing y2_sort y2_many, bl_X8 cy A_y3 y3_row y3_missing y3_sort y3_many, bl_X0 cy A_a a_name a_courage a_weight a_medals a_stood a_fled a_liked a_votes a_count a_living a_pride a_quota a_melted a_lost, bl_X4 cy A_f (A_n 0) z_38.1 z_38.2.1, bl_X0 cy A_n z_38.2.2.1 z_38.2.2.2.1 z_38.2.2.2.2.1 z_38.2.2.2.2.2.1 z_38.2.2.2.2.2.2.1 z_38.2.2.2.2.2.2.2.1 z_38.2.2.2.2.2.2.2.2.1 n_votes z_38.2.2.2.2.2.2.2.2.2.1 z_38.2.2.2.2.2.2.2.2.2.2.1 z_38.2.2.2.2.2.2.2.2.2.2.2.1 z_38.2.2.2.2.2.2.2.2.2.2.2.2.1 z_38.2.2.2.2.2.2.2.2.2.2.2.2.2.1 z_38.2.2.2.2.2.2.2.2.2.2.2.2.2.2] H := hP
      refine lv_aload_n hx hb dX11_most_43 rfl (lv_at hl 2 rfl) ?_
      refine lv_aload_n hx hb dX11_most_44 rfl (lv_at hl 2 rfl) ?_
      refine xget (i := 0) (j := 0) (k := 16) (T := TX11) hx hb ht tb_iX11 hown hX hP.1 rfl rfl rfl (by decide) tb_445 rfl dX11_most_45 ?_
      refine lv_iload_n hx hb dX11_most_48 rfl (lv_at hl 3 rfl) ?_
      obtain ⟨z_39, e_z_39, h⟩ := bi h
      refine efVi (rest := [.ref (A_b 0)]) ⟨hx, hb, hml, hown, ht⟩ (c_X4_mostFor l D cy fu A_f z_38.1 z_38.2.1 A_n z_38.2.2.1 z_38.2.2.2.1 z_38.2.2.2.2.1 z_38.2.2.2.2.2.1 z_38.2.2.2.2.2.2.1 z_38.2.2.2.2.2.2.2.1 z_38.2.2.2.2.2.2.2.2.1 n_votes z_38.2.2.2.2.2.2.2.2.2.1 z_38.2.2.2.2.2.2.2.2.2.2.1 z_38.2.2.2.2.2.2.2.2.2.2.2.1 z_38.2.2.2.2.2.2.2.2.2.2.2.2.1 z_38.2.2.2.2.2.2.2.2.2.2.2.2.2.1 z_38.2.2.2.2.2.2.2.2.2.2.2.2.2.2 x1 z_39 e_z_39 _ rfl _ rfl) (cV ht mv_X4_mostFor tb_999 rfl rfl ⟨Nat.le_of_ble_eq_true rfl, Nat.le_of_ble_eq_true rfl⟩) hP hS hX [7, 8] rfl rfl rfl rfl rfl rfl hl.1 rfl (Nat.le_of_ble_eq_true rfl) dX11_most_49 ⟨Nat.le_of_ble_eq_true rfl, Nat.le_of_ble_eq_true rfl⟩ (fun H locs hP hS => ?_)
      have hP : PD D A [bl_X11 cy A_b (A_T 0) (A_a 0) r_b_war r_b_draftArmy r_b_draftWar r_b_reader r_b_armyReader r_b_warReader r_b_markedArmies r_b_markedWars r_b_latest r_b_trial (A_f 0) r_b_pairs b_latestStatus b_fractionTop b_fractionBottom b_marks, [(A_T 0, .inl (cy 4, 4, .inr (.inr (.inr (.inr (trf4 (A_y0 0) (A_y1 0) (A_y2 0) (A_y3 0)))))))], bl_X8 cy A_y0 y0_row y0_missing y0_sort y0_many, bl_X8 cy A_y1 y1_row y1_missing y1_sort y1_many, bl_X8 cy A_y2 y2_row y2_missing y2_sort y2_many, bl_X8 cy A_y3 y3_row y3_missing y3_sort y3_many, bl_X0 cy A_a a_name a_courage a_weight a_medals a_stood a_fled a_liked a_votes a_count a_living a_pride a_quota a_melted a_lost, bl_X4 cy A_f (A_n 0) z_38.1 z_38.2.1, bl_X0 cy A_n z_38.2.2.1 z_38.2.2.2.1 z_38.2.2.2.2.1 z_39.2.1 z_38.2.2.2.2.2.2.1 z_38.2.2.2.2.2.2.2.1 z_38.2.2.2.2.2.2.2.2.1 z_39.2.2 z_38.2.2.2.2.2.2.2.2.2.1 z_38.2.2.2.2.2.2.2.2.2.2.1 z_38.2.2.2.2.2.2.2.2.2.2.2.1 z_38.2.2.2.2.2.2.2.2.2.2.2.2.1 z_38.2.2.2.2.2.2.2.2.2.2.2.2.2.1 z_38.2.2.2.2.2.2.2.2.2.2.2.2.2.2] H := hP
      obtain ⟨z_40, e_z_40, h⟩ := bi h
      refine efVi (rest := []) ⟨hx, hb, hml, hown, ht⟩ (c_X11_answer l D cy fu A_b (A_T 0) (A_a 0) r_b_war r_b_draftArmy r_b_draftWar r_b_reader r_b_armyReader r_b_warReader r_b_markedArmies r_b_markedWars r_b_latest r_b_trial (A_f 0) r_b_pairs b_latestStatus b_fractionTop b_fractionBottom b_marks z_39.1 z_40 e_z_40 _ rfl _ rfl) (cV ht mv_X11_answer tb_696 rfl rfl ⟨Nat.le_of_ble_eq_true rfl, Nat.le_of_ble_eq_true rfl⟩) hP hS hX [0] rfl rfl rfl rfl rfl rfl hl.1 rfl (Nat.le_of_ble_eq_true rfl) dX11_most_52 ⟨Nat.le_of_ble_eq_true rfl, Nat.le_of_ble_eq_true rfl⟩ (fun H locs hP hS => ?_)
      have hP : PD D A [bl_X11 cy A_b (A_T 0) (A_a 0) r_b_war r_b_draftArmy r_b_draftWar r_b_reader r_b_armyReader r_b_warReader r_b_markedArmies r_b_markedWars r_b_latest r_b_trial (A_f 0) r_b_pairs z_40.2 b_fractionTop b_fractionBottom b_marks, [(A_T 0, .inl (cy 4, 4, .inr (.inr (.inr (.inr (trf4 (A_y0 0) (A_y1 0) (A_y2 0) (A_y3 0)))))))], bl_X8 cy A_y0 y0_row y0_missing y0_sort y0_many, bl_X8 cy A_y1 y1_row y1_missing y1_sort y1_many, bl_X8 cy A_y2 y2_row y2_missing y2_sort y2_many, bl_X8 cy A_y3 y3_row y3_missing y3_sort y3_many, bl_X0 cy A_a a_name a_courage a_weight a_medals a_stood a_fled a_liked a_votes a_count a_living a_pride a_quota a_melted a_lost, bl_X4 cy A_f (A_n 0) z_38.1 z_38.2.1, bl_X0 cy A_n z_38.2.2.1 z_38.2.2.2.1 z_38.2.2.2.2.1 z_39.2.1 z_38.2.2.2.2.2.2.1 z_38.2.2.2.2.2.2.2.1 z_38.2.2.2.2.2.2.2.2.1 z_39.2.2 z_38.2.2.2.2.2.2.2.2.2.1 z_38.2.2.2.2.2.2.2.2.2.2.1 z_38.2.2.2.2.2.2.2.2.2.2.2.1 z_38.2.2.2.2.2.2.2.2.2.2.2.2.1 z_38.2.2.2.2.2.2.2.2.2.2.2.2.2.1 z_38.2.2.2.2.2.2.2.2.2.2.2.2.2.2] H := hP
      cases h
      subst hW1
      exact W.iret hx hb hr (fun _ ht9 _ => ⟨⟨_, (), rfl, rfl, hPt ht9 hP.1⟩, hS.F ht9⟩) hS.2.2 dX11_most_55
    · have h := ie c_37 h
      refine lv_aload_n hx hb dX11_most_22 rfl (lv_at hl 2 rfl) ?_
      refine lv_iload hx hb dX11_most_23 (lv_at hl 0 rfl) ?_
      obtain ⟨z_41, e_z_41, h⟩ := bi h
      refine efVi (rest := []) ⟨hx, hb, hml, hown, ht⟩ (c_X11_refuse l D cy fu A_b (A_T 0) (A_a 0) r_b_war r_b_draftArmy r_b_draftWar r_b_reader r_b_armyReader r_b_warReader r_b_markedArmies r_b_markedWars r_b_latest r_b_trial (A_f 0) r_b_pairs b_latestStatus b_fractionTop b_fractionBottom b_marks z_36 z_41 e_z_41 _ rfl _ rfl) (cV ht mv_X11_refuse tb_543 rfl rfl ⟨Nat.le_of_ble_eq_true rfl, Nat.le_of_ble_eq_true rfl⟩) hP hS hX [0] rfl rfl rfl rfl rfl rfl hl.1 rfl (Nat.le_of_ble_eq_true rfl) dX11_most_25 ⟨Nat.le_of_ble_eq_true rfl, Nat.le_of_ble_eq_true rfl⟩ (fun H locs hP hS => ?_)
      have hP : PD D A [bl_X11 cy A_b (A_T 0) (A_a 0) r_b_war r_b_draftArmy r_b_draftWar r_b_reader r_b_armyReader r_b_warReader r_b_markedArmies r_b_markedWars r_b_latest r_b_trial (A_f 0) r_b_pairs z_41.2 b_fractionTop b_fractionBottom b_marks, [(A_T 0, .inl (cy 4, 4, .inr (.inr (.inr (.inr (trf4 (A_y0 0) (A_y1 0) (A_y2 0) (A_y3 0)))))))], bl_X8 cy A_y0 y0_row y0_missing y0_sort y0_many, bl_X8 cy A_y1 y1_row y1_missing y1_sort y1_many, bl_X8 cy A_y2 y2_row y2_missing y2_sort y2_many, bl_X8 cy A_y3 y3_row y3_missing y3_sort y3_many, bl_X0 cy A_a a_name a_courage a_weight a_medals a_stood a_fled a_liked a_votes a_count a_living a_pride a_quota a_melted a_lost, bl_X4 cy A_f (A_n 0) f_sizes f_dangers, bl_X0 cy A_n n_name n_courage n_weight n_medals n_stood n_fled n_liked n_votes n_count n_living n_pride n_quota n_melted n_lost] H := hP
      cases h
      subst hW1
      exact W.iret hx hb hr (fun _ ht9 _ => ⟨⟨_, (), rfl, rfl, hPt ht9 hP.1⟩, hS.F ht9⟩) hS.2.2 dX11_most_28
  have h := ie c_35 h
  by_cases c_42 : x2 = 1
  · have h := it c_42 h
    refine roVq (rest := []) ⟨hx, hb, hml, hown, ht⟩ (c_X11_trayAt l D cy fu A_b (A_a 0) r_b_war r_b_draftArmy r_b_draftWar r_b_reader r_b_armyReader r_b_warReader r_b_markedArmies r_b_markedWars r_b_latest r_b_trial (A_f 0) r_b_pairs b_latestStatus b_fractionTop b_fractionBottom b_marks A_T (trf4 (A_y0 0) (A_y1 0) (A_y2 0) (A_y3 0)) x2 (some (A_y1 0)) (tray_1 c_42)) (cV ht mv_X11_trayAt tb_500 rfl rfl ⟨Nat.le_of_ble_eq_true rfl, Nat.le_of_ble_eq_true rfl⟩) (P_sub hP.1 [0, 1] rfl) hX rfl rfl rfl hl.1 rfl (Nat.le_of_ble_eq_true rfl) dX11_most_2 ⟨Nat.le_of_ble_eq_true rfl, Nat.le_of_ble_eq_true rfl⟩ ?_
    refine lv_astore (lv' := [(4, .ref (A_y1 0)), (0, .ref (A_b 0)), (1, .int x1), (2, .int x2), (3, .int x3)]) hx hb dX11_most_5 hl (by decide) rfl (fun ls hl => ?_)
    refine lv_aload_n hx hb dX11_most_7 rfl (lv_at hl 1 rfl) ?_
    refine lv_iload_n hx hb dX11_most_8 rfl (lv_at hl 2 rfl) ?_
    refine lv_aload hx hb dX11_most_9 (lv_at hl 0 rfl) ?_
    refine lv_iload_n hx hb dX11_most_11 rfl (lv_at hl 4 rfl) ?_
    obtain ⟨z_43, e_z_43, h⟩ := bi h
    refine roVi (rest := []) ⟨hx, hb, hml, hown, ht⟩ (c_X11_ordersRefusal l D cy fu A_b (A_T 0) r_b_war r_b_draftArmy r_b_draftWar r_b_reader r_b_armyReader r_b_warReader r_b_markedArmies r_b_markedWars r_b_latest r_b_trial (A_f 0) r_b_pairs b_latestStatus b_fractionTop b_fractionBottom b_marks A_y1 y1_row y1_missing y1_sort y1_many A_a a_name a_courage a_weight a_medals a_stood a_fled a_liked a_votes a_count a_living a_pride a_quota a_melted a_lost x1 x3 z_43 e_z_43) (cV ht mv_X11_ordersRefusal tb_981 rfl rfl ⟨Nat.le_of_ble_eq_true rfl, Nat.le_of_ble_eq_true rfl⟩) (P_sub hP.1 [0, 3, 6] rfl) hX rfl rfl rfl hl.1 rfl (Nat.le_of_ble_eq_true rfl) dX11_most_12 ⟨Nat.le_of_ble_eq_true rfl, Nat.le_of_ble_eq_true rfl⟩ ?_
    refine lv_istore (lv' := [(5, .int z_43), (4, .ref (A_y1 0)), (0, .ref (A_b 0)), (1, .int x1), (2, .int x2), (3, .int x3)]) hx hb dX11_most_15 hl (by decide) rfl (fun ls hl => ?_)
    refine lv_iload hx hb dX11_most_17 (lv_at hl 0 rfl) ?_
    refine lv_if_eq (tgt := 29) hx hb dX11_most_19 (by decide) (fun c_44 => ?_) (fun c_44 => ?_)
    · have h := it c_44 h
      refine lv_aload_n hx hb dX11_most_29 rfl (lv_at hl 2 rfl) ?_
      refine xget (i := 0) (j := 0) (k := 16) (T := TX11) hx hb ht tb_iX11 hown hX hP.1 rfl rfl rfl (by decide) tb_445 rfl dX11_most_30 ?_
      refine lv_aload_n hx hb dX11_most_33 rfl (lv_at hl 2 rfl) ?_
      refine xget (i := 0) (j := 0) (k := 4) (T := TX11) hx hb ht tb_iX11 hown hX hP.1 rfl rfl rfl (by decide) tb_433 rfl dX11_most_34 ?_
      refine lv_aload hx hb dX11_most_37 (lv_at hl 1 rfl) ?_
      refine lv_iload_n hx hb dX11_most_39 rfl (lv_at hl 5 rfl) ?_
      obtain ⟨z_45, e_z_45, h⟩ := bi h
      refine efVv (rest := []) ⟨hx, hb, hml, hown, ht⟩ (c_X4_look l D cy fu A_f f_sizes f_dangers A_n n_name n_courage n_weight n_medals n_stood n_fled n_liked n_votes n_count n_living n_pride n_quota n_melted n_lost A_a a_name a_courage a_weight a_medals a_stood a_fled a_liked a_votes a_count a_living a_pride a_quota a_melted a_lost A_y1 y1_row y1_missing y1_sort y1_many x3 z_45 e_z_45 _ rfl _ rfl) (cV ht mv_X4_look tb_991 rfl rfl ⟨Nat.le_of_ble_eq_true rfl, Nat.le_of_ble_eq_true rfl⟩) hP hS hX [7, 8, 6, 3] rfl rfl rfl rfl rfl rfl hl.1 rfl (Nat.le_of_ble_eq_true rfl) dX11_most_40 ⟨Nat.le_of_ble_eq_true rfl, Nat.le_of_ble_eq_true rfl⟩ (fun H locs hP hS => ?_)
      have hP : PD D A [bl_X11 cy A_b (A_T 0) (A_a 0) r_b_war r_b_draftArmy r_b_draftWar r_b_reader r_b_armyReader r_b_warReader r_b_markedArmies r_b_markedWars r_b_latest r_b_trial (A_f 0) r_b_pairs b_latestStatus b_fractionTop b_fractionBottom b_marks, [(A_T 0, .inl (cy 4, 4, .inr (.inr (.inr (.inr (trf4 (A_y0 0) (A_y1 0) (A_y2 0) (A_y3 0)))))))], bl_X8 cy A_y0 y0_row y0_missing y0_sort y0_many, bl_X8 cy A_y1 y1_row y1_missing y1_sort y1_many, bl_X8 cy A_y2 y2_row y2_missing y2_sort y2_many, bl_X8 cy A_y3 y3_row y3_missing y3_sort y3_many, bl_X0 cy A_a a_name a_courage a_weight a_medals a_stood a_fled a_liked a_votes a_count a_living a_pride a_quota a_melted a_lost, bl_X4 cy A_f (A_n 0) z_45.1 z_45.2.1, bl_X0 cy A_n z_45.2.2.1 z_45.2.2.2.1 z_45.2.2.2.2.1 z_45.2.2.2.2.2.1 z_45.2.2.2.2.2.2.1 z_45.2.2.2.2.2.2.2.1 z_45.2.2.2.2.2.2.2.2.1 n_votes z_45.2.2.2.2.2.2.2.2.2.1 z_45.2.2.2.2.2.2.2.2.2.2.1 z_45.2.2.2.2.2.2.2.2.2.2.2.1 z_45.2.2.2.2.2.2.2.2.2.2.2.2.1 z_45.2.2.2.2.2.2.2.2.2.2.2.2.2.1 z_45.2.2.2.2.2.2.2.2.2.2.2.2.2.2] H := hP
      refine lv_aload_n hx hb dX11_most_43 rfl (lv_at hl 2 rfl) ?_
      refine lv_aload_n hx hb dX11_most_44 rfl (lv_at hl 2 rfl) ?_
      refine xget (i := 0) (j := 0) (k := 16) (T := TX11) hx hb ht tb_iX11 hown hX hP.1 rfl rfl rfl (by decide) tb_445 rfl dX11_most_45 ?_
      refine lv_iload_n hx hb dX11_most_48 rfl (lv_at hl 3 rfl) ?_
      obtain ⟨z_46, e_z_46, h⟩ := bi h
      refine efVi (rest := [.ref (A_b 0)]) ⟨hx, hb, hml, hown, ht⟩ (c_X4_mostFor l D cy fu A_f z_45.1 z_45.2.1 A_n z_45.2.2.1 z_45.2.2.2.1 z_45.2.2.2.2.1 z_45.2.2.2.2.2.1 z_45.2.2.2.2.2.2.1 z_45.2.2.2.2.2.2.2.1 z_45.2.2.2.2.2.2.2.2.1 n_votes z_45.2.2.2.2.2.2.2.2.2.1 z_45.2.2.2.2.2.2.2.2.2.2.1 z_45.2.2.2.2.2.2.2.2.2.2.2.1 z_45.2.2.2.2.2.2.2.2.2.2.2.2.1 z_45.2.2.2.2.2.2.2.2.2.2.2.2.2.1 z_45.2.2.2.2.2.2.2.2.2.2.2.2.2.2 x1 z_46 e_z_46 _ rfl _ rfl) (cV ht mv_X4_mostFor tb_999 rfl rfl ⟨Nat.le_of_ble_eq_true rfl, Nat.le_of_ble_eq_true rfl⟩) hP hS hX [7, 8] rfl rfl rfl rfl rfl rfl hl.1 rfl (Nat.le_of_ble_eq_true rfl) dX11_most_49 ⟨Nat.le_of_ble_eq_true rfl, Nat.le_of_ble_eq_true rfl⟩ (fun H locs hP hS => ?_)
      have hP : PD D A [bl_X11 cy A_b (A_T 0) (A_a 0) r_b_war r_b_draftArmy r_b_draftWar r_b_reader r_b_armyReader r_b_warReader r_b_markedArmies r_b_markedWars r_b_latest r_b_trial (A_f 0) r_b_pairs b_latestStatus b_fractionTop b_fractionBottom b_marks, [(A_T 0, .inl (cy 4, 4, .inr (.inr (.inr (.inr (trf4 (A_y0 0) (A_y1 0) (A_y2 0) (A_y3 0)))))))], bl_X8 cy A_y0 y0_row y0_missing y0_sort y0_many, bl_X8 cy A_y1 y1_row y1_missing y1_sort y1_many, bl_X8 cy A_y2 y2_row y2_missing y2_sort y2_many, bl_X8 cy A_y3 y3_row y3_missing y3_sort y3_many, bl_X0 cy A_a a_name a_courage a_weight a_medals a_stood a_fled a_liked a_votes a_count a_living a_pride a_quota a_melted a_lost, bl_X4 cy A_f (A_n 0) z_45.1 z_45.2.1, bl_X0 cy A_n z_45.2.2.1 z_45.2.2.2.1 z_45.2.2.2.2.1 z_46.2.1 z_45.2.2.2.2.2.2.1 z_45.2.2.2.2.2.2.2.1 z_45.2.2.2.2.2.2.2.2.1 z_46.2.2 z_45.2.2.2.2.2.2.2.2.2.1 z_45.2.2.2.2.2.2.2.2.2.2.1 z_45.2.2.2.2.2.2.2.2.2.2.2.1 z_45.2.2.2.2.2.2.2.2.2.2.2.2.1 z_45.2.2.2.2.2.2.2.2.2.2.2.2.2.1 z_45.2.2.2.2.2.2.2.2.2.2.2.2.2.2] H := hP
      obtain ⟨z_47, e_z_47, h⟩ := bi h
      refine efVi (rest := []) ⟨hx, hb, hml, hown, ht⟩ (c_X11_answer l D cy fu A_b (A_T 0) (A_a 0) r_b_war r_b_draftArmy r_b_draftWar r_b_reader r_b_armyReader r_b_warReader r_b_markedArmies r_b_markedWars r_b_latest r_b_trial (A_f 0) r_b_pairs b_latestStatus b_fractionTop b_fractionBottom b_marks z_46.1 z_47 e_z_47 _ rfl _ rfl) (cV ht mv_X11_answer tb_696 rfl rfl ⟨Nat.le_of_ble_eq_true rfl, Nat.le_of_ble_eq_true rfl⟩) hP hS hX [0] rfl rfl rfl rfl rfl rfl hl.1 rfl (Nat.le_of_ble_eq_true rfl) dX11_most_52 ⟨Nat.le_of_ble_eq_true rfl, Nat.le_of_ble_eq_true rfl⟩ (fun H locs hP hS => ?_)
      have hP : PD D A [bl_X11 cy A_b (A_T 0) (A_a 0) r_b_war r_b_draftArmy r_b_draftWar r_b_reader r_b_armyReader r_b_warReader r_b_markedArmies r_b_markedWars r_b_latest r_b_trial (A_f 0) r_b_pairs z_47.2 b_fractionTop b_fractionBottom b_marks, [(A_T 0, .inl (cy 4, 4, .inr (.inr (.inr (.inr (trf4 (A_y0 0) (A_y1 0) (A_y2 0) (A_y3 0)))))))], bl_X8 cy A_y0 y0_row y0_missing y0_sort y0_many, bl_X8 cy A_y1 y1_row y1_missing y1_sort y1_many, bl_X8 cy A_y2 y2_row y2_missing y2_sort y2_many, bl_X8 cy A_y3 y3_row y3_missing y3_sort y3_many, bl_X0 cy A_a a_name a_courage a_weight a_medals a_stood a_fled a_liked a_votes a_count a_living a_pride a_quota a_melted a_lost, bl_X4 cy A_f (A_n 0) z_45.1 z_45.2.1, bl_X0 cy A_n z_45.2.2.1 z_45.2.2.2.1 z_45.2.2.2.2.1 z_46.2.1 z_45.2.2.2.2.2.2.1 z_45.2.2.2.2.2.2.2.1 z_45.2.2.2.2.2.2.2.2.1 z_46.2.2 z_45.2.2.2.2.2.2.2.2.2.1 z_45.2.2.2.2.2.2.2.2.2.2.1 z_45.2.2.2.2.2.2.2.2.2.2.2.1 z_45.2.2.2.2.2.2.2.2.2.2.2.2.1 z_45.2.2.2.2.2.2.2.2.2.2.2.2.2.1 z_45.2.2.2.2.2.2.2.2.2.2.2.2.2.2] H := hP
      cases h
      subst hW1
      exact W.iret hx hb hr (fun _ ht9 _ => ⟨⟨_, (), rfl, rfl, hPt ht9 hP.1⟩, hS.F ht9⟩) hS.2.2 dX11_most_55
    · have h := ie c_44 h
      refine lv_aload_n hx hb dX11_most_22 rfl (lv_at hl 2 rfl) ?_
      refine lv_iload hx hb dX11_most_23 (lv_at hl 0 rfl) ?_
      obtain ⟨z_48, e_z_48, h⟩ := bi h
      refine efVi (rest := []) ⟨hx, hb, hml, hown, ht⟩ (c_X11_refuse l D cy fu A_b (A_T 0) (A_a 0) r_b_war r_b_draftArmy r_b_draftWar r_b_reader r_b_armyReader r_b_warReader r_b_markedArmies r_b_markedWars r_b_latest r_b_trial (A_f 0) r_b_pairs b_latestStatus b_fractionTop b_fractionBottom b_marks z_43 z_48 e_z_48 _ rfl _ rfl) (cV ht mv_X11_refuse tb_543 rfl rfl ⟨Nat.le_of_ble_eq_true rfl, Nat.le_of_ble_eq_true rfl⟩) hP hS hX [0] rfl rfl rfl rfl rfl rfl hl.1 rfl (Nat.le_of_ble_eq_true rfl) dX11_most_25 ⟨Nat.le_of_ble_eq_true rfl, Nat.le_of_ble_eq_true rfl⟩ (fun H locs hP hS => ?_)
      have hP : PD D A [bl_X11 cy A_b (A_T 0) (A_a 0) r_b_war r_b_draftArmy r_b_draftWar r_b_reader r_b_armyReader r_b_warReader r_b_markedArmies r_b_markedWars r_b_latest r_b_trial (A_f 0) r_b_pairs z_48.2 b_fractionTop b_fractionBottom b_marks, [(A_T 0, .inl (cy 4, 4, .inr (.inr (.inr (.inr (trf4 (A_y0 0) (A_y1 0) (A_y2 0) (A_y3 0)))))))], bl_X8 cy A_y0 y0_row y0_missing y0_sort y0_many, bl_X8 cy A_y1 y1_row y1_missing y1_sort y1_many, bl_X8 cy A_y2 y2_row y2_missing y2_sort y2_many, bl_X8 cy A_y3 y3_row y3_missing y3_sort y3_many, bl_X0 cy A_a a_name a_courage a_weight a_medals a_stood a_fled a_liked a_votes a_count a_living a_pride a_quota a_melted a_lost, bl_X4 cy A_f (A_n 0) f_sizes f_dangers, bl_X0 cy A_n n_name n_courage n_weight n_medals n_stood n_fled n_liked n_votes n_count n_living n_pride n_quota n_melted n_lost] H := hP
      cases h
      subst hW1
      exact W.iret hx hb hr (fun _ ht9 _ => ⟨⟨_, (), rfl, rfl, hPt ht9 hP.1⟩, hS.F ht9⟩) hS.2.2 dX11_most_28
  have h := ie c_42 h
  by_cases c_49 : x2 = 2
  · have h := it c_49 h
    refine roVq (rest := []) ⟨hx, hb, hml, hown, ht⟩ (c_X11_trayAt l D cy fu A_b (A_a 0) r_b_war r_b_draftArmy r_b_draftWar r_b_reader r_b_armyReader r_b_warReader r_b_markedArmies r_b_markedWars r_b_latest r_b_trial (A_f 0) r_b_pairs b_latestStatus b_fractionTop b_fractionBottom b_marks A_T (trf4 (A_y0 0) (A_y1 0) (A_y2 0) (A_y3 0)) x2 (some (A_y2 0)) (tray_2 c_49)) (cV ht mv_X11_trayAt tb_500 rfl rfl ⟨Nat.le_of_ble_eq_true rfl, Nat.le_of_ble_eq_true rfl⟩) (P_sub hP.1 [0, 1] rfl) hX rfl rfl rfl hl.1 rfl (Nat.le_of_ble_eq_true rfl) dX11_most_2 ⟨Nat.le_of_ble_eq_true rfl, Nat.le_of_ble_eq_true rfl⟩ ?_
    refine lv_astore (lv' := [(4, .ref (A_y2 0)), (0, .ref (A_b 0)), (1, .int x1), (2, .int x2), (3, .int x3)]) hx hb dX11_most_5 hl (by decide) rfl (fun ls hl => ?_)
    refine lv_aload_n hx hb dX11_most_7 rfl (lv_at hl 1 rfl) ?_
    refine lv_iload_n hx hb dX11_most_8 rfl (lv_at hl 2 rfl) ?_
    refine lv_aload hx hb dX11_most_9 (lv_at hl 0 rfl) ?_
    refine lv_iload_n hx hb dX11_most_11 rfl (lv_at hl 4 rfl) ?_
    obtain ⟨z_50, e_z_50, h⟩ := bi h
    refine roVi (rest := []) ⟨hx, hb, hml, hown, ht⟩ (c_X11_ordersRefusal l D cy fu A_b (A_T 0) r_b_war r_b_draftArmy r_b_draftWar r_b_reader r_b_armyReader r_b_warReader r_b_markedArmies r_b_markedWars r_b_latest r_b_trial (A_f 0) r_b_pairs b_latestStatus b_fractionTop b_fractionBottom b_marks A_y2 y2_row y2_missing y2_sort y2_many A_a a_name a_courage a_weight a_medals a_stood a_fled a_liked a_votes a_count a_living a_pride a_quota a_melted a_lost x1 x3 z_50 e_z_50) (cV ht mv_X11_ordersRefusal tb_981 rfl rfl ⟨Nat.le_of_ble_eq_true rfl, Nat.le_of_ble_eq_true rfl⟩) (P_sub hP.1 [0, 4, 6] rfl) hX rfl rfl rfl hl.1 rfl (Nat.le_of_ble_eq_true rfl) dX11_most_12 ⟨Nat.le_of_ble_eq_true rfl, Nat.le_of_ble_eq_true rfl⟩ ?_
    refine lv_istore (lv' := [(5, .int z_50), (4, .ref (A_y2 0)), (0, .ref (A_b 0)), (1, .int x1), (2, .int x2), (3, .int x3)]) hx hb dX11_most_15 hl (by decide) rfl (fun ls hl => ?_)
    refine lv_iload hx hb dX11_most_17 (lv_at hl 0 rfl) ?_
    refine lv_if_eq (tgt := 29) hx hb dX11_most_19 (by decide) (fun c_51 => ?_) (fun c_51 => ?_)
    · have h := it c_51 h
      refine lv_aload_n hx hb dX11_most_29 rfl (lv_at hl 2 rfl) ?_
      refine xget (i := 0) (j := 0) (k := 16) (T := TX11) hx hb ht tb_iX11 hown hX hP.1 rfl rfl rfl (by decide) tb_445 rfl dX11_most_30 ?_
      refine lv_aload_n hx hb dX11_most_33 rfl (lv_at hl 2 rfl) ?_
      refine xget (i := 0) (j := 0) (k := 4) (T := TX11) hx hb ht tb_iX11 hown hX hP.1 rfl rfl rfl (by decide) tb_433 rfl dX11_most_34 ?_
      refine lv_aload hx hb dX11_most_37 (lv_at hl 1 rfl) ?_
      refine lv_iload_n hx hb dX11_most_39 rfl (lv_at hl 5 rfl) ?_
      obtain ⟨z_52, e_z_52, h⟩ := bi h
      refine efVv (rest := []) ⟨hx, hb, hml, hown, ht⟩ (c_X4_look l D cy fu A_f f_sizes f_dangers A_n n_name n_courage n_weight n_medals n_stood n_fled n_liked n_votes n_count n_living n_pride n_quota n_melted n_lost A_a a_name a_courage a_weight a_medals a_stood a_fled a_liked a_votes a_count a_living a_pride a_quota a_melted a_lost A_y2 y2_row y2_missing y2_sort y2_many x3 z_52 e_z_52 _ rfl _ rfl) (cV ht mv_X4_look tb_991 rfl rfl ⟨Nat.le_of_ble_eq_true rfl, Nat.le_of_ble_eq_true rfl⟩) hP hS hX [7, 8, 6, 4] rfl rfl rfl rfl rfl rfl hl.1 rfl (Nat.le_of_ble_eq_true rfl) dX11_most_40 ⟨Nat.le_of_ble_eq_true rfl, Nat.le_of_ble_eq_true rfl⟩ (fun H locs hP hS => ?_)
      have hP : PD D A [bl_X11 cy A_b (A_T 0) (A_a 0) r_b_war r_b_draftArmy r_b_draftWar r_b_reader r_b_armyReader r_b_warReader r_b_markedArmies r_b_markedWars r_b_latest r_b_trial (A_f 0) r_b_pairs b_latestStatus b_fractionTop b_fractionBottom b_marks, [(A_T 0, .inl (cy 4, 4, .inr (.inr (.inr (.inr (trf4 (A_y0 0) (A_y1 0) (A_y2 0) (A_y3 0)))))))], bl_X8 cy A_y0 y0_row y0_missing y0_sort y0_many, bl_X8 cy A_y1 y1_row y1_missing y1_sort y1_many, bl_X8 cy A_y2 y2_row y2_missing y2_sort y2_many, bl_X8 cy A_y3 y3_row y3_missing y3_sort y3_many, bl_X0 cy A_a a_name a_courage a_weight a_medals a_stood a_fled a_liked a_votes a_count a_living a_pride a_quota a_melted a_lost, bl_X4 cy A_f (A_n 0) z_52.1 z_52.2.1, bl_X0 cy A_n z_52.2.2.1 z_52.2.2.2.1 z_52.2.2.2.2.1 z_52.2.2.2.2.2.1 z_52.2.2.2.2.2.2.1 z_52.2.2.2.2.2.2.2.1 z_52.2.2.2.2.2.2.2.2.1 n_votes z_52.2.2.2.2.2.2.2.2.2.1 z_52.2.2.2.2.2.2.2.2.2.2.1 z_52.2.2.2.2.2.2.2.2.2.2.2.1 z_52.2.2.2.2.2.2.2.2.2.2.2.2.1 z_52.2.2.2.2.2.2.2.2.2.2.2.2.2.1 z_52.2.2.2.2.2.2.2.2.2.2.2.2.2.2] H := hP
      refine lv_aload_n hx hb dX11_most_43 rfl (lv_at hl 2 rfl) ?_
      refine lv_aload_n hx hb dX11_most_44 rfl (lv_at hl 2 rfl) ?_
      refine xget (i := 0) (j := 0) (k := 16) (T := TX11) hx hb ht tb_iX11 hown hX hP.1 rfl rfl rfl (by decide) tb_445 rfl dX11_most_45 ?_
      refine lv_iload_n hx hb dX11_most_48 rfl (lv_at hl 3 rfl) ?_
      obtain ⟨z_53, e_z_53, h⟩ := bi h
      refine efVi (rest := [.ref (A_b 0)]) ⟨hx, hb, hml, hown, ht⟩ (c_X4_mostFor l D cy fu A_f z_52.1 z_52.2.1 A_n z_52.2.2.1 z_52.2.2.2.1 z_52.2.2.2.2.1 z_52.2.2.2.2.2.1 z_52.2.2.2.2.2.2.1 z_52.2.2.2.2.2.2.2.1 z_52.2.2.2.2.2.2.2.2.1 n_votes z_52.2.2.2.2.2.2.2.2.2.1 z_52.2.2.2.2.2.2.2.2.2.2.1 z_52.2.2.2.2.2.2.2.2.2.2.2.1 z_52.2.2.2.2.2.2.2.2.2.2.2.2.1 z_52.2.2.2.2.2.2.2.2.2.2.2.2.2.1 z_52.2.2.2.2.2.2.2.2.2.2.2.2.2.2 x1 z_53 e_z_53 _ rfl _ rfl) (cV ht mv_X4_mostFor tb_999 rfl rfl ⟨Nat.le_of_ble_eq_true rfl, Nat.le_of_ble_eq_true rfl⟩) hP hS hX [7, 8] rfl rfl rfl rfl rfl rfl hl.1 rfl (Nat.le_of_ble_eq_true rfl) dX11_most_49 ⟨Nat.le_of_ble_eq_true rfl, Nat.le_of_ble_eq_true rfl⟩ (fun H locs hP hS => ?_)
      have hP : PD D A [bl_X11 cy A_b (A_T 0) (A_a 0) r_b_war r_b_draftArmy r_b_draftWar r_b_reader r_b_armyReader r_b_warReader r_b_markedArmies r_b_markedWars r_b_latest r_b_trial (A_f 0) r_b_pairs b_latestStatus b_fractionTop b_fractionBottom b_marks, [(A_T 0, .inl (cy 4, 4, .inr (.inr (.inr (.inr (trf4 (A_y0 0) (A_y1 0) (A_y2 0) (A_y3 0)))))))], bl_X8 cy A_y0 y0_row y0_missing y0_sort y0_many, bl_X8 cy A_y1 y1_row y1_missing y1_sort y1_many, bl_X8 cy A_y2 y2_row y2_missing y2_sort y2_many, bl_X8 cy A_y3 y3_row y3_missing y3_sort y3_many, bl_X0 cy A_a a_name a_courage a_weight a_medals a_stood a_fled a_liked a_votes a_count a_living a_pride a_quota a_melted a_lost, bl_X4 cy A_f (A_n 0) z_52.1 z_52.2.1, bl_X0 cy A_n z_52.2.2.1 z_52.2.2.2.1 z_52.2.2.2.2.1 z_53.2.1 z_52.2.2.2.2.2.2.1 z_52.2.2.2.2.2.2.2.1 z_52.2.2.2.2.2.2.2.2.1 z_53.2.2 z_52.2.2.2.2.2.2.2.2.2.1 z_52.2.2.2.2.2.2.2.2.2.2.1 z_52.2.2.2.2.2.2.2.2.2.2.2.1 z_52.2.2.2.2.2.2.2.2.2.2.2.2.1 z_52.2.2.2.2.2.2.2.2.2.2.2.2.2.1 z_52.2.2.2.2.2.2.2.2.2.2.2.2.2.2] H := hP
      obtain ⟨z_54, e_z_54, h⟩ := bi h
      refine efVi (rest := []) ⟨hx, hb, hml, hown, ht⟩ (c_X11_answer l D cy fu A_b (A_T 0) (A_a 0) r_b_war r_b_draftArmy r_b_draftWar r_b_reader r_b_armyReader r_b_warReader r_b_markedArmies r_b_markedWars r_b_latest r_b_trial (A_f 0) r_b_pairs b_latestStatus b_fractionTop b_fractionBottom b_marks z_53.1 z_54 e_z_54 _ rfl _ rfl) (cV ht mv_X11_answer tb_696 rfl rfl ⟨Nat.le_of_ble_eq_true rfl, Nat.le_of_ble_eq_true rfl⟩) hP hS hX [0] rfl rfl rfl rfl rfl rfl hl.1 rfl (Nat.le_of_ble_eq_true rfl) dX11_most_52 ⟨Nat.le_of_ble_eq_true rfl, Nat.le_of_ble_eq_true rfl⟩ (fun H locs hP hS => ?_)
      have hP : PD D A [bl_X11 cy A_b (A_T 0) (A_a 0) r_b_war r_b_draftArmy r_b_draftWar r_b_reader r_b_armyReader r_b_warReader r_b_markedArmies r_b_markedWars r_b_latest r_b_trial (A_f 0) r_b_pairs z_54.2 b_fractionTop b_fractionBottom b_marks, [(A_T 0, .inl (cy 4, 4, .inr (.inr (.inr (.inr (trf4 (A_y0 0) (A_y1 0) (A_y2 0) (A_y3 0)))))))], bl_X8 cy A_y0 y0_row y0_missing y0_sort y0_many, bl_X8 cy A_y1 y1_row y1_missing y1_sort y1_many, bl_X8 cy A_y2 y2_row y2_missing y2_sort y2_many, bl_X8 cy A_y3 y3_row y3_missing y3_sort y3_many, bl_X0 cy A_a a_name a_courage a_weight a_medals a_stood a_fled a_liked a_votes a_count a_living a_pride a_quota a_melted a_lost, bl_X4 cy A_f (A_n 0) z_52.1 z_52.2.1, bl_X0 cy A_n z_52.2.2.1 z_52.2.2.2.1 z_52.2.2.2.2.1 z_53.2.1 z_52.2.2.2.2.2.2.1 z_52.2.2.2.2.2.2.2.1 z_52.2.2.2.2.2.2.2.2.1 z_53.2.2 z_52.2.2.2.2.2.2.2.2.2.1 z_52.2.2.2.2.2.2.2.2.2.2.1 z_52.2.2.2.2.2.2.2.2.2.2.2.1 z_52.2.2.2.2.2.2.2.2.2.2.2.2.1 z_52.2.2.2.2.2.2.2.2.2.2.2.2.2.1 z_52.2.2.2.2.2.2.2.2.2.2.2.2.2.2] H := hP
      cases h
      subst hW1
      exact W.iret hx hb hr (fun _ ht9 _ => ⟨⟨_, (), rfl, rfl, hPt ht9 hP.1⟩, hS.F ht9⟩) hS.2.2 dX11_most_55
    · have h := ie c_51 h
      refine lv_aload_n hx hb dX11_most_22 rfl (lv_at hl 2 rfl) ?_
      refine lv_iload hx hb dX11_most_23 (lv_at hl 0 rfl) ?_
      obtain ⟨z_55, e_z_55, h⟩ := bi h
      refine efVi (rest := []) ⟨hx, hb, hml, hown, ht⟩ (c_X11_refuse l D cy fu A_b (A_T 0) (A_a 0) r_b_war r_b_draftArmy r_b_draftWar r_b_reader r_b_armyReader r_b_warReader r_b_markedArmies r_b_markedWars r_b_latest r_b_trial (A_f 0) r_b_pairs b_latestStatus b_fractionTop b_fractionBottom b_marks z_50 z_55 e_z_55 _ rfl _ rfl) (cV ht mv_X11_refuse tb_543 rfl rfl ⟨Nat.le_of_ble_eq_true rfl, Nat.le_of_ble_eq_true rfl⟩) hP hS hX [0] rfl rfl rfl rfl rfl rfl hl.1 rfl (Nat.le_of_ble_eq_true rfl) dX11_most_25 ⟨Nat.le_of_ble_eq_true rfl, Nat.le_of_ble_eq_true rfl⟩ (fun H locs hP hS => ?_)
      have hP : PD D A [bl_X11 cy A_b (A_T 0) (A_a 0) r_b_war r_b_draftArmy r_b_draftWar r_b_reader r_b_armyReader r_b_warReader r_b_markedArmies r_b_markedWars r_b_latest r_b_trial (A_f 0) r_b_pairs z_55.2 b_fractionTop b_fractionBottom b_marks, [(A_T 0, .inl (cy 4, 4, .inr (.inr (.inr (.inr (trf4 (A_y0 0) (A_y1 0) (A_y2 0) (A_y3 0)))))))], bl_X8 cy A_y0 y0_row y0_missing y0_sort y0_many, bl_X8 cy A_y1 y1_row y1_missing y1_sort y1_many, bl_X8 cy A_y2 y2_row y2_missing y2_sort y2_many, bl_X8 cy A_y3 y3_row y3_missing y3_sort y3_many, bl_X0 cy A_a a_name a_courage a_weight a_medals a_stood a_fled a_liked a_votes a_count a_living a_pride a_quota a_melted a_lost, bl_X4 cy A_f (A_n 0) f_sizes f_dangers, bl_X0 cy A_n n_name n_courage n_weight n_medals n_stood n_fled n_liked n_votes n_count n_living n_pride n_quota n_melted n_lost] H := hP
      cases h
      subst hW1
      exact W.iret hx hb hr (fun _ ht9 _ => ⟨⟨_, (), rfl, rfl, hPt ht9 hP.1⟩, hS.F ht9⟩) hS.2.2 dX11_most_28
  have h := ie c_49 h
  by_cases c_56 : x2 = 3
  · have h := it c_56 h
    refine roVq (rest := []) ⟨hx, hb, hml, hown, ht⟩ (c_X11_trayAt l D cy fu A_b (A_a 0) r_b_war r_b_draftArmy r_b_draftWar r_b_reader r_b_armyReader r_b_warReader r_b_markedArmies r_b_markedWars r_b_latest r_b_trial (A_f 0) r_b_pairs b_latestStatus b_fractionTop b_fractionBottom b_marks A_T (trf4 (A_y0 0) (A_y1 0) (A_y2 0) (A_y3 0)) x2 (some (A_y3 0)) (tray_3 c_56)) (cV ht mv_X11_trayAt tb_500 rfl rfl ⟨Nat.le_of_ble_eq_true rfl, Nat.le_of_ble_eq_true rfl⟩) (P_sub hP.1 [0, 1] rfl) hX rfl rfl rfl hl.1 rfl (Nat.le_of_ble_eq_true rfl) dX11_most_2 ⟨Nat.le_of_ble_eq_true rfl, Nat.le_of_ble_eq_true rfl⟩ ?_
    refine lv_astore (lv' := [(4, .ref (A_y3 0)), (0, .ref (A_b 0)), (1, .int x1), (2, .int x2), (3, .int x3)]) hx hb dX11_most_5 hl (by decide) rfl (fun ls hl => ?_)
    refine lv_aload_n hx hb dX11_most_7 rfl (lv_at hl 1 rfl) ?_
    refine lv_iload_n hx hb dX11_most_8 rfl (lv_at hl 2 rfl) ?_
    refine lv_aload hx hb dX11_most_9 (lv_at hl 0 rfl) ?_
    refine lv_iload_n hx hb dX11_most_11 rfl (lv_at hl 4 rfl) ?_
    obtain ⟨z_57, e_z_57, h⟩ := bi h
    refine roVi (rest := []) ⟨hx, hb, hml, hown, ht⟩ (c_X11_ordersRefusal l D cy fu A_b (A_T 0) r_b_war r_b_draftArmy r_b_draftWar r_b_reader r_b_armyReader r_b_warReader r_b_markedArmies r_b_markedWars r_b_latest r_b_trial (A_f 0) r_b_pairs b_latestStatus b_fractionTop b_fractionBottom b_marks A_y3 y3_row y3_missing y3_sort y3_many A_a a_name a_courage a_weight a_medals a_stood a_fled a_liked a_votes a_count a_living a_pride a_quota a_melted a_lost x1 x3 z_57 e_z_57) (cV ht mv_X11_ordersRefusal tb_981 rfl rfl ⟨Nat.le_of_ble_eq_true rfl, Nat.le_of_ble_eq_true rfl⟩) (P_sub hP.1 [0, 5, 6] rfl) hX rfl rfl rfl hl.1 rfl (Nat.le_of_ble_eq_true rfl) dX11_most_12 ⟨Nat.le_of_ble_eq_true rfl, Nat.le_of_ble_eq_true rfl⟩ ?_
    refine lv_istore (lv' := [(5, .int z_57), (4, .ref (A_y3 0)), (0, .ref (A_b 0)), (1, .int x1), (2, .int x2), (3, .int x3)]) hx hb dX11_most_15 hl (by decide) rfl (fun ls hl => ?_)
    refine lv_iload hx hb dX11_most_17 (lv_at hl 0 rfl) ?_
    refine lv_if_eq (tgt := 29) hx hb dX11_most_19 (by decide) (fun c_58 => ?_) (fun c_58 => ?_)
    · have h := it c_58 h
      refine lv_aload_n hx hb dX11_most_29 rfl (lv_at hl 2 rfl) ?_
      refine xget (i := 0) (j := 0) (k := 16) (T := TX11) hx hb ht tb_iX11 hown hX hP.1 rfl rfl rfl (by decide) tb_445 rfl dX11_most_30 ?_
      refine lv_aload_n hx hb dX11_most_33 rfl (lv_at hl 2 rfl) ?_
      refine xget (i := 0) (j := 0) (k := 4) (T := TX11) hx hb ht tb_iX11 hown hX hP.1 rfl rfl rfl (by decide) tb_433 rfl dX11_most_34 ?_
      refine lv_aload hx hb dX11_most_37 (lv_at hl 1 rfl) ?_
      refine lv_iload_n hx hb dX11_most_39 rfl (lv_at hl 5 rfl) ?_
      obtain ⟨z_59, e_z_59, h⟩ := bi h
      refine efVv (rest := []) ⟨hx, hb, hml, hown, ht⟩ (c_X4_look l D cy fu A_f f_sizes f_dangers A_n n_name n_courage n_weight n_medals n_stood n_fled n_liked n_votes n_count n_living n_pride n_quota n_melted n_lost A_a a_name a_courage a_weight a_medals a_stood a_fled a_liked a_votes a_count a_living a_pride a_quota a_melted a_lost A_y3 y3_row y3_missing y3_sort y3_many x3 z_59 e_z_59 _ rfl _ rfl) (cV ht mv_X4_look tb_991 rfl rfl ⟨Nat.le_of_ble_eq_true rfl, Nat.le_of_ble_eq_true rfl⟩) hP hS hX [7, 8, 6, 5] rfl rfl rfl rfl rfl rfl hl.1 rfl (Nat.le_of_ble_eq_true rfl) dX11_most_40 ⟨Nat.le_of_ble_eq_true rfl, Nat.le_of_ble_eq_true rfl⟩ (fun H locs hP hS => ?_)
      have hP : PD D A [bl_X11 cy A_b (A_T 0) (A_a 0) r_b_war r_b_draftArmy r_b_draftWar r_b_reader r_b_armyReader r_b_warReader r_b_markedArmies r_b_markedWars r_b_latest r_b_trial (A_f 0) r_b_pairs b_latestStatus b_fractionTop b_fractionBottom b_marks, [(A_T 0, .inl (cy 4, 4, .inr (.inr (.inr (.inr (trf4 (A_y0 0) (A_y1 0) (A_y2 0) (A_y3 0)))))))], bl_X8 cy A_y0 y0_row y0_missing y0_sort y0_many, bl_X8 cy A_y1 y1_row y1_missing y1_sort y1_many, bl_X8 cy A_y2 y2_row y2_missing y2_sort y2_many, bl_X8 cy A_y3 y3_row y3_missing y3_sort y3_many, bl_X0 cy A_a a_name a_courage a_weight a_medals a_stood a_fled a_liked a_votes a_count a_living a_pride a_quota a_melted a_lost, bl_X4 cy A_f (A_n 0) z_59.1 z_59.2.1, bl_X0 cy A_n z_59.2.2.1 z_59.2.2.2.1 z_59.2.2.2.2.1 z_59.2.2.2.2.2.1 z_59.2.2.2.2.2.2.1 z_59.2.2.2.2.2.2.2.1 z_59.2.2.2.2.2.2.2.2.1 n_votes z_59.2.2.2.2.2.2.2.2.2.1 z_59.2.2.2.2.2.2.2.2.2.2.1 z_59.2.2.2.2.2.2.2.2.2.2.2.1 z_59.2.2.2.2.2.2.2.2.2.2.2.2.1 z_59.2.2.2.2.2.2.2.2.2.2.2.2.2.1 z_59.2.2.2.2.2.2.2.2.2.2.2.2.2.2] H := hP
      refine lv_aload_n hx hb dX11_most_43 rfl (lv_at hl 2 rfl) ?_
      refine lv_aload_n hx hb dX11_most_44 rfl (lv_at hl 2 rfl) ?_
      refine xget (i := 0) (j := 0) (k := 16) (T := TX11) hx hb ht tb_iX11 hown hX hP.1 rfl rfl rfl (by decide) tb_445 rfl dX11_most_45 ?_
      refine lv_iload_n hx hb dX11_most_48 rfl (lv_at hl 3 rfl) ?_
      obtain ⟨z_60, e_z_60, h⟩ := bi h
      refine efVi (rest := [.ref (A_b 0)]) ⟨hx, hb, hml, hown, ht⟩ (c_X4_mostFor l D cy fu A_f z_59.1 z_59.2.1 A_n z_59.2.2.1 z_59.2.2.2.1 z_59.2.2.2.2.1 z_59.2.2.2.2.2.1 z_59.2.2.2.2.2.2.1 z_59.2.2.2.2.2.2.2.1 z_59.2.2.2.2.2.2.2.2.1 n_votes z_59.2.2.2.2.2.2.2.2.2.1 z_59.2.2.2.2.2.2.2.2.2.2.1 z_59.2.2.2.2.2.2.2.2.2.2.2.1 z_59.2.2.2.2.2.2.2.2.2.2.2.2.1 z_59.2.2.2.2.2.2.2.2.2.2.2.2.2.1 z_59.2.2.2.2.2.2.2.2.2.2.2.2.2.2 x1 z_60 e_z_60 _ rfl _ rfl) (cV ht mv_X4_mostFor tb_999 rfl rfl ⟨Nat.le_of_ble_eq_true rfl, Nat.le_of_ble_eq_true rfl⟩) hP hS hX [7, 8] rfl rfl rfl rfl rfl rfl hl.1 rfl (Nat.le_of_ble_eq_true rfl) dX11_most_49 ⟨Nat.le_of_ble_eq_true rfl, Nat.le_of_ble_eq_true rfl⟩ (fun H locs hP hS => ?_)
      have hP : PD D A [bl_X11 cy A_b (A_T 0) (A_a 0) r_b_war r_b_draftArmy r_b_draftWar r_b_reader r_b_armyReader r_b_warReader r_b_markedArmies r_b_markedWars r_b_latest r_b_trial (A_f 0) r_b_pairs b_latestStatus b_fractionTop b_fractionBottom b_marks, [(A_T 0, .inl (cy 4, 4, .inr (.inr (.inr (.inr (trf4 (A_y0 0) (A_y1 0) (A_y2 0) (A_y3 0)))))))], bl_X8 cy A_y0 y0_row y0_missing y0_sort y0_many, bl_X8 cy A_y1 y1_row y1_missing y1_sort y1_many, bl_X8 cy A_y2 y2_row y2_missing y2_sort y2_many, bl_X8 cy A_y3 y3_row y3_missing y3_sort y3_many, bl_X0 cy A_a a_name a_courage a_weight a_medals a_stood a_fled a_liked a_votes a_count a_living a_pride a_quota a_melted a_lost, bl_X4 cy A_f (A_n 0) z_59.1 z_59.2.1, bl_X0 cy A_n z_59.2.2.1 z_59.2.2.2.1 z_59.2.2.2.2.1 z_60.2.1 z_59.2.2.2.2.2.2.1 z_59.2.2.2.2.2.2.2.1 z_59.2.2.2.2.2.2.2.2.1 z_60.2.2 z_59.2.2.2.2.2.2.2.2.2.1 z_59.2.2.2.2.2.2.2.2.2.2.1 z_59.2.2.2.2.2.2.2.2.2.2.2.1 z_59.2.2.2.2.2.2.2.2.2.2.2.2.1 z_59.2.2.2.2.2.2.2.2.2.2.2.2.2.1 z_59.2.2.2.2.2.2.2.2.2.2.2.2.2.2] H := hP
      obtain ⟨z_61, e_z_61, h⟩ := bi h
      refine efVi (rest := []) ⟨hx, hb, hml, hown, ht⟩ (c_X11_answer l D cy fu A_b (A_T 0) (A_a 0) r_b_war r_b_draftArmy r_b_draftWar r_b_reader r_b_armyReader r_b_warReader r_b_markedArmies r_b_markedWars r_b_latest r_b_trial (A_f 0) r_b_pairs b_latestStatus b_fractionTop b_fractionBottom b_marks z_60.1 z_61 e_z_61 _ rfl _ rfl) (cV ht mv_X11_answer tb_696 rfl rfl ⟨Nat.le_of_ble_eq_true rfl, Nat.le_of_ble_eq_true rfl⟩) hP hS hX [0] rfl rfl rfl rfl rfl rfl hl.1 rfl (Nat.le_of_ble_eq_true rfl) dX11_most_52 ⟨Nat.le_of_ble_eq_true rfl, Nat.le_of_ble_eq_true rfl⟩ (fun H locs hP hS => ?_)
      have hP : PD D A [bl_X11 cy A_b (A_T 0) (A_a 0) r_b_war r_b_draftArmy r_b_draftWar r_b_reader r_b_armyReader r_b_warReader r_b_markedArmies r_b_markedWars r_b_latest r_b_trial (A_f 0) r_b_pairs z_61.2 b_fractionTop b_fractionBottom b_marks, [(A_T 0, .inl (cy 4, 4, .inr (.inr (.inr (.inr (trf4 (A_y0 0) (A_y1 0) (A_y2 0) (A_y3 0)))))))], bl_X8 cy A_y0 y0_row y0_missing y0_sort y0_many, bl_X8 cy A_y1 y1_row y1_missing y1_sort y1_many, bl_X8 cy A_y2 y2_row y2_missing y2_sort y2_many, bl_X8 cy A_y3 y3_row y3_missing y3_sort y3_many, bl_X0 cy A_a a_name a_courage a_weight a_medals a_stood a_fled a_liked a_votes a_count a_living a_pride a_quota a_melted a_lost, bl_X4 cy A_f (A_n 0) z_59.1 z_59.2.1, bl_X0 cy A_n z_59.2.2.1 z_59.2.2.2.1 z_59.2.2.2.2.1 z_60.2.1 z_59.2.2.2.2.2.2.1 z_59.2.2.2.2.2.2.2.1 z_59.2.2.2.2.2.2.2.2.1 z_60.2.2 z_59.2.2.2.2.2.2.2.2.2.1 z_59.2.2.2.2.2.2.2.2.2.2.1 z_59.2.2.2.2.2.2.2.2.2.2.2.1 z_59.2.2.2.2.2.2.2.2.2.2.2.2.1 z_59.2.2.2.2.2.2.2.2.2.2.2.2.2.1 z_59.2.2.2.2.2.2.2.2.2.2.2.2.2.2] H := hP
      cases h
      subst hW1
      exact W.iret hx hb hr (fun _ ht9 _ => ⟨⟨_, (), rfl, rfl, hPt ht9 hP.1⟩, hS.F ht9⟩) hS.2.2 dX11_most_55
    · have h := ie c_58 h
      refine lv_aload_n hx hb dX11_most_22 rfl (lv_at hl 2 rfl) ?_
      refine lv_iload hx hb dX11_most_23 (lv_at hl 0 rfl) ?_
      obtain ⟨z_62, e_z_62, h⟩ := bi h
      refine efVi (rest := []) ⟨hx, hb, hml, hown, ht⟩ (c_X11_refuse l D cy fu A_b (A_T 0) (A_a 0) r_b_war r_b_draftArmy r_b_draftWar r_b_reader r_b_armyReader r_b_warReader r_b_markedArmies r_b_markedWars r_b_latest r_b_trial (A_f 0) r_b_pairs b_latestStatus b_fractionTop b_fractionBottom b_marks z_57 z_62 e_z_62 _ rfl _ rfl) (cV ht mv_X11_refuse tb_543 rfl rfl ⟨Nat.le_of_ble_eq_true rfl, Nat.le_of_ble_eq_true rfl⟩) hP hS hX [0] rfl rfl rfl rfl rfl rfl hl.1 rfl (Nat.le_of_ble_eq_true rfl) dX11_most_25 ⟨Nat.le_of_ble_eq_true rfl, Nat.le_of_ble_eq_true rfl⟩ (fun H locs hP hS => ?_)
      have hP : PD D A [bl_X11 cy A_b (A_T 0) (A_a 0) r_b_war r_b_draftArmy r_b_draftWar r_b_reader r_b_armyReader r_b_warReader r_b_markedArmies r_b_markedWars r_b_latest r_b_trial (A_f 0) r_b_pairs z_62.2 b_fractionTop b_fractionBottom b_marks, [(A_T 0, .inl (cy 4, 4, .inr (.inr (.inr (.inr (trf4 (A_y0 0) (A_y1 0) (A_y2 0) (A_y3 0)))))))], bl_X8 cy A_y0 y0_row y0_missing y0_sort y0_many, bl_X8 cy A_y1 y1_row y1_missing y1_sort y1_many, bl_X8 cy A_y2 y2_row y2_missing y2_sort y2_many, bl_X8 cy A_y3 y3_row y3_missing y3_sort y3_many, bl_X0 cy A_a a_name a_courage a_weight a_medals a_stood a_fled a_liked a_votes a_count a_living a_pride a_quota a_melted a_lost, bl_X4 cy A_f (A_n 0) f_sizes f_dangers, bl_X0 cy A_n n_name n_courage n_weight n_medals n_stood n_fled n_liked n_votes n_count n_living n_pride n_quota n_melted n_lost] H := hP
      cases h
      subst hW1
      exact W.iret hx hb hr (fun _ ht9 _ => ⟨⟨_, (), rfl, rfl, hPt ht9 hP.1⟩, hS.F ht9⟩) hS.2.2 dX11_most_28
  have h := ie c_56 h
  refine roVq (rest := []) ⟨hx, hb, hml, hown, ht⟩ (c_X11_trayAt l D cy fu A_b (A_a 0) r_b_war r_b_draftArmy r_b_draftWar r_b_reader r_b_armyReader r_b_warReader r_b_markedArmies r_b_markedWars r_b_latest r_b_trial (A_f 0) r_b_pairs b_latestStatus b_fractionTop b_fractionBottom b_marks A_T (trf4 (A_y0 0) (A_y1 0) (A_y2 0) (A_y3 0)) x2 (none) (tray_out ⟨c_35, c_42, c_49, c_56⟩)) (cV ht mv_X11_trayAt tb_500 rfl rfl ⟨Nat.le_of_ble_eq_true rfl, Nat.le_of_ble_eq_true rfl⟩) (P_sub hP.1 [0, 1] rfl) hX rfl rfl rfl hl.1 rfl (Nat.le_of_ble_eq_true rfl) dX11_most_2 ⟨Nat.le_of_ble_eq_true rfl, Nat.le_of_ble_eq_true rfl⟩ ?_
  refine lv_astoreN (lv' := [(4, .null), (0, .ref (A_b 0)), (1, .int x1), (2, .int x2), (3, .int x3)]) hx hb dX11_most_5 hl (by decide) rfl (fun ls hl => ?_)
  refine lv_aload_n hx hb dX11_most_7 rfl (lv_at hl 1 rfl) ?_
  refine lv_iload_n hx hb dX11_most_8 rfl (lv_at hl 2 rfl) ?_
  refine lv_aloadN hx hb dX11_most_9 (lv_at hl 0 rfl) ?_
  refine lv_iload_n hx hb dX11_most_11 rfl (lv_at hl 4 rfl) ?_
  obtain ⟨z_63, e_z_63, h⟩ := bi h
  refine roVi (rest := []) ⟨hx, hb, hml, hown, ht⟩ (c_X11_ordersRefusal_n2 l D cy fu A_b (A_T 0) r_b_war r_b_draftArmy r_b_draftWar r_b_reader r_b_armyReader r_b_warReader r_b_markedArmies r_b_markedWars r_b_latest r_b_trial (A_f 0) r_b_pairs b_latestStatus b_fractionTop b_fractionBottom b_marks A_a a_name a_courage a_weight a_medals a_stood a_fled a_liked a_votes a_count a_living a_pride a_quota a_melted a_lost x1 x3 z_63 e_z_63) (cV ht mv_X11_ordersRefusal tb_981 rfl rfl ⟨Nat.le_of_ble_eq_true rfl, Nat.le_of_ble_eq_true rfl⟩) (P_sub hP.1 [0, 6] rfl) hX rfl rfl rfl hl.1 rfl (Nat.le_of_ble_eq_true rfl) dX11_most_12 ⟨Nat.le_of_ble_eq_true rfl, Nat.le_of_ble_eq_true rfl⟩ ?_
  refine lv_istore (lv' := [(5, .int z_63), (4, .null), (0, .ref (A_b 0)), (1, .int x1), (2, .int x2), (3, .int x3)]) hx hb dX11_most_15 hl (by decide) rfl (fun ls hl => ?_)
  refine lv_iload hx hb dX11_most_17 (lv_at hl 0 rfl) ?_
  refine lv_if_eq (tgt := 29) hx hb dX11_most_19 (by decide) (fun c_64 => ?_) (fun c_64 => ?_)
  · have h := it c_64 h
    refine lv_aload_n hx hb dX11_most_29 rfl (lv_at hl 2 rfl) ?_
    refine xget (i := 0) (j := 0) (k := 16) (T := TX11) hx hb ht tb_iX11 hown hX hP.1 rfl rfl rfl (by decide) tb_445 rfl dX11_most_30 ?_
    refine lv_aload_n hx hb dX11_most_33 rfl (lv_at hl 2 rfl) ?_
    refine xget (i := 0) (j := 0) (k := 4) (T := TX11) hx hb ht tb_iX11 hown hX hP.1 rfl rfl rfl (by decide) tb_433 rfl dX11_most_34 ?_
    refine lv_aloadN hx hb dX11_most_37 (lv_at hl 1 rfl) ?_
    refine lv_iload_n hx hb dX11_most_39 rfl (lv_at hl 5 rfl) ?_
    obtain ⟨z_65, e_z_65, h⟩ := bi h
    refine efVv (rest := []) ⟨hx, hb, hml, hown, ht⟩ (c_X4_look_n2 l D cy fu A_f f_sizes f_dangers A_n n_name n_courage n_weight n_medals n_stood n_fled n_liked n_votes n_count n_living n_pride n_quota n_melted n_lost A_a a_name a_courage a_weight a_medals a_stood a_fled a_liked a_votes a_count a_living a_pride a_quota a_melted a_lost x3 z_65 e_z_65 _ rfl _ rfl) (cV ht mv_X4_look tb_991 rfl rfl ⟨Nat.le_of_ble_eq_true rfl, Nat.le_of_ble_eq_true rfl⟩) hP hS hX [7, 8, 6] rfl rfl rfl rfl rfl rfl hl.1 rfl (Nat.le_of_ble_eq_true rfl) dX11_most_40 ⟨Nat.le_of_ble_eq_true rfl, Nat.le_of_ble_eq_true rfl⟩ (fun H locs hP hS => ?_)
    have hP : PD D A [bl_X11 cy A_b (A_T 0) (A_a 0) r_b_war r_b_draftArmy r_b_draftWar r_b_reader r_b_armyReader r_b_warReader r_b_markedArmies r_b_markedWars r_b_latest r_b_trial (A_f 0) r_b_pairs b_latestStatus b_fractionTop b_fractionBottom b_marks, [(A_T 0, .inl (cy 4, 4, .inr (.inr (.inr (.inr (trf4 (A_y0 0) (A_y1 0) (A_y2 0) (A_y3 0)))))))], bl_X8 cy A_y0 y0_row y0_missing y0_sort y0_many, bl_X8 cy A_y1 y1_row y1_missing y1_sort y1_many, bl_X8 cy A_y2 y2_row y2_missing y2_sort y2_many, bl_X8 cy A_y3 y3_row y3_missing y3_sort y3_many, bl_X0 cy A_a a_name a_courage a_weight a_medals a_stood a_fled a_liked a_votes a_count a_living a_pride a_quota a_melted a_lost, bl_X4 cy A_f (A_n 0) f_sizes z_65.1, bl_X0 cy A_n z_65.2.1 z_65.2.2.1 z_65.2.2.2.1 z_65.2.2.2.2.1 z_65.2.2.2.2.2.1 z_65.2.2.2.2.2.2.1 z_65.2.2.2.2.2.2.2.1 n_votes z_65.2.2.2.2.2.2.2.2.1 z_65.2.2.2.2.2.2.2.2.2.1 z_65.2.2.2.2.2.2.2.2.2.2.1 z_65.2.2.2.2.2.2.2.2.2.2.2.1 z_65.2.2.2.2.2.2.2.2.2.2.2.2.1 z_65.2.2.2.2.2.2.2.2.2.2.2.2.2] H := hP
    refine lv_aload_n hx hb dX11_most_43 rfl (lv_at hl 2 rfl) ?_
    refine lv_aload_n hx hb dX11_most_44 rfl (lv_at hl 2 rfl) ?_
    refine xget (i := 0) (j := 0) (k := 16) (T := TX11) hx hb ht tb_iX11 hown hX hP.1 rfl rfl rfl (by decide) tb_445 rfl dX11_most_45 ?_
    refine lv_iload_n hx hb dX11_most_48 rfl (lv_at hl 3 rfl) ?_
    obtain ⟨z_66, e_z_66, h⟩ := bi h
    refine efVi (rest := [.ref (A_b 0)]) ⟨hx, hb, hml, hown, ht⟩ (c_X4_mostFor l D cy fu A_f f_sizes z_65.1 A_n z_65.2.1 z_65.2.2.1 z_65.2.2.2.1 z_65.2.2.2.2.1 z_65.2.2.2.2.2.1 z_65.2.2.2.2.2.2.1 z_65.2.2.2.2.2.2.2.1 n_votes z_65.2.2.2.2.2.2.2.2.1 z_65.2.2.2.2.2.2.2.2.2.1 z_65.2.2.2.2.2.2.2.2.2.2.1 z_65.2.2.2.2.2.2.2.2.2.2.2.1 z_65.2.2.2.2.2.2.2.2.2.2.2.2.1 z_65.2.2.2.2.2.2.2.2.2.2.2.2.2 x1 z_66 e_z_66 _ rfl _ rfl) (cV ht mv_X4_mostFor tb_999 rfl rfl ⟨Nat.le_of_ble_eq_true rfl, Nat.le_of_ble_eq_true rfl⟩) hP hS hX [7, 8] rfl rfl rfl rfl rfl rfl hl.1 rfl (Nat.le_of_ble_eq_true rfl) dX11_most_49 ⟨Nat.le_of_ble_eq_true rfl, Nat.le_of_ble_eq_true rfl⟩ (fun H locs hP hS => ?_)
    have hP : PD D A [bl_X11 cy A_b (A_T 0) (A_a 0) r_b_war r_b_draftArmy r_b_draftWar r_b_reader r_b_armyReader r_b_warReader r_b_markedArmies r_b_markedWars r_b_latest r_b_trial (A_f 0) r_b_pairs b_latestStatus b_fractionTop b_fractionBottom b_marks, [(A_T 0, .inl (cy 4, 4, .inr (.inr (.inr (.inr (trf4 (A_y0 0) (A_y1 0) (A_y2 0) (A_y3 0)))))))], bl_X8 cy A_y0 y0_row y0_missing y0_sort y0_many, bl_X8 cy A_y1 y1_row y1_missing y1_sort y1_many, bl_X8 cy A_y2 y2_row y2_missing y2_sort y2_many, bl_X8 cy A_y3 y3_row y3_missing y3_sort y3_many, bl_X0 cy A_a a_name a_courage a_weight a_medals a_stood a_fled a_liked a_votes a_count a_living a_pride a_quota a_melted a_lost, bl_X4 cy A_f (A_n 0) f_sizes z_65.1, bl_X0 cy A_n z_65.2.1 z_65.2.2.1 z_65.2.2.2.1 z_66.2.1 z_65.2.2.2.2.2.1 z_65.2.2.2.2.2.2.1 z_65.2.2.2.2.2.2.2.1 z_66.2.2 z_65.2.2.2.2.2.2.2.2.1 z_65.2.2.2.2.2.2.2.2.2.1 z_65.2.2.2.2.2.2.2.2.2.2.1 z_65.2.2.2.2.2.2.2.2.2.2.2.1 z_65.2.2.2.2.2.2.2.2.2.2.2.2.1 z_65.2.2.2.2.2.2.2.2.2.2.2.2.2] H := hP
    obtain ⟨z_67, e_z_67, h⟩ := bi h
    refine efVi (rest := []) ⟨hx, hb, hml, hown, ht⟩ (c_X11_answer l D cy fu A_b (A_T 0) (A_a 0) r_b_war r_b_draftArmy r_b_draftWar r_b_reader r_b_armyReader r_b_warReader r_b_markedArmies r_b_markedWars r_b_latest r_b_trial (A_f 0) r_b_pairs b_latestStatus b_fractionTop b_fractionBottom b_marks z_66.1 z_67 e_z_67 _ rfl _ rfl) (cV ht mv_X11_answer tb_696 rfl rfl ⟨Nat.le_of_ble_eq_true rfl, Nat.le_of_ble_eq_true rfl⟩) hP hS hX [0] rfl rfl rfl rfl rfl rfl hl.1 rfl (Nat.le_of_ble_eq_true rfl) dX11_most_52 ⟨Nat.le_of_ble_eq_true rfl, Nat.le_of_ble_eq_true rfl⟩ (fun H locs hP hS => ?_)
    have hP : PD D A [bl_X11 cy A_b (A_T 0) (A_a 0) r_b_war r_b_draftArmy r_b_draftWar r_b_reader r_b_armyReader r_b_warReader r_b_markedArmies r_b_markedWars r_b_latest r_b_trial (A_f 0) r_b_pairs z_67.2 b_fractionTop b_fractionBottom b_marks, [(A_T 0, .inl (cy 4, 4, .inr (.inr (.inr (.inr (trf4 (A_y0 0) (A_y1 0) (A_y2 0) (A_y3 0)))))))], bl_X8 cy A_y0 y0_row y0_missing y0_sort y0_many, bl_X8 cy A_y1 y1_row y1_missing y1_sort y1_many, bl_X8 cy A_y2 y2_row y2_missing y2_sort y2_many, bl_X8 cy A_y3 y3_row y3_missing y3_sort y3_many, bl_X0 cy A_a a_name a_courage a_weight a_medals a_stood a_fled a_liked a_votes a_count a_living a_pride a_quota a_melted a_lost, bl_X4 cy A_f (A_n 0) f_sizes z_65.1, bl_X0 cy A_n z_65.2.1 z_65.2.2.1 z_65.2.2.2.1 z_66.2.1 z_65.2.2.2.2.2.1 z_65.2.2.2.2.2.2.1 z_65.2.2.2.2.2.2.2.1 z_66.2.2 z_65.2.2.2.2.2.2.2.2.1 z_65.2.2.2.2.2.2.2.2.2.1 z_65.2.2.2.2.2.2.2.2.2.2.1 z_65.2.2.2.2.2.2.2.2.2.2.2.1 z_65.2.2.2.2.2.2.2.2.2.2.2.2.1 z_65.2.2.2.2.2.2.2.2.2.2.2.2.2] H := hP
    cases h
    subst hW1
    exact W.iret hx hb hr (fun _ ht9 _ => ⟨⟨_, (), rfl, rfl, hPt ht9 hP.1⟩, hS.F ht9⟩) hS.2.2 dX11_most_55
  · have h := ie c_64 h
    refine lv_aload_n hx hb dX11_most_22 rfl (lv_at hl 2 rfl) ?_
    refine lv_iload hx hb dX11_most_23 (lv_at hl 0 rfl) ?_
    obtain ⟨z_68, e_z_68, h⟩ := bi h
    refine efVi (rest := []) ⟨hx, hb, hml, hown, ht⟩ (c_X11_refuse l D cy fu A_b (A_T 0) (A_a 0) r_b_war r_b_draftArmy r_b_draftWar r_b_reader r_b_armyReader r_b_warReader r_b_markedArmies r_b_markedWars r_b_latest r_b_trial (A_f 0) r_b_pairs b_latestStatus b_fractionTop b_fractionBottom b_marks z_63 z_68 e_z_68 _ rfl _ rfl) (cV ht mv_X11_refuse tb_543 rfl rfl ⟨Nat.le_of_ble_eq_true rfl, Nat.le_of_ble_eq_true rfl⟩) hP hS hX [0] rfl rfl rfl rfl rfl rfl hl.1 rfl (Nat.le_of_ble_eq_true rfl) dX11_most_25 ⟨Nat.le_of_ble_eq_true rfl, Nat.le_of_ble_eq_true rfl⟩ (fun H locs hP hS => ?_)
    have hP : PD D A [bl_X11 cy A_b (A_T 0) (A_a 0) r_b_war r_b_draftArmy r_b_draftWar r_b_reader r_b_armyReader r_b_warReader r_b_markedArmies r_b_markedWars r_b_latest r_b_trial (A_f 0) r_b_pairs z_68.2 b_fractionTop b_fractionBottom b_marks, [(A_T 0, .inl (cy 4, 4, .inr (.inr (.inr (.inr (trf4 (A_y0 0) (A_y1 0) (A_y2 0) (A_y3 0)))))))], bl_X8 cy A_y0 y0_row y0_missing y0_sort y0_many, bl_X8 cy A_y1 y1_row y1_missing y1_sort y1_many, bl_X8 cy A_y2 y2_row y2_missing y2_sort y2_many, bl_X8 cy A_y3 y3_row y3_missing y3_sort y3_many, bl_X0 cy A_a a_name a_courage a_weight a_medals a_stood a_fled a_liked a_votes a_count a_living a_pride a_quota a_melted a_lost, bl_X4 cy A_f (A_n 0) f_sizes f_dangers, bl_X0 cy A_n n_name n_courage n_weight n_medals n_stood n_fled n_liked n_votes n_count n_living n_pride n_quota n_melted n_lost] H := hP
    cases h
    subst hW1
    exact W.iret hx hb hr (fun _ ht9 _ => ⟨⟨_, (), rfl, rfl, hPt ht9 hP.1⟩, hS.F ht9⟩) hS.2.2 dX11_most_28
theorem dX11_firstOf_0 : decode cX11_firstOf 0 = .ok (.iconst 0, 1) := by decide +kernel
theorem dX11_firstOf_1 : decode cX11_firstOf 1 = .ok (.istore_n 1, 1) := by decide +kernel
theorem dX11_firstOf_2 : decode cX11_firstOf 2 = .ok (.iload_n 1, 1) := by decide +kernel
theorem dX11_firstOf_3 : decode cX11_firstOf 3 = .ok (.bipush 20, 2) := by decide +kernel
theorem dX11_firstOf_5 : decode cX11_firstOf 5 = .ok (.if_icmp .gt 19, 3) := by decide +kernel
theorem dX11_firstOf_8 : decode cX11_firstOf 8 = .ok (.iload_n 0, 1) := by decide +kernel
theorem dX11_firstOf_9 : decode cX11_firstOf 9 = .ok (.iload_n 1, 1) := by decide +kernel
theorem dX11_firstOf_10 : decode cX11_firstOf 10 = .ok (.invokestatic 306, 3) := by decide +kernel
theorem dX11_firstOf_13 : decode cX11_firstOf 13 = .ok (.ifCond .eq 5, 3) := by decide +kernel
theorem dX11_firstOf_16 : decode cX11_firstOf 16 = .ok (.iload_n 1, 1) := by decide +kernel
theorem dX11_firstOf_17 : decode cX11_firstOf 17 = .ok (.ireturn, 1) := by decide +kernel
theorem dX11_firstOf_18 : decode cX11_firstOf 18 = .ok (.iinc 1 1, 3) := by decide +kernel
theorem dX11_firstOf_21 : decode cX11_firstOf 21 = .ok (.goto (-19), 3) := by decide +kernel
theorem dX11_firstOf_24 : decode cX11_firstOf 24 = .ok (.iconst (-1), 1) := by decide +kernel
theorem dX11_firstOf_25 : decode cX11_firstOf 25 = .ok (.ireturn, 1) := by decide +kernel
theorem ms_X11_firstOf : MS yX11_firstOf cX11_firstOf 2 (some .int) 1 := ⟨tb_1033, tb_1032, tb_1, by decide +kernel, by decide +kernel, by decide +kernel⟩
def f_X11_firstOf_b2 (fu : Nat) (x0 : Int32) (k2 : Int32 → Option (Int32)) (x1 : Int32) : Option (Int32) := (if 20 < x1 then some ((-1)) else (f_X11_holds fu x0 x1).bind fun z_6 => (if z_6 = 0 then bnd (x1 + 1) fun x1_8 => k2 x1_8 else some (x1)))
def f_X11_firstOf_l2 (fu : Nat) (x0 : Int32) : Nat → Int32 → Option (Int32)
  | 0, _ => none
  | n + 1, x1 => f_X11_firstOf_b2 fu x0 (f_X11_firstOf_l2 fu x0 n) x1
def f_X11_firstOf (fu : Nat) (x0 : Int32) : Option (Int32) := f_X11_firstOf_l2 fu x0 fu 0
abbrev rm_X11_firstOf : Room := { frames := 2, cells := 0, slots := 0, locals := 43 }
set_option maxHeartbeats 4000000 in
set_option maxRecDepth 100000 in
theorem c_X11_firstOf (l : Launch) (D : va_G) (cy : Nat → ClassId) (fu : Nat) (x0 : Int32) (res : Int32) (h : f_X11_firstOf fu x0 = some res) : Met l yX11_firstOf (WW yX11_firstOf cX11_firstOf 2 (some .int)) rm_X11_firstOf (Rd D cy [.int x0] []) (vp_Si (fun v => v = res)) 0 0 (fun _ => False) := by
  refine Met.ofW (cc := cX11_firstOf) (maxL := 2) (ret := (some .int)) (by decide) rfl ?_
  intro p e s m args below meth c s₁ B hml hv
  obtain ⟨hargs, hP, hX⟩ := hv
  have hx := B.exec
  have hb := B.bytes
  have hr := B.returns
  have ht : ∀ w ∈ lw_gd, w.before args s = true := fun w hw => atoms_spec (ws := WW yX11_firstOf cX11_firstOf 2 (some .int)) B.pre w (List.mem_cons_of_mem _ hw)
  have hown : s.vm.findClass RX11 = some m.cls := findClass_of_methodNamed B.named
  have hlocks := B.notSynchronized
  have hP : PB D [] s.heap := hP
  obtain ⟨ls, hl, hent⟩ := ent (m := m) (n := 2) hargs (Nat.le_of_ble_eq_true rfl) (lv := [(0, .int x0)]) rfl
  rw [hent]
  clear hent
  have l2 : ∀ (n2 : Nat) (x1 : Int32) (ls : Array Slot), lv_has ls 2 [(0, .int x0), (1, .int x1)] → f_X11_firstOf_l2 fu x0 n2 x1 = some res → W p l e (headSpec (WW yX11_firstOf cX11_firstOf 2 (some .int)) rm_X11_firstOf).room s m args below meth c s.heap [] 0 0 (MQ below (vp_Si (fun v => v = res)) args s 0 0 (fun _ => False)) (F0 m 2 ls []) := by
    intro n2
    induction n2 with
    | zero => intro x1 ls hl h; cases h
    | succ n2 ih2 =>
      intro x1 ls hl h
      have h : f_X11_firstOf_b2 fu x0 (f_X11_firstOf_l2 fu x0 n2) x1 = some res := h
      unfold f_X11_firstOf_b2 at h
      refine lv_iload_n hx hb dX11_firstOf_2 rfl (lv_at hl 1 rfl) ?_
      refine lv_bipush (v := 20) hx hb dX11_firstOf_3 (by decide) ?_
      refine lv_icmp_gt (tgt := 24) hx hb dX11_firstOf_5 (by decide) (fun c_5 => ?_) (fun c_5 => ?_)
      · have h := it c_5 h
        refine lv_iconst (v := (-1)) hx hb dX11_firstOf_24 (by decide) ?_
        cases h
        exact W.iret hx hb hr (fun _ ht9 _ => ⟨_, rfl, rfl, ht9⟩) (fun _ hq => by cases hq) dX11_firstOf_25
      · have h := ie c_5 h
        refine lv_iload_n hx hb dX11_firstOf_8 rfl (lv_at hl 0 rfl) ?_
        refine lv_iload_n hx hb dX11_firstOf_9 rfl (lv_at hl 1 rfl) ?_
        obtain ⟨z_6, e_z_6, h⟩ := bi h
        refine roSi (rest := []) ⟨hx, hb, hml, hown, ht⟩ (c_X11_holds l D cy fu  x0 x1 z_6 e_z_6) (cS ht ms_X11_holds tb_906 rfl rfl ⟨Nat.le_of_ble_eq_true rfl, Nat.le_of_ble_eq_true rfl⟩) (P_sub hP [] rfl) hX rfl hl.1 rfl (Nat.le_of_ble_eq_true rfl) dX11_firstOf_10 ⟨Nat.le_of_ble_eq_true rfl, Nat.le_of_ble_eq_true rfl⟩ ?_
        refine lv_if_eq (tgt := 18) hx hb dX11_firstOf_13 (by decide) (fun c_7 => ?_) (fun c_7 => ?_)
        · have h := it c_7 h
          obtain ⟨x1_8, e_x1_8⟩ : ∃ y : Int32, y = x1 + 1 := ⟨_, rfl⟩
          have h := bn e_x1_8 h
          refine lv_iinc (v := x1_8) (lv' := [(1, .int x1_8), (0, .int x0)]) hx hb dX11_firstOf_18 hl (k := 1) rfl (by rw [e_x1_8]; rfl) (by decide) rfl (fun ls hl => ?_)
          refine lv_goto (tgt := 2) hx hb dX11_firstOf_21 (by decide) ?_
          exact ih2 x1_8 ls (lv_sub hl [1, 0] rfl) h
        · have h := ie c_7 h
          refine lv_iload_n hx hb dX11_firstOf_16 rfl (lv_at hl 1 rfl) ?_
          cases h
          exact W.iret hx hb hr (fun _ ht9 _ => ⟨_, rfl, rfl, ht9⟩) (fun _ hq => by cases hq) dX11_firstOf_17
  unfold f_X11_firstOf at h
  refine lv_iconst (v := 0) hx hb dX11_firstOf_0 (by decide) ?_
  refine lv_istore_n (lv' := [(1, .int 0), (0, .int x0)]) hx hb dX11_firstOf_1 rfl hl (by decide) rfl (fun ls hl => ?_)
  exact l2 fu 0 ls (lv_sub hl [1, 0] rfl) h
theorem dX4_firstBestFacer_0 : decode cX4_firstBestFacer 0 = .ok (.aload_n 0, 1) := by decide +kernel
theorem dX4_firstBestFacer_1 : decode cX4_firstBestFacer 1 = .ok (.getfield 12, 3) := by decide +kernel
theorem dX4_firstBestFacer_4 : decode cX4_firstBestFacer 4 = .ok (.aload_n 0, 1) := by decide +kernel
theorem dX4_firstBestFacer_5 : decode cX4_firstBestFacer 5 = .ok (.getfield 18, 3) := by decide +kernel
theorem dX4_firstBestFacer_8 : decode cX4_firstBestFacer 8 = .ok (.iload_n 2, 1) := by decide +kernel
theorem dX4_firstBestFacer_9 : decode cX4_firstBestFacer 9 = .ok (.iaload, 1) := by decide +kernel
theorem dX4_firstBestFacer_10 : decode cX4_firstBestFacer 10 = .ok (.invokevirtual 62, 3) := by decide +kernel
theorem dX4_firstBestFacer_13 : decode cX4_firstBestFacer 13 = .ok (.istore_n 3, 1) := by decide +kernel
theorem dX4_firstBestFacer_14 : decode cX4_firstBestFacer 14 = .ok (.iload_n 3, 1) := by decide +kernel
theorem dX4_firstBestFacer_15 : decode cX4_firstBestFacer 15 = .ok (.invokestatic 72, 3) := by decide +kernel
theorem dX4_firstBestFacer_18 : decode cX4_firstBestFacer 18 = .ok (.istore 4, 2) := by decide +kernel
theorem dX4_firstBestFacer_20 : decode cX4_firstBestFacer 20 = .ok (.aload_n 0, 1) := by decide +kernel
theorem dX4_firstBestFacer_21 : decode cX4_firstBestFacer 21 = .ok (.getfield 12, 3) := by decide +kernel
theorem dX4_firstBestFacer_24 : decode cX4_firstBestFacer 24 = .ok (.getfield 75, 3) := by decide +kernel
theorem dX4_firstBestFacer_27 : decode cX4_firstBestFacer 27 = .ok (.iload_n 3, 1) := by decide +kernel
theorem dX4_firstBestFacer_28 : decode cX4_firstBestFacer 28 = .ok (.iconst (-1), 1) := by decide +kernel
theorem dX4_firstBestFacer_29 : decode cX4_firstBestFacer 29 = .ok (.ixor, 1) := by decide +kernel
theorem dX4_firstBestFacer_30 : decode cX4_firstBestFacer 30 = .ok (.iand, 1) := by decide +kernel
theorem dX4_firstBestFacer_31 : decode cX4_firstBestFacer 31 = .ok (.invokestatic 72, 3) := by decide +kernel
theorem dX4_firstBestFacer_34 : decode cX4_firstBestFacer 34 = .ok (.istore 5, 2) := by decide +kernel
theorem dX4_firstBestFacer_36 : decode cX4_firstBestFacer 36 = .ok (.iload 4, 2) := by decide +kernel
theorem dX4_firstBestFacer_38 : decode cX4_firstBestFacer 38 = .ok (.iconst (-1), 1) := by decide +kernel
theorem dX4_firstBestFacer_39 : decode cX4_firstBestFacer 39 = .ok (.if_icmp .eq 9, 3) := by decide +kernel
theorem dX4_firstBestFacer_42 : decode cX4_firstBestFacer 42 = .ok (.iload 5, 2) := by decide +kernel
theorem dX4_firstBestFacer_44 : decode cX4_firstBestFacer 44 = .ok (.iconst (-1), 1) := by decide +kernel
theorem dX4_firstBestFacer_45 : decode cX4_firstBestFacer 45 = .ok (.if_icmp .ne 11, 3) := by decide +kernel
theorem dX4_firstBestFacer_48 : decode cX4_firstBestFacer 48 = .ok (.iload 4, 2) := by decide +kernel
theorem dX4_firstBestFacer_50 : decode cX4_firstBestFacer 50 = .ok (.iload 5, 2) := by decide +kernel
theorem dX4_firstBestFacer_52 : decode cX4_firstBestFacer 52 = .ok (.invokestatic 36, 3) := by decide +kernel
theorem dX4_firstBestFacer_55 : decode cX4_firstBestFacer 55 = .ok (.ireturn, 1) := by decide +kernel
theorem dX4_firstBestFacer_56 : decode cX4_firstBestFacer 56 = .ok (.aload_n 0, 1) := by decide +kernel
theorem dX4_firstBestFacer_57 : decode cX4_firstBestFacer 57 = .ok (.iload_n 1, 1) := by decide +kernel
theorem dX4_firstBestFacer_58 : decode cX4_firstBestFacer 58 = .ok (.iload_n 2, 1) := by decide +kernel
theorem dX4_firstBestFacer_59 : decode cX4_firstBestFacer 59 = .ok (.iconst 1, 1) := by decide +kernel
theorem dX4_firstBestFacer_60 : decode cX4_firstBestFacer 60 = .ok (.iadd, 1) := by decide +kernel
theorem dX4_firstBestFacer_61 : decode cX4_firstBestFacer 61 = .ok (.invokevirtual 49, 3) := by decide +kernel
theorem dX4_firstBestFacer_64 : decode cX4_firstBestFacer 64 = .ok (.istore 6, 2) := by decide +kernel
theorem dX4_firstBestFacer_66 : decode cX4_firstBestFacer 66 = .ok (.aload_n 0, 1) := by decide +kernel
theorem dX4_firstBestFacer_67 : decode cX4_firstBestFacer 67 = .ok (.iload_n 1, 1) := by decide +kernel
theorem dX4_firstBestFacer_68 : decode cX4_firstBestFacer 68 = .ok (.iload_n 2, 1) := by decide +kernel
theorem dX4_firstBestFacer_69 : decode cX4_firstBestFacer 69 = .ok (.iload_n 3, 1) := by decide +kernel
theorem dX4_firstBestFacer_70 : decode cX4_firstBestFacer 70 = .ok (.invokevirtual 78, 3) := by decide +kernel
theorem dX4_firstBestFacer_73 : decode cX4_firstBestFacer 73 = .ok (.istore 7, 2) := by decide +kernel
theorem dX4_firstBestFacer_75 : decode cX4_firstBestFacer 75 = .ok (.iload 6, 2) := by decide +kernel
theorem dX4_firstBestFacer_77 : decode cX4_firstBestFacer 77 = .ok (.iload 7, 2) := by decide +kernel
theorem dX4_firstBestFacer_79 : decode cX4_firstBestFacer 79 = .ok (.if_icmp .ne 11, 3) := by decide +kernel
theorem dX4_firstBestFacer_82 : decode cX4_firstBestFacer 82 = .ok (.iload 4, 2) := by decide +kernel
theorem dX4_firstBestFacer_84 : decode cX4_firstBestFacer 84 = .ok (.iload 5, 2) := by decide +kernel
theorem dX4_firstBestFacer_86 : decode cX4_firstBestFacer 86 = .ok (.invokestatic 30, 3) := by decide +kernel
theorem dX4_firstBestFacer_89 : decode cX4_firstBestFacer 89 = .ok (.ireturn, 1) := by decide +kernel
theorem dX4_firstBestFacer_90 : decode cX4_firstBestFacer 90 = .ok (.iload 6, 2) := by decide +kernel
theorem dX4_firstBestFacer_92 : decode cX4_firstBestFacer 92 = .ok (.iload 7, 2) := by decide +kernel
theorem dX4_firstBestFacer_94 : decode cX4_firstBestFacer 94 = .ok (.if_icmp .le 8, 3) := by decide +kernel
theorem dX4_firstBestFacer_97 : decode cX4_firstBestFacer 97 = .ok (.iload 4, 2) := by decide +kernel
theorem dX4_firstBestFacer_99 : decode cX4_firstBestFacer 99 = .ok (.goto 5, 3) := by decide +kernel
theorem dX4_firstBestFacer_102 : decode cX4_firstBestFacer 102 = .ok (.iload 5, 2) := by decide +kernel
theorem dX4_firstBestFacer_104 : decode cX4_firstBestFacer 104 = .ok (.ireturn, 1) := by decide +kernel
theorem mv_X4_firstBestFacer : MV yX4_firstBestFacer RX4 cX4_firstBestFacer 8 (some .int) 2 := ⟨tb_1030, tb_1029, ts_24, tb_13, by decide +kernel, by decide +kernel, by decide +kernel⟩
def f_X4_firstBestFacer (fu : Nat) (f_sizes : Nat → Int32) (f_dangers : Int32) (a_courage : Nat → Int32) (a_weight : Nat → Int32) (a_medals : Nat → Int32) (a_liked : Nat → Int32) (a_votes : Nat → Int32) (a_count : Int32) (a_living : Int32) (a_pride : Int32) (x1 : Int32) (x2 : Int32) : Option (Int32 × (Nat → Int32) × (Nat → Int32)) := (rdI f_sizes 4 x2).bind fun y_11 => (f_X0_runners fu a_courage a_medals a_count a_living a_pride y_11).bind fun z_12 => (f_X11_firstOf fu z_12).bind fun z_13 => (f_X11_firstOf fu (a_living &&& (z_12 ^^^ (-1)))).bind fun z_14 => (if z_13 = (-1) then some (if z_13 < z_14 then z_14 else z_13, a_medals, a_votes) else (if z_14 = (-1) then some (if z_13 < z_14 then z_14 else z_13, a_medals, a_votes) else (f_X4_mostFrom fu 6 f_sizes f_dangers a_courage a_weight a_medals a_liked a_votes a_count a_living a_pride x1 (x2 + 1)).bind fun z_17 => (f_X4_mostIfStood_C fu f_sizes f_dangers a_courage a_weight z_17.2.1 a_liked z_17.2.2 a_count a_living a_pride x1 x2 z_12).bind fun z_18 => (if z_17.1 = z_18.1 then some (if z_14 < z_13 then z_14 else z_13, z_18.2.1, z_18.2.2) else (if z_17.1 ≤ z_18.1 then some (z_14, z_18.2.1, z_18.2.2) else some (z_13, z_18.2.1, z_18.2.2)))))
abbrev rm_X4_firstBestFacer : Room := { frames := 21, cells := 0, slots := 0, locals := 532 }
set_option maxHeartbeats 4000000 in
set_option maxRecDepth 100000 in
theorem c_X4_firstBestFacer (l : Launch) (D : va_G) (cy : Nat → ClassId) (fu : Nat) (A_f : Nat → Nat) (f_sizes : Nat → Int32) (f_dangers : Int32) (A_a : Nat → Nat) (a_name : Nat → Int64) (a_courage : Nat → Int32) (a_weight : Nat → Int32) (a_medals : Nat → Int32) (a_stood : Nat → Int32) (a_fled : Nat → Int32) (a_liked : Nat → Int32) (a_votes : Nat → Int32) (a_count : Int32) (a_living : Int32) (a_pride : Int32) (a_quota : Int32) (a_melted : Int32) (a_lost : Int32) (x1 : Int32) (x2 : Int32) (res : Int32 × (Nat → Int32) × (Nat → Int32)) (h : f_X4_firstBestFacer fu f_sizes f_dangers a_courage a_weight a_medals a_liked a_votes a_count a_living a_pride x1 x2 = some res) (A : Nat → Prop) (hA : A = adr [bl_X4 cy A_f (A_a 0) f_sizes f_dangers, bl_X0 cy A_a a_name a_courage a_weight a_medals a_stood a_fled a_liked a_votes a_count a_living a_pride a_quota a_melted a_lost]) (W1 : List va_W) (hW1 : W1 = [bl_X4 cy A_f (A_a 0) f_sizes f_dangers, bl_X0 cy A_a a_name a_courage a_weight res.2.1 a_stood a_fled a_liked res.2.2 a_count a_living a_pride a_quota a_melted a_lost]) : Met l yX4_firstBestFacer (WW yX4_firstBestFacer cX4_firstBestFacer 8 (some .int)) rm_X4_firstBestFacer (Ed D cy [.ref (A_f 0), .int x1, .int x2] [bl_X4 cy A_f (A_a 0) f_sizes f_dangers, bl_X0 cy A_a a_name a_courage a_weight a_medals a_stood a_fled a_liked a_votes a_count a_living a_pride a_quota a_melted a_lost]) (Qei D res.1 A W1) 0 0 A := by
  refine Met.ofW (cc := cX4_firstBestFacer) (maxL := 8) (ret := (some .int)) (by decide) rfl ?_
  intro p e s m args below meth c s₁ B hml hv
  obtain ⟨hargs, hP, hX, hD0⟩ := hv
  have hx := B.exec
  have hb := B.bytes
  have hr := B.returns
  have ht : ∀ w ∈ lw_gd, w.before args s = true := fun w hw => atoms_spec (ws := WW yX4_firstBestFacer cX4_firstBestFacer 8 (some .int)) B.pre w (List.mem_cons_of_mem _ hw)
  have hown : s.vm.findClass RX4 = some m.cls := findClass_of_methodNamed B.named
  have hlocks := B.notSynchronized
  have hP : PD D A [bl_X4 cy A_f (A_a 0) f_sizes f_dangers, bl_X0 cy A_a a_name a_courage a_weight a_medals a_stood a_fled a_liked a_votes a_count a_living a_pride a_quota a_melted a_lost] s.heap := ⟨hP, by rw [hA]; exact hD0.own⟩
  have hS : va_S A s.heap s.heap [] := va_S.rf
  obtain ⟨ls, hl, hent⟩ := ent (m := m) (n := 8) hargs (Nat.le_of_ble_eq_true rfl) (lv := [(0, .ref (A_f 0)), (1, .int x1), (2, .int x2)]) rfl
  rw [hent]
  clear hent
  unfold f_X4_firstBestFacer at h
  refine lv_aload_n hx hb dX4_firstBestFacer_0 rfl (lv_at hl 0 rfl) ?_
  refine xget (i := 0) (j := 0) (k := 0) (T := TX4) hx hb ht tb_iX4 hown hX hP.1 rfl rfl rfl (by decide) tb_368 rfl dX4_firstBestFacer_1 ?_
  refine lv_aload_n hx hb dX4_firstBestFacer_4 rfl (lv_at hl 0 rfl) ?_
  refine xget (i := 0) (j := 0) (k := 1) (T := TX4) hx hb ht tb_iX4 hown hX hP.1 rfl rfl rfl (by decide) tb_369 rfl dX4_firstBestFacer_5 ?_
  refine lv_iload_n hx hb dX4_firstBestFacer_8 rfl (lv_at hl 2 rfl) ?_
  obtain ⟨y_11, e_y_11, h⟩ := bi h
  refine xiald (i0 := 0) (j0 := 1) hx hb hX hP.1 rfl rfl e_y_11 dX4_firstBestFacer_9 ?_
  obtain ⟨z_12, e_z_12, h⟩ := bi h
  refine roVi (rest := []) ⟨hx, hb, hml, hown, ht⟩ (c_X0_runners l D cy fu A_a a_name a_courage a_weight a_medals a_stood a_fled a_liked a_votes a_count a_living a_pride a_quota a_melted a_lost y_11 z_12 e_z_12) (cV ht mv_X0_runners tb_1008 rfl rfl ⟨Nat.le_of_ble_eq_true rfl, Nat.le_of_ble_eq_true rfl⟩) (P_sub hP.1 [1] rfl) hX rfl rfl rfl hl.1 rfl (Nat.le_of_ble_eq_true rfl) dX4_firstBestFacer_10 ⟨Nat.le_of_ble_eq_true rfl, Nat.le_of_ble_eq_true rfl⟩ ?_
  refine lv_istore_n (lv' := [(3, .int z_12), (0, .ref (A_f 0)), (1, .int x1), (2, .int x2)]) hx hb dX4_firstBestFacer_13 rfl hl (by decide) rfl (fun ls hl => ?_)
  refine lv_iload_n hx hb dX4_firstBestFacer_14 rfl (lv_at hl 0 rfl) ?_
  obtain ⟨z_13, e_z_13, h⟩ := bi h
  refine roNi (rest := []) ⟨hx, hb, hml, hown, ht⟩ (c_X11_firstOf l D cy fu  z_12 z_13 e_z_13) (cN ht hX ms_X11_firstOf (List.mem_of_getElem? (i := 11) rfl) rfl rfl ⟨Nat.le_of_ble_eq_true rfl, Nat.le_of_ble_eq_true rfl⟩) (P_sub hP.1 [] rfl) hX rfl hl.1 rfl (Nat.le_of_ble_eq_true rfl) dX4_firstBestFacer_15 ⟨Nat.le_of_ble_eq_true rfl, Nat.le_of_ble_eq_true rfl⟩ ?_
  refine lv_istore (lv' := [(4, .int z_13), (3, .int z_12), (0, .ref (A_f 0)), (1, .int x1), (2, .int x2)]) hx hb dX4_firstBestFacer_18 hl (by decide) rfl (fun ls hl => ?_)
  refine lv_aload_n hx hb dX4_firstBestFacer_20 rfl (lv_at hl 2 rfl) ?_
  refine xget (i := 0) (j := 0) (k := 0) (T := TX4) hx hb ht tb_iX4 hown hX hP.1 rfl rfl rfl (by decide) tb_368 rfl dX4_firstBestFacer_21 ?_
  refine xget (i := 1) (j := 0) (k := 9) (T := TX0) hx hb ht tb_iX0 hown hX hP.1 rfl rfl rfl (by decide) tb_63 rfl dX4_firstBestFacer_24 ?_
  refine lv_iload_n hx hb dX4_firstBestFacer_27 rfl (lv_at hl 1 rfl) ?_
  refine lv_iconst (v := (-1)) hx hb dX4_firstBestFacer_28 (by decide) ?_
  refine lv_ixor hx hb dX4_firstBestFacer_29 ?_
  refine lv_iand hx hb dX4_firstBestFacer_30 ?_
  obtain ⟨z_14, e_z_14, h⟩ := bi h
  refine roNi (rest := []) ⟨hx, hb, hml, hown, ht⟩ (c_X11_firstOf l D cy fu  (a_living &&& (z_12 ^^^ (-1))) z_14 e_z_14) (cN ht hX ms_X11_firstOf (List.mem_of_getElem? (i := 11) rfl) rfl rfl ⟨Nat.le_of_ble_eq_true rfl, Nat.le_of_ble_eq_true rfl⟩) (P_sub hP.1 [] rfl) hX rfl hl.1 rfl (Nat.le_of_ble_eq_true rfl) dX4_firstBestFacer_31 ⟨Nat.le_of_ble_eq_true rfl, Nat.le_of_ble_eq_true rfl⟩ ?_
  refine lv_istore (lv' := [(5, .int z_14), (4, .int z_13), (3, .int z_12), (0, .ref (A_f 0)), (1, .int x1), (2, .int x2)]) hx hb dX4_firstBestFacer_34 hl (by decide) rfl (fun ls hl => ?_)
  refine lv_iload hx hb dX4_firstBestFacer_36 (lv_at hl 1 rfl) ?_
  refine lv_iconst (v := (-1)) hx hb dX4_firstBestFacer_38 (by decide) ?_
  refine lv_icmp_eq (tgt := 48) hx hb dX4_firstBestFacer_39 (by decide) (fun c_15 => ?_) (fun c_15 => ?_)
  · have h := it c_15 h
    refine lv_iload hx hb dX4_firstBestFacer_48 (lv_at hl 1 rfl) ?_
    refine lv_iload hx hb dX4_firstBestFacer_50 (lv_at hl 0 rfl) ?_
    refine va_mmax hx hb (hml.trans hl.1.symm) hown (ht _ tb_997) (ht _ tb_586) (ht _ tb_19) (ht _ tb_587) (Nat.le_of_ble_eq_true rfl) (Nat.le_of_ble_eq_true rfl) (Nat.le_of_ble_eq_true rfl) (Nat.le_of_ble_eq_true rfl) dX4_firstBestFacer_52 ?_
    cases h
    subst hW1
    exact W.iret hx hb hr (fun _ ht9 _ => ⟨⟨_, (), rfl, rfl, hPt ht9 hP.1⟩, hS.F ht9⟩) hS.2.2 dX4_firstBestFacer_55
  · have h := ie c_15 h
    refine lv_iload hx hb dX4_firstBestFacer_42 (lv_at hl 0 rfl) ?_
    refine lv_iconst (v := (-1)) hx hb dX4_firstBestFacer_44 (by decide) ?_
    refine lv_icmp_ne (tgt := 56) hx hb dX4_firstBestFacer_45 (by decide) (fun c_16 => ?_) (fun c_16 => ?_)
    · have h := ie c_16 h
      refine lv_aload_n hx hb dX4_firstBestFacer_56 rfl (lv_at hl 3 rfl) ?_
      refine lv_iload_n hx hb dX4_firstBestFacer_57 rfl (lv_at hl 4 rfl) ?_
      refine lv_iload_n hx hb dX4_firstBestFacer_58 rfl (lv_at hl 5 rfl) ?_
      refine lv_iconst (v := 1) hx hb dX4_firstBestFacer_59 (by decide) ?_
      refine lv_iadd hx hb dX4_firstBestFacer_60 ?_
      obtain ⟨z_17, e_z_17, h⟩ := bi h
      refine efVi (rest := []) ⟨hx, hb, hml, hown, ht⟩ (c_X4_mostFrom l D cy fu 6 A_f f_sizes f_dangers A_a a_name a_courage a_weight a_medals a_stood a_fled a_liked a_votes a_count a_living a_pride a_quota a_melted a_lost x1 (x2 + 1) z_17 e_z_17 _ rfl _ rfl) (cV ht mv_X4_mostFrom tb_1004 rfl rfl ⟨Nat.le_of_ble_eq_true rfl, Nat.le_of_ble_eq_true rfl⟩) hP hS hX [0, 1] rfl rfl rfl rfl rfl rfl hl.1 rfl (Nat.le_of_ble_eq_true rfl) dX4_firstBestFacer_61 ⟨Nat.le_of_ble_eq_true rfl, Nat.le_of_ble_eq_true rfl⟩ (fun H locs hP hS => ?_)
      have hP : PD D A [bl_X4 cy A_f (A_a 0) f_sizes f_dangers, bl_X0 cy A_a a_name a_courage a_weight z_17.2.1 a_stood a_fled a_liked z_17.2.2 a_count a_living a_pride a_quota a_melted a_lost] H := hP
      refine lv_istore (lv' := [(6, .int z_17.1), (5, .int z_14), (4, .int z_13), (3, .int z_12), (0, .ref (A_f 0)), (1, .int x1), (2, .int x2)]) hx hb dX4_firstBestFacer_64 hl (by decide) rfl (fun ls hl => ?_)
      refine lv_aload_n hx hb dX4_firstBestFacer_66 rfl (lv_at hl 4 rfl) ?_
      refine lv_iload_n hx hb dX4_firstBestFacer_67 rfl (lv_at hl 5 rfl) ?_
      refine lv_iload_n hx hb dX4_firstBestFacer_68 rfl (lv_at hl 6 rfl) ?_
      refine lv_iload_n hx hb dX4_firstBestFacer_69 rfl (lv_at hl 3 rfl) ?_
      obtain ⟨z_18, e_z_18, h⟩ := bi h
      refine efVi (rest := []) ⟨hx, hb, hml, hown, ht⟩ (c_X4_mostIfStood_C l D cy fu A_f f_sizes f_dangers A_a a_name a_courage a_weight z_17.2.1 a_stood a_fled a_liked z_17.2.2 a_count a_living a_pride a_quota a_melted a_lost x1 x2 z_12 z_18 e_z_18 _ rfl _ rfl) (cV ht mv_X4_mostIfStood tb_1009 rfl rfl ⟨Nat.le_of_ble_eq_true rfl, Nat.le_of_ble_eq_true rfl⟩) hP hS hX [0, 1] rfl rfl rfl rfl rfl rfl hl.1 rfl (Nat.le_of_ble_eq_true rfl) dX4_firstBestFacer_70 ⟨Nat.le_of_ble_eq_true rfl, Nat.le_of_ble_eq_true rfl⟩ (fun H locs hP hS => ?_)
      have hP : PD D A [bl_X4 cy A_f (A_a 0) f_sizes f_dangers, bl_X0 cy A_a a_name a_courage a_weight z_18.2.1 a_stood a_fled a_liked z_18.2.2 a_count a_living a_pride a_quota a_melted a_lost] H := hP
      refine lv_istore (lv' := [(7, .int z_18.1), (6, .int z_17.1), (5, .int z_14), (4, .int z_13), (3, .int z_12), (0, .ref (A_f 0)), (1, .int x1), (2, .int x2)]) hx hb dX4_firstBestFacer_73 hl (by decide) rfl (fun ls hl => ?_)
      refine lv_iload hx hb dX4_firstBestFacer_75 (lv_at hl 1 rfl) ?_
      refine lv_iload hx hb dX4_firstBestFacer_77 (lv_at hl 0 rfl) ?_
      refine lv_icmp_ne (tgt := 90) hx hb dX4_firstBestFacer_79 (by decide) (fun c_19 => ?_) (fun c_19 => ?_)
      · have h := ie c_19 h
        refine lv_iload hx hb dX4_firstBestFacer_90 (lv_at hl 1 rfl) ?_
        refine lv_iload hx hb dX4_firstBestFacer_92 (lv_at hl 0 rfl) ?_
        refine lv_icmp_le (tgt := 102) hx hb dX4_firstBestFacer_94 (by decide) (fun c_20 => ?_) (fun c_20 => ?_)
        · have h := it c_20 h
          refine lv_iload hx hb dX4_firstBestFacer_102 (lv_at hl 2 rfl) ?_
          cases h
          subst hW1
          exact W.iret hx hb hr (fun _ ht9 _ => ⟨⟨_, (), rfl, rfl, hPt ht9 hP.1⟩, hS.F ht9⟩) hS.2.2 dX4_firstBestFacer_104
        · have h := ie c_20 h
          refine lv_iload hx hb dX4_firstBestFacer_97 (lv_at hl 3 rfl) ?_
          refine lv_goto (tgt := 104) hx hb dX4_firstBestFacer_99 (by decide) ?_
          cases h
          subst hW1
          exact W.iret hx hb hr (fun _ ht9 _ => ⟨⟨_, (), rfl, rfl, hPt ht9 hP.1⟩, hS.F ht9⟩) hS.2.2 dX4_firstBestFacer_104
      · have h := it c_19 h
        refine lv_iload hx hb dX4_firstBestFacer_82 (lv_at hl 3 rfl) ?_
        refine lv_iload hx hb dX4_firstBestFacer_84 (lv_at hl 2 rfl) ?_
        refine va_mmin hx hb (hml.trans hl.1.symm) hown (ht _ tb_996) (ht _ tb_583) (ht _ tb_19) (ht _ tb_584) (Nat.le_of_ble_eq_true rfl) (Nat.le_of_ble_eq_true rfl) (Nat.le_of_ble_eq_true rfl) (Nat.le_of_ble_eq_true rfl) dX4_firstBestFacer_86 ?_
        cases h
        subst hW1
        exact W.iret hx hb hr (fun _ ht9 _ => ⟨⟨_, (), rfl, rfl, hPt ht9 hP.1⟩, hS.F ht9⟩) hS.2.2 dX4_firstBestFacer_89
    · have h := it c_16 h
      refine lv_iload hx hb dX4_firstBestFacer_48 (lv_at hl 1 rfl) ?_
      refine lv_iload hx hb dX4_firstBestFacer_50 (lv_at hl 0 rfl) ?_
      refine va_mmax hx hb (hml.trans hl.1.symm) hown (ht _ tb_997) (ht _ tb_586) (ht _ tb_19) (ht _ tb_587) (Nat.le_of_ble_eq_true rfl) (Nat.le_of_ble_eq_true rfl) (Nat.le_of_ble_eq_true rfl) (Nat.le_of_ble_eq_true rfl) dX4_firstBestFacer_52 ?_
      cases h
      subst hW1
      exact W.iret hx hb hr (fun _ ht9 _ => ⟨⟨_, (), rfl, rfl, hPt ht9 hP.1⟩, hS.F ht9⟩) hS.2.2 dX4_firstBestFacer_55
theorem dX4_facerOf_0 : decode cX4_facerOf 0 = .ok (.iconst (-1), 1) := by decide +kernel
theorem dX4_facerOf_1 : decode cX4_facerOf 1 = .ok (.istore_n 3, 1) := by decide +kernel
theorem dX4_facerOf_2 : decode cX4_facerOf 2 = .ok (.iconst 0, 1) := by decide +kernel
theorem dX4_facerOf_3 : decode cX4_facerOf 3 = .ok (.istore 4, 2) := by decide +kernel
theorem dX4_facerOf_5 : decode cX4_facerOf 5 = .ok (.aload_n 0, 1) := by decide +kernel
theorem dX4_facerOf_6 : decode cX4_facerOf 6 = .ok (.getfield 12, 3) := by decide +kernel
theorem dX4_facerOf_9 : decode cX4_facerOf 9 = .ok (.iload_n 1, 1) := by decide +kernel
theorem dX4_facerOf_10 : decode cX4_facerOf 10 = .ok (.invokevirtual 45, 3) := by decide +kernel
theorem dX4_facerOf_13 : decode cX4_facerOf 13 = .ok (.ifCond .eq 85, 3) := by decide +kernel
theorem dX4_facerOf_16 : decode cX4_facerOf 16 = .ok (.iload 4, 2) := by decide +kernel
theorem dX4_facerOf_18 : decode cX4_facerOf 18 = .ok (.iload_n 2, 1) := by decide +kernel
theorem dX4_facerOf_19 : decode cX4_facerOf 19 = .ok (.if_icmp .gt 79, 3) := by decide +kernel
theorem dX4_facerOf_22 : decode cX4_facerOf 22 = .ok (.iload 4, 2) := by decide +kernel
theorem dX4_facerOf_24 : decode cX4_facerOf 24 = .ok (.aload_n 0, 1) := by decide +kernel
theorem dX4_facerOf_25 : decode cX4_facerOf 25 = .ok (.getfield 22, 3) := by decide +kernel
theorem dX4_facerOf_28 : decode cX4_facerOf 28 = .ok (.if_icmp .ge 70, 3) := by decide +kernel
theorem dX4_facerOf_31 : decode cX4_facerOf 31 = .ok (.aload_n 0, 1) := by decide +kernel
theorem dX4_facerOf_32 : decode cX4_facerOf 32 = .ok (.iload_n 1, 1) := by decide +kernel
theorem dX4_facerOf_33 : decode cX4_facerOf 33 = .ok (.iload 4, 2) := by decide +kernel
theorem dX4_facerOf_35 : decode cX4_facerOf 35 = .ok (.invokevirtual 55, 3) := by decide +kernel
theorem dX4_facerOf_38 : decode cX4_facerOf 38 = .ok (.istore_n 3, 1) := by decide +kernel
theorem dX4_facerOf_39 : decode cX4_facerOf 39 = .ok (.iload 4, 2) := by decide +kernel
theorem dX4_facerOf_41 : decode cX4_facerOf 41 = .ok (.iload_n 2, 1) := by decide +kernel
theorem dX4_facerOf_42 : decode cX4_facerOf 42 = .ok (.if_icmp .ge 50, 3) := by decide +kernel
theorem dX4_facerOf_45 : decode cX4_facerOf 45 = .ok (.aload_n 0, 1) := by decide +kernel
theorem dX4_facerOf_46 : decode cX4_facerOf 46 = .ok (.getfield 12, 3) := by decide +kernel
theorem dX4_facerOf_49 : decode cX4_facerOf 49 = .ok (.iload_n 3, 1) := by decide +kernel
theorem dX4_facerOf_50 : decode cX4_facerOf 50 = .ok (.aload_n 0, 1) := by decide +kernel
theorem dX4_facerOf_51 : decode cX4_facerOf 51 = .ok (.getfield 18, 3) := by decide +kernel
theorem dX4_facerOf_54 : decode cX4_facerOf 54 = .ok (.iload 4, 2) := by decide +kernel
theorem dX4_facerOf_56 : decode cX4_facerOf 56 = .ok (.iaload, 1) := by decide +kernel
theorem dX4_facerOf_57 : decode cX4_facerOf 57 = .ok (.invokevirtual 58, 3) := by decide +kernel
theorem dX4_facerOf_60 : decode cX4_facerOf 60 = .ok (.ifCond .eq 32, 3) := by decide +kernel
theorem dX4_facerOf_63 : decode cX4_facerOf 63 = .ok (.aload_n 0, 1) := by decide +kernel
theorem dX4_facerOf_64 : decode cX4_facerOf 64 = .ok (.getfield 12, 3) := by decide +kernel
theorem dX4_facerOf_67 : decode cX4_facerOf 67 = .ok (.aload_n 0, 1) := by decide +kernel
theorem dX4_facerOf_68 : decode cX4_facerOf 68 = .ok (.getfield 12, 3) := by decide +kernel
theorem dX4_facerOf_71 : decode cX4_facerOf 71 = .ok (.aload_n 0, 1) := by decide +kernel
theorem dX4_facerOf_72 : decode cX4_facerOf 72 = .ok (.getfield 12, 3) := by decide +kernel
theorem dX4_facerOf_75 : decode cX4_facerOf 75 = .ok (.aload_n 0, 1) := by decide +kernel
theorem dX4_facerOf_76 : decode cX4_facerOf 76 = .ok (.getfield 18, 3) := by decide +kernel
theorem dX4_facerOf_79 : decode cX4_facerOf 79 = .ok (.iload 4, 2) := by decide +kernel
theorem dX4_facerOf_81 : decode cX4_facerOf 81 = .ok (.iaload, 1) := by decide +kernel
theorem dX4_facerOf_82 : decode cX4_facerOf 82 = .ok (.invokevirtual 62, 3) := by decide +kernel
theorem dX4_facerOf_85 : decode cX4_facerOf 85 = .ok (.invokevirtual 66, 3) := by decide +kernel
theorem dX4_facerOf_88 : decode cX4_facerOf 88 = .ok (.invokevirtual 69, 3) := by decide +kernel
theorem dX4_facerOf_91 : decode cX4_facerOf 91 = .ok (.pop, 1) := by decide +kernel
theorem dX4_facerOf_92 : decode cX4_facerOf 92 = .ok (.iinc 4 1, 3) := by decide +kernel
theorem dX4_facerOf_95 : decode cX4_facerOf 95 = .ok (.goto (-90), 3) := by decide +kernel
theorem dX4_facerOf_98 : decode cX4_facerOf 98 = .ok (.iload_n 3, 1) := by decide +kernel
theorem dX4_facerOf_99 : decode cX4_facerOf 99 = .ok (.ireturn, 1) := by decide +kernel
theorem mv_X4_facerOf : MV yX4_facerOf RX4 cX4_facerOf 5 (some .int) 2 := ⟨tb_1026, tb_1024, tb_1025, tb_13, by decide +kernel, by decide +kernel, by decide +kernel⟩
def f_X4_facerOf_b5 (fu : Nat) (f_sizes : Nat → Int32) (f_dangers : Int32) (a_courage : Nat → Int32) (a_weight : Nat → Int32) (a_liked : Nat → Int32) (a_count : Int32) (a_living : Int32) (a_pride : Int32) (x1 : Int32) (x2 : Int32) (k5 : (Nat → Int32) → (Nat → Int32) → Int32 → Int32 → (Option (Int32 × (Nat → Int32) × (Nat → Int32)))) (a_medals : Nat → Int32) (a_votes : Nat → Int32) (x3 : Int32) (x4 : Int32) : Option (Int32 × (Nat → Int32) × (Nat → Int32)) := (f_X0_isMan fu a_count x1).bind fun z_17 => (if z_17 = 0 then some (x3, a_medals, a_votes) else (if x2 < x4 then some (x3, a_medals, a_votes) else (if f_dangers ≤ x4 then some (x3, a_medals, a_votes) else (f_X4_firstBestFacer fu f_sizes f_dangers a_courage a_weight a_medals a_liked a_votes a_count a_living a_pride x1 x4).bind fun z_21 => (if x2 ≤ x4 then bnd (x4 + 1) fun x4_23 => k5 z_21.2.1 z_21.2.2 z_21.1 x4_23 else (rdI f_sizes 4 x4).bind fun y_24 => (f_X0_stands fu a_courage z_21.2.1 a_count a_pride z_21.1 y_24).bind fun z_25 => (if z_25 = 0 then bnd (x4 + 1) fun x4_27 => k5 z_21.2.1 z_21.2.2 z_21.1 x4_27 else (rdI f_sizes 4 x4).bind fun y_28 => (f_X0_runners fu a_courage z_21.2.1 a_count a_living a_pride y_28).bind fun z_29 => (f_X0_winnerOf fu a_weight a_liked z_21.2.2 a_count a_living z_29).bind fun z_30 => (f_X0_pin fu z_21.2.1 a_count z_30.1).bind fun z_31 => bnd (x4 + 1) fun x4_32 => k5 z_31.2 z_30.2 z_21.1 x4_32)))))
def f_X4_facerOf_l5 (fu : Nat) (f_sizes : Nat → Int32) (f_dangers : Int32) (a_courage : Nat → Int32) (a_weight : Nat → Int32) (a_liked : Nat → Int32) (a_count : Int32) (a_living : Int32) (a_pride : Int32) (x1 : Int32) (x2 : Int32) : Nat → (Nat → Int32) → (Nat → Int32) → Int32 → Int32 → (Option (Int32 × (Nat → Int32) × (Nat → Int32)))
  | 0, _, _, _, _ => none
  | n + 1, a_medals, a_votes, x3, x4 => f_X4_facerOf_b5 fu f_sizes f_dangers a_courage a_weight a_liked a_count a_living a_pride x1 x2 (f_X4_facerOf_l5 fu f_sizes f_dangers a_courage a_weight a_liked a_count a_living a_pride x1 x2 n) a_medals a_votes x3 x4
def f_X4_facerOf (fu : Nat) (f_sizes : Nat → Int32) (f_dangers : Int32) (a_courage : Nat → Int32) (a_weight : Nat → Int32) (a_medals : Nat → Int32) (a_liked : Nat → Int32) (a_votes : Nat → Int32) (a_count : Int32) (a_living : Int32) (a_pride : Int32) (x1 : Int32) (x2 : Int32) : Option (Int32 × (Nat → Int32) × (Nat → Int32)) := f_X4_facerOf_l5 fu f_sizes f_dangers a_courage a_weight a_liked a_count a_living a_pride x1 x2 fu a_medals a_votes (-1) 0
abbrev rm_X4_facerOf : Room := { frames := 22, cells := 0, slots := 0, locals := 559 }
set_option maxHeartbeats 4000000 in
set_option maxRecDepth 100000 in
theorem c_X4_facerOf (l : Launch) (D : va_G) (cy : Nat → ClassId) (fu : Nat) (A_f : Nat → Nat) (f_sizes : Nat → Int32) (f_dangers : Int32) (A_a : Nat → Nat) (a_name : Nat → Int64) (a_courage : Nat → Int32) (a_weight : Nat → Int32) (a_medals : Nat → Int32) (a_stood : Nat → Int32) (a_fled : Nat → Int32) (a_liked : Nat → Int32) (a_votes : Nat → Int32) (a_count : Int32) (a_living : Int32) (a_pride : Int32) (a_quota : Int32) (a_melted : Int32) (a_lost : Int32) (x1 : Int32) (x2 : Int32) (res : Int32 × (Nat → Int32) × (Nat → Int32)) (h : f_X4_facerOf fu f_sizes f_dangers a_courage a_weight a_medals a_liked a_votes a_count a_living a_pride x1 x2 = some res) (A : Nat → Prop) (hA : A = adr [bl_X4 cy A_f (A_a 0) f_sizes f_dangers, bl_X0 cy A_a a_name a_courage a_weight a_medals a_stood a_fled a_liked a_votes a_count a_living a_pride a_quota a_melted a_lost]) (W1 : List va_W) (hW1 : W1 = [bl_X4 cy A_f (A_a 0) f_sizes f_dangers, bl_X0 cy A_a a_name a_courage a_weight res.2.1 a_stood a_fled a_liked res.2.2 a_count a_living a_pride a_quota a_melted a_lost]) : Met l yX4_facerOf (WW yX4_facerOf cX4_facerOf 5 (some .int)) rm_X4_facerOf (Ed D cy [.ref (A_f 0), .int x1, .int x2] [bl_X4 cy A_f (A_a 0) f_sizes f_dangers, bl_X0 cy A_a a_name a_courage a_weight a_medals a_stood a_fled a_liked a_votes a_count a_living a_pride a_quota a_melted a_lost]) (Qei D res.1 A W1) 0 0 A := by
  refine Met.ofW (cc := cX4_facerOf) (maxL := 5) (ret := (some .int)) (by decide) rfl ?_
  intro p e s m args below meth c s₁ B hml hv
  obtain ⟨hargs, hP, hX, hD0⟩ := hv
  have hx := B.exec
  have hb := B.bytes
  have hr := B.returns
  have ht : ∀ w ∈ lw_gd, w.before args s = true := fun w hw => atoms_spec (ws := WW yX4_facerOf cX4_facerOf 5 (some .int)) B.pre w (List.mem_cons_of_mem _ hw)
  have hown : s.vm.findClass RX4 = some m.cls := findClass_of_methodNamed B.named
  have hlocks := B.notSynchronized
  have hP : PD D A [bl_X4 cy A_f (A_a 0) f_sizes f_dangers, bl_X0 cy A_a a_name a_courage a_weight a_medals a_stood a_fled a_liked a_votes a_count a_living a_pride a_quota a_melted a_lost] s.heap := ⟨hP, by rw [hA]; exact hD0.own⟩
  have hS : va_S A s.heap s.heap [] := va_S.rf
  obtain ⟨ls, hl, hent⟩ := ent (m := m) (n := 5) hargs (Nat.le_of_ble_eq_true rfl) (lv := [(0, .ref (A_f 0)), (1, .int x1), (2, .int x2)]) rfl
  rw [hent]
  clear hent
  have l5 : ∀ (n5 : Nat) (a_medals : Nat → Int32) (a_votes : Nat → Int32) (x3 : Int32) (x4 : Int32) (H : Heap) (locs : List Loc) (_ : PD D A [bl_X4 cy A_f (A_a 0) f_sizes f_dangers, bl_X0 cy A_a a_name a_courage a_weight a_medals a_stood a_fled a_liked a_votes a_count a_living a_pride a_quota a_melted a_lost] H) (_ : va_S A s.heap H locs) (ls : Array Slot), lv_has ls 5 [(0, .ref (A_f 0)), (1, .int x1), (2, .int x2), (3, .int x3), (4, .int x4)] → f_X4_facerOf_l5 fu f_sizes f_dangers a_courage a_weight a_liked a_count a_living a_pride x1 x2 n5 a_medals a_votes x3 x4 = some res → W p l e (headSpec (WW yX4_facerOf cX4_facerOf 5 (some .int)) rm_X4_facerOf).room s m args below meth c H locs 0 0 (MQ below (Qei D res.1 A W1) args s 0 0 A) (F0 m 5 ls []) := by
    intro n5
    induction n5 with
    | zero => intro a_medals a_votes x3 x4 H locs hP hS ls hl h; cases h
    | succ n5 ih5 =>
      intro a_medals a_votes x3 x4 H locs hP hS ls hl h
      have h : f_X4_facerOf_b5 fu f_sizes f_dangers a_courage a_weight a_liked a_count a_living a_pride x1 x2 (f_X4_facerOf_l5 fu f_sizes f_dangers a_courage a_weight a_liked a_count a_living a_pride x1 x2 n5) a_medals a_votes x3 x4 = some res := h
      unfold f_X4_facerOf_b5 at h
      refine lv_aload_n hx hb dX4_facerOf_5 rfl (lv_at hl 0 rfl) ?_
      refine xget (i := 0) (j := 0) (k := 0) (T := TX4) hx hb ht tb_iX4 hown hX hP.1 rfl rfl rfl (by decide) tb_368 rfl dX4_facerOf_6 ?_
      refine lv_iload_n hx hb dX4_facerOf_9 rfl (lv_at hl 1 rfl) ?_
      obtain ⟨z_17, e_z_17, h⟩ := bi h
      refine roVi (rest := []) ⟨hx, hb, hml, hown, ht⟩ (c_X0_isMan l D cy fu A_a a_name a_courage a_weight a_medals a_stood a_fled a_liked a_votes a_count a_living a_pride a_quota a_melted a_lost x1 z_17 e_z_17) (cV ht mv_X0_isMan tb_1003 rfl rfl ⟨Nat.le_of_ble_eq_true rfl, Nat.le_of_ble_eq_true rfl⟩) (P_sub hP.1 [1] rfl) hX rfl rfl rfl hl.1 rfl (Nat.le_of_ble_eq_true rfl) dX4_facerOf_10 ⟨Nat.le_of_ble_eq_true rfl, Nat.le_of_ble_eq_true rfl⟩ ?_
      refine lv_if_eq (tgt := 98) hx hb dX4_facerOf_13 (by decide) (fun c_18 => ?_) (fun c_18 => ?_)
      · have h := it c_18 h
        refine lv_iload_n hx hb dX4_facerOf_98 rfl (lv_at hl 3 rfl) ?_
        cases h
        subst hW1
        exact W.iret hx hb hr (fun _ ht9 _ => ⟨⟨_, (), rfl, rfl, hPt ht9 hP.1⟩, hS.F ht9⟩) hS.2.2 dX4_facerOf_99
      · have h := ie c_18 h
        refine lv_iload hx hb dX4_facerOf_16 (lv_at hl 4 rfl) ?_
        refine lv_iload_n hx hb dX4_facerOf_18 rfl (lv_at hl 2 rfl) ?_
        refine lv_icmp_gt (tgt := 98) hx hb dX4_facerOf_19 (by decide) (fun c_19 => ?_) (fun c_19 => ?_)
        · have h := it c_19 h
          refine lv_iload_n hx hb dX4_facerOf_98 rfl (lv_at hl 3 rfl) ?_
          cases h
          subst hW1
          exact W.iret hx hb hr (fun _ ht9 _ => ⟨⟨_, (), rfl, rfl, hPt ht9 hP.1⟩, hS.F ht9⟩) hS.2.2 dX4_facerOf_99
        · have h := ie c_19 h
          refine lv_iload hx hb dX4_facerOf_22 (lv_at hl 4 rfl) ?_
          refine lv_aload_n hx hb dX4_facerOf_24 rfl (lv_at hl 0 rfl) ?_
          refine xget (i := 0) (j := 0) (k := 2) (T := TX4) hx hb ht tb_iX4 hown hX hP.1 rfl rfl rfl (by decide) tb_370 rfl dX4_facerOf_25 ?_
          refine lv_icmp_ge (tgt := 98) hx hb dX4_facerOf_28 (by decide) (fun c_20 => ?_) (fun c_20 => ?_)
          · have h := it c_20 h
            refine lv_iload_n hx hb dX4_facerOf_98 rfl (lv_at hl 3 rfl) ?_
            cases h
            subst hW1
            exact W.iret hx hb hr (fun _ ht9 _ => ⟨⟨_, (), rfl, rfl, hPt ht9 hP.1⟩, hS.F ht9⟩) hS.2.2 dX4_facerOf_99
          · have h := ie c_20 h
            refine lv_aload_n hx hb dX4_facerOf_31 rfl (lv_at hl 0 rfl) ?_
            refine lv_iload_n hx hb dX4_facerOf_32 rfl (lv_at hl 1 rfl) ?_
            refine lv_iload hx hb dX4_facerOf_33 (lv_at hl 4 rfl) ?_
            obtain ⟨z_21, e_z_21, h⟩ := bi h
            refine efVi (rest := []) ⟨hx, hb, hml, hown, ht⟩ (c_X4_firstBestFacer l D cy fu A_f f_sizes f_dangers A_a a_name a_courage a_weight a_medals a_stood a_fled a_liked a_votes a_count a_living a_pride a_quota a_melted a_lost x1 x4 z_21 e_z_21 _ rfl _ rfl) (cV ht mv_X4_firstBestFacer tb_1027 rfl rfl ⟨Nat.le_of_ble_eq_true rfl, Nat.le_of_ble_eq_true rfl⟩) hP hS hX [0, 1] rfl rfl rfl rfl rfl rfl hl.1 rfl (Nat.le_of_ble_eq_true rfl) dX4_facerOf_35 ⟨Nat.le_of_ble_eq_true rfl, Nat.le_of_ble_eq_true rfl⟩ (fun H locs hP hS => ?_)
            have hP : PD D A [bl_X4 cy A_f (A_a 0) f_sizes f_dangers, bl_X0 cy A_a a_name a_courage a_weight z_21.2.1 a_stood a_fled a_liked z_21.2.2 a_count a_living a_pride a_quota a_melted a_lost] H := hP
            refine lv_istore_n (lv' := [(3, .int z_21.1), (0, .ref (A_f 0)), (1, .int x1), (2, .int x2), (4, .int x4)]) hx hb dX4_facerOf_38 rfl hl (by decide) rfl (fun ls hl => ?_)
            refine lv_iload hx hb dX4_facerOf_39 (lv_at hl 4 rfl) ?_
            refine lv_iload_n hx hb dX4_facerOf_41 rfl (lv_at hl 3 rfl) ?_
            refine lv_icmp_ge (tgt := 92) hx hb dX4_facerOf_42 (by decide) (fun c_22 => ?_) (fun c_22 => ?_)
            · have h := it c_22 h
              obtain ⟨x4_23, e_x4_23⟩ : ∃ y : Int32, y = x4 + 1 := ⟨_, rfl⟩
              have h := bn e_x4_23 h
              refine lv_iinc (v := x4_23) (lv' := [(4, .int x4_23), (3, .int z_21.1), (0, .ref (A_f 0)), (1, .int x1), (2, .int x2)]) hx hb dX4_facerOf_92 hl (k := 4) rfl (by rw [e_x4_23]; rfl) (by decide) rfl (fun ls hl => ?_)
              refine lv_goto (tgt := 5) hx hb dX4_facerOf_95 (by decide) ?_
              exact ih5 z_21.2.1 z_21.2.2 z_21.1 x4_23 _ _ hP hS ls (lv_sub hl [2, 3, 4, 1, 0] rfl) h
            · have h := ie c_22 h
              refine lv_aload_n hx hb dX4_facerOf_45 rfl (lv_at hl 1 rfl) ?_
              refine xget (i := 0) (j := 0) (k := 0) (T := TX4) hx hb ht tb_iX4 hown hX hP.1 rfl rfl rfl (by decide) tb_368 rfl dX4_facerOf_46 ?_
              refine lv_iload_n hx hb dX4_facerOf_49 rfl (lv_at hl 0 rfl) ?_
              refine lv_aload_n hx hb dX4_facerOf_50 rfl (lv_at hl 1 rfl) ?_
              refine xget (i := 0) (j := 0) (k := 1) (T := TX4) hx hb ht tb_iX4 hown hX hP.1 rfl rfl rfl (by decide) tb_369 rfl dX4_facerOf_51 ?_
              refine lv_iload hx hb dX4_facerOf_54 (lv_at hl 4 rfl) ?_
              obtain ⟨y_24, e_y_24, h⟩ := bi h
              refine xiald (i0 := 0) (j0 := 1) hx hb hX hP.1 rfl rfl e_y_24 dX4_facerOf_56 ?_
              obtain ⟨z_25, e_z_25, h⟩ := bi h
              refine roVi (rest := []) ⟨hx, hb, hml, hown, ht⟩ (c_X0_stands l D cy fu A_a a_name a_courage a_weight z_21.2.1 a_stood a_fled a_liked z_21.2.2 a_count a_living a_pride a_quota a_melted a_lost z_21.1 y_24 z_25 e_z_25) (cV ht mv_X0_stands tb_1034 rfl rfl ⟨Nat.le_of_ble_eq_true rfl, Nat.le_of_ble_eq_true rfl⟩) (P_sub hP.1 [1] rfl) hX rfl rfl rfl hl.1 rfl (Nat.le_of_ble_eq_true rfl) dX4_facerOf_57 ⟨Nat.le_of_ble_eq_true rfl, Nat.le_of_ble_eq_true rfl⟩ ?_
              refine lv_if_eq (tgt := 92) hx hb dX4_facerOf_60 (by decide) (fun c_26 => ?_) (fun c_26 => ?_)
              · have h := it c_26 h
                obtain ⟨x4_27, e_x4_27⟩ : ∃ y : Int32, y = x4 + 1 := ⟨_, rfl⟩
                have h := bn e_x4_27 h
                refine lv_iinc (v := x4_27) (lv' := [(4, .int x4_27), (3, .int z_21.1), (0, .ref (A_f 0)), (1, .int x1), (2, .int x2)]) hx hb dX4_facerOf_92 hl (k := 4) rfl (by rw [e_x4_27]; rfl) (by decide) rfl (fun ls hl => ?_)
                refine lv_goto (tgt := 5) hx hb dX4_facerOf_95 (by decide) ?_
                exact ih5 z_21.2.1 z_21.2.2 z_21.1 x4_27 _ _ hP hS ls (lv_sub hl [2, 3, 4, 1, 0] rfl) h
              · have h := ie c_26 h
                refine lv_aload_n hx hb dX4_facerOf_63 rfl (lv_at hl 1 rfl) ?_
                refine xget (i := 0) (j := 0) (k := 0) (T := TX4) hx hb ht tb_iX4 hown hX hP.1 rfl rfl rfl (by decide) tb_368 rfl dX4_facerOf_64 ?_
                refine lv_aload_n hx hb dX4_facerOf_67 rfl (lv_at hl 1 rfl) ?_
                refine xget (i := 0) (j := 0) (k := 0) (T := TX4) hx hb ht tb_iX4 hown hX hP.1 rfl rfl rfl (by decide) tb_368 rfl dX4_facerOf_68 ?_
                refine lv_aload_n hx hb dX4_facerOf_71 rfl (lv_at hl 1 rfl) ?_
                refine xget (i := 0) (j := 0) (k := 0) (T := TX4) hx hb ht tb_iX4 hown hX hP.1 rfl rfl rfl (by decide) tb_368 rfl dX4_facerOf_72 ?_
                refine lv_aload_n hx hb dX4_facerOf_75 rfl (lv_at hl 1 rfl) ?_
                refine xget (i := 0) (j := 0) (k := 1) (T := TX4) hx hb ht tb_iX4 hown hX hP.1 rfl rfl rfl (by decide) tb_369 rfl dX4_facerOf_76 ?_
                refine lv_iload hx hb dX4_facerOf_79 (lv_at hl 4 rfl) ?_
                obtain ⟨y_28, e_y_28, h⟩ := bi h
                refine xiald (i0 := 0) (j0 := 1) hx hb hX hP.1 rfl rfl e_y_28 dX4_facerOf_81 ?_
                obtain ⟨z_29, e_z_29, h⟩ := bi h
                refine roVi (rest := [.ref (A_a 0), .ref (A_a 0)]) ⟨hx, hb, hml, hown, ht⟩ (c_X0_runners l D cy fu A_a a_name a_courage a_weight z_21.2.1 a_stood a_fled a_liked z_21.2.2 a_count a_living a_pride a_quota a_melted a_lost y_28 z_29 e_z_29) (cV ht mv_X0_runners tb_1008 rfl rfl ⟨Nat.le_of_ble_eq_true rfl, Nat.le_of_ble_eq_true rfl⟩) (P_sub hP.1 [1] rfl) hX rfl rfl rfl hl.1 rfl (Nat.le_of_ble_eq_true rfl) dX4_facerOf_82 ⟨Nat.le_of_ble_eq_true rfl, Nat.le_of_ble_eq_true rfl⟩ ?_
                obtain ⟨z_30, e_z_30, h⟩ := bi h
                refine efVi (rest := [.ref (A_a 0)]) ⟨hx, hb, hml, hown, ht⟩ (c_X0_winnerOf l D cy fu A_a a_name a_courage a_weight z_21.2.1 a_stood a_fled a_liked z_21.2.2 a_count a_living a_pride a_quota a_melted a_lost z_29 z_30 e_z_30 _ rfl _ rfl) (cV ht mv_X0_winnerOf tb_1013 rfl rfl ⟨Nat.le_of_ble_eq_true rfl, Nat.le_of_ble_eq_true rfl⟩) hP hS hX [1] rfl rfl rfl rfl rfl rfl hl.1 rfl (Nat.le_of_ble_eq_true rfl) dX4_facerOf_85 ⟨Nat.le_of_ble_eq_true rfl, Nat.le_of_ble_eq_true rfl⟩ (fun H locs hP hS => ?_)
                have hP : PD D A [bl_X4 cy A_f (A_a 0) f_sizes f_dangers, bl_X0 cy A_a a_name a_courage a_weight z_21.2.1 a_stood a_fled a_liked z_30.2 a_count a_living a_pride a_quota a_melted a_lost] H := hP
                obtain ⟨z_31, e_z_31, h⟩ := bi h
                refine efVi (rest := []) ⟨hx, hb, hml, hown, ht⟩ (c_X0_pin l D cy fu A_a a_name a_courage a_weight z_21.2.1 a_stood a_fled a_liked z_30.2 a_count a_living a_pride a_quota a_melted a_lost z_30.1 z_31 e_z_31 _ rfl _ rfl) (cV ht mv_X0_pin tb_1014 rfl rfl ⟨Nat.le_of_ble_eq_true rfl, Nat.le_of_ble_eq_true rfl⟩) hP hS hX [1] rfl rfl rfl rfl rfl rfl hl.1 rfl (Nat.le_of_ble_eq_true rfl) dX4_facerOf_88 ⟨Nat.le_of_ble_eq_true rfl, Nat.le_of_ble_eq_true rfl⟩ (fun H locs hP hS => ?_)
                have hP : PD D A [bl_X4 cy A_f (A_a 0) f_sizes f_dangers, bl_X0 cy A_a a_name a_courage a_weight z_31.2 a_stood a_fled a_liked z_30.2 a_count a_living a_pride a_quota a_melted a_lost] H := hP
                refine lv_pop hx hb dX4_facerOf_91 rfl ?_
                obtain ⟨x4_32, e_x4_32⟩ : ∃ y : Int32, y = x4 + 1 := ⟨_, rfl⟩
                have h := bn e_x4_32 h
                refine lv_iinc (v := x4_32) (lv' := [(4, .int x4_32), (3, .int z_21.1), (0, .ref (A_f 0)), (1, .int x1), (2, .int x2)]) hx hb dX4_facerOf_92 hl (k := 4) rfl (by rw [e_x4_32]; rfl) (by decide) rfl (fun ls hl => ?_)
                refine lv_goto (tgt := 5) hx hb dX4_facerOf_95 (by decide) ?_
                exact ih5 z_31.2 z_30.2 z_21.1 x4_32 _ _ hP hS ls (lv_sub hl [2, 3, 4, 1, 0] rfl) h
  unfold f_X4_facerOf at h
  refine lv_iconst (v := (-1)) hx hb dX4_facerOf_0 (by decide) ?_
  refine lv_istore_n (lv' := [(3, .int (-1)), (0, .ref (A_f 0)), (1, .int x1), (2, .int x2)]) hx hb dX4_facerOf_1 rfl hl (by decide) rfl (fun ls hl => ?_)
  refine lv_iconst (v := 0) hx hb dX4_facerOf_2 (by decide) ?_
  refine lv_istore (lv' := [(4, .int 0), (3, .int (-1)), (0, .ref (A_f 0)), (1, .int x1), (2, .int x2)]) hx hb dX4_facerOf_3 hl (by decide) rfl (fun ls hl => ?_)
  exact l5 fu a_medals a_votes (-1) 0 _ _ hP hS ls (lv_sub hl [2, 3, 4, 1, 0] rfl) h
theorem dX11_facesAt_0 : decode cX11_facesAt 0 = .ok (.aload_n 0, 1) := by decide +kernel
theorem dX11_facesAt_1 : decode cX11_facesAt 1 = .ok (.iload_n 2, 1) := by decide +kernel
theorem dX11_facesAt_2 : decode cX11_facesAt 2 = .ok (.invokevirtual 111, 3) := by decide +kernel
theorem dX11_facesAt_5 : decode cX11_facesAt 5 = .ok (.astore 5, 2) := by decide +kernel
theorem dX11_facesAt_7 : decode cX11_facesAt 7 = .ok (.aload_n 0, 1) := by decide +kernel
theorem dX11_facesAt_8 : decode cX11_facesAt 8 = .ok (.iload_n 1, 1) := by decide +kernel
theorem dX11_facesAt_9 : decode cX11_facesAt 9 = .ok (.aload 5, 2) := by decide +kernel
theorem dX11_facesAt_11 : decode cX11_facesAt 11 = .ok (.iload_n 3, 1) := by decide +kernel
theorem dX11_facesAt_12 : decode cX11_facesAt 12 = .ok (.invokevirtual 338, 3) := by decide +kernel
theorem dX11_facesAt_15 : decode cX11_facesAt 15 = .ok (.istore 6, 2) := by decide +kernel
theorem dX11_facesAt_17 : decode cX11_facesAt 17 = .ok (.iload 6, 2) := by decide +kernel
theorem dX11_facesAt_19 : decode cX11_facesAt 19 = .ok (.iconst 1, 1) := by decide +kernel
theorem dX11_facesAt_20 : decode cX11_facesAt 20 = .ok (.if_icmp .eq 15, 3) := by decide +kernel
theorem dX11_facesAt_23 : decode cX11_facesAt 23 = .ok (.iload 4, 2) := by decide +kernel
theorem dX11_facesAt_25 : decode cX11_facesAt 25 = .ok (.iconst 0, 1) := by decide +kernel
theorem dX11_facesAt_26 : decode cX11_facesAt 26 = .ok (.iload_n 3, 1) := by decide +kernel
theorem dX11_facesAt_27 : decode cX11_facesAt 27 = .ok (.iconst 1, 1) := by decide +kernel
theorem dX11_facesAt_28 : decode cX11_facesAt 28 = .ok (.isub, 1) := by decide +kernel
theorem dX11_facesAt_29 : decode cX11_facesAt 29 = .ok (.invokestatic 115, 3) := by decide +kernel
theorem dX11_facesAt_32 : decode cX11_facesAt 32 = .ok (.ifCond .ne 9, 3) := by decide +kernel
theorem dX11_facesAt_35 : decode cX11_facesAt 35 = .ok (.aload_n 0, 1) := by decide +kernel
theorem dX11_facesAt_36 : decode cX11_facesAt 36 = .ok (.iconst 1, 1) := by decide +kernel
theorem dX11_facesAt_37 : decode cX11_facesAt 37 = .ok (.invokevirtual 143, 3) := by decide +kernel
theorem dX11_facesAt_40 : decode cX11_facesAt 40 = .ok (.ireturn, 1) := by decide +kernel
theorem dX11_facesAt_41 : decode cX11_facesAt 41 = .ok (.iload 6, 2) := by decide +kernel
theorem dX11_facesAt_43 : decode cX11_facesAt 43 = .ok (.ifCond .eq 10, 3) := by decide +kernel
theorem dX11_facesAt_46 : decode cX11_facesAt 46 = .ok (.aload_n 0, 1) := by decide +kernel
theorem dX11_facesAt_47 : decode cX11_facesAt 47 = .ok (.iload 6, 2) := by decide +kernel
theorem dX11_facesAt_49 : decode cX11_facesAt 49 = .ok (.invokevirtual 143, 3) := by decide +kernel
theorem dX11_facesAt_52 : decode cX11_facesAt 52 = .ok (.ireturn, 1) := by decide +kernel
theorem dX11_facesAt_53 : decode cX11_facesAt 53 = .ok (.aload_n 0, 1) := by decide +kernel
theorem dX11_facesAt_54 : decode cX11_facesAt 54 = .ok (.getfield 97, 3) := by decide +kernel
theorem dX11_facesAt_57 : decode cX11_facesAt 57 = .ok (.aload_n 0, 1) := by decide +kernel
theorem dX11_facesAt_58 : decode cX11_facesAt 58 = .ok (.getfield 29, 3) := by decide +kernel
theorem dX11_facesAt_61 : decode cX11_facesAt 61 = .ok (.aload 5, 2) := by decide +kernel
theorem dX11_facesAt_63 : decode cX11_facesAt 63 = .ok (.iload_n 3, 1) := by decide +kernel
theorem dX11_facesAt_64 : decode cX11_facesAt 64 = .ok (.invokevirtual 342, 3) := by decide +kernel
theorem dX11_facesAt_67 : decode cX11_facesAt 67 = .ok (.aload_n 0, 1) := by decide +kernel
theorem dX11_facesAt_68 : decode cX11_facesAt 68 = .ok (.aload_n 0, 1) := by decide +kernel
theorem dX11_facesAt_69 : decode cX11_facesAt 69 = .ok (.getfield 97, 3) := by decide +kernel
theorem dX11_facesAt_72 : decode cX11_facesAt 72 = .ok (.iload_n 1, 1) := by decide +kernel
theorem dX11_facesAt_73 : decode cX11_facesAt 73 = .ok (.iload 4, 2) := by decide +kernel
theorem dX11_facesAt_75 : decode cX11_facesAt 75 = .ok (.invokevirtual 349, 3) := by decide +kernel
theorem dX11_facesAt_78 : decode cX11_facesAt 78 = .ok (.invokevirtual 193, 3) := by decide +kernel
theorem dX11_facesAt_81 : decode cX11_facesAt 81 = .ok (.ireturn, 1) := by decide +kernel
theorem mv_X11_facesAt : MV yX11_facesAt RX11 cX11_facesAt 7 (some .int) 4 := ⟨tb_1022, tb_1020, tb_1021, tb_1, by decide +kernel, by decide +kernel, by decide +kernel⟩
def f_X11_facesAt (fu : Nat) (b_latestStatus : Int32) (y0_row : Nat → Int64) (y0_missing : Int32) (y0_many : Int32) (y1_row : Nat → Int64) (y1_missing : Int32) (y1_many : Int32) (y2_row : Nat → Int64) (y2_missing : Int32) (y2_many : Int32) (y3_row : Nat → Int64) (y3_missing : Int32) (y3_many : Int32) (a_name : Nat → Int64) (a_courage : Nat → Int32) (a_weight : Nat → Int32) (a_medals : Nat → Int32) (a_stood : Nat → Int32) (a_fled : Nat → Int32) (a_liked : Nat → Int32) (a_count : Int32) (a_living : Int32) (a_pride : Int32) (a_quota : Int32) (a_melted : Int32) (a_lost : Int32) (f_sizes : Nat → Int32) (f_dangers : Int32) (n_name : Nat → Int64) (n_courage : Nat → Int32) (n_weight : Nat → Int32) (n_medals : Nat → Int32) (n_stood : Nat → Int32) (n_fled : Nat → Int32) (n_liked : Nat → Int32) (n_votes : Nat → Int32) (n_count : Int32) (n_living : Int32) (n_pride : Int32) (n_quota : Int32) (n_melted : Int32) (n_lost : Int32) (x1 : Int32) (x2 : Int32) (x3 : Int32) (x4 : Int32) : Option (Int32 × Int32 × (Nat → Int32) × Int32 × (Nat → Int64) × (Nat → Int32) × (Nat → Int32) × (Nat → Int32) × (Nat → Int32) × (Nat → Int32) × (Nat → Int32) × (Nat → Int32) × Int32 × Int32 × Int32 × Int32 × Int32 × Int32) := (if x2 = 0 then (f_X11_ordersRefusal fu y0_row y0_missing y0_many a_count a_living x1 x3).bind fun z_61 => (if z_61 = 1 then (f_X11_refuse fu b_latestStatus 1).bind fun z_63 => some (z_63.1, z_63.2, f_sizes, f_dangers, n_name, n_courage, n_weight, n_medals, n_stood, n_fled, n_liked, n_votes, n_count, n_living, n_pride, n_quota, n_melted, n_lost) else (f_X11_within fu x4 0 (x3 - 1)).bind fun z_64 => (if z_64 = 0 then (f_X11_refuse fu b_latestStatus 1).bind fun z_71 => some (z_71.1, z_71.2, f_sizes, f_dangers, n_name, n_courage, n_weight, n_medals, n_stood, n_fled, n_liked, n_votes, n_count, n_living, n_pride, n_quota, n_melted, n_lost) else (if z_61 = 0 then (f_X4_look fu f_sizes f_dangers n_name n_courage n_weight n_medals n_stood n_fled n_liked n_count n_living n_pride n_quota n_melted n_lost a_name a_courage a_weight a_medals a_stood a_fled a_liked a_count a_living a_pride a_quota a_melted a_lost y0_row y0_many x3).bind fun z_67 => (f_X4_facerOf fu z_67.1 z_67.2.1 z_67.2.2.2.1 z_67.2.2.2.2.1 z_67.2.2.2.2.2.1 z_67.2.2.2.2.2.2.2.2.1 n_votes z_67.2.2.2.2.2.2.2.2.2.1 z_67.2.2.2.2.2.2.2.2.2.2.1 z_67.2.2.2.2.2.2.2.2.2.2.2.1 x1 x4).bind fun z_68 => (f_X11_answer fu b_latestStatus z_68.1).bind fun z_69 => some (z_69.1, z_69.2, z_67.1, z_67.2.1, z_67.2.2.1, z_67.2.2.2.1, z_67.2.2.2.2.1, z_68.2.1, z_67.2.2.2.2.2.2.1, z_67.2.2.2.2.2.2.2.1, z_67.2.2.2.2.2.2.2.2.1, z_68.2.2, z_67.2.2.2.2.2.2.2.2.2.1, z_67.2.2.2.2.2.2.2.2.2.2.1, z_67.2.2.2.2.2.2.2.2.2.2.2.1, z_67.2.2.2.2.2.2.2.2.2.2.2.2.1, z_67.2.2.2.2.2.2.2.2.2.2.2.2.2.1, z_67.2.2.2.2.2.2.2.2.2.2.2.2.2.2) else (f_X11_refuse fu b_latestStatus z_61).bind fun z_70 => some (z_70.1, z_70.2, f_sizes, f_dangers, n_name, n_courage, n_weight, n_medals, n_stood, n_fled, n_liked, n_votes, n_count, n_living, n_pride, n_quota, n_melted, n_lost)))) else (if x2 = 1 then (f_X11_ordersRefusal fu y1_row y1_missing y1_many a_count a_living x1 x3).bind fun z_73 => (if z_73 = 1 then (f_X11_refuse fu b_latestStatus 1).bind fun z_75 => some (z_75.1, z_75.2, f_sizes, f_dangers, n_name, n_courage, n_weight, n_medals, n_stood, n_fled, n_liked, n_votes, n_count, n_living, n_pride, n_quota, n_melted, n_lost) else (f_X11_within fu x4 0 (x3 - 1)).bind fun z_76 => (if z_76 = 0 then (f_X11_refuse fu b_latestStatus 1).bind fun z_83 => some (z_83.1, z_83.2, f_sizes, f_dangers, n_name, n_courage, n_weight, n_medals, n_stood, n_fled, n_liked, n_votes, n_count, n_living, n_pride, n_quota, n_melted, n_lost) else (if z_73 = 0 then (f_X4_look fu f_sizes f_dangers n_name n_courage n_weight n_medals n_stood n_fled n_liked n_count n_living n_pride n_quota n_melted n_lost a_name a_courage a_weight a_medals a_stood a_fled a_liked a_count a_living a_pride a_quota a_melted a_lost y1_row y1_many x3).bind fun z_79 => (f_X4_facerOf fu z_79.1 z_79.2.1 z_79.2.2.2.1 z_79.2.2.2.2.1 z_79.2.2.2.2.2.1 z_79.2.2.2.2.2.2.2.2.1 n_votes z_79.2.2.2.2.2.2.2.2.2.1 z_79.2.2.2.2.2.2.2.2.2.2.1 z_79.2.2.2.2.2.2.2.2.2.2.2.1 x1 x4).bind fun z_80 => (f_X11_answer fu b_latestStatus z_80.1).bind fun z_81 => some (z_81.1, z_81.2, z_79.1, z_79.2.1, z_79.2.2.1, z_79.2.2.2.1, z_79.2.2.2.2.1, z_80.2.1, z_79.2.2.2.2.2.2.1, z_79.2.2.2.2.2.2.2.1, z_79.2.2.2.2.2.2.2.2.1, z_80.2.2, z_79.2.2.2.2.2.2.2.2.2.1, z_79.2.2.2.2.2.2.2.2.2.2.1, z_79.2.2.2.2.2.2.2.2.2.2.2.1, z_79.2.2.2.2.2.2.2.2.2.2.2.2.1, z_79.2.2.2.2.2.2.2.2.2.2.2.2.2.1, z_79.2.2.2.2.2.2.2.2.2.2.2.2.2.2) else (f_X11_refuse fu b_latestStatus z_73).bind fun z_82 => some (z_82.1, z_82.2, f_sizes, f_dangers, n_name, n_courage, n_weight, n_medals, n_stood, n_fled, n_liked, n_votes, n_count, n_living, n_pride, n_quota, n_melted, n_lost)))) else (if x2 = 2 then (f_X11_ordersRefusal fu y2_row y2_missing y2_many a_count a_living x1 x3).bind fun z_85 => (if z_85 = 1 then (f_X11_refuse fu b_latestStatus 1).bind fun z_87 => some (z_87.1, z_87.2, f_sizes, f_dangers, n_name, n_courage, n_weight, n_medals, n_stood, n_fled, n_liked, n_votes, n_count, n_living, n_pride, n_quota, n_melted, n_lost) else (f_X11_within fu x4 0 (x3 - 1)).bind fun z_88 => (if z_88 = 0 then (f_X11_refuse fu b_latestStatus 1).bind fun z_95 => some (z_95.1, z_95.2, f_sizes, f_dangers, n_name, n_courage, n_weight, n_medals, n_stood, n_fled, n_liked, n_votes, n_count, n_living, n_pride, n_quota, n_melted, n_lost) else (if z_85 = 0 then (f_X4_look fu f_sizes f_dangers n_name n_courage n_weight n_medals n_stood n_fled n_liked n_count n_living n_pride n_quota n_melted n_lost a_name a_courage a_weight a_medals a_stood a_fled a_liked a_count a_living a_pride a_quota a_melted a_lost y2_row y2_many x3).bind fun z_91 => (f_X4_facerOf fu z_91.1 z_91.2.1 z_91.2.2.2.1 z_91.2.2.2.2.1 z_91.2.2.2.2.2.1 z_91.2.2.2.2.2.2.2.2.1 n_votes z_91.2.2.2.2.2.2.2.2.2.1 z_91.2.2.2.2.2.2.2.2.2.2.1 z_91.2.2.2.2.2.2.2.2.2.2.2.1 x1 x4).bind fun z_92 => (f_X11_answer fu b_latestStatus z_92.1).bind fun z_93 => some (z_93.1, z_93.2, z_91.1, z_91.2.1, z_91.2.2.1, z_91.2.2.2.1, z_91.2.2.2.2.1, z_92.2.1, z_91.2.2.2.2.2.2.1, z_91.2.2.2.2.2.2.2.1, z_91.2.2.2.2.2.2.2.2.1, z_92.2.2, z_91.2.2.2.2.2.2.2.2.2.1, z_91.2.2.2.2.2.2.2.2.2.2.1, z_91.2.2.2.2.2.2.2.2.2.2.2.1, z_91.2.2.2.2.2.2.2.2.2.2.2.2.1, z_91.2.2.2.2.2.2.2.2.2.2.2.2.2.1, z_91.2.2.2.2.2.2.2.2.2.2.2.2.2.2) else (f_X11_refuse fu b_latestStatus z_85).bind fun z_94 => some (z_94.1, z_94.2, f_sizes, f_dangers, n_name, n_courage, n_weight, n_medals, n_stood, n_fled, n_liked, n_votes, n_count, n_living, n_pride, n_quota, n_melted, n_lost)))) else (if x2 = 3 then (f_X11_ordersRefusal fu y3_row y3_missing y3_many a_count a_living x1 x3).bind fun z_97 => (if z_97 = 1 then (f_X11_refuse fu b_latestStatus 1).bind fun z_99 => some (z_99.1, z_99.2, f_sizes, f_dangers, n_name, n_courage, n_weight, n_medals, n_stood, n_fled, n_liked, n_votes, n_count, n_living, n_pride, n_quota, n_melted, n_lost) else (f_X11_within fu x4 0 (x3 - 1)).bind fun z_100 => (if z_100 = 0 then (f_X11_refuse fu b_latestStatus 1).bind fun z_107 => some (z_107.1, z_107.2, f_sizes, f_dangers, n_name, n_courage, n_weight, n_medals, n_stood, n_fled, n_liked, n_votes, n_count, n_living, n_pride, n_quota, n_melted, n_lost) else (if z_97 = 0 then (f_X4_look fu f_sizes f_dangers n_name n_courage n_weight n_medals n_stood n_fled n_liked n_count n_living n_pride n_quota n_melted n_lost a_name a_courage a_weight a_medals a_stood a_fled a_liked a_count a_living a_pride a_quota a_melted a_lost y3_row y3_many x3).bind fun z_103 => (f_X4_facerOf fu z_103.1 z_103.2.1 z_103.2.2.2.1 z_103.2.2.2.2.1 z_103.2.2.2.2.2.1 z_103.2.2.2.2.2.2.2.2.1 n_votes z_103.2.2.2.2.2.2.2.2.2.1 z_103.2.2.2.2.2.2.2.2.2.2.1 z_103.2.2.2.2.2.2.2.2.2.2.2.1 x1 x4).bind fun z_104 => (f_X11_answer fu b_latestStatus z_104.1).bind fun z_105 => some (z_105.1, z_105.2, z_103.1, z_103.2.1, z_103.2.2.1, z_103.2.2.2.1, z_103.2.2.2.2.1, z_104.2.1, z_103.2.2.2.2.2.2.1, z_103.2.2.2.2.2.2.2.1, z_103.2.2.2.2.2.2.2.2.1, z_104.2.2, z_103.2.2.2.2.2.2.2.2.2.1, z_103.2.2.2.2.2.2.2.2.2.2.1, z_103.2.2.2.2.2.2.2.2.2.2.2.1, z_103.2.2.2.2.2.2.2.2.2.2.2.2.1, z_103.2.2.2.2.2.2.2.2.2.2.2.2.2.1, z_103.2.2.2.2.2.2.2.2.2.2.2.2.2.2) else (f_X11_refuse fu b_latestStatus z_97).bind fun z_106 => some (z_106.1, z_106.2, f_sizes, f_dangers, n_name, n_courage, n_weight, n_medals, n_stood, n_fled, n_liked, n_votes, n_count, n_living, n_pride, n_quota, n_melted, n_lost)))) else (f_X11_ordersRefusal_n2 fu a_count x1 x3).bind fun z_108 => (if z_108 = 1 then (f_X11_refuse fu b_latestStatus 1).bind fun z_110 => some (z_110.1, z_110.2, f_sizes, f_dangers, n_name, n_courage, n_weight, n_medals, n_stood, n_fled, n_liked, n_votes, n_count, n_living, n_pride, n_quota, n_melted, n_lost) else (f_X11_within fu x4 0 (x3 - 1)).bind fun z_111 => (if z_111 = 0 then (f_X11_refuse fu b_latestStatus 1).bind fun z_118 => some (z_118.1, z_118.2, f_sizes, f_dangers, n_name, n_courage, n_weight, n_medals, n_stood, n_fled, n_liked, n_votes, n_count, n_living, n_pride, n_quota, n_melted, n_lost) else (if z_108 = 0 then (f_X4_look_n2 fu f_dangers n_name n_courage n_weight n_medals n_stood n_fled n_liked n_count n_living n_pride n_quota n_melted n_lost a_name a_courage a_weight a_medals a_stood a_fled a_liked a_count a_living a_pride a_quota a_melted a_lost x3).bind fun z_114 => (f_X4_facerOf fu f_sizes z_114.1 z_114.2.2.1 z_114.2.2.2.1 z_114.2.2.2.2.1 z_114.2.2.2.2.2.2.2.1 n_votes z_114.2.2.2.2.2.2.2.2.1 z_114.2.2.2.2.2.2.2.2.2.1 z_114.2.2.2.2.2.2.2.2.2.2.1 x1 x4).bind fun z_115 => (f_X11_answer fu b_latestStatus z_115.1).bind fun z_116 => some (z_116.1, z_116.2, f_sizes, z_114.1, z_114.2.1, z_114.2.2.1, z_114.2.2.2.1, z_115.2.1, z_114.2.2.2.2.2.1, z_114.2.2.2.2.2.2.1, z_114.2.2.2.2.2.2.2.1, z_115.2.2, z_114.2.2.2.2.2.2.2.2.1, z_114.2.2.2.2.2.2.2.2.2.1, z_114.2.2.2.2.2.2.2.2.2.2.1, z_114.2.2.2.2.2.2.2.2.2.2.2.1, z_114.2.2.2.2.2.2.2.2.2.2.2.2.1, z_114.2.2.2.2.2.2.2.2.2.2.2.2.2) else (f_X11_refuse fu b_latestStatus z_108).bind fun z_117 => some (z_117.1, z_117.2, f_sizes, f_dangers, n_name, n_courage, n_weight, n_medals, n_stood, n_fled, n_liked, n_votes, n_count, n_living, n_pride, n_quota, n_melted, n_lost))))))))
abbrev rm_X11_facesAt : Room := { frames := 23, cells := 0, slots := 0, locals := 583 }
set_option maxHeartbeats 4000000 in
set_option maxRecDepth 100000 in
theorem c_X11_facesAt (l : Launch) (D : va_G) (cy : Nat → ClassId) (fu : Nat) (A_b : Nat → Nat) (r_b_war : Nat) (r_b_draftArmy : Nat) (r_b_draftWar : Nat) (r_b_reader : Nat) (r_b_armyReader : Nat) (r_b_warReader : Nat) (r_b_markedArmies : Nat) (r_b_markedWars : Nat) (r_b_latest : Nat) (r_b_trial : Nat) (r_b_pairs : Nat) (b_latestStatus : Int32) (b_fractionTop : Int64) (b_fractionBottom : Int64) (b_marks : Int32) (A_T : Nat → Nat) (A_y0 : Nat → Nat) (y0_row : Nat → Int64) (y0_missing : Int32) (y0_sort : Int32) (y0_many : Int32) (A_y1 : Nat → Nat) (y1_row : Nat → Int64) (y1_missing : Int32) (y1_sort : Int32) (y1_many : Int32) (A_y2 : Nat → Nat) (y2_row : Nat → Int64) (y2_missing : Int32) (y2_sort : Int32) (y2_many : Int32) (A_y3 : Nat → Nat) (y3_row : Nat → Int64) (y3_missing : Int32) (y3_sort : Int32) (y3_many : Int32) (A_a : Nat → Nat) (a_name : Nat → Int64) (a_courage : Nat → Int32) (a_weight : Nat → Int32) (a_medals : Nat → Int32) (a_stood : Nat → Int32) (a_fled : Nat → Int32) (a_liked : Nat → Int32) (a_votes : Nat → Int32) (a_count : Int32) (a_living : Int32) (a_pride : Int32) (a_quota : Int32) (a_melted : Int32) (a_lost : Int32) (A_f : Nat → Nat) (f_sizes : Nat → Int32) (f_dangers : Int32) (A_n : Nat → Nat) (n_name : Nat → Int64) (n_courage : Nat → Int32) (n_weight : Nat → Int32) (n_medals : Nat → Int32) (n_stood : Nat → Int32) (n_fled : Nat → Int32) (n_liked : Nat → Int32) (n_votes : Nat → Int32) (n_count : Int32) (n_living : Int32) (n_pride : Int32) (n_quota : Int32) (n_melted : Int32) (n_lost : Int32) (x1 : Int32) (x2 : Int32) (x3 : Int32) (x4 : Int32) (res : Int32 × Int32 × (Nat → Int32) × Int32 × (Nat → Int64) × (Nat → Int32) × (Nat → Int32) × (Nat → Int32) × (Nat → Int32) × (Nat → Int32) × (Nat → Int32) × (Nat → Int32) × Int32 × Int32 × Int32 × Int32 × Int32 × Int32) (h : f_X11_facesAt fu b_latestStatus y0_row y0_missing y0_many y1_row y1_missing y1_many y2_row y2_missing y2_many y3_row y3_missing y3_many a_name a_courage a_weight a_medals a_stood a_fled a_liked a_count a_living a_pride a_quota a_melted a_lost f_sizes f_dangers n_name n_courage n_weight n_medals n_stood n_fled n_liked n_votes n_count n_living n_pride n_quota n_melted n_lost x1 x2 x3 x4 = some res) (A : Nat → Prop) (hA : A = adr [bl_X11 cy A_b (A_T 0) (A_a 0) r_b_war r_b_draftArmy r_b_draftWar r_b_reader r_b_armyReader r_b_warReader r_b_markedArmies r_b_markedWars r_b_latest r_b_trial (A_f 0) r_b_pairs b_latestStatus b_fractionTop b_fractionBottom b_marks, [(A_T 0, .inl (cy 4, 4, .inr (.inr (.inr (.inr (trf4 (A_y0 0) (A_y1 0) (A_y2 0) (A_y3 0)))))))], bl_X8 cy A_y0 y0_row y0_missing y0_sort y0_many, bl_X8 cy A_y1 y1_row y1_missing y1_sort y1_many, bl_X8 cy A_y2 y2_row y2_missing y2_sort y2_many, bl_X8 cy A_y3 y3_row y3_missing y3_sort y3_many, bl_X0 cy A_a a_name a_courage a_weight a_medals a_stood a_fled a_liked a_votes a_count a_living a_pride a_quota a_melted a_lost, bl_X4 cy A_f (A_n 0) f_sizes f_dangers, bl_X0 cy A_n n_name n_courage n_weight n_medals n_stood n_fled n_liked n_votes n_count n_living n_pride n_quota n_melted n_lost]) (W1 : List va_W) (hW1 : W1 = [bl_X11 cy A_b (A_T 0) (A_a 0) r_b_war r_b_draftArmy r_b_draftWar r_b_reader r_b_armyReader r_b_warReader r_b_markedArmies r_b_markedWars r_b_latest r_b_trial (A_f 0) r_b_pairs res.2.1 b_fractionTop b_fractionBottom b_marks, [(A_T 0, .inl (cy 4, 4, .inr (.inr (.inr (.inr (trf4 (A_y0 0) (A_y1 0) (A_y2 0) (A_y3 0)))))))], bl_X8 cy A_y0 y0_row y0_missing y0_sort y0_many, bl_X8 cy A_y1 y1_row y1_missing y1_sort y1_many, bl_X8 cy A_y2 y2_row y2_missing y2_sort y2_many, bl_X8 cy A_y3 y3_row y3_missing y3_sort y3_many, bl_X0 cy A_a a_name a_courage a_weight a_medals a_stood a_fled a_liked a_votes a_count a_living a_pride a_quota a_melted a_lost, bl_X4 cy A_f (A_n 0) res.2.2.1 res.2.2.2.1, bl_X0 cy A_n res.2.2.2.2.1 res.2.2.2.2.2.1 res.2.2.2.2.2.2.1 res.2.2.2.2.2.2.2.1 res.2.2.2.2.2.2.2.2.1 res.2.2.2.2.2.2.2.2.2.1 res.2.2.2.2.2.2.2.2.2.2.1 res.2.2.2.2.2.2.2.2.2.2.2.1 res.2.2.2.2.2.2.2.2.2.2.2.2.1 res.2.2.2.2.2.2.2.2.2.2.2.2.2.1 res.2.2.2.2.2.2.2.2.2.2.2.2.2.2.1 res.2.2.2.2.2.2.2.2.2.2.2.2.2.2.2.1 res.2.2.2.2.2.2.2.2.2.2.2.2.2.2.2.2.1 res.2.2.2.2.2.2.2.2.2.2.2.2.2.2.2.2.2]) : Met l yX11_facesAt (WW yX11_facesAt cX11_facesAt 7 (some .int)) rm_X11_facesAt (Ed D cy [.ref (A_b 0), .int x1, .int x2, .int x3, .int x4] [bl_X11 cy A_b (A_T 0) (A_a 0) r_b_war r_b_draftArmy r_b_draftWar r_b_reader r_b_armyReader r_b_warReader r_b_markedArmies r_b_markedWars r_b_latest r_b_trial (A_f 0) r_b_pairs b_latestStatus b_fractionTop b_fractionBottom b_marks, [(A_T 0, .inl (cy 4, 4, .inr (.inr (.inr (.inr (trf4 (A_y0 0) (A_y1 0) (A_y2 0) (A_y3 0)))))))], bl_X8 cy A_y0 y0_row y0_missing y0_sort y0_many, bl_X8 cy A_y1 y1_row y1_missing y1_sort y1_many, bl_X8 cy A_y2 y2_row y2_missing y2_sort y2_many, bl_X8 cy A_y3 y3_row y3_missing y3_sort y3_many, bl_X0 cy A_a a_name a_courage a_weight a_medals a_stood a_fled a_liked a_votes a_count a_living a_pride a_quota a_melted a_lost, bl_X4 cy A_f (A_n 0) f_sizes f_dangers, bl_X0 cy A_n n_name n_courage n_weight n_medals n_stood n_fled n_liked n_votes n_count n_living n_pride n_quota n_melted n_lost]) (Qei D res.1 A W1) 0 0 A := by
  refine Met.ofW (cc := cX11_facesAt) (maxL := 7) (ret := (some .int)) (by decide) rfl ?_
  intro p e s m args below meth c s₁ B hml hv
  obtain ⟨hargs, hP, hX, hD0⟩ := hv
  have hx := B.exec
  have hb := B.bytes
  have hr := B.returns
  have ht : ∀ w ∈ lw_gd, w.before args s = true := fun w hw => atoms_spec (ws := WW yX11_facesAt cX11_facesAt 7 (some .int)) B.pre w (List.mem_cons_of_mem _ hw)
  have hown : s.vm.findClass RX11 = some m.cls := findClass_of_methodNamed B.named
  have hlocks := B.notSynchronized
  have hP : PD D A [bl_X11 cy A_b (A_T 0) (A_a 0) r_b_war r_b_draftArmy r_b_draftWar r_b_reader r_b_armyReader r_b_warReader r_b_markedArmies r_b_markedWars r_b_latest r_b_trial (A_f 0) r_b_pairs b_latestStatus b_fractionTop b_fractionBottom b_marks, [(A_T 0, .inl (cy 4, 4, .inr (.inr (.inr (.inr (trf4 (A_y0 0) (A_y1 0) (A_y2 0) (A_y3 0)))))))], bl_X8 cy A_y0 y0_row y0_missing y0_sort y0_many, bl_X8 cy A_y1 y1_row y1_missing y1_sort y1_many, bl_X8 cy A_y2 y2_row y2_missing y2_sort y2_many, bl_X8 cy A_y3 y3_row y3_missing y3_sort y3_many, bl_X0 cy A_a a_name a_courage a_weight a_medals a_stood a_fled a_liked a_votes a_count a_living a_pride a_quota a_melted a_lost, bl_X4 cy A_f (A_n 0) f_sizes f_dangers, bl_X0 cy A_n n_name n_courage n_weight n_medals n_stood n_fled n_liked n_votes n_count n_living n_pride n_quota n_melted n_lost] s.heap := ⟨hP, by rw [hA]; exact hD0.own⟩
  have hS : va_S A s.heap s.heap [] := va_S.rf
  obtain ⟨ls, hl, hent⟩ := ent (m := m) (n := 7) hargs (Nat.le_of_ble_eq_true rfl) (lv := [(0, .ref (A_b 0)), (1, .int x1), (2, .int x2), (3, .int x3), (4, .int x4)]) rfl
  rw [hent]
  clear hent
  unfold f_X11_facesAt at h
  refine lv_aload_n hx hb dX11_facesAt_0 rfl (lv_at hl 0 rfl) ?_
  refine lv_iload_n hx hb dX11_facesAt_1 rfl (lv_at hl 2 rfl) ?_
  by_cases c_60 : x2 = 0
  · have h := it c_60 h
    refine roVq (rest := []) ⟨hx, hb, hml, hown, ht⟩ (c_X11_trayAt l D cy fu A_b (A_a 0) r_b_war r_b_draftArmy r_b_draftWar r_b_reader r_b_armyReader r_b_warReader r_b_markedArmies r_b_markedWars r_b_latest r_b_trial (A_f 0) r_b_pairs b_latestStatus b_fractionTop b_fractionBottom b_marks A_T (trf4 (A_y0 0) (A_y1 0) (A_y2 0) (A_y3 0)) x2 (some (A_y0 0)) (tray_0 c_60)) (cV ht mv_X11_trayAt tb_500 rfl rfl ⟨Nat.le_of_ble_eq_true rfl, Nat.le_of_ble_eq_true rfl⟩) (P_sub hP.1 [0, 1] rfl) hX rfl rfl rfl hl.1 rfl (Nat.le_of_ble_eq_true rfl) dX11_facesAt_2 ⟨Nat.le_of_ble_eq_true rfl, Nat.le_of_ble_eq_true rfl⟩ ?_
    refine lv_astore (lv' := [(5, .ref (A_y0 0)), (0, .ref (A_b 0)), (1, .int x1), (2, .int x2), (3, .int x3), (4, .int x4)]) hx hb dX11_facesAt_5 hl (by decide) rfl (fun ls hl => ?_)
    refine lv_aload_n hx hb dX11_facesAt_7 rfl (lv_at hl 1 rfl) ?_
    refine lv_iload_n hx hb dX11_facesAt_8 rfl (lv_at hl 2 rfl) ?_
    refine lv_aload hx hb dX11_facesAt_9 (lv_at hl 0 rfl) ?_
    refine lv_iload_n hx hb dX11_facesAt_11 rfl (lv_at hl 4 rfl) ?_
    obtain ⟨z_61, e_z_61, h⟩ := bi h
    refine roVi (rest := []) ⟨hx, hb, hml, hown, ht⟩ (c_X11_ordersRefusal l D cy fu A_b (A_T 0) r_b_war r_b_draftArmy r_b_draftWar r_b_reader r_b_armyReader r_b_warReader r_b_markedArmies r_b_markedWars r_b_latest r_b_trial (A_f 0) r_b_pairs b_latestStatus b_fractionTop b_fractionBottom b_marks A_y0 y0_row y0_missing y0_sort y0_many A_a a_name a_courage a_weight a_medals a_stood a_fled a_liked a_votes a_count a_living a_pride a_quota a_melted a_lost x1 x3 z_61 e_z_61) (cV ht mv_X11_ordersRefusal tb_981 rfl rfl ⟨Nat.le_of_ble_eq_true rfl, Nat.le_of_ble_eq_true rfl⟩) (P_sub hP.1 [0, 2, 6] rfl) hX rfl rfl rfl hl.1 rfl (Nat.le_of_ble_eq_true rfl) dX11_facesAt_12 ⟨Nat.le_of_ble_eq_true rfl, Nat.le_of_ble_eq_true rfl⟩ ?_
    refine lv_istore (lv' := [(6, .int z_61), (5, .ref (A_y0 0)), (0, .ref (A_b 0)), (1, .int x1), (2, .int x2), (3, .int x3), (4, .int x4)]) hx hb dX11_facesAt_15 hl (by decide) rfl (fun ls hl => ?_)
    refine lv_iload hx hb dX11_facesAt_17 (lv_at hl 0 rfl) ?_
    refine lv_iconst (v := 1) hx hb dX11_facesAt_19 (by decide) ?_
    refine lv_icmp_eq (tgt := 35) hx hb dX11_facesAt_20 (by decide) (fun c_62 => ?_) (fun c_62 => ?_)
    · have h := it c_62 h
      refine lv_aload_n hx hb dX11_facesAt_35 rfl (lv_at hl 2 rfl) ?_
      refine lv_iconst (v := 1) hx hb dX11_facesAt_36 (by decide) ?_
      obtain ⟨z_63, e_z_63, h⟩ := bi h
      refine efVi (rest := []) ⟨hx, hb, hml, hown, ht⟩ (c_X11_refuse l D cy fu A_b (A_T 0) (A_a 0) r_b_war r_b_draftArmy r_b_draftWar r_b_reader r_b_armyReader r_b_warReader r_b_markedArmies r_b_markedWars r_b_latest r_b_trial (A_f 0) r_b_pairs b_latestStatus b_fractionTop b_fractionBottom b_marks 1 z_63 e_z_63 _ rfl _ rfl) (cV ht mv_X11_refuse tb_543 rfl rfl ⟨Nat.le_of_ble_eq_true rfl, Nat.le_of_ble_eq_true rfl⟩) hP hS hX [0] rfl rfl rfl rfl rfl rfl hl.1 rfl (Nat.le_of_ble_eq_true rfl) dX11_facesAt_37 ⟨Nat.le_of_ble_eq_true rfl, Nat.le_of_ble_eq_true rfl⟩ (fun H locs hP hS => ?_)
      have hP : PD D A [bl_X11 cy A_b (A_T 0) (A_a 0) r_b_war r_b_draftArmy r_b_draftWar r_b_reader r_b_armyReader r_b_warReader r_b_markedArmies r_b_markedWars r_b_latest r_b_trial (A_f 0) r_b_pairs z_63.2 b_fractionTop b_fractionBottom b_marks, [(A_T 0, .inl (cy 4, 4, .inr (.inr (.inr (.inr (trf4 (A_y0 0) (A_y1 0) (A_y2 0) (A_y3 0)))))))], bl_X8 cy A_y0 y0_row y0_missing y0_sort y0_many, bl_X8 cy A_y1 y1_row y1_missing y1_sort y1_many, bl_X8 cy A_y2 y2_row y2_missing y2_sort y2_many, bl_X8 cy A_y3 y3_row y3_missing y3_sort y3_many, bl_X0 cy A_a a_name a_courage a_weight a_medals a_stood a_fled a_liked a_votes a_count a_living a_pride a_quota a_melted a_lost, bl_X4 cy A_f (A_n 0) f_sizes f_dangers, bl_X0 cy A_n n_name n_courage n_weight n_medals n_stood n_fled n_liked n_votes n_count n_living n_pride n_quota n_melted n_lost] H := hP
      cases h
      subst hW1
      exact W.iret hx hb hr (fun _ ht9 _ => ⟨⟨_, (), rfl, rfl, hPt ht9 hP.1⟩, hS.F ht9⟩) hS.2.2 dX11_facesAt_40
    · have h := ie c_62 h
      refine lv_iload hx hb dX11_facesAt_23 (lv_at hl 6 rfl) ?_
      refine lv_iconst (v := 0) hx hb dX11_facesAt_25 (by decide) ?_
      refine lv_iload_n hx hb dX11_facesAt_26 rfl (lv_at hl 5 rfl) ?_
      refine lv_iconst (v := 1) hx hb dX11_facesAt_27 (by decide) ?_
      refine lv_isub hx hb dX11_facesAt_28 ?_
      obtain ⟨z_64, e_z_64, h⟩ := bi h
      refine roSi (rest := []) ⟨hx, hb, hml, hown, ht⟩ (c_X11_within l D cy fu  x4 0 (x3 - 1) z_64 e_z_64) (cS ht ms_X11_within tb_504 rfl rfl ⟨Nat.le_of_ble_eq_true rfl, Nat.le_of_ble_eq_true rfl⟩) (P_sub hP.1 [] rfl) hX rfl hl.1 rfl (Nat.le_of_ble_eq_true rfl) dX11_facesAt_29 ⟨Nat.le_of_ble_eq_true rfl, Nat.le_of_ble_eq_true rfl⟩ ?_
      refine lv_if_ne (tgt := 41) hx hb dX11_facesAt_32 (by decide) (fun c_65 => ?_) (fun c_65 => ?_)
      · have h := ie c_65 h
        refine lv_iload hx hb dX11_facesAt_41 (lv_at hl 0 rfl) ?_
        refine lv_if_eq (tgt := 53) hx hb dX11_facesAt_43 (by decide) (fun c_66 => ?_) (fun c_66 => ?_)
        · have h := it c_66 h
          refine lv_aload_n hx hb dX11_facesAt_53 rfl (lv_at hl 2 rfl) ?_
          refine xget (i := 0) (j := 0) (k := 16) (T := TX11) hx hb ht tb_iX11 hown hX hP.1 rfl rfl rfl (by decide) tb_445 rfl dX11_facesAt_54 ?_
          refine lv_aload_n hx hb dX11_facesAt_57 rfl (lv_at hl 2 rfl) ?_
          refine xget (i := 0) (j := 0) (k := 4) (T := TX11) hx hb ht tb_iX11 hown hX hP.1 rfl rfl rfl (by decide) tb_433 rfl dX11_facesAt_58 ?_
          refine lv_aload hx hb dX11_facesAt_61 (lv_at hl 1 rfl) ?_
          refine lv_iload_n hx hb dX11_facesAt_63 rfl (lv_at hl 5 rfl) ?_
          obtain ⟨z_67, e_z_67, h⟩ := bi h
          refine efVv (rest := []) ⟨hx, hb, hml, hown, ht⟩ (c_X4_look l D cy fu A_f f_sizes f_dangers A_n n_name n_courage n_weight n_medals n_stood n_fled n_liked n_votes n_count n_living n_pride n_quota n_melted n_lost A_a a_name a_courage a_weight a_medals a_stood a_fled a_liked a_votes a_count a_living a_pride a_quota a_melted a_lost A_y0 y0_row y0_missing y0_sort y0_many x3 z_67 e_z_67 _ rfl _ rfl) (cV ht mv_X4_look tb_991 rfl rfl ⟨Nat.le_of_ble_eq_true rfl, Nat.le_of_ble_eq_true rfl⟩) hP hS hX [7, 8, 6, 2] rfl rfl rfl rfl rfl rfl hl.1 rfl (Nat.le_of_ble_eq_true rfl) dX11_facesAt_64 ⟨Nat.le_of_ble_eq_true rfl, Nat.le_of_ble_eq_true rfl⟩ (fun H locs hP hS => ?_)
          have hP : PD D A [bl_X11 cy A_b (A_T 0) (A_a 0) r_b_war r_b_draftArmy r_b_draftWar r_b_reader r_b_armyReader r_b_warReader r_b_markedArmies r_b_markedWars r_b_latest r_b_trial (A_f 0) r_b_pairs b_latestStatus b_fractionTop b_fractionBottom b_marks, [(A_T 0, .inl (cy 4, 4, .inr (.inr (.inr (.inr (trf4 (A_y0 0) (A_y1 0) (A_y2 0) (A_y3 0)))))))], bl_X8 cy A_y0 y0_row y0_missing y0_sort y0_many, bl_X8 cy A_y1 y1_row y1_missing y1_sort y1_many, bl_X8 cy A_y2 y2_row y2_missing y2_sort y2_many, bl_X8 cy A_y3 y3_row y3_missing y3_sort y3_many, bl_X0 cy A_a a_name a_courage a_weight a_medals a_stood a_fled a_liked a_votes a_count a_living a_pride a_quota a_melted a_lost, bl_X4 cy A_f (A_n 0) z_67.1 z_67.2.1, bl_X0 cy A_n z_67.2.2.1 z_67.2.2.2.1 z_67.2.2.2.2.1 z_67.2.2.2.2.2.1 z_67.2.2.2.2.2.2.1 z_67.2.2.2.2.2.2.2.1 z_67.2.2.2.2.2.2.2.2.1 n_votes z_67.2.2.2.2.2.2.2.2.2.1 z_67.2.2.2.2.2.2.2.2.2.2.1 z_67.2.2.2.2.2.2.2.2.2.2.2.1 z_67.2.2.2.2.2.2.2.2.2.2.2.2.1 z_67.2.2.2.2.2.2.2.2.2.2.2.2.2.1 z_67.2.2.2.2.2.2.2.2.2.2.2.2.2.2] H := hP
          refine lv_aload_n hx hb dX11_facesAt_67 rfl (lv_at hl 2 rfl) ?_
          refine lv_aload_n hx hb dX11_facesAt_68 rfl (lv_at hl 2 rfl) ?_
          refine xget (i := 0) (j := 0) (k := 16) (T := TX11) hx hb ht tb_iX11 hown hX hP.1 rfl rfl rfl (by decide) tb_445 rfl dX11_facesAt_69 ?_
          refine lv_iload_n hx hb dX11_facesAt_72 rfl (lv_at hl 3 rfl) ?_
          refine lv_iload hx hb dX11_facesAt_73 (lv_at hl 6 rfl) ?_
          obtain ⟨z_68, e_z_68, h⟩ := bi h
          refine efVi (rest := [.ref (A_b 0)]) ⟨hx, hb, hml, hown, ht⟩ (c_X4_facerOf l D cy fu A_f z_67.1 z_67.2.1 A_n z_67.2.2.1 z_67.2.2.2.1 z_67.2.2.2.2.1 z_67.2.2.2.2.2.1 z_67.2.2.2.2.2.2.1 z_67.2.2.2.2.2.2.2.1 z_67.2.2.2.2.2.2.2.2.1 n_votes z_67.2.2.2.2.2.2.2.2.2.1 z_67.2.2.2.2.2.2.2.2.2.2.1 z_67.2.2.2.2.2.2.2.2.2.2.2.1 z_67.2.2.2.2.2.2.2.2.2.2.2.2.1 z_67.2.2.2.2.2.2.2.2.2.2.2.2.2.1 z_67.2.2.2.2.2.2.2.2.2.2.2.2.2.2 x1 x4 z_68 e_z_68 _ rfl _ rfl) (cV ht mv_X4_facerOf tb_1023 rfl rfl ⟨Nat.le_of_ble_eq_true rfl, Nat.le_of_ble_eq_true rfl⟩) hP hS hX [7, 8] rfl rfl rfl rfl rfl rfl hl.1 rfl (Nat.le_of_ble_eq_true rfl) dX11_facesAt_75 ⟨Nat.le_of_ble_eq_true rfl, Nat.le_of_ble_eq_true rfl⟩ (fun H locs hP hS => ?_)
          have hP : PD D A [bl_X11 cy A_b (A_T 0) (A_a 0) r_b_war r_b_draftArmy r_b_draftWar r_b_reader r_b_armyReader r_b_warReader r_b_markedArmies r_b_markedWars r_b_latest r_b_trial (A_f 0) r_b_pairs b_latestStatus b_fractionTop b_fractionBottom b_marks, [(A_T 0, .inl (cy 4, 4, .inr (.inr (.inr (.inr (trf4 (A_y0 0) (A_y1 0) (A_y2 0) (A_y3 0)))))))], bl_X8 cy A_y0 y0_row y0_missing y0_sort y0_many, bl_X8 cy A_y1 y1_row y1_missing y1_sort y1_many, bl_X8 cy A_y2 y2_row y2_missing y2_sort y2_many, bl_X8 cy A_y3 y3_row y3_missing y3_sort y3_many, bl_X0 cy A_a a_name a_courage a_weight a_medals a_stood a_fled a_liked a_votes a_count a_living a_pride a_quota a_melted a_lost, bl_X4 cy A_f (A_n 0) z_67.1 z_67.2.1, bl_X0 cy A_n z_67.2.2.1 z_67.2.2.2.1 z_67.2.2.2.2.1 z_68.2.1 z_67.2.2.2.2.2.2.1 z_67.2.2.2.2.2.2.2.1 z_67.2.2.2.2.2.2.2.2.1 z_68.2.2 z_67.2.2.2.2.2.2.2.2.2.1 z_67.2.2.2.2.2.2.2.2.2.2.1 z_67.2.2.2.2.2.2.2.2.2.2.2.1 z_67.2.2.2.2.2.2.2.2.2.2.2.2.1 z_67.2.2.2.2.2.2.2.2.2.2.2.2.2.1 z_67.2.2.2.2.2.2.2.2.2.2.2.2.2.2] H := hP
          obtain ⟨z_69, e_z_69, h⟩ := bi h
          refine efVi (rest := []) ⟨hx, hb, hml, hown, ht⟩ (c_X11_answer l D cy fu A_b (A_T 0) (A_a 0) r_b_war r_b_draftArmy r_b_draftWar r_b_reader r_b_armyReader r_b_warReader r_b_markedArmies r_b_markedWars r_b_latest r_b_trial (A_f 0) r_b_pairs b_latestStatus b_fractionTop b_fractionBottom b_marks z_68.1 z_69 e_z_69 _ rfl _ rfl) (cV ht mv_X11_answer tb_696 rfl rfl ⟨Nat.le_of_ble_eq_true rfl, Nat.le_of_ble_eq_true rfl⟩) hP hS hX [0] rfl rfl rfl rfl rfl rfl hl.1 rfl (Nat.le_of_ble_eq_true rfl) dX11_facesAt_78 ⟨Nat.le_of_ble_eq_true rfl, Nat.le_of_ble_eq_true rfl⟩ (fun H locs hP hS => ?_)
          have hP : PD D A [bl_X11 cy A_b (A_T 0) (A_a 0) r_b_war r_b_draftArmy r_b_draftWar r_b_reader r_b_armyReader r_b_warReader r_b_markedArmies r_b_markedWars r_b_latest r_b_trial (A_f 0) r_b_pairs z_69.2 b_fractionTop b_fractionBottom b_marks, [(A_T 0, .inl (cy 4, 4, .inr (.inr (.inr (.inr (trf4 (A_y0 0) (A_y1 0) (A_y2 0) (A_y3 0)))))))], bl_X8 cy A_y0 y0_row y0_missing y0_sort y0_many, bl_X8 cy A_y1 y1_row y1_missing y1_sort y1_many, bl_X8 cy A_y2 y2_row y2_missing y2_sort y2_many, bl_X8 cy A_y3 y3_row y3_missing y3_sort y3_many, bl_X0 cy A_a a_name a_courage a_weight a_medals a_stood a_fled a_liked a_votes a_count a_living a_pride a_quota a_melted a_lost, bl_X4 cy A_f (A_n 0) z_67.1 z_67.2.1, bl_X0 cy A_n z_67.2.2.1 z_67.2.2.2.1 z_67.2.2.2.2.1 z_68.2.1 z_67.2.2.2.2.2.2.1 z_67.2.2.2.2.2.2.2.1 z_67.2.2.2.2.2.2.2.2.1 z_68.2.2 z_67.2.2.2.2.2.2.2.2.2.1 z_67.2.2.2.2.2.2.2.2.2.2.1 z_67.2.2.2.2.2.2.2.2.2.2.2.1 z_67.2.2.2.2.2.2.2.2.2.2.2.2.1 z_67.2.2.2.2.2.2.2.2.2.2.2.2.2.1 z_67.2.2.2.2.2.2.2.2.2.2.2.2.2.2] H := hP
          cases h
          subst hW1
          exact W.iret hx hb hr (fun _ ht9 _ => ⟨⟨_, (), rfl, rfl, hPt ht9 hP.1⟩, hS.F ht9⟩) hS.2.2 dX11_facesAt_81
        · have h := ie c_66 h
          refine lv_aload_n hx hb dX11_facesAt_46 rfl (lv_at hl 2 rfl) ?_
          refine lv_iload hx hb dX11_facesAt_47 (lv_at hl 0 rfl) ?_
          obtain ⟨z_70, e_z_70, h⟩ := bi h
          refine efVi (rest := []) ⟨hx, hb, hml, hown, ht⟩ (c_X11_refuse l D cy fu A_b (A_T 0) (A_a 0) r_b_war r_b_draftArmy r_b_draftWar r_b_reader r_b_armyReader r_b_warReader r_b_markedArmies r_b_markedWars r_b_latest r_b_trial (A_f 0) r_b_pairs b_latestStatus b_fractionTop b_fractionBottom b_marks z_61 z_70 e_z_70 _ rfl _ rfl) (cV ht mv_X11_refuse tb_543 rfl rfl ⟨Nat.le_of_ble_eq_true rfl, Nat.le_of_ble_eq_true rfl⟩) hP hS hX [0] rfl rfl rfl rfl rfl rfl hl.1 rfl (Nat.le_of_ble_eq_true rfl) dX11_facesAt_49 ⟨Nat.le_of_ble_eq_true rfl, Nat.le_of_ble_eq_true rfl⟩ (fun H locs hP hS => ?_)
          have hP : PD D A [bl_X11 cy A_b (A_T 0) (A_a 0) r_b_war r_b_draftArmy r_b_draftWar r_b_reader r_b_armyReader r_b_warReader r_b_markedArmies r_b_markedWars r_b_latest r_b_trial (A_f 0) r_b_pairs z_70.2 b_fractionTop b_fractionBottom b_marks, [(A_T 0, .inl (cy 4, 4, .inr (.inr (.inr (.inr (trf4 (A_y0 0) (A_y1 0) (A_y2 0) (A_y3 0)))))))], bl_X8 cy A_y0 y0_row y0_missing y0_sort y0_many, bl_X8 cy A_y1 y1_row y1_missing y1_sort y1_many, bl_X8 cy A_y2 y2_row y2_missing y2_sort y2_many, bl_X8 cy A_y3 y3_row y3_missing y3_sort y3_many, bl_X0 cy A_a a_name a_courage a_weight a_medals a_stood a_fled a_liked a_votes a_count a_living a_pride a_quota a_melted a_lost, bl_X4 cy A_f (A_n 0) f_sizes f_dangers, bl_X0 cy A_n n_name n_courage n_weight n_medals n_stood n_fled n_liked n_votes n_count n_living n_pride n_quota n_melted n_lost] H := hP
          cases h
          subst hW1
          exact W.iret hx hb hr (fun _ ht9 _ => ⟨⟨_, (), rfl, rfl, hPt ht9 hP.1⟩, hS.F ht9⟩) hS.2.2 dX11_facesAt_52
      · have h := it c_65 h
        refine lv_aload_n hx hb dX11_facesAt_35 rfl (lv_at hl 2 rfl) ?_
        refine lv_iconst (v := 1) hx hb dX11_facesAt_36 (by decide) ?_
        obtain ⟨z_71, e_z_71, h⟩ := bi h
        refine efVi (rest := []) ⟨hx, hb, hml, hown, ht⟩ (c_X11_refuse l D cy fu A_b (A_T 0) (A_a 0) r_b_war r_b_draftArmy r_b_draftWar r_b_reader r_b_armyReader r_b_warReader r_b_markedArmies r_b_markedWars r_b_latest r_b_trial (A_f 0) r_b_pairs b_latestStatus b_fractionTop b_fractionBottom b_marks 1 z_71 e_z_71 _ rfl _ rfl) (cV ht mv_X11_refuse tb_543 rfl rfl ⟨Nat.le_of_ble_eq_true rfl, Nat.le_of_ble_eq_true rfl⟩) hP hS hX [0] rfl rfl rfl rfl rfl rfl hl.1 rfl (Nat.le_of_ble_eq_true rfl) dX11_facesAt_37 ⟨Nat.le_of_ble_eq_true rfl, Nat.le_of_ble_eq_true rfl⟩ (fun H locs hP hS => ?_)
        have hP : PD D A [bl_X11 cy A_b (A_T 0) (A_a 0) r_b_war r_b_draftArmy r_b_draftWar r_b_reader r_b_armyReader r_b_warReader r_b_markedArmies r_b_markedWars r_b_latest r_b_trial (A_f 0) r_b_pairs z_71.2 b_fractionTop b_fractionBottom b_marks, [(A_T 0, .inl (cy 4, 4, .inr (.inr (.inr (.inr (trf4 (A_y0 0) (A_y1 0) (A_y2 0) (A_y3 0)))))))], bl_X8 cy A_y0 y0_row y0_missing y0_sort y0_many, bl_X8 cy A_y1 y1_row y1_missing y1_sort y1_many, bl_X8 cy A_y2 y2_row y2_missing y2_sort y2_many, bl_X8 cy A_y3 y3_row y3_missing y3_sort y3_many, bl_X0 cy A_a a_name a_courage a_weight a_medals a_stood a_fled a_liked a_votes a_count a_living a_pride a_quota a_melted a_lost, bl_X4 cy A_f (A_n 0) f_sizes f_dangers, bl_X0 cy A_n n_name n_courage n_weight n_medals n_stood n_fled n_liked n_votes n_count n_living n_pride n_quota n_melted n_lost] H := hP
        cases h
        subst hW1
        exact W.iret hx hb hr (fun _ ht9 _ => ⟨⟨_, (), rfl, rfl, hPt ht9 hP.1⟩, hS.F ht9⟩) hS.2.2 dX11_facesAt_40
  have h := ie c_60 h
  by_cases c_72 : x2 = 1
  · have h := it c_72 h
    refine roVq (rest := []) ⟨hx, hb, hml, hown, ht⟩ (c_X11_trayAt l D cy fu A_b (A_a 0) r_b_war r_b_draftArmy r_b_draftWar r_b_reader r_b_armyReader r_b_warReader r_b_markedArmies r_b_markedWars r_b_latest r_b_trial (A_f 0) r_b_pairs b_latestStatus b_fractionTop b_fractionBottom b_marks A_T (trf4 (A_y0 0) (A_y1 0) (A_y2 0) (A_y3 0)) x2 (some (A_y1 0)) (tray_1 c_72)) (cV ht mv_X11_trayAt tb_500 rfl rfl ⟨Nat.le_of_ble_eq_true rfl, Nat.le_of_ble_eq_true rfl⟩) (P_sub hP.1 [0, 1] rfl) hX rfl rfl rfl hl.1 rfl (Nat.le_of_ble_eq_true rfl) dX11_facesAt_2 ⟨Nat.le_of_ble_eq_true rfl, Nat.le_of_ble_eq_true rfl⟩ ?_
    refine lv_astore (lv' := [(5, .ref (A_y1 0)), (0, .ref (A_b 0)), (1, .int x1), (2, .int x2), (3, .int x3), (4, .int x4)]) hx hb dX11_facesAt_5 hl (by decide) rfl (fun ls hl => ?_)
    refine lv_aload_n hx hb dX11_facesAt_7 rfl (lv_at hl 1 rfl) ?_
    refine lv_iload_n hx hb dX11_facesAt_8 rfl (lv_at hl 2 rfl) ?_
    refine lv_aload hx hb dX11_facesAt_9 (lv_at hl 0 rfl) ?_
    refine lv_iload_n hx hb dX11_facesAt_11 rfl (lv_at hl 4 rfl) ?_
    obtain ⟨z_73, e_z_73, h⟩ := bi h
    refine roVi (rest := []) ⟨hx, hb, hml, hown, ht⟩ (c_X11_ordersRefusal l D cy fu A_b (A_T 0) r_b_war r_b_draftArmy r_b_draftWar r_b_reader r_b_armyReader r_b_warReader r_b_markedArmies r_b_markedWars r_b_latest r_b_trial (A_f 0) r_b_pairs b_latestStatus b_fractionTop b_fractionBottom b_marks A_y1 y1_row y1_missing y1_sort y1_many A_a a_name a_courage a_weight a_medals a_stood a_fled a_liked a_votes a_count a_living a_pride a_quota a_melted a_lost x1 x3 z_73 e_z_73) (cV ht mv_X11_ordersRefusal tb_981 rfl rfl ⟨Nat.le_of_ble_eq_true rfl, Nat.le_of_ble_eq_true rfl⟩) (P_sub hP.1 [0, 3, 6] rfl) hX rfl rfl rfl hl.1 rfl (Nat.le_of_ble_eq_true rfl) dX11_facesAt_12 ⟨Nat.le_of_ble_eq_true rfl, Nat.le_of_ble_eq_true rfl⟩ ?_
    refine lv_istore (lv' := [(6, .int z_73), (5, .ref (A_y1 0)), (0, .ref (A_b 0)), (1, .int x1), (2, .int x2), (3, .int x3), (4, .int x4)]) hx hb dX11_facesAt_15 hl (by decide) rfl (fun ls hl => ?_)
    refine lv_iload hx hb dX11_facesAt_17 (lv_at hl 0 rfl) ?_
    refine lv_iconst (v := 1) hx hb dX11_facesAt_19 (by decide) ?_
    refine lv_icmp_eq (tgt := 35) hx hb dX11_facesAt_20 (by decide) (fun c_74 => ?_) (fun c_74 => ?_)
    · have h := it c_74 h
      refine lv_aload_n hx hb dX11_facesAt_35 rfl (lv_at hl 2 rfl) ?_
      refine lv_iconst (v := 1) hx hb dX11_facesAt_36 (by decide) ?_
      obtain ⟨z_75, e_z_75, h⟩ := bi h
      refine efVi (rest := []) ⟨hx, hb, hml, hown, ht⟩ (c_X11_refuse l D cy fu A_b (A_T 0) (A_a 0) r_b_war r_b_draftArmy r_b_draftWar r_b_reader r_b_armyReader r_b_warReader r_b_markedArmies r_b_markedWars r_b_latest r_b_trial (A_f 0) r_b_pairs b_latestStatus b_fractionTop b_fractionBottom b_marks 1 z_75 e_z_75 _ rfl _ rfl) (cV ht mv_X11_refuse tb_543 rfl rfl ⟨Nat.le_of_ble_eq_true rfl, Nat.le_of_ble_eq_true rfl⟩) hP hS hX [0] rfl rfl rfl rfl rfl rfl hl.1 rfl (Nat.le_of_ble_eq_true rfl) dX11_facesAt_37 ⟨Nat.le_of_ble_eq_true rfl, Nat.le_of_ble_eq_true rfl⟩ (fun H locs hP hS => ?_)
      have hP : PD D A [bl_X11 cy A_b (A_T 0) (A_a 0) r_b_war r_b_draftArmy r_b_draftWar r_b_reader r_b_armyReader r_b_warReader r_b_markedArmies r_b_markedWars r_b_latest r_b_trial (A_f 0) r_b_pairs z_75.2 b_fractionTop b_fractionBottom b_marks, [(A_T 0, .inl (cy 4, 4, .inr (.inr (.inr (.inr (trf4 (A_y0 0) (A_y1 0) (A_y2 0) (A_y3 0)))))))], bl_X8 cy A_y0 y0_row y0_missing y0_sort y0_many, bl_X8 cy A_y1 y1_row y1_missing y1_sort y1_many, bl_X8 cy A_y2 y2_row y2_missing y2_sort y2_many, bl_X8 cy A_y3 y3_row y3_missing y3_sort y3_many, bl_X0 cy A_a a_name a_courage a_weight a_medals a_stood a_fled a_liked a_votes a_count a_living a_pride a_quota a_melted a_lost, bl_X4 cy A_f (A_n 0) f_sizes f_dangers, bl_X0 cy A_n n_name n_courage n_weight n_medals n_stood n_fled n_liked n_votes n_count n_living n_pride n_quota n_melted n_lost] H := hP
      cases h
      subst hW1
      exact W.iret hx hb hr (fun _ ht9 _ => ⟨⟨_, (), rfl, rfl, hPt ht9 hP.1⟩, hS.F ht9⟩) hS.2.2 dX11_facesAt_40
    · have h := ie c_74 h
      refine lv_iload hx hb dX11_facesAt_23 (lv_at hl 6 rfl) ?_
      refine lv_iconst (v := 0) hx hb dX11_facesAt_25 (by decide) ?_
      refine lv_iload_n hx hb dX11_facesAt_26 rfl (lv_at hl 5 rfl) ?_
      refine lv_iconst (v := 1) hx hb dX11_facesAt_27 (by decide) ?_
      refine lv_isub hx hb dX11_facesAt_28 ?_
      obtain ⟨z_76, e_z_76, h⟩ := bi h
      refine roSi (rest := []) ⟨hx, hb, hml, hown, ht⟩ (c_X11_within l D cy fu  x4 0 (x3 - 1) z_76 e_z_76) (cS ht ms_X11_within tb_504 rfl rfl ⟨Nat.le_of_ble_eq_true rfl, Nat.le_of_ble_eq_true rfl⟩) (P_sub hP.1 [] rfl) hX rfl hl.1 rfl (Nat.le_of_ble_eq_true rfl) dX11_facesAt_29 ⟨Nat.le_of_ble_eq_true rfl, Nat.le_of_ble_eq_true rfl⟩ ?_
      refine lv_if_ne (tgt := 41) hx hb dX11_facesAt_32 (by decide) (fun c_77 => ?_) (fun c_77 => ?_)
      · have h := ie c_77 h
        refine lv_iload hx hb dX11_facesAt_41 (lv_at hl 0 rfl) ?_
        refine lv_if_eq (tgt := 53) hx hb dX11_facesAt_43 (by decide) (fun c_78 => ?_) (fun c_78 => ?_)
        · have h := it c_78 h
          refine lv_aload_n hx hb dX11_facesAt_53 rfl (lv_at hl 2 rfl) ?_
          refine xget (i := 0) (j := 0) (k := 16) (T := TX11) hx hb ht tb_iX11 hown hX hP.1 rfl rfl rfl (by decide) tb_445 rfl dX11_facesAt_54 ?_
          refine lv_aload_n hx hb dX11_facesAt_57 rfl (lv_at hl 2 rfl) ?_
          refine xget (i := 0) (j := 0) (k := 4) (T := TX11) hx hb ht tb_iX11 hown hX hP.1 rfl rfl rfl (by decide) tb_433 rfl dX11_facesAt_58 ?_
          refine lv_aload hx hb dX11_facesAt_61 (lv_at hl 1 rfl) ?_
          refine lv_iload_n hx hb dX11_facesAt_63 rfl (lv_at hl 5 rfl) ?_
          obtain ⟨z_79, e_z_79, h⟩ := bi h
          refine efVv (rest := []) ⟨hx, hb, hml, hown, ht⟩ (c_X4_look l D cy fu A_f f_sizes f_dangers A_n n_name n_courage n_weight n_medals n_stood n_fled n_liked n_votes n_count n_living n_pride n_quota n_melted n_lost A_a a_name a_courage a_weight a_medals a_stood a_fled a_liked a_votes a_count a_living a_pride a_quota a_melted a_lost A_y1 y1_row y1_missing y1_sort y1_many x3 z_79 e_z_79 _ rfl _ rfl) (cV ht mv_X4_look tb_991 rfl rfl ⟨Nat.le_of_ble_eq_true rfl, Nat.le_of_ble_eq_true rfl⟩) hP hS hX [7, 8, 6, 3] rfl rfl rfl rfl rfl rfl hl.1 rfl (Nat.le_of_ble_eq_true rfl) dX11_facesAt_64 ⟨Nat.le_of_ble_eq_true rfl, Nat.le_of_ble_eq_true rfl⟩ (fun H locs hP hS => ?_)
          have hP : PD D A [bl_X11 cy A_b (A_T 0) (A_a 0) r_b_war r_b_draftArmy r_b_draftWar r_b_reader r_b_armyReader r_b_warReader r_b_markedArmies r_b_markedWars r_b_latest r_b_trial (A_f 0) r_b_pairs b_latestStatus b_fractionTop b_fractionBottom b_marks, [(A_T 0, .inl (cy 4, 4, .inr (.inr (.inr (.inr (trf4 (A_y0 0) (A_y1 0) (A_y2 0) (A_y3 0)))))))], bl_X8 cy A_y0 y0_row y0_missing y0_sort y0_many, bl_X8 cy A_y1 y1_row y1_missing y1_sort y1_many, bl_X8 cy A_y2 y2_row y2_missing y2_sort y2_many, bl_X8 cy A_y3 y3_row y3_missing y3_sort y3_many, bl_X0 cy A_a a_name a_courage a_weight a_medals a_stood a_fled a_liked a_votes a_count a_living a_pride a_quota a_melted a_lost, bl_X4 cy A_f (A_n 0) z_79.1 z_79.2.1, bl_X0 cy A_n z_79.2.2.1 z_79.2.2.2.1 z_79.2.2.2.2.1 z_79.2.2.2.2.2.1 z_79.2.2.2.2.2.2.1 z_79.2.2.2.2.2.2.2.1 z_79.2.2.2.2.2.2.2.2.1 n_votes z_79.2.2.2.2.2.2.2.2.2.1 z_79.2.2.2.2.2.2.2.2.2.2.1 z_79.2.2.2.2.2.2.2.2.2.2.2.1 z_79.2.2.2.2.2.2.2.2.2.2.2.2.1 z_79.2.2.2.2.2.2.2.2.2.2.2.2.2.1 z_79.2.2.2.2.2.2.2.2.2.2.2.2.2.2] H := hP
          refine lv_aload_n hx hb dX11_facesAt_67 rfl (lv_at hl 2 rfl) ?_
          refine lv_aload_n hx hb dX11_facesAt_68 rfl (lv_at hl 2 rfl) ?_
          refine xget (i := 0) (j := 0) (k := 16) (T := TX11) hx hb ht tb_iX11 hown hX hP.1 rfl rfl rfl (by decide) tb_445 rfl dX11_facesAt_69 ?_
          refine lv_iload_n hx hb dX11_facesAt_72 rfl (lv_at hl 3 rfl) ?_
          refine lv_iload hx hb dX11_facesAt_73 (lv_at hl 6 rfl) ?_
          obtain ⟨z_80, e_z_80, h⟩ := bi h
          refine efVi (rest := [.ref (A_b 0)]) ⟨hx, hb, hml, hown, ht⟩ (c_X4_facerOf l D cy fu A_f z_79.1 z_79.2.1 A_n z_79.2.2.1 z_79.2.2.2.1 z_79.2.2.2.2.1 z_79.2.2.2.2.2.1 z_79.2.2.2.2.2.2.1 z_79.2.2.2.2.2.2.2.1 z_79.2.2.2.2.2.2.2.2.1 n_votes z_79.2.2.2.2.2.2.2.2.2.1 z_79.2.2.2.2.2.2.2.2.2.2.1 z_79.2.2.2.2.2.2.2.2.2.2.2.1 z_79.2.2.2.2.2.2.2.2.2.2.2.2.1 z_79.2.2.2.2.2.2.2.2.2.2.2.2.2.1 z_79.2.2.2.2.2.2.2.2.2.2.2.2.2.2 x1 x4 z_80 e_z_80 _ rfl _ rfl) (cV ht mv_X4_facerOf tb_1023 rfl rfl ⟨Nat.le_of_ble_eq_true rfl, Nat.le_of_ble_eq_true rfl⟩) hP hS hX [7, 8] rfl rfl rfl rfl rfl rfl hl.1 rfl (Nat.le_of_ble_eq_true rfl) dX11_facesAt_75 ⟨Nat.le_of_ble_eq_true rfl, Nat.le_of_ble_eq_true rfl⟩ (fun H locs hP hS => ?_)
          have hP : PD D A [bl_X11 cy A_b (A_T 0) (A_a 0) r_b_war r_b_draftArmy r_b_draftWar r_b_reader r_b_armyReader r_b_warReader r_b_markedArmies r_b_markedWars r_b_latest r_b_trial (A_f 0) r_b_pairs b_latestStatus b_fractionTop b_fractionBottom b_marks, [(A_T 0, .inl (cy 4, 4, .inr (.inr (.inr (.inr (trf4 (A_y0 0) (A_y1 0) (A_y2 0) (A_y3 0)))))))], bl_X8 cy A_y0 y0_row y0_missing y0_sort y0_many, bl_X8 cy A_y1 y1_row y1_missing y1_sort y1_many, bl_X8 cy A_y2 y2_row y2_missing y2_sort y2_many, bl_X8 cy A_y3 y3_row y3_missing y3_sort y3_many, bl_X0 cy A_a a_name a_courage a_weight a_medals a_stood a_fled a_liked a_votes a_count a_living a_pride a_quota a_melted a_lost, bl_X4 cy A_f (A_n 0) z_79.1 z_79.2.1, bl_X0 cy A_n z_79.2.2.1 z_79.2.2.2.1 z_79.2.2.2.2.1 z_80.2.1 z_79.2.2.2.2.2.2.1 z_79.2.2.2.2.2.2.2.1 z_79.2.2.2.2.2.2.2.2.1 z_80.2.2 z_79.2.2.2.2.2.2.2.2.2.1 z_79.2.2.2.2.2.2.2.2.2.2.1 z_79.2.2.2.2.2.2.2.2.2.2.2.1 z_79.2.2.2.2.2.2.2.2.2.2.2.2.1 z_79.2.2.2.2.2.2.2.2.2.2.2.2.2.1 z_79.2.2.2.2.2.2.2.2.2.2.2.2.2.2] H := hP
          obtain ⟨z_81, e_z_81, h⟩ := bi h
          refine efVi (rest := []) ⟨hx, hb, hml, hown, ht⟩ (c_X11_answer l D cy fu A_b (A_T 0) (A_a 0) r_b_war r_b_draftArmy r_b_draftWar r_b_reader r_b_armyReader r_b_warReader r_b_markedArmies r_b_markedWars r_b_latest r_b_trial (A_f 0) r_b_pairs b_latestStatus b_fractionTop b_fractionBottom b_marks z_80.1 z_81 e_z_81 _ rfl _ rfl) (cV ht mv_X11_answer tb_696 rfl rfl ⟨Nat.le_of_ble_eq_true rfl, Nat.le_of_ble_eq_true rfl⟩) hP hS hX [0] rfl rfl rfl rfl rfl rfl hl.1 rfl (Nat.le_of_ble_eq_true rfl) dX11_facesAt_78 ⟨Nat.le_of_ble_eq_true rfl, Nat.le_of_ble_eq_true rfl⟩ (fun H locs hP hS => ?_)
          have hP : PD D A [bl_X11 cy A_b (A_T 0) (A_a 0) r_b_war r_b_draftArmy r_b_draftWar r_b_reader r_b_armyReader r_b_warReader r_b_markedArmies r_b_markedWars r_b_latest r_b_trial (A_f 0) r_b_pairs z_81.2 b_fractionTop b_fractionBottom b_marks, [(A_T 0, .inl (cy 4, 4, .inr (.inr (.inr (.inr (trf4 (A_y0 0) (A_y1 0) (A_y2 0) (A_y3 0)))))))], bl_X8 cy A_y0 y0_row y0_missing y0_sort y0_many, bl_X8 cy A_y1 y1_row y1_missing y1_sort y1_many, bl_X8 cy A_y2 y2_row y2_missing y2_sort y2_many, bl_X8 cy A_y3 y3_row y3_missing y3_sort y3_many, bl_X0 cy A_a a_name a_courage a_weight a_medals a_stood a_fled a_liked a_votes a_count a_living a_pride a_quota a_melted a_lost, bl_X4 cy A_f (A_n 0) z_79.1 z_79.2.1, bl_X0 cy A_n z_79.2.2.1 z_79.2.2.2.1 z_79.2.2.2.2.1 z_80.2.1 z_79.2.2.2.2.2.2.1 z_79.2.2.2.2.2.2.2.1 z_79.2.2.2.2.2.2.2.2.1 z_80.2.2 z_79.2.2.2.2.2.2.2.2.2.1 z_79.2.2.2.2.2.2.2.2.2.2.1 z_79.2.2.2.2.2.2.2.2.2.2.2.1 z_79.2.2.2.2.2.2.2.2.2.2.2.2.1 z_79.2.2.2.2.2.2.2.2.2.2.2.2.2.1 z_79.2.2.2.2.2.2.2.2.2.2.2.2.2.2] H := hP
          cases h
          subst hW1
          exact W.iret hx hb hr (fun _ ht9 _ => ⟨⟨_, (), rfl, rfl, hPt ht9 hP.1⟩, hS.F ht9⟩) hS.2.2 dX11_facesAt_81
        · have h := ie c_78 h
          refine lv_aload_n hx hb dX11_facesAt_46 rfl (lv_at hl 2 rfl) ?_
          refine lv_iload hx hb dX11_facesAt_47 (lv_at hl 0 rfl) ?_
          obtain ⟨z_82, e_z_82, h⟩ := bi h
          refine efVi (rest := []) ⟨hx, hb, hml, hown, ht⟩ (c_X11_refuse l D cy fu A_b (A_T 0) (A_a 0) r_b_war r_b_draftArmy r_b_draftWar r_b_reader r_b_armyReader r_b_warReader r_b_markedArmies r_b_markedWars r_b_latest r_b_trial (A_f 0) r_b_pairs b_latestStatus b_fractionTop b_fractionBottom b_marks z_73 z_82 e_z_82 _ rfl _ rfl) (cV ht mv_X11_refuse tb_543 rfl rfl ⟨Nat.le_of_ble_eq_true rfl, Nat.le_of_ble_eq_true rfl⟩) hP hS hX [0] rfl rfl rfl rfl rfl rfl hl.1 rfl (Nat.le_of_ble_eq_true rfl) dX11_facesAt_49 ⟨Nat.le_of_ble_eq_true rfl, Nat.le_of_ble_eq_true rfl⟩ (fun H locs hP hS => ?_)
          have hP : PD D A [bl_X11 cy A_b (A_T 0) (A_a 0) r_b_war r_b_draftArmy r_b_draftWar r_b_reader r_b_armyReader r_b_warReader r_b_markedArmies r_b_markedWars r_b_latest r_b_trial (A_f 0) r_b_pairs z_82.2 b_fractionTop b_fractionBottom b_marks, [(A_T 0, .inl (cy 4, 4, .inr (.inr (.inr (.inr (trf4 (A_y0 0) (A_y1 0) (A_y2 0) (A_y3 0)))))))], bl_X8 cy A_y0 y0_row y0_missing y0_sort y0_many, bl_X8 cy A_y1 y1_row y1_missing y1_sort y1_many, bl_X8 cy A_y2 y2_row y2_missing y2_sort y2_many, bl_X8 cy A_y3 y3_row y3_missing y3_sort y3_many, bl_X0 cy A_a a_name a_courage a_weight a_medals a_stood a_fled a_liked a_votes a_count a_living a_pride a_quota a_melted a_lost, bl_X4 cy A_f (A_n 0) f_sizes f_dangers, bl_X0 cy A_n n_name n_courage n_weight n_medals n_stood n_fled n_liked n_votes n_count n_living n_pride n_quota n_melted n_lost] H := hP
          cases h
          subst hW1
          exact W.iret hx hb hr (fun _ ht9 _ => ⟨⟨_, (), rfl, rfl, hPt ht9 hP.1⟩, hS.F ht9⟩) hS.2.2 dX11_facesAt_52
      · have h := it c_77 h
        refine lv_aload_n hx hb dX11_facesAt_35 rfl (lv_at hl 2 rfl) ?_
        refine lv_iconst (v := 1) hx hb dX11_facesAt_36 (by decide) ?_
        obtain ⟨z_83, e_z_83, h⟩ := bi h
        refine efVi (rest := []) ⟨hx, hb, hml, hown, ht⟩ (c_X11_refuse l D cy fu A_b (A_T 0) (A_a 0) r_b_war r_b_draftArmy r_b_draftWar r_b_reader r_b_armyReader r_b_warReader r_b_markedArmies r_b_markedWars r_b_latest r_b_trial (A_f 0) r_b_pairs b_latestStatus b_fractionTop b_fractionBottom b_marks 1 z_83 e_z_83 _ rfl _ rfl) (cV ht mv_X11_refuse tb_543 rfl rfl ⟨Nat.le_of_ble_eq_true rfl, Nat.le_of_ble_eq_true rfl⟩) hP hS hX [0] rfl rfl rfl rfl rfl rfl hl.1 rfl (Nat.le_of_ble_eq_true rfl) dX11_facesAt_37 ⟨Nat.le_of_ble_eq_true rfl, Nat.le_of_ble_eq_true rfl⟩ (fun H locs hP hS => ?_)
        have hP : PD D A [bl_X11 cy A_b (A_T 0) (A_a 0) r_b_war r_b_draftArmy r_b_draftWar r_b_reader r_b_armyReader r_b_warReader r_b_markedArmies r_b_markedWars r_b_latest r_b_trial (A_f 0) r_b_pairs z_83.2 b_fractionTop b_fractionBottom b_marks, [(A_T 0, .inl (cy 4, 4, .inr (.inr (.inr (.inr (trf4 (A_y0 0) (A_y1 0) (A_y2 0) (A_y3 0)))))))], bl_X8 cy A_y0 y0_row y0_missing y0_sort y0_many, bl_X8 cy A_y1 y1_row y1_missing y1_sort y1_many, bl_X8 cy A_y2 y2_row y2_missing y2_sort y2_many, bl_X8 cy A_y3 y3_row y3_missing y3_sort y3_many, bl_X0 cy A_a a_name a_courage a_weight a_medals a_stood a_fled a_liked a_votes a_count a_living a_pride a_quota a_melted a_lost, bl_X4 cy A_f (A_n 0) f_sizes f_dangers, bl_X0 cy A_n n_name n_courage n_weight n_medals n_stood n_fled n_liked n_votes n_count n_living n_pride n_quota n_melted n_lost] H := hP
        cases h
        subst hW1
        exact W.iret hx hb hr (fun _ ht9 _ => ⟨⟨_, (), rfl, rfl, hPt ht9 hP.1⟩, hS.F ht9⟩) hS.2.2 dX11_facesAt_40
  have h := ie c_72 h
  by_cases c_84 : x2 = 2
  · have h := it c_84 h
    refine roVq (rest := []) ⟨hx, hb, hml, hown, ht⟩ (c_X11_trayAt l D cy fu A_b (A_a 0) r_b_war r_b_draftArmy r_b_draftWar r_b_reader r_b_armyReader r_b_warReader r_b_markedArmies r_b_markedWars r_b_latest r_b_trial (A_f 0) r_b_pairs b_latestStatus b_fractionTop b_fractionBottom b_marks A_T (trf4 (A_y0 0) (A_y1 0) (A_y2 0) (A_y3 0)) x2 (some (A_y2 0)) (tray_2 c_84)) (cV ht mv_X11_trayAt tb_500 rfl rfl ⟨Nat.le_of_ble_eq_true rfl, Nat.le_of_ble_eq_true rfl⟩) (P_sub hP.1 [0, 1] rfl) hX rfl rfl rfl hl.1 rfl (Nat.le_of_ble_eq_true rfl) dX11_facesAt_2 ⟨Nat.le_of_ble_eq_true rfl, Nat.le_of_ble_eq_true rfl⟩ ?_
    refine lv_astore (lv' := [(5, .ref (A_y2 0)), (0, .ref (A_b 0)), (1, .int x1), (2, .int x2), (3, .int x3), (4, .int x4)]) hx hb dX11_facesAt_5 hl (by decide) rfl (fun ls hl => ?_)
    refine lv_aload_n hx hb dX11_facesAt_7 rfl (lv_at hl 1 rfl) ?_
    refine lv_iload_n hx hb dX11_facesAt_8 rfl (lv_at hl 2 rfl) ?_
    refine lv_aload hx hb dX11_facesAt_9 (lv_at hl 0 rfl) ?_
    refine lv_iload_n hx hb dX11_facesAt_11 rfl (lv_at hl 4 rfl) ?_
    obtain ⟨z_85, e_z_85, h⟩ := bi h
    refine roVi (rest := []) ⟨hx, hb, hml, hown, ht⟩ (c_X11_ordersRefusal l D cy fu A_b (A_T 0) r_b_war r_b_draftArmy r_b_draftWar r_b_reader r_b_armyReader r_b_warReader r_b_markedArmies r_b_markedWars r_b_latest r_b_trial (A_f 0) r_b_pairs b_latestStatus b_fractionTop b_fractionBottom b_marks A_y2 y2_row y2_missing y2_sort y2_many A_a a_name a_courage a_weight a_medals a_stood a_fled a_liked a_votes a_count a_living a_pride a_quota a_melted a_lost x1 x3 z_85 e_z_85) (cV ht mv_X11_ordersRefusal tb_981 rfl rfl ⟨Nat.le_of_ble_eq_true rfl, Nat.le_of_ble_eq_true rfl⟩) (P_sub hP.1 [0, 4, 6] rfl) hX rfl rfl rfl hl.1 rfl (Nat.le_of_ble_eq_true rfl) dX11_facesAt_12 ⟨Nat.le_of_ble_eq_true rfl, Nat.le_of_ble_eq_true rfl⟩ ?_
    refine lv_istore (lv' := [(6, .int z_85), (5, .ref (A_y2 0)), (0, .ref (A_b 0)), (1, .int x1), (2, .int x2), (3, .int x3), (4, .int x4)]) hx hb dX11_facesAt_15 hl (by decide) rfl (fun ls hl => ?_)
    refine lv_iload hx hb dX11_facesAt_17 (lv_at hl 0 rfl) ?_
    refine lv_iconst (v := 1) hx hb dX11_facesAt_19 (by decide) ?_
    refine lv_icmp_eq (tgt := 35) hx hb dX11_facesAt_20 (by decide) (fun c_86 => ?_) (fun c_86 => ?_)
    · have h := it c_86 h
      refine lv_aload_n hx hb dX11_facesAt_35 rfl (lv_at hl 2 rfl) ?_
      refine lv_iconst (v := 1) hx hb dX11_facesAt_36 (by decide) ?_
      obtain ⟨z_87, e_z_87, h⟩ := bi h
      refine efVi (rest := []) ⟨hx, hb, hml, hown, ht⟩ (c_X11_refuse l D cy fu A_b (A_T 0) (A_a 0) r_b_war r_b_draftArmy r_b_draftWar r_b_reader r_b_armyReader r_b_warReader r_b_markedArmies r_b_markedWars r_b_latest r_b_trial (A_f 0) r_b_pairs b_latestStatus b_fractionTop b_fractionBottom b_marks 1 z_87 e_z_87 _ rfl _ rfl) (cV ht mv_X11_refuse tb_543 rfl rfl ⟨Nat.le_of_ble_eq_true rfl, Nat.le_of_ble_eq_true rfl⟩) hP hS hX [0] rfl rfl rfl rfl rfl rfl hl.1 rfl (Nat.le_of_ble_eq_true rfl) dX11_facesAt_37 ⟨Nat.le_of_ble_eq_true rfl, Nat.le_of_ble_eq_true rfl⟩ (fun H locs hP hS => ?_)
      have hP : PD D A [bl_X11 cy A_b (A_T 0) (A_a 0) r_b_war r_b_draftArmy r_b_draftWar r_b_reader r_b_armyReader r_b_warReader r_b_markedArmies r_b_markedWars r_b_latest r_b_trial (A_f 0) r_b_pairs z_87.2 b_fractionTop b_fractionBottom b_marks, [(A_T 0, .inl (cy 4, 4, .inr (.inr (.inr (.inr (trf4 (A_y0 0) (A_y1 0) (A_y2 0) (A_y3 0)))))))], bl_X8 cy A_y0 y0_row y0_missing y0_sort y0_many, bl_X8 cy A_y1 y1_row y1_missing y1_sort y1_many, bl_X8 cy A_y2 y2_row y2_missing y2_sort y2_many, bl_X8 cy A_y3 y3_row y3_missing y3_sort y3_many, bl_X0 cy A_a a_name a_courage a_weight a_medals a_stood a_fled a_liked a_votes a_count a_living a_pride a_quota a_melted a_lost, bl_X4 cy A_f (A_n 0) f_sizes f_dangers, bl_X0 cy A_n n_name n_courage n_weight n_medals n_stood n_fled n_liked n_votes n_count n_living n_pride n_quota n_melted n_lost] H := hP
      cases h
      subst hW1
      exact W.iret hx hb hr (fun _ ht9 _ => ⟨⟨_, (), rfl, rfl, hPt ht9 hP.1⟩, hS.F ht9⟩) hS.2.2 dX11_facesAt_40
    · have h := ie c_86 h
      refine lv_iload hx hb dX11_facesAt_23 (lv_at hl 6 rfl) ?_
      refine lv_iconst (v := 0) hx hb dX11_facesAt_25 (by decide) ?_
      refine lv_iload_n hx hb dX11_facesAt_26 rfl (lv_at hl 5 rfl) ?_
      refine lv_iconst (v := 1) hx hb dX11_facesAt_27 (by decide) ?_
      refine lv_isub hx hb dX11_facesAt_28 ?_
      obtain ⟨z_88, e_z_88, h⟩ := bi h
      refine roSi (rest := []) ⟨hx, hb, hml, hown, ht⟩ (c_X11_within l D cy fu  x4 0 (x3 - 1) z_88 e_z_88) (cS ht ms_X11_within tb_504 rfl rfl ⟨Nat.le_of_ble_eq_true rfl, Nat.le_of_ble_eq_true rfl⟩) (P_sub hP.1 [] rfl) hX rfl hl.1 rfl (Nat.le_of_ble_eq_true rfl) dX11_facesAt_29 ⟨Nat.le_of_ble_eq_true rfl, Nat.le_of_ble_eq_true rfl⟩ ?_
      refine lv_if_ne (tgt := 41) hx hb dX11_facesAt_32 (by decide) (fun c_89 => ?_) (fun c_89 => ?_)
      · have h := ie c_89 h
        refine lv_iload hx hb dX11_facesAt_41 (lv_at hl 0 rfl) ?_
        refine lv_if_eq (tgt := 53) hx hb dX11_facesAt_43 (by decide) (fun c_90 => ?_) (fun c_90 => ?_)
        · have h := it c_90 h
          refine lv_aload_n hx hb dX11_facesAt_53 rfl (lv_at hl 2 rfl) ?_
          refine xget (i := 0) (j := 0) (k := 16) (T := TX11) hx hb ht tb_iX11 hown hX hP.1 rfl rfl rfl (by decide) tb_445 rfl dX11_facesAt_54 ?_
          refine lv_aload_n hx hb dX11_facesAt_57 rfl (lv_at hl 2 rfl) ?_
          refine xget (i := 0) (j := 0) (k := 4) (T := TX11) hx hb ht tb_iX11 hown hX hP.1 rfl rfl rfl (by decide) tb_433 rfl dX11_facesAt_58 ?_
          refine lv_aload hx hb dX11_facesAt_61 (lv_at hl 1 rfl) ?_
          refine lv_iload_n hx hb dX11_facesAt_63 rfl (lv_at hl 5 rfl) ?_
          obtain ⟨z_91, e_z_91, h⟩ := bi h
          refine efVv (rest := []) ⟨hx, hb, hml, hown, ht⟩ (c_X4_look l D cy fu A_f f_sizes f_dangers A_n n_name n_courage n_weight n_medals n_stood n_fled n_liked n_votes n_count n_living n_pride n_quota n_melted n_lost A_a a_name a_courage a_weight a_medals a_stood a_fled a_liked a_votes a_count a_living a_pride a_quota a_melted a_lost A_y2 y2_row y2_missing y2_sort y2_many x3 z_91 e_z_91 _ rfl _ rfl) (cV ht mv_X4_look tb_991 rfl rfl ⟨Nat.le_of_ble_eq_true rfl, Nat.le_of_ble_eq_true rfl⟩) hP hS hX [7, 8, 6, 4] rfl rfl rfl rfl rfl rfl hl.1 rfl (Nat.le_of_ble_eq_true rfl) dX11_facesAt_64 ⟨Nat.le_of_ble_eq_true rfl, Nat.le_of_ble_eq_true rfl⟩ (fun H locs hP hS => ?_)
          have hP : PD D A [bl_X11 cy A_b (A_T 0) (A_a 0) r_b_war r_b_draftArmy r_b_draftWar r_b_reader r_b_armyReader r_b_warReader r_b_markedArmies r_b_markedWars r_b_latest r_b_trial (A_f 0) r_b_pairs b_latestStatus b_fractionTop b_fractionBottom b_marks, [(A_T 0, .inl (cy 4, 4, .inr (.inr (.inr (.inr (trf4 (A_y0 0) (A_y1 0) (A_y2 0) (A_y3 0)))))))], bl_X8 cy A_y0 y0_row y0_missing y0_sort y0_many, bl_X8 cy A_y1 y1_row y1_missing y1_sort y1_many, bl_X8 cy A_y2 y2_row y2_missing y2_sort y2_many, bl_X8 cy A_y3 y3_row y3_missing y3_sort y3_many, bl_X0 cy A_a a_name a_courage a_weight a_medals a_stood a_fled a_liked a_votes a_count a_living a_pride a_quota a_melted a_lost, bl_X4 cy A_f (A_n 0) z_91.1 z_91.2.1, bl_X0 cy A_n z_91.2.2.1 z_91.2.2.2.1 z_91.2.2.2.2.1 z_91.2.2.2.2.2.1 z_91.2.2.2.2.2.2.1 z_91.2.2.2.2.2.2.2.1 z_91.2.2.2.2.2.2.2.2.1 n_votes z_91.2.2.2.2.2.2.2.2.2.1 z_91.2.2.2.2.2.2.2.2.2.2.1 z_91.2.2.2.2.2.2.2.2.2.2.2.1 z_91.2.2.2.2.2.2.2.2.2.2.2.2.1 z_91.2.2.2.2.2.2.2.2.2.2.2.2.2.1 z_91.2.2.2.2.2.2.2.2.2.2.2.2.2.2] H := hP
          refine lv_aload_n hx hb dX11_facesAt_67 rfl (lv_at hl 2 rfl) ?_
          refine lv_aload_n hx hb dX11_facesAt_68 rfl (lv_at hl 2 rfl) ?_
          refine xget (i := 0) (j := 0) (k := 16) (T := TX11) hx hb ht tb_iX11 hown hX hP.1 rfl rfl rfl (by decide) tb_445 rfl dX11_facesAt_69 ?_
          refine lv_iload_n hx hb dX11_facesAt_72 rfl (lv_at hl 3 rfl) ?_
          refine lv_iload hx hb dX11_facesAt_73 (lv_at hl 6 rfl) ?_
          obtain ⟨z_92, e_z_92, h⟩ := bi h
          refine efVi (rest := [.ref (A_b 0)]) ⟨hx, hb, hml, hown, ht⟩ (c_X4_facerOf l D cy fu A_f z_91.1 z_91.2.1 A_n z_91.2.2.1 z_91.2.2.2.1 z_91.2.2.2.2.1 z_91.2.2.2.2.2.1 z_91.2.2.2.2.2.2.1 z_91.2.2.2.2.2.2.2.1 z_91.2.2.2.2.2.2.2.2.1 n_votes z_91.2.2.2.2.2.2.2.2.2.1 z_91.2.2.2.2.2.2.2.2.2.2.1 z_91.2.2.2.2.2.2.2.2.2.2.2.1 z_91.2.2.2.2.2.2.2.2.2.2.2.2.1 z_91.2.2.2.2.2.2.2.2.2.2.2.2.2.1 z_91.2.2.2.2.2.2.2.2.2.2.2.2.2.2 x1 x4 z_92 e_z_92 _ rfl _ rfl) (cV ht mv_X4_facerOf tb_1023 rfl rfl ⟨Nat.le_of_ble_eq_true rfl, Nat.le_of_ble_eq_true rfl⟩) hP hS hX [7, 8] rfl rfl rfl rfl rfl rfl hl.1 rfl (Nat.le_of_ble_eq_true rfl) dX11_facesAt_75 ⟨Nat.le_of_ble_eq_true rfl, Nat.le_of_ble_eq_true rfl⟩ (fun H locs hP hS => ?_)
          have hP : PD D A [bl_X11 cy A_b (A_T 0) (A_a 0) r_b_war r_b_draftArmy r_b_draftWar r_b_reader r_b_armyReader r_b_warReader r_b_markedArmies r_b_markedWars r_b_latest r_b_trial (A_f 0) r_b_pairs b_latestStatus b_fractionTop b_fractionBottom b_marks, [(A_T 0, .inl (cy 4, 4, .inr (.inr (.inr (.inr (trf4 (A_y0 0) (A_y1 0) (A_y2 0) (A_y3 0)))))))], bl_X8 cy A_y0 y0_row y0_missing y0_sort y0_many, bl_X8 cy A_y1 y1_row y1_missing y1_sort y1_many, bl_X8 cy A_y2 y2_row y2_missing y2_sort y2_many, bl_X8 cy A_y3 y3_row y3_missing y3_sort y3_many, bl_X0 cy A_a a_name a_courage a_weight a_medals a_stood a_fled a_liked a_votes a_count a_living a_pride a_quota a_melted a_lost, bl_X4 cy A_f (A_n 0) z_91.1 z_91.2.1, bl_X0 cy A_n z_91.2.2.1 z_91.2.2.2.1 z_91.2.2.2.2.1 z_92.2.1 z_91.2.2.2.2.2.2.1 z_91.2.2.2.2.2.2.2.1 z_91.2.2.2.2.2.2.2.2.1 z_92.2.2 z_91.2.2.2.2.2.2.2.2.2.1 z_91.2.2.2.2.2.2.2.2.2.2.1 z_91.2.2.2.2.2.2.2.2.2.2.2.1 z_91.2.2.2.2.2.2.2.2.2.2.2.2.1 z_91.2.2.2.2.2.2.2.2.2.2.2.2.2.1 z_91.2.2.2.2.2.2.2.2.2.2.2.2.2.2] H := hP
          obtain ⟨z_93, e_z_93, h⟩ := bi h
          refine efVi (rest := []) ⟨hx, hb, hml, hown, ht⟩ (c_X11_answer l D cy fu A_b (A_T 0) (A_a 0) r_b_war r_b_draftArmy r_b_draftWar r_b_reader r_b_armyReader r_b_warReader r_b_markedArmies r_b_markedWars r_b_latest r_b_trial (A_f 0) r_b_pairs b_latestStatus b_fractionTop b_fractionBottom b_marks z_92.1 z_93 e_z_93 _ rfl _ rfl) (cV ht mv_X11_answer tb_696 rfl rfl ⟨Nat.le_of_ble_eq_true rfl, Nat.le_of_ble_eq_true rfl⟩) hP hS hX [0] rfl rfl rfl rfl rfl rfl hl.1 rfl (Nat.le_of_ble_eq_true rfl) dX11_facesAt_78 ⟨Nat.le_of_ble_eq_true rfl, Nat.le_of_ble_eq_true rfl⟩ (fun H locs hP hS => ?_)
          have hP : PD D A [bl_X11 cy A_b (A_T 0) (A_a 0) r_b_war r_b_draftArmy r_b_draftWar r_b_reader r_b_armyReader r_b_warReader r_b_markedArmies r_b_markedWars r_b_latest r_b_trial (A_f 0) r_b_pairs z_93.2 b_fractionTop b_fractionBottom b_marks, [(A_T 0, .inl (cy 4, 4, .inr (.inr (.inr (.inr (trf4 (A_y0 0) (A_y1 0) (A_y2 0) (A_y3 0)))))))], bl_X8 cy A_y0 y0_row y0_missing y0_sort y0_many, bl_X8 cy A_y1 y1_row y1_missing y1_sort y1_many, bl_X8 cy A_y2 y2_row y2_missing y2_sort y2_many, bl_X8 cy A_y3 y3_row y3_missing y3_sort y3_many, bl_X0 cy A_a a_name a_courage a_weight a_medals a_stood a_fled a_liked a_votes a_count a_living a_pride a_quota a_melted a_lost, bl_X4 cy A_f (A_n 0) z_91.1 z_91.2.1, bl_X0 cy A_n z_91.2.2.1 z_91.2.2.2.1 z_91.2.2.2.2.1 z_92.2.1 z_91.2.2.2.2.2.2.1 z_91.2.2.2.2.2.2.2.1 z_91.2.2.2.2.2.2.2.2.1 z_92.2.2 z_91.2.2.2.2.2.2.2.2.2.1 z_91.2.2.2.2.2.2.2.2.2.2.1 z_91.2.2.2.2.2.2.2.2.2.2.2.1 z_91.2.2.2.2.2.2.2.2.2.2.2.2.1 z_91.2.2.2.2.2.2.2.2.2.2.2.2.2.1 z_91.2.2.2.2.2.2.2.2.2.2.2.2.2.2] H := hP
          cases h
          subst hW1
          exact W.iret hx hb hr (fun _ ht9 _ => ⟨⟨_, (), rfl, rfl, hPt ht9 hP.1⟩, hS.F ht9⟩) hS.2.2 dX11_facesAt_81
        · have h := ie c_90 h
          refine lv_aload_n hx hb dX11_facesAt_46 rfl (lv_at hl 2 rfl) ?_
          refine lv_iload hx hb dX11_facesAt_47 (lv_at hl 0 rfl) ?_
          obtain ⟨z_94, e_z_94, h⟩ := bi h
          refine efVi (rest := []) ⟨hx, hb, hml, hown, ht⟩ (c_X11_refuse l D cy fu A_b (A_T 0) (A_a 0) r_b_war r_b_draftArmy r_b_draftWar r_b_reader r_b_armyReader r_b_warReader r_b_markedArmies r_b_markedWars r_b_latest r_b_trial (A_f 0) r_b_pairs b_latestStatus b_fractionTop b_fractionBottom b_marks z_85 z_94 e_z_94 _ rfl _ rfl) (cV ht mv_X11_refuse tb_543 rfl rfl ⟨Nat.le_of_ble_eq_true rfl, Nat.le_of_ble_eq_true rfl⟩) hP hS hX [0] rfl rfl rfl rfl rfl rfl hl.1 rfl (Nat.le_of_ble_eq_true rfl) dX11_facesAt_49 ⟨Nat.le_of_ble_eq_true rfl, Nat.le_of_ble_eq_true rfl⟩ (fun H locs hP hS => ?_)
          have hP : PD D A [bl_X11 cy A_b (A_T 0) (A_a 0) r_b_war r_b_draftArmy r_b_draftWar r_b_reader r_b_armyReader r_b_warReader r_b_markedArmies r_b_markedWars r_b_latest r_b_trial (A_f 0) r_b_pairs z_94.2 b_fractionTop b_fractionBottom b_marks, [(A_T 0, .inl (cy 4, 4, .inr (.inr (.inr (.inr (trf4 (A_y0 0) (A_y1 0) (A_y2 0) (A_y3 0)))))))], bl_X8 cy A_y0 y0_row y0_missing y0_sort y0_many, bl_X8 cy A_y1 y1_row y1_missing y1_sort y1_many, bl_X8 cy A_y2 y2_row y2_missing y2_sort y2_many, bl_X8 cy A_y3 y3_row y3_missing y3_sort y3_many, bl_X0 cy A_a a_name a_courage a_weight a_medals a_stood a_fled a_liked a_votes a_count a_living a_pride a_quota a_melted a_lost, bl_X4 cy A_f (A_n 0) f_sizes f_dangers, bl_X0 cy A_n n_name n_courage n_weight n_medals n_stood n_fled n_liked n_votes n_count n_living n_pride n_quota n_melted n_lost] H := hP
          cases h
          subst hW1
          exact W.iret hx hb hr (fun _ ht9 _ => ⟨⟨_, (), rfl, rfl, hPt ht9 hP.1⟩, hS.F ht9⟩) hS.2.2 dX11_facesAt_52
      · have h := it c_89 h
        refine lv_aload_n hx hb dX11_facesAt_35 rfl (lv_at hl 2 rfl) ?_
        refine lv_iconst (v := 1) hx hb dX11_facesAt_36 (by decide) ?_
        obtain ⟨z_95, e_z_95, h⟩ := bi h
        refine efVi (rest := []) ⟨hx, hb, hml, hown, ht⟩ (c_X11_refuse l D cy fu A_b (A_T 0) (A_a 0) r_b_war r_b_draftArmy r_b_draftWar r_b_reader r_b_armyReader r_b_warReader r_b_markedArmies r_b_markedWars r_b_latest r_b_trial (A_f 0) r_b_pairs b_latestStatus b_fractionTop b_fractionBottom b_marks 1 z_95 e_z_95 _ rfl _ rfl) (cV ht mv_X11_refuse tb_543 rfl rfl ⟨Nat.le_of_ble_eq_true rfl, Nat.le_of_ble_eq_true rfl⟩) hP hS hX [0] rfl rfl rfl rfl rfl rfl hl.1 rfl (Nat.le_of_ble_eq_true rfl) dX11_facesAt_37 ⟨Nat.le_of_ble_eq_true rfl, Nat.le_of_ble_eq_true rfl⟩ (fun H locs hP hS => ?_)
        have hP : PD D A [bl_X11 cy A_b (A_T 0) (A_a 0) r_b_war r_b_draftArmy r_b_draftWar r_b_reader r_b_armyReader r_b_warReader r_b_markedArmies r_b_markedWars r_b_latest r_b_trial (A_f 0) r_b_pairs z_95.2 b_fractionTop b_fractionBottom b_marks, [(A_T 0, .inl (cy 4, 4, .inr (.inr (.inr (.inr (trf4 (A_y0 0) (A_y1 0) (A_y2 0) (A_y3 0)))))))], bl_X8 cy A_y0 y0_row y0_missing y0_sort y0_many, bl_X8 cy A_y1 y1_row y1_missing y1_sort y1_many, bl_X8 cy A_y2 y2_row y2_missing y2_sort y2_many, bl_X8 cy A_y3 y3_row y3_missing y3_sort y3_many, bl_X0 cy A_a a_name a_courage a_weight a_medals a_stood a_fled a_liked a_votes a_count a_living a_pride a_quota a_melted a_lost, bl_X4 cy A_f (A_n 0) f_sizes f_dangers, bl_X0 cy A_n n_name n_courage n_weight n_medals n_stood n_fled n_liked n_votes n_count n_living n_pride n_quota n_melted n_lost] H := hP
        cases h
        subst hW1
        exact W.iret hx hb hr (fun _ ht9 _ => ⟨⟨_, (), rfl, rfl, hPt ht9 hP.1⟩, hS.F ht9⟩) hS.2.2 dX11_facesAt_40
  have h := ie c_84 h
  by_cases c_96 : x2 = 3
  · have h := it c_96 h
    refine roVq (rest := []) ⟨hx, hb, hml, hown, ht⟩ (c_X11_trayAt l D cy fu A_b (A_a 0) r_b_war r_b_draftArmy r_b_draftWar r_b_reader r_b_armyReader r_b_warReader r_b_markedArmies r_b_markedWars r_b_latest r_b_trial (A_f 0) r_b_pairs b_latestStatus b_fractionTop b_fractionBottom b_marks A_T (trf4 (A_y0 0) (A_y1 0) (A_y2 0) (A_y3 0)) x2 (some (A_y3 0)) (tray_3 c_96)) (cV ht mv_X11_trayAt tb_500 rfl rfl ⟨Nat.le_of_ble_eq_true rfl, Nat.le_of_ble_eq_true rfl⟩) (P_sub hP.1 [0, 1] rfl) hX rfl rfl rfl hl.1 rfl (Nat.le_of_ble_eq_true rfl) dX11_facesAt_2 ⟨Nat.le_of_ble_eq_true rfl, Nat.le_of_ble_eq_true rfl⟩ ?_
    refine lv_astore (lv' := [(5, .ref (A_y3 0)), (0, .ref (A_b 0)), (1, .int x1), (2, .int x2), (3, .int x3), (4, .int x4)]) hx hb dX11_facesAt_5 hl (by decide) rfl (fun ls hl => ?_)
    refine lv_aload_n hx hb dX11_facesAt_7 rfl (lv_at hl 1 rfl) ?_
    refine lv_iload_n hx hb dX11_facesAt_8 rfl (lv_at hl 2 rfl) ?_
    refine lv_aload hx hb dX11_facesAt_9 (lv_at hl 0 rfl) ?_
    refine lv_iload_n hx hb dX11_facesAt_11 rfl (lv_at hl 4 rfl) ?_
    obtain ⟨z_97, e_z_97, h⟩ := bi h
    refine roVi (rest := []) ⟨hx, hb, hml, hown, ht⟩ (c_X11_ordersRefusal l D cy fu A_b (A_T 0) r_b_war r_b_draftArmy r_b_draftWar r_b_reader r_b_armyReader r_b_warReader r_b_markedArmies r_b_markedWars r_b_latest r_b_trial (A_f 0) r_b_pairs b_latestStatus b_fractionTop b_fractionBottom b_marks A_y3 y3_row y3_missing y3_sort y3_many A_a a_name a_courage a_weight a_medals a_stood a_fled a_liked a_votes a_count a_living a_pride a_quota a_melted a_lost x1 x3 z_97 e_z_97) (cV ht mv_X11_ordersRefusal tb_981 rfl rfl ⟨Nat.le_of_ble_eq_true rfl, Nat.le_of_ble_eq_true rfl⟩) (P_sub hP.1 [0, 5, 6] rfl) hX rfl rfl rfl hl.1 rfl (Nat.le_of_ble_eq_true rfl) dX11_facesAt_12 ⟨Nat.le_of_ble_eq_true rfl, Nat.le_of_ble_eq_true rfl⟩ ?_
    refine lv_istore (lv' := [(6, .int z_97), (5, .ref (A_y3 0)), (0, .ref (A_b 0)), (1, .int x1), (2, .int x2), (3, .int x3), (4, .int x4)]) hx hb dX11_facesAt_15 hl (by decide) rfl (fun ls hl => ?_)
    refine lv_iload hx hb dX11_facesAt_17 (lv_at hl 0 rfl) ?_
    refine lv_iconst (v := 1) hx hb dX11_facesAt_19 (by decide) ?_
    refine lv_icmp_eq (tgt := 35) hx hb dX11_facesAt_20 (by decide) (fun c_98 => ?_) (fun c_98 => ?_)
    · have h := it c_98 h
      refine lv_aload_n hx hb dX11_facesAt_35 rfl (lv_at hl 2 rfl) ?_
      refine lv_iconst (v := 1) hx hb dX11_facesAt_36 (by decide) ?_
      obtain ⟨z_99, e_z_99, h⟩ := bi h
      refine efVi (rest := []) ⟨hx, hb, hml, hown, ht⟩ (c_X11_refuse l D cy fu A_b (A_T 0) (A_a 0) r_b_war r_b_draftArmy r_b_draftWar r_b_reader r_b_armyReader r_b_warReader r_b_markedArmies r_b_markedWars r_b_latest r_b_trial (A_f 0) r_b_pairs b_latestStatus b_fractionTop b_fractionBottom b_marks 1 z_99 e_z_99 _ rfl _ rfl) (cV ht mv_X11_refuse tb_543 rfl rfl ⟨Nat.le_of_ble_eq_true rfl, Nat.le_of_ble_eq_true rfl⟩) hP hS hX [0] rfl rfl rfl rfl rfl rfl hl.1 rfl (Nat.le_of_ble_eq_true rfl) dX11_facesAt_37 ⟨Nat.le_of_ble_eq_true rfl, Nat.le_of_ble_eq_true rfl⟩ (fun H locs hP hS => ?_)
      have hP : PD D A [bl_X11 cy A_b (A_T 0) (A_a 0) r_b_war r_b_draftArmy r_b_draftWar r_b_reader r_b_armyReader r_b_warReader r_b_markedArmies r_b_markedWars r_b_latest r_b_trial (A_f 0) r_b_pairs z_99.2 b_fractionTop b_fractionBottom b_marks, [(A_T 0, .inl (cy 4, 4, .inr (.inr (.inr (.inr (trf4 (A_y0 0) (A_y1 0) (A_y2 0) (A_y3 0)))))))], bl_X8 cy A_y0 y0_row y0_missing y0_sort y0_many, bl_X8 cy A_y1 y1_row y1_missing y1_sort y1_many, bl_X8 cy A_y2 y2_row y2_missing y2_sort y2_many, bl_X8 cy A_y3 y3_row y3_missing y3_sort y3_many, bl_X0 cy A_a a_name a_courage a_weight a_medals a_stood a_fled a_liked a_votes a_count a_living a_pride a_quota a_melted a_lost, bl_X4 cy A_f (A_n 0) f_sizes f_dangers, bl_X0 cy A_n n_name n_courage n_weight n_medals n_stood n_fled n_liked n_votes n_count n_living n_pride n_quota n_melted n_lost] H := hP
      cases h
      subst hW1
      exact W.iret hx hb hr (fun _ ht9 _ => ⟨⟨_, (), rfl, rfl, hPt ht9 hP.1⟩, hS.F ht9⟩) hS.2.2 dX11_facesAt_40
    · have h := ie c_98 h
      refine lv_iload hx hb dX11_facesAt_23 (lv_at hl 6 rfl) ?_
      refine lv_iconst (v := 0) hx hb dX11_facesAt_25 (by decide) ?_
      refine lv_iload_n hx hb dX11_facesAt_26 rfl (lv_at hl 5 rfl) ?_
      refine lv_iconst (v := 1) hx hb dX11_facesAt_27 (by decide) ?_
      refine lv_isub hx hb dX11_facesAt_28 ?_
      obtain ⟨z_100, e_z_100, h⟩ := bi h
      refine roSi (rest := []) ⟨hx, hb, hml, hown, ht⟩ (c_X11_within l D cy fu  x4 0 (x3 - 1) z_100 e_z_100) (cS ht ms_X11_within tb_504 rfl rfl ⟨Nat.le_of_ble_eq_true rfl, Nat.le_of_ble_eq_true rfl⟩) (P_sub hP.1 [] rfl) hX rfl hl.1 rfl (Nat.le_of_ble_eq_true rfl) dX11_facesAt_29 ⟨Nat.le_of_ble_eq_true rfl, Nat.le_of_ble_eq_true rfl⟩ ?_
      refine lv_if_ne (tgt := 41) hx hb dX11_facesAt_32 (by decide) (fun c_101 => ?_) (fun c_101 => ?_)
      · have h := ie c_101 h
        refine lv_iload hx hb dX11_facesAt_41 (lv_at hl 0 rfl) ?_
        refine lv_if_eq (tgt := 53) hx hb dX11_facesAt_43 (by decide) (fun c_102 => ?_) (fun c_102 => ?_)
        · have h := it c_102 h
          refine lv_aload_n hx hb dX11_facesAt_53 rfl (lv_at hl 2 rfl) ?_
          refine xget (i := 0) (j := 0) (k := 16) (T := TX11) hx hb ht tb_iX11 hown hX hP.1 rfl rfl rfl (by decide) tb_445 rfl dX11_facesAt_54 ?_
          refine lv_aload_n hx hb dX11_facesAt_57 rfl (lv_at hl 2 rfl) ?_
          refine xget (i := 0) (j := 0) (k := 4) (T := TX11) hx hb ht tb_iX11 hown hX hP.1 rfl rfl rfl (by decide) tb_433 rfl dX11_facesAt_58 ?_
          refine lv_aload hx hb dX11_facesAt_61 (lv_at hl 1 rfl) ?_
          refine lv_iload_n hx hb dX11_facesAt_63 rfl (lv_at hl 5 rfl) ?_
          obtain ⟨z_103, e_z_103, h⟩ := bi h
          refine efVv (rest := []) ⟨hx, hb, hml, hown, ht⟩ (c_X4_look l D cy fu A_f f_sizes f_dangers A_n n_name n_courage n_weight n_medals n_stood n_fled n_liked n_votes n_count n_living n_pride n_quota n_melted n_lost A_a a_name a_courage a_weight a_medals a_stood a_fled a_liked a_votes a_count a_living a_pride a_quota a_melted a_lost A_y3 y3_row y3_missing y3_sort y3_many x3 z_103 e_z_103 _ rfl _ rfl) (cV ht mv_X4_look tb_991 rfl rfl ⟨Nat.le_of_ble_eq_true rfl, Nat.le_of_ble_eq_true rfl⟩) hP hS hX [7, 8, 6, 5] rfl rfl rfl rfl rfl rfl hl.1 rfl (Nat.le_of_ble_eq_true rfl) dX11_facesAt_64 ⟨Nat.le_of_ble_eq_true rfl, Nat.le_of_ble_eq_true rfl⟩ (fun H locs hP hS => ?_)
          have hP : PD D A [bl_X11 cy A_b (A_T 0) (A_a 0) r_b_war r_b_draftArmy r_b_draftWar r_b_reader r_b_armyReader r_b_warReader r_b_markedArmies r_b_markedWars r_b_latest r_b_trial (A_f 0) r_b_pairs b_latestStatus b_fractionTop b_fractionBottom b_marks, [(A_T 0, .inl (cy 4, 4, .inr (.inr (.inr (.inr (trf4 (A_y0 0) (A_y1 0) (A_y2 0) (A_y3 0)))))))], bl_X8 cy A_y0 y0_row y0_missing y0_sort y0_many, bl_X8 cy A_y1 y1_row y1_missing y1_sort y1_many, bl_X8 cy A_y2 y2_row y2_missing y2_sort y2_many, bl_X8 cy A_y3 y3_row y3_missing y3_sort y3_many, bl_X0 cy A_a a_name a_courage a_weight a_medals a_stood a_fled a_liked a_votes a_count a_living a_pride a_quota a_melted a_lost, bl_X4 cy A_f (A_n 0) z_103.1 z_103.2.1, bl_X0 cy A_n z_103.2.2.1 z_103.2.2.2.1 z_103.2.2.2.2.1 z_103.2.2.2.2.2.1 z_103.2.2.2.2.2.2.1 z_103.2.2.2.2.2.2.2.1 z_103.2.2.2.2.2.2.2.2.1 n_votes z_103.2.2.2.2.2.2.2.2.2.1 z_103.2.2.2.2.2.2.2.2.2.2.1 z_103.2.2.2.2.2.2.2.2.2.2.2.1 z_103.2.2.2.2.2.2.2.2.2.2.2.2.1 z_103.2.2.2.2.2.2.2.2.2.2.2.2.2.1 z_103.2.2.2.2.2.2.2.2.2.2.2.2.2.2] H := hP
          refine lv_aload_n hx hb dX11_facesAt_67 rfl (lv_at hl 2 rfl) ?_
          refine lv_aload_n hx hb dX11_facesAt_68 rfl (lv_at hl 2 rfl) ?_
          refine xget (i := 0) (j := 0) (k := 16) (T := TX11) hx hb ht tb_iX11 hown hX hP.1 rfl rfl rfl (by decide) tb_445 rfl dX11_facesAt_69 ?_
          refine lv_iload_n hx hb dX11_facesAt_72 rfl (lv_at hl 3 rfl) ?_
          refine lv_iload hx hb dX11_facesAt_73 (lv_at hl 6 rfl) ?_
          obtain ⟨z_104, e_z_104, h⟩ := bi h
          refine efVi (rest := [.ref (A_b 0)]) ⟨hx, hb, hml, hown, ht⟩ (c_X4_facerOf l D cy fu A_f z_103.1 z_103.2.1 A_n z_103.2.2.1 z_103.2.2.2.1 z_103.2.2.2.2.1 z_103.2.2.2.2.2.1 z_103.2.2.2.2.2.2.1 z_103.2.2.2.2.2.2.2.1 z_103.2.2.2.2.2.2.2.2.1 n_votes z_103.2.2.2.2.2.2.2.2.2.1 z_103.2.2.2.2.2.2.2.2.2.2.1 z_103.2.2.2.2.2.2.2.2.2.2.2.1 z_103.2.2.2.2.2.2.2.2.2.2.2.2.1 z_103.2.2.2.2.2.2.2.2.2.2.2.2.2.1 z_103.2.2.2.2.2.2.2.2.2.2.2.2.2.2 x1 x4 z_104 e_z_104 _ rfl _ rfl) (cV ht mv_X4_facerOf tb_1023 rfl rfl ⟨Nat.le_of_ble_eq_true rfl, Nat.le_of_ble_eq_true rfl⟩) hP hS hX [7, 8] rfl rfl rfl rfl rfl rfl hl.1 rfl (Nat.le_of_ble_eq_true rfl) dX11_facesAt_75 ⟨Nat.le_of_ble_eq_true rfl, Nat.le_of_ble_eq_true rfl⟩ (fun H locs hP hS => ?_)
          have hP : PD D A [bl_X11 cy A_b (A_T 0) (A_a 0) r_b_war r_b_draftArmy r_b_draftWar r_b_reader r_b_armyReader r_b_warReader r_b_markedArmies r_b_markedWars r_b_latest r_b_trial (A_f 0) r_b_pairs b_latestStatus b_fractionTop b_fractionBottom b_marks, [(A_T 0, .inl (cy 4, 4, .inr (.inr (.inr (.inr (trf4 (A_y0 0) (A_y1 0) (A_y2 0) (A_y3 0)))))))], bl_X8 cy A_y0 y0_row y0_missing y0_sort y0_many, bl_X8 cy A_y1 y1_row y1_missing y1_sort y1_many, bl_X8 cy A_y2 y2_row y2_missing y2_sort y2_many, bl_X8 cy A_y3 y3_row y3_missing y3_sort y3_many, bl_X0 cy A_a a_name a_courage a_weight a_medals a_stood a_fled a_liked a_votes a_count a_living a_pride a_quota a_melted a_lost, bl_X4 cy A_f (A_n 0) z_103.1 z_103.2.1, bl_X0 cy A_n z_103.2.2.1 z_103.2.2.2.1 z_103.2.2.2.2.1 z_104.2.1 z_103.2.2.2.2.2.2.1 z_103.2.2.2.2.2.2.2.1 z_103.2.2.2.2.2.2.2.2.1 z_104.2.2 z_103.2.2.2.2.2.2.2.2.2.1 z_103.2.2.2.2.2.2.2.2.2.2.1 z_103.2.2.2.2.2.2.2.2.2.2.2.1 z_103.2.2.2.2.2.2.2.2.2.2.2.2.1 z_103.2.2.2.2.2.2.2.2.2.2.2.2.2.1 z_103.2.2.2.2.2.2.2.2.2.2.2.2.2.2] H := hP
          obtain ⟨z_105, e_z_105, h⟩ := bi h
          refine efVi (rest := []) ⟨hx, hb, hml, hown, ht⟩ (c_X11_answer l D cy fu A_b (A_T 0) (A_a 0) r_b_war r_b_draftArmy r_b_draftWar r_b_reader r_b_armyReader r_b_warReader r_b_markedArmies r_b_markedWars r_b_latest r_b_trial (A_f 0) r_b_pairs b_latestStatus b_fractionTop b_fractionBottom b_marks z_104.1 z_105 e_z_105 _ rfl _ rfl) (cV ht mv_X11_answer tb_696 rfl rfl ⟨Nat.le_of_ble_eq_true rfl, Nat.le_of_ble_eq_true rfl⟩) hP hS hX [0] rfl rfl rfl rfl rfl rfl hl.1 rfl (Nat.le_of_ble_eq_true rfl) dX11_facesAt_78 ⟨Nat.le_of_ble_eq_true rfl, Nat.le_of_ble_eq_true rfl⟩ (fun H locs hP hS => ?_)
          have hP : PD D A [bl_X11 cy A_b (A_T 0) (A_a 0) r_b_war r_b_draftArmy r_b_draftWar r_b_reader r_b_armyReader r_b_warReader r_b_markedArmies r_b_markedWars r_b_latest r_b_trial (A_f 0) r_b_pairs z_105.2 b_fractionTop b_fractionBottom b_marks, [(A_T 0, .inl (cy 4, 4, .inr (.inr (.inr (.inr (trf4 (A_y0 0) (A_y1 0) (A_y2 0) (A_y3 0)))))))], bl_X8 cy A_y0 y0_row y0_missing y0_sort y0_many, bl_X8 cy A_y1 y1_row y1_missing y1_sort y1_many, bl_X8 cy A_y2 y2_row y2_missing y2_sort y2_many, bl_X8 cy A_y3 y3_row y3_missing y3_sort y3_many, bl_X0 cy A_a a_name a_courage a_weight a_medals a_stood a_fled a_liked a_votes a_count a_living a_pride a_quota a_melted a_lost, bl_X4 cy A_f (A_n 0) z_103.1 z_103.2.1, bl_X0 cy A_n z_103.2.2.1 z_103.2.2.2.1 z_103.2.2.2.2.1 z_104.2.1 z_103.2.2.2.2.2.2.1 z_103.2.2.2.2.2.2.2.1 z_103.2.2.2.2.2.2.2.2.1 z_104.2.2 z_103.2.2.2.2.2.2.2.2.2.1 z_103.2.2.2.2.2.2.2.2.2.2.1 z_103.2.2.2.2.2.2.2.2.2.2.2.1 z_103.2.2.2.2.2.2.2.2.2.2.2.2.1 z_103.2.2.2.2.2.2.2.2.2.2.2.2.2.1 z_103.2.2.2.2.2.2.2.2.2.2.2.2.2.2] H := hP
          cases h
          subst hW1
          exact W.iret hx hb hr (fun _ ht9 _ => ⟨⟨_, (), rfl, rfl, hPt ht9 hP.1⟩, hS.F ht9⟩) hS.2.2 dX11_facesAt_81
        · have h := ie c_102 h
          refine lv_aload_n hx hb dX11_facesAt_46 rfl (lv_at hl 2 rfl) ?_
          refine lv_iload hx hb dX11_facesAt_47 (lv_at hl 0 rfl) ?_
          obtain ⟨z_106, e_z_106, h⟩ := bi h
          refine efVi (rest := []) ⟨hx, hb, hml, hown, ht⟩ (c_X11_refuse l D cy fu A_b (A_T 0) (A_a 0) r_b_war r_b_draftArmy r_b_draftWar r_b_reader r_b_armyReader r_b_warReader r_b_markedArmies r_b_markedWars r_b_latest r_b_trial (A_f 0) r_b_pairs b_latestStatus b_fractionTop b_fractionBottom b_marks z_97 z_106 e_z_106 _ rfl _ rfl) (cV ht mv_X11_refuse tb_543 rfl rfl ⟨Nat.le_of_ble_eq_true rfl, Nat.le_of_ble_eq_true rfl⟩) hP hS hX [0] rfl rfl rfl rfl rfl rfl hl.1 rfl (Nat.le_of_ble_eq_true rfl) dX11_facesAt_49 ⟨Nat.le_of_ble_eq_true rfl, Nat.le_of_ble_eq_true rfl⟩ (fun H locs hP hS => ?_)
          have hP : PD D A [bl_X11 cy A_b (A_T 0) (A_a 0) r_b_war r_b_draftArmy r_b_draftWar r_b_reader r_b_armyReader r_b_warReader r_b_markedArmies r_b_markedWars r_b_latest r_b_trial (A_f 0) r_b_pairs z_106.2 b_fractionTop b_fractionBottom b_marks, [(A_T 0, .inl (cy 4, 4, .inr (.inr (.inr (.inr (trf4 (A_y0 0) (A_y1 0) (A_y2 0) (A_y3 0)))))))], bl_X8 cy A_y0 y0_row y0_missing y0_sort y0_many, bl_X8 cy A_y1 y1_row y1_missing y1_sort y1_many, bl_X8 cy A_y2 y2_row y2_missing y2_sort y2_many, bl_X8 cy A_y3 y3_row y3_missing y3_sort y3_many, bl_X0 cy A_a a_name a_courage a_weight a_medals a_stood a_fled a_liked a_votes a_count a_living a_pride a_quota a_melted a_lost, bl_X4 cy A_f (A_n 0) f_sizes f_dangers, bl_X0 cy A_n n_name n_courage n_weight n_medals n_stood n_fled n_liked n_votes n_count n_living n_pride n_quota n_melted n_lost] H := hP
          cases h
          subst hW1
          exact W.iret hx hb hr (fun _ ht9 _ => ⟨⟨_, (), rfl, rfl, hPt ht9 hP.1⟩, hS.F ht9⟩) hS.2.2 dX11_facesAt_52
      · have h := it c_101 h
        refine lv_aload_n hx hb dX11_facesAt_35 rfl (lv_at hl 2 rfl) ?_
        refine lv_iconst (v := 1) hx hb dX11_facesAt_36 (by decide) ?_
        obtain ⟨z_107, e_z_107, h⟩ := bi h
        refine efVi (rest := []) ⟨hx, hb, hml, hown, ht⟩ (c_X11_refuse l D cy fu A_b (A_T 0) (A_a 0) r_b_war r_b_draftArmy r_b_draftWar r_b_reader r_b_armyReader r_b_warReader r_b_markedArmies r_b_markedWars r_b_latest r_b_trial (A_f 0) r_b_pairs b_latestStatus b_fractionTop b_fractionBottom b_marks 1 z_107 e_z_107 _ rfl _ rfl) (cV ht mv_X11_refuse tb_543 rfl rfl ⟨Nat.le_of_ble_eq_true rfl, Nat.le_of_ble_eq_true rfl⟩) hP hS hX [0] rfl rfl rfl rfl rfl rfl hl.1 rfl (Nat.le_of_ble_eq_true rfl) dX11_facesAt_37 ⟨Nat.le_of_ble_eq_true rfl, Nat.le_of_ble_eq_true rfl⟩ (fun H locs hP hS => ?_)
        have hP : PD D A [bl_X11 cy A_b (A_T 0) (A_a 0) r_b_war r_b_draftArmy r_b_draftWar r_b_reader r_b_armyReader r_b_warReader r_b_markedArmies r_b_markedWars r_b_latest r_b_trial (A_f 0) r_b_pairs z_107.2 b_fractionTop b_fractionBottom b_marks, [(A_T 0, .inl (cy 4, 4, .inr (.inr (.inr (.inr (trf4 (A_y0 0) (A_y1 0) (A_y2 0) (A_y3 0)))))))], bl_X8 cy A_y0 y0_row y0_missing y0_sort y0_many, bl_X8 cy A_y1 y1_row y1_missing y1_sort y1_many, bl_X8 cy A_y2 y2_row y2_missing y2_sort y2_many, bl_X8 cy A_y3 y3_row y3_missing y3_sort y3_many, bl_X0 cy A_a a_name a_courage a_weight a_medals a_stood a_fled a_liked a_votes a_count a_living a_pride a_quota a_melted a_lost, bl_X4 cy A_f (A_n 0) f_sizes f_dangers, bl_X0 cy A_n n_name n_courage n_weight n_medals n_stood n_fled n_liked n_votes n_count n_living n_pride n_quota n_melted n_lost] H := hP
        cases h
        subst hW1
        exact W.iret hx hb hr (fun _ ht9 _ => ⟨⟨_, (), rfl, rfl, hPt ht9 hP.1⟩, hS.F ht9⟩) hS.2.2 dX11_facesAt_40
  have h := ie c_96 h
  refine roVq (rest := []) ⟨hx, hb, hml, hown, ht⟩ (c_X11_trayAt l D cy fu A_b (A_a 0) r_b_war r_b_draftArmy r_b_draftWar r_b_reader r_b_armyReader r_b_warReader r_b_markedArmies r_b_markedWars r_b_latest r_b_trial (A_f 0) r_b_pairs b_latestStatus b_fractionTop b_fractionBottom b_marks A_T (trf4 (A_y0 0) (A_y1 0) (A_y2 0) (A_y3 0)) x2 (none) (tray_out ⟨c_60, c_72, c_84, c_96⟩)) (cV ht mv_X11_trayAt tb_500 rfl rfl ⟨Nat.le_of_ble_eq_true rfl, Nat.le_of_ble_eq_true rfl⟩) (P_sub hP.1 [0, 1] rfl) hX rfl rfl rfl hl.1 rfl (Nat.le_of_ble_eq_true rfl) dX11_facesAt_2 ⟨Nat.le_of_ble_eq_true rfl, Nat.le_of_ble_eq_true rfl⟩ ?_
  refine lv_astoreN (lv' := [(5, .null), (0, .ref (A_b 0)), (1, .int x1), (2, .int x2), (3, .int x3), (4, .int x4)]) hx hb dX11_facesAt_5 hl (by decide) rfl (fun ls hl => ?_)
  refine lv_aload_n hx hb dX11_facesAt_7 rfl (lv_at hl 1 rfl) ?_
  refine lv_iload_n hx hb dX11_facesAt_8 rfl (lv_at hl 2 rfl) ?_
  refine lv_aloadN hx hb dX11_facesAt_9 (lv_at hl 0 rfl) ?_
  refine lv_iload_n hx hb dX11_facesAt_11 rfl (lv_at hl 4 rfl) ?_
  obtain ⟨z_108, e_z_108, h⟩ := bi h
  refine roVi (rest := []) ⟨hx, hb, hml, hown, ht⟩ (c_X11_ordersRefusal_n2 l D cy fu A_b (A_T 0) r_b_war r_b_draftArmy r_b_draftWar r_b_reader r_b_armyReader r_b_warReader r_b_markedArmies r_b_markedWars r_b_latest r_b_trial (A_f 0) r_b_pairs b_latestStatus b_fractionTop b_fractionBottom b_marks A_a a_name a_courage a_weight a_medals a_stood a_fled a_liked a_votes a_count a_living a_pride a_quota a_melted a_lost x1 x3 z_108 e_z_108) (cV ht mv_X11_ordersRefusal tb_981 rfl rfl ⟨Nat.le_of_ble_eq_true rfl, Nat.le_of_ble_eq_true rfl⟩) (P_sub hP.1 [0, 6] rfl) hX rfl rfl rfl hl.1 rfl (Nat.le_of_ble_eq_true rfl) dX11_facesAt_12 ⟨Nat.le_of_ble_eq_true rfl, Nat.le_of_ble_eq_true rfl⟩ ?_
  refine lv_istore (lv' := [(6, .int z_108), (5, .null), (0, .ref (A_b 0)), (1, .int x1), (2, .int x2), (3, .int x3), (4, .int x4)]) hx hb dX11_facesAt_15 hl (by decide) rfl (fun ls hl => ?_)
  refine lv_iload hx hb dX11_facesAt_17 (lv_at hl 0 rfl) ?_
  refine lv_iconst (v := 1) hx hb dX11_facesAt_19 (by decide) ?_
  refine lv_icmp_eq (tgt := 35) hx hb dX11_facesAt_20 (by decide) (fun c_109 => ?_) (fun c_109 => ?_)
  · have h := it c_109 h
    refine lv_aload_n hx hb dX11_facesAt_35 rfl (lv_at hl 2 rfl) ?_
    refine lv_iconst (v := 1) hx hb dX11_facesAt_36 (by decide) ?_
    obtain ⟨z_110, e_z_110, h⟩ := bi h
    refine efVi (rest := []) ⟨hx, hb, hml, hown, ht⟩ (c_X11_refuse l D cy fu A_b (A_T 0) (A_a 0) r_b_war r_b_draftArmy r_b_draftWar r_b_reader r_b_armyReader r_b_warReader r_b_markedArmies r_b_markedWars r_b_latest r_b_trial (A_f 0) r_b_pairs b_latestStatus b_fractionTop b_fractionBottom b_marks 1 z_110 e_z_110 _ rfl _ rfl) (cV ht mv_X11_refuse tb_543 rfl rfl ⟨Nat.le_of_ble_eq_true rfl, Nat.le_of_ble_eq_true rfl⟩) hP hS hX [0] rfl rfl rfl rfl rfl rfl hl.1 rfl (Nat.le_of_ble_eq_true rfl) dX11_facesAt_37 ⟨Nat.le_of_ble_eq_true rfl, Nat.le_of_ble_eq_true rfl⟩ (fun H locs hP hS => ?_)
    have hP : PD D A [bl_X11 cy A_b (A_T 0) (A_a 0) r_b_war r_b_draftArmy r_b_draftWar r_b_reader r_b_armyReader r_b_warReader r_b_markedArmies r_b_markedWars r_b_latest r_b_trial (A_f 0) r_b_pairs z_110.2 b_fractionTop b_fractionBottom b_marks, [(A_T 0, .inl (cy 4, 4, .inr (.inr (.inr (.inr (trf4 (A_y0 0) (A_y1 0) (A_y2 0) (A_y3 0)))))))], bl_X8 cy A_y0 y0_row y0_missing y0_sort y0_many, bl_X8 cy A_y1 y1_row y1_missing y1_sort y1_many, bl_X8 cy A_y2 y2_row y2_missing y2_sort y2_many, bl_X8 cy A_y3 y3_row y3_missing y3_sort y3_many, bl_X0 cy A_a a_name a_courage a_weight a_medals a_stood a_fled a_liked a_votes a_count a_living a_pride a_quota a_melted a_lost, bl_X4 cy A_f (A_n 0) f_sizes f_dangers, bl_X0 cy A_n n_name n_courage n_weight n_medals n_stood n_fled n_liked n_votes n_count n_living n_pride n_quota n_melted n_lost] H := hP
    cases h
    subst hW1
    exact W.iret hx hb hr (fun _ ht9 _ => ⟨⟨_, (), rfl, rfl, hPt ht9 hP.1⟩, hS.F ht9⟩) hS.2.2 dX11_facesAt_40
  · have h := ie c_109 h
    refine lv_iload hx hb dX11_facesAt_23 (lv_at hl 6 rfl) ?_
    refine lv_iconst (v := 0) hx hb dX11_facesAt_25 (by decide) ?_
    refine lv_iload_n hx hb dX11_facesAt_26 rfl (lv_at hl 5 rfl) ?_
    refine lv_iconst (v := 1) hx hb dX11_facesAt_27 (by decide) ?_
    refine lv_isub hx hb dX11_facesAt_28 ?_
    obtain ⟨z_111, e_z_111, h⟩ := bi h
    refine roSi (rest := []) ⟨hx, hb, hml, hown, ht⟩ (c_X11_within l D cy fu  x4 0 (x3 - 1) z_111 e_z_111) (cS ht ms_X11_within tb_504 rfl rfl ⟨Nat.le_of_ble_eq_true rfl, Nat.le_of_ble_eq_true rfl⟩) (P_sub hP.1 [] rfl) hX rfl hl.1 rfl (Nat.le_of_ble_eq_true rfl) dX11_facesAt_29 ⟨Nat.le_of_ble_eq_true rfl, Nat.le_of_ble_eq_true rfl⟩ ?_
    refine lv_if_ne (tgt := 41) hx hb dX11_facesAt_32 (by decide) (fun c_112 => ?_) (fun c_112 => ?_)
    · have h := ie c_112 h
      refine lv_iload hx hb dX11_facesAt_41 (lv_at hl 0 rfl) ?_
      refine lv_if_eq (tgt := 53) hx hb dX11_facesAt_43 (by decide) (fun c_113 => ?_) (fun c_113 => ?_)
      · have h := it c_113 h
        refine lv_aload_n hx hb dX11_facesAt_53 rfl (lv_at hl 2 rfl) ?_
        refine xget (i := 0) (j := 0) (k := 16) (T := TX11) hx hb ht tb_iX11 hown hX hP.1 rfl rfl rfl (by decide) tb_445 rfl dX11_facesAt_54 ?_
        refine lv_aload_n hx hb dX11_facesAt_57 rfl (lv_at hl 2 rfl) ?_
        refine xget (i := 0) (j := 0) (k := 4) (T := TX11) hx hb ht tb_iX11 hown hX hP.1 rfl rfl rfl (by decide) tb_433 rfl dX11_facesAt_58 ?_
        refine lv_aloadN hx hb dX11_facesAt_61 (lv_at hl 1 rfl) ?_
        refine lv_iload_n hx hb dX11_facesAt_63 rfl (lv_at hl 5 rfl) ?_
        obtain ⟨z_114, e_z_114, h⟩ := bi h
        refine efVv (rest := []) ⟨hx, hb, hml, hown, ht⟩ (c_X4_look_n2 l D cy fu A_f f_sizes f_dangers A_n n_name n_courage n_weight n_medals n_stood n_fled n_liked n_votes n_count n_living n_pride n_quota n_melted n_lost A_a a_name a_courage a_weight a_medals a_stood a_fled a_liked a_votes a_count a_living a_pride a_quota a_melted a_lost x3 z_114 e_z_114 _ rfl _ rfl) (cV ht mv_X4_look tb_991 rfl rfl ⟨Nat.le_of_ble_eq_true rfl, Nat.le_of_ble_eq_true rfl⟩) hP hS hX [7, 8, 6] rfl rfl rfl rfl rfl rfl hl.1 rfl (Nat.le_of_ble_eq_true rfl) dX11_facesAt_64 ⟨Nat.le_of_ble_eq_true rfl, Nat.le_of_ble_eq_true rfl⟩ (fun H locs hP hS => ?_)
        have hP : PD D A [bl_X11 cy A_b (A_T 0) (A_a 0) r_b_war r_b_draftArmy r_b_draftWar r_b_reader r_b_armyReader r_b_warReader r_b_markedArmies r_b_markedWars r_b_latest r_b_trial (A_f 0) r_b_pairs b_latestStatus b_fractionTop b_fractionBottom b_marks, [(A_T 0, .inl (cy 4, 4, .inr (.inr (.inr (.inr (trf4 (A_y0 0) (A_y1 0) (A_y2 0) (A_y3 0)))))))], bl_X8 cy A_y0 y0_row y0_missing y0_sort y0_many, bl_X8 cy A_y1 y1_row y1_missing y1_sort y1_many, bl_X8 cy A_y2 y2_row y2_missing y2_sort y2_many, bl_X8 cy A_y3 y3_row y3_missing y3_sort y3_many, bl_X0 cy A_a a_name a_courage a_weight a_medals a_stood a_fled a_liked a_votes a_count a_living a_pride a_quota a_melted a_lost, bl_X4 cy A_f (A_n 0) f_sizes z_114.1, bl_X0 cy A_n z_114.2.1 z_114.2.2.1 z_114.2.2.2.1 z_114.2.2.2.2.1 z_114.2.2.2.2.2.1 z_114.2.2.2.2.2.2.1 z_114.2.2.2.2.2.2.2.1 n_votes z_114.2.2.2.2.2.2.2.2.1 z_114.2.2.2.2.2.2.2.2.2.1 z_114.2.2.2.2.2.2.2.2.2.2.1 z_114.2.2.2.2.2.2.2.2.2.2.2.1 z_114.2.2.2.2.2.2.2.2.2.2.2.2.1 z_114.2.2.2.2.2.2.2.2.2.2.2.2.2] H := hP
        refine lv_aload_n hx hb dX11_facesAt_67 rfl (lv_at hl 2 rfl) ?_
        refine lv_aload_n hx hb dX11_facesAt_68 rfl (lv_at hl 2 rfl) ?_
        refine xget (i := 0) (j := 0) (k := 16) (T := TX11) hx hb ht tb_iX11 hown hX hP.1 rfl rfl rfl (by decide) tb_445 rfl dX11_facesAt_69 ?_
        refine lv_iload_n hx hb dX11_facesAt_72 rfl (lv_at hl 3 rfl) ?_
        refine lv_iload hx hb dX11_facesAt_73 (lv_at hl 6 rfl) ?_
        obtain ⟨z_115, e_z_115, h⟩ := bi h
        refine efVi (rest := [.ref (A_b 0)]) ⟨hx, hb, hml, hown, ht⟩ (c_X4_facerOf l D cy fu A_f f_sizes z_114.1 A_n z_114.2.1 z_114.2.2.1 z_114.2.2.2.1 z_114.2.2.2.2.1 z_114.2.2.2.2.2.1 z_114.2.2.2.2.2.2.1 z_114.2.2.2.2.2.2.2.1 n_votes z_114.2.2.2.2.2.2.2.2.1 z_114.2.2.2.2.2.2.2.2.2.1 z_114.2.2.2.2.2.2.2.2.2.2.1 z_114.2.2.2.2.2.2.2.2.2.2.2.1 z_114.2.2.2.2.2.2.2.2.2.2.2.2.1 z_114.2.2.2.2.2.2.2.2.2.2.2.2.2 x1 x4 z_115 e_z_115 _ rfl _ rfl) (cV ht mv_X4_facerOf tb_1023 rfl rfl ⟨Nat.le_of_ble_eq_true rfl, Nat.le_of_ble_eq_true rfl⟩) hP hS hX [7, 8] rfl rfl rfl rfl rfl rfl hl.1 rfl (Nat.le_of_ble_eq_true rfl) dX11_facesAt_75 ⟨Nat.le_of_ble_eq_true rfl, Nat.le_of_ble_eq_true rfl⟩ (fun H locs hP hS => ?_)
        have hP : PD D A [bl_X11 cy A_b (A_T 0) (A_a 0) r_b_war r_b_draftArmy r_b_draftWar r_b_reader r_b_armyReader r_b_warReader r_b_markedArmies r_b_markedWars r_b_latest r_b_trial (A_f 0) r_b_pairs b_latestStatus b_fractionTop b_fractionBottom b_marks, [(A_T 0, .inl (cy 4, 4, .inr (.inr (.inr (.inr (trf4 (A_y0 0) (A_y1 0) (A_y2 0) (A_y3 0)))))))], bl_X8 cy A_y0 y0_row y0_missing y0_sort y0_many, bl_X8 cy A_y1 y1_row y1_missing y1_sort y1_many, bl_X8 cy A_y2 y2_row y2_missing y2_sort y2_many, bl_X8 cy A_y3 y3_row y3_missing y3_sort y3_many, bl_X0 cy A_a a_name a_courage a_weight a_medals a_stood a_fled a_liked a_votes a_count a_living a_pride a_quota a_melted a_lost, bl_X4 cy A_f (A_n 0) f_sizes z_114.1, bl_X0 cy A_n z_114.2.1 z_114.2.2.1 z_114.2.2.2.1 z_115.2.1 z_114.2.2.2.2.2.1 z_114.2.2.2.2.2.2.1 z_114.2.2.2.2.2.2.2.1 z_115.2.2 z_114.2.2.2.2.2.2.2.2.1 z_114.2.2.2.2.2.2.2.2.2.1 z_114.2.2.2.2.2.2.2.2.2.2.1 z_114.2.2.2.2.2.2.2.2.2.2.2.1 z_114.2.2.2.2.2.2.2.2.2.2.2.2.1 z_114.2.2.2.2.2.2.2.2.2.2.2.2.2] H := hP
        obtain ⟨z_116, e_z_116, h⟩ := bi h
        refine efVi (rest := []) ⟨hx, hb, hml, hown, ht⟩ (c_X11_answer l D cy fu A_b (A_T 0) (A_a 0) r_b_war r_b_draftArmy r_b_draftWar r_b_reader r_b_armyReader r_b_warReader r_b_markedArmies r_b_markedWars r_b_latest r_b_trial (A_f 0) r_b_pairs b_latestStatus b_fractionTop b_fractionBottom b_marks z_115.1 z_116 e_z_116 _ rfl _ rfl) (cV ht mv_X11_answer tb_696 rfl rfl ⟨Nat.le_of_ble_eq_true rfl, Nat.le_of_ble_eq_true rfl⟩) hP hS hX [0] rfl rfl rfl rfl rfl rfl hl.1 rfl (Nat.le_of_ble_eq_true rfl) dX11_facesAt_78 ⟨Nat.le_of_ble_eq_true rfl, Nat.le_of_ble_eq_true rfl⟩ (fun H locs hP hS => ?_)
        have hP : PD D A [bl_X11 cy A_b (A_T 0) (A_a 0) r_b_war r_b_draftArmy r_b_draftWar r_b_reader r_b_armyReader r_b_warReader r_b_markedArmies r_b_markedWars r_b_latest r_b_trial (A_f 0) r_b_pairs z_116.2 b_fractionTop b_fractionBottom b_marks, [(A_T 0, .inl (cy 4, 4, .inr (.inr (.inr (.inr (trf4 (A_y0 0) (A_y1 0) (A_y2 0) (A_y3 0)))))))], bl_X8 cy A_y0 y0_row y0_missing y0_sort y0_many, bl_X8 cy A_y1 y1_row y1_missing y1_sort y1_many, bl_X8 cy A_y2 y2_row y2_missing y2_sort y2_many, bl_X8 cy A_y3 y3_row y3_missing y3_sort y3_many, bl_X0 cy A_a a_name a_courage a_weight a_medals a_stood a_fled a_liked a_votes a_count a_living a_pride a_quota a_melted a_lost, bl_X4 cy A_f (A_n 0) f_sizes z_114.1, bl_X0 cy A_n z_114.2.1 z_114.2.2.1 z_114.2.2.2.1 z_115.2.1 z_114.2.2.2.2.2.1 z_114.2.2.2.2.2.2.1 z_114.2.2.2.2.2.2.2.1 z_115.2.2 z_114.2.2.2.2.2.2.2.2.1 z_114.2.2.2.2.2.2.2.2.2.1 z_114.2.2.2.2.2.2.2.2.2.2.1 z_114.2.2.2.2.2.2.2.2.2.2.2.1 z_114.2.2.2.2.2.2.2.2.2.2.2.2.1 z_114.2.2.2.2.2.2.2.2.2.2.2.2.2] H := hP
        cases h
        subst hW1
        exact W.iret hx hb hr (fun _ ht9 _ => ⟨⟨_, (), rfl, rfl, hPt ht9 hP.1⟩, hS.F ht9⟩) hS.2.2 dX11_facesAt_81
      · have h := ie c_113 h
        refine lv_aload_n hx hb dX11_facesAt_46 rfl (lv_at hl 2 rfl) ?_
        refine lv_iload hx hb dX11_facesAt_47 (lv_at hl 0 rfl) ?_
        obtain ⟨z_117, e_z_117, h⟩ := bi h
        refine efVi (rest := []) ⟨hx, hb, hml, hown, ht⟩ (c_X11_refuse l D cy fu A_b (A_T 0) (A_a 0) r_b_war r_b_draftArmy r_b_draftWar r_b_reader r_b_armyReader r_b_warReader r_b_markedArmies r_b_markedWars r_b_latest r_b_trial (A_f 0) r_b_pairs b_latestStatus b_fractionTop b_fractionBottom b_marks z_108 z_117 e_z_117 _ rfl _ rfl) (cV ht mv_X11_refuse tb_543 rfl rfl ⟨Nat.le_of_ble_eq_true rfl, Nat.le_of_ble_eq_true rfl⟩) hP hS hX [0] rfl rfl rfl rfl rfl rfl hl.1 rfl (Nat.le_of_ble_eq_true rfl) dX11_facesAt_49 ⟨Nat.le_of_ble_eq_true rfl, Nat.le_of_ble_eq_true rfl⟩ (fun H locs hP hS => ?_)
        have hP : PD D A [bl_X11 cy A_b (A_T 0) (A_a 0) r_b_war r_b_draftArmy r_b_draftWar r_b_reader r_b_armyReader r_b_warReader r_b_markedArmies r_b_markedWars r_b_latest r_b_trial (A_f 0) r_b_pairs z_117.2 b_fractionTop b_fractionBottom b_marks, [(A_T 0, .inl (cy 4, 4, .inr (.inr (.inr (.inr (trf4 (A_y0 0) (A_y1 0) (A_y2 0) (A_y3 0)))))))], bl_X8 cy A_y0 y0_row y0_missing y0_sort y0_many, bl_X8 cy A_y1 y1_row y1_missing y1_sort y1_many, bl_X8 cy A_y2 y2_row y2_missing y2_sort y2_many, bl_X8 cy A_y3 y3_row y3_missing y3_sort y3_many, bl_X0 cy A_a a_name a_courage a_weight a_medals a_stood a_fled a_liked a_votes a_count a_living a_pride a_quota a_melted a_lost, bl_X4 cy A_f (A_n 0) f_sizes f_dangers, bl_X0 cy A_n n_name n_courage n_weight n_medals n_stood n_fled n_liked n_votes n_count n_living n_pride n_quota n_melted n_lost] H := hP
        cases h
        subst hW1
        exact W.iret hx hb hr (fun _ ht9 _ => ⟨⟨_, (), rfl, rfl, hPt ht9 hP.1⟩, hS.F ht9⟩) hS.2.2 dX11_facesAt_52
    · have h := it c_112 h
      refine lv_aload_n hx hb dX11_facesAt_35 rfl (lv_at hl 2 rfl) ?_
      refine lv_iconst (v := 1) hx hb dX11_facesAt_36 (by decide) ?_
      obtain ⟨z_118, e_z_118, h⟩ := bi h
      refine efVi (rest := []) ⟨hx, hb, hml, hown, ht⟩ (c_X11_refuse l D cy fu A_b (A_T 0) (A_a 0) r_b_war r_b_draftArmy r_b_draftWar r_b_reader r_b_armyReader r_b_warReader r_b_markedArmies r_b_markedWars r_b_latest r_b_trial (A_f 0) r_b_pairs b_latestStatus b_fractionTop b_fractionBottom b_marks 1 z_118 e_z_118 _ rfl _ rfl) (cV ht mv_X11_refuse tb_543 rfl rfl ⟨Nat.le_of_ble_eq_true rfl, Nat.le_of_ble_eq_true rfl⟩) hP hS hX [0] rfl rfl rfl rfl rfl rfl hl.1 rfl (Nat.le_of_ble_eq_true rfl) dX11_facesAt_37 ⟨Nat.le_of_ble_eq_true rfl, Nat.le_of_ble_eq_true rfl⟩ (fun H locs hP hS => ?_)
      have hP : PD D A [bl_X11 cy A_b (A_T 0) (A_a 0) r_b_war r_b_draftArmy r_b_draftWar r_b_reader r_b_armyReader r_b_warReader r_b_markedArmies r_b_markedWars r_b_latest r_b_trial (A_f 0) r_b_pairs z_118.2 b_fractionTop b_fractionBottom b_marks, [(A_T 0, .inl (cy 4, 4, .inr (.inr (.inr (.inr (trf4 (A_y0 0) (A_y1 0) (A_y2 0) (A_y3 0)))))))], bl_X8 cy A_y0 y0_row y0_missing y0_sort y0_many, bl_X8 cy A_y1 y1_row y1_missing y1_sort y1_many, bl_X8 cy A_y2 y2_row y2_missing y2_sort y2_many, bl_X8 cy A_y3 y3_row y3_missing y3_sort y3_many, bl_X0 cy A_a a_name a_courage a_weight a_medals a_stood a_fled a_liked a_votes a_count a_living a_pride a_quota a_melted a_lost, bl_X4 cy A_f (A_n 0) f_sizes f_dangers, bl_X0 cy A_n n_name n_courage n_weight n_medals n_stood n_fled n_liked n_votes n_count n_living n_pride n_quota n_melted n_lost] H := hP
      cases h
      subst hW1
      exact W.iret hx hb hr (fun _ ht9 _ => ⟨⟨_, (), rfl, rfl, hPt ht9 hP.1⟩, hS.F ht9⟩) hS.2.2 dX11_facesAt_40
theorem dX11_seenRefusal_0 : decode cX11_seenRefusal 0 = .ok (.aload_n 0, 1) := by decide +kernel
theorem dX11_seenRefusal_1 : decode cX11_seenRefusal 1 = .ok (.getfield 29, 3) := by decide +kernel
theorem dX11_seenRefusal_4 : decode cX11_seenRefusal 4 = .ok (.iload_n 1, 1) := by decide +kernel
theorem dX11_seenRefusal_5 : decode cX11_seenRefusal 5 = .ok (.invokevirtual 248, 3) := by decide +kernel
theorem dX11_seenRefusal_8 : decode cX11_seenRefusal 8 = .ok (.ifCond .eq 17, 3) := by decide +kernel
theorem dX11_seenRefusal_11 : decode cX11_seenRefusal 11 = .ok (.aload_n 2, 1) := by decide +kernel
theorem dX11_seenRefusal_12 : decode cX11_seenRefusal 12 = .ok (.ifnull 13, 3) := by decide +kernel
theorem dX11_seenRefusal_15 : decode cX11_seenRefusal 15 = .ok (.iload_n 3, 1) := by decide +kernel
theorem dX11_seenRefusal_16 : decode cX11_seenRefusal 16 = .ok (.iconst 0, 1) := by decide +kernel
theorem dX11_seenRefusal_17 : decode cX11_seenRefusal 17 = .ok (.bipush 20, 2) := by decide +kernel
theorem dX11_seenRefusal_19 : decode cX11_seenRefusal 19 = .ok (.invokestatic 115, 3) := by decide +kernel
theorem dX11_seenRefusal_22 : decode cX11_seenRefusal 22 = .ok (.ifCond .ne 5, 3) := by decide +kernel
theorem dX11_seenRefusal_25 : decode cX11_seenRefusal 25 = .ok (.iconst 1, 1) := by decide +kernel
theorem dX11_seenRefusal_26 : decode cX11_seenRefusal 26 = .ok (.ireturn, 1) := by decide +kernel
theorem dX11_seenRefusal_27 : decode cX11_seenRefusal 27 = .ok (.aload_n 2, 1) := by decide +kernel
theorem dX11_seenRefusal_28 : decode cX11_seenRefusal 28 = .ok (.iload_n 3, 1) := by decide +kernel
theorem dX11_seenRefusal_29 : decode cX11_seenRefusal 29 = .ok (.iconst 2, 1) := by decide +kernel
theorem dX11_seenRefusal_30 : decode cX11_seenRefusal 30 = .ok (.invokevirtual 419, 3) := by decide +kernel
theorem dX11_seenRefusal_33 : decode cX11_seenRefusal 33 = .ok (.istore 4, 2) := by decide +kernel
theorem dX11_seenRefusal_35 : decode cX11_seenRefusal 35 = .ok (.iload 4, 2) := by decide +kernel
theorem dX11_seenRefusal_37 : decode cX11_seenRefusal 37 = .ok (.ifCond .eq 6, 3) := by decide +kernel
theorem dX11_seenRefusal_40 : decode cX11_seenRefusal 40 = .ok (.iload 4, 2) := by decide +kernel
theorem dX11_seenRefusal_42 : decode cX11_seenRefusal 42 = .ok (.ireturn, 1) := by decide +kernel
theorem dX11_seenRefusal_43 : decode cX11_seenRefusal 43 = .ok (.iconst 0, 1) := by decide +kernel
theorem dX11_seenRefusal_44 : decode cX11_seenRefusal 44 = .ok (.istore 5, 2) := by decide +kernel
theorem dX11_seenRefusal_46 : decode cX11_seenRefusal 46 = .ok (.iload 5, 2) := by decide +kernel
theorem dX11_seenRefusal_48 : decode cX11_seenRefusal 48 = .ok (.iload_n 3, 1) := by decide +kernel
theorem dX11_seenRefusal_49 : decode cX11_seenRefusal 49 = .ok (.if_icmp .ge 37, 3) := by decide +kernel
theorem dX11_seenRefusal_52 : decode cX11_seenRefusal 52 = .ok (.aload_n 2, 1) := by decide +kernel
theorem dX11_seenRefusal_53 : decode cX11_seenRefusal 53 = .ok (.iconst 2, 1) := by decide +kernel
theorem dX11_seenRefusal_54 : decode cX11_seenRefusal 54 = .ok (.iload 5, 2) := by decide +kernel
theorem dX11_seenRefusal_56 : decode cX11_seenRefusal 56 = .ok (.imul, 1) := by decide +kernel
theorem dX11_seenRefusal_57 : decode cX11_seenRefusal 57 = .ok (.iconst 1, 1) := by decide +kernel
theorem dX11_seenRefusal_58 : decode cX11_seenRefusal 58 = .ok (.iadd, 1) := by decide +kernel
theorem dX11_seenRefusal_59 : decode cX11_seenRefusal 59 = .ok (.invokevirtual 147, 3) := by decide +kernel
theorem dX11_seenRefusal_62 : decode cX11_seenRefusal 62 = .ok (.lstore 6, 2) := by decide +kernel
theorem dX11_seenRefusal_64 : decode cX11_seenRefusal 64 = .ok (.lload 6, 2) := by decide +kernel
theorem dX11_seenRefusal_66 : decode cX11_seenRefusal 66 = .ok (.lconst 0, 1) := by decide +kernel
theorem dX11_seenRefusal_67 : decode cX11_seenRefusal 67 = .ok (.lcmp, 1) := by decide +kernel
theorem dX11_seenRefusal_68 : decode cX11_seenRefusal 68 = .ok (.ifCond .eq 12, 3) := by decide +kernel
theorem dX11_seenRefusal_71 : decode cX11_seenRefusal 71 = .ok (.lload 6, 2) := by decide +kernel
theorem dX11_seenRefusal_73 : decode cX11_seenRefusal 73 = .ok (.lconst 1, 1) := by decide +kernel
theorem dX11_seenRefusal_74 : decode cX11_seenRefusal 74 = .ok (.lcmp, 1) := by decide +kernel
theorem dX11_seenRefusal_75 : decode cX11_seenRefusal 75 = .ok (.ifCond .eq 5, 3) := by decide +kernel
theorem dX11_seenRefusal_78 : decode cX11_seenRefusal 78 = .ok (.iconst 5, 1) := by decide +kernel
theorem dX11_seenRefusal_79 : decode cX11_seenRefusal 79 = .ok (.ireturn, 1) := by decide +kernel
theorem dX11_seenRefusal_80 : decode cX11_seenRefusal 80 = .ok (.iinc 5 1, 3) := by decide +kernel
theorem dX11_seenRefusal_83 : decode cX11_seenRefusal 83 = .ok (.goto (-37), 3) := by decide +kernel
theorem dX11_seenRefusal_86 : decode cX11_seenRefusal 86 = .ok (.iconst 0, 1) := by decide +kernel
theorem dX11_seenRefusal_87 : decode cX11_seenRefusal 87 = .ok (.ireturn, 1) := by decide +kernel
theorem mv_X11_seenRefusal : MV yX11_seenRefusal RX11 cX11_seenRefusal 8 (some .int) 3 := ⟨tb_1045, tb_1044, ts_25, tb_1, by decide +kernel, by decide +kernel, by decide +kernel⟩
def f_X11_seenRefusal_b46 (fu : Nat) (y_row : Nat → Int64) (y_missing : Int32) (y_many : Int32) (a_count : Int32) (x1 : Int32) (x3 : Int32) (k46 : Int32 → Option (Int32)) (x5 : Int32) : Option (Int32) := (if x3 ≤ x5 then some (0) else (f_X8_at fu y_row y_many ((2 * x5) + 1)).bind fun z_14 => (if (lg_cmp z_14 0) = 0 then bnd (x5 + 1) fun x5_16 => k46 x5_16 else (if (lg_cmp z_14 1) = 0 then bnd (x5 + 1) fun x5_18 => k46 x5_18 else some (5))))
def f_X11_seenRefusal_l46 (fu : Nat) (y_row : Nat → Int64) (y_missing : Int32) (y_many : Int32) (a_count : Int32) (x1 : Int32) (x3 : Int32) : Nat → Int32 → Option (Int32)
  | 0, _ => none
  | n + 1, x5 => f_X11_seenRefusal_b46 fu y_row y_missing y_many a_count x1 x3 (f_X11_seenRefusal_l46 fu y_row y_missing y_many a_count x1 x3 n) x5
def f_X11_seenRefusal (fu : Nat) (y_row : Nat → Int64) (y_missing : Int32) (y_many : Int32) (a_count : Int32) (x1 : Int32) (x3 : Int32) : Option (Int32) := (f_X0_isMan fu a_count x1).bind fun z_19 => (if z_19 = 0 then some (1) else (f_X11_within fu x3 0 20).bind fun z_21 => (if z_21 = 0 then some (1) else (f_X8_sizesRefusal fu y_row y_missing y_many x3 2).bind fun z_23 => (if z_23 = 0 then f_X11_seenRefusal_l46 fu y_row y_missing y_many a_count x1 x3 fu 0 else some (z_23))))
abbrev rm_X11_seenRefusal : Room := { frames := 3, cells := 0, slots := 0, locals := 68 }
set_option maxHeartbeats 4000000 in
set_option maxRecDepth 100000 in
theorem c_X11_seenRefusal (l : Launch) (D : va_G) (cy : Nat → ClassId) (fu : Nat) (A_b : Nat → Nat) (r_b_trays : Nat) (r_b_war : Nat) (r_b_draftArmy : Nat) (r_b_draftWar : Nat) (r_b_reader : Nat) (r_b_armyReader : Nat) (r_b_warReader : Nat) (r_b_markedArmies : Nat) (r_b_markedWars : Nat) (r_b_latest : Nat) (r_b_trial : Nat) (r_b_foresight : Nat) (r_b_pairs : Nat) (b_latestStatus : Int32) (b_fractionTop : Int64) (b_fractionBottom : Int64) (b_marks : Int32) (A_y : Nat → Nat) (y_row : Nat → Int64) (y_missing : Int32) (y_sort : Int32) (y_many : Int32) (A_a : Nat → Nat) (a_name : Nat → Int64) (a_courage : Nat → Int32) (a_weight : Nat → Int32) (a_medals : Nat → Int32) (a_stood : Nat → Int32) (a_fled : Nat → Int32) (a_liked : Nat → Int32) (a_votes : Nat → Int32) (a_count : Int32) (a_living : Int32) (a_pride : Int32) (a_quota : Int32) (a_melted : Int32) (a_lost : Int32) (x1 : Int32) (x3 : Int32) (res : Int32) (h : f_X11_seenRefusal fu y_row y_missing y_many a_count x1 x3 = some res) : Met l yX11_seenRefusal (WW yX11_seenRefusal cX11_seenRefusal 8 (some .int)) rm_X11_seenRefusal (Rd D cy [.ref (A_b 0), .int x1, .ref (A_y 0), .int x3] [bl_X11 cy A_b r_b_trays (A_a 0) r_b_war r_b_draftArmy r_b_draftWar r_b_reader r_b_armyReader r_b_warReader r_b_markedArmies r_b_markedWars r_b_latest r_b_trial r_b_foresight r_b_pairs b_latestStatus b_fractionTop b_fractionBottom b_marks, bl_X8 cy A_y y_row y_missing y_sort y_many, bl_X0 cy A_a a_name a_courage a_weight a_medals a_stood a_fled a_liked a_votes a_count a_living a_pride a_quota a_melted a_lost]) (vp_Si (fun v => v = res)) 0 0 (fun _ => False) := by
  refine Met.ofW (cc := cX11_seenRefusal) (maxL := 8) (ret := (some .int)) (by decide) rfl ?_
  intro p e s m args below meth c s₁ B hml hv
  obtain ⟨hargs, hP, hX⟩ := hv
  have hx := B.exec
  have hb := B.bytes
  have hr := B.returns
  have ht : ∀ w ∈ lw_gd, w.before args s = true := fun w hw => atoms_spec (ws := WW yX11_seenRefusal cX11_seenRefusal 8 (some .int)) B.pre w (List.mem_cons_of_mem _ hw)
  have hown : s.vm.findClass RX11 = some m.cls := findClass_of_methodNamed B.named
  have hlocks := B.notSynchronized
  have hP : PB D [bl_X11 cy A_b r_b_trays (A_a 0) r_b_war r_b_draftArmy r_b_draftWar r_b_reader r_b_armyReader r_b_warReader r_b_markedArmies r_b_markedWars r_b_latest r_b_trial r_b_foresight r_b_pairs b_latestStatus b_fractionTop b_fractionBottom b_marks, bl_X8 cy A_y y_row y_missing y_sort y_many, bl_X0 cy A_a a_name a_courage a_weight a_medals a_stood a_fled a_liked a_votes a_count a_living a_pride a_quota a_melted a_lost] s.heap := hP
  obtain ⟨ls, hl, hent⟩ := ent (m := m) (n := 8) hargs (Nat.le_of_ble_eq_true rfl) (lv := [(0, .ref (A_b 0)), (1, .int x1), (2, .ref (A_y 0)), (3, .int x3)]) rfl
  rw [hent]
  clear hent
  have l46 : ∀ (n46 : Nat) (x5 : Int32) (ls : Array Slot), lv_has ls 8 [(2, .ref (A_y 0)), (3, .int x3), (5, .int x5)] → f_X11_seenRefusal_l46 fu y_row y_missing y_many a_count x1 x3 n46 x5 = some res → W p l e (headSpec (WW yX11_seenRefusal cX11_seenRefusal 8 (some .int)) rm_X11_seenRefusal).room s m args below meth c s.heap [] 0 0 (MQ below (vp_Si (fun v => v = res)) args s 0 0 (fun _ => False)) (F0 m 46 ls []) := by
    intro n46
    induction n46 with
    | zero => intro x5 ls hl h; cases h
    | succ n46 ih46 =>
      intro x5 ls hl h
      have h : f_X11_seenRefusal_b46 fu y_row y_missing y_many a_count x1 x3 (f_X11_seenRefusal_l46 fu y_row y_missing y_many a_count x1 x3 n46) x5 = some res := h
      unfold f_X11_seenRefusal_b46 at h
      refine lv_iload hx hb dX11_seenRefusal_46 (lv_at hl 2 rfl) ?_
      refine lv_iload_n hx hb dX11_seenRefusal_48 rfl (lv_at hl 1 rfl) ?_
      refine lv_icmp_ge (tgt := 86) hx hb dX11_seenRefusal_49 (by decide) (fun c_13 => ?_) (fun c_13 => ?_)
      · have h := it c_13 h
        refine lv_iconst (v := 0) hx hb dX11_seenRefusal_86 (by decide) ?_
        cases h
        exact W.iret hx hb hr (fun _ ht9 _ => ⟨_, rfl, rfl, ht9⟩) (fun _ hq => by cases hq) dX11_seenRefusal_87
      · have h := ie c_13 h
        refine lv_aload_n hx hb dX11_seenRefusal_52 rfl (lv_at hl 0 rfl) ?_
        refine lv_iconst (v := 2) hx hb dX11_seenRefusal_53 (by decide) ?_
        refine lv_iload hx hb dX11_seenRefusal_54 (lv_at hl 2 rfl) ?_
        refine lv_imul hx hb dX11_seenRefusal_56 ?_
        refine lv_iconst (v := 1) hx hb dX11_seenRefusal_57 (by decide) ?_
        refine lv_iadd hx hb dX11_seenRefusal_58 ?_
        obtain ⟨z_14, e_z_14, h⟩ := bi h
        refine roVl (rest := []) ⟨hx, hb, hml, hown, ht⟩ (c_X8_at l D cy fu A_y y_row y_missing y_sort y_many ((2 * x5) + 1) z_14 e_z_14) (cV ht mv_X8_at tb_547 rfl rfl ⟨Nat.le_of_ble_eq_true rfl, Nat.le_of_ble_eq_true rfl⟩) (P_sub hP [1] rfl) hX rfl rfl rfl hl.1 rfl (Nat.le_of_ble_eq_true rfl) dX11_seenRefusal_59 ⟨Nat.le_of_ble_eq_true rfl, Nat.le_of_ble_eq_true rfl⟩ ?_
        refine lv_lstore (lv' := [(6, .long z_14), (2, .ref (A_y 0)), (3, .int x3), (5, .int x5)]) hx hb dX11_seenRefusal_62 hl (by decide) rfl (fun ls hl => ?_)
        refine lv_lload hx hb dX11_seenRefusal_64 (lv_at hl 0 rfl) ?_
        refine lv_lconst (v := 0) hx hb dX11_seenRefusal_66 (by decide) ?_
        refine W.lcmp hx hb dX11_seenRefusal_67 ?_
        refine lv_if_eq (tgt := 80) hx hb dX11_seenRefusal_68 (by decide) (fun c_15 => ?_) (fun c_15 => ?_)
        · have h := it c_15 h
          obtain ⟨x5_16, e_x5_16⟩ : ∃ y : Int32, y = x5 + 1 := ⟨_, rfl⟩
          have h := bn e_x5_16 h
          refine lv_iinc (v := x5_16) (lv' := [(5, .int x5_16), (6, .long z_14), (2, .ref (A_y 0)), (3, .int x3)]) hx hb dX11_seenRefusal_80 hl (k := 3) rfl (by rw [e_x5_16]; rfl) (by decide) rfl (fun ls hl => ?_)
          refine lv_goto (tgt := 46) hx hb dX11_seenRefusal_83 (by decide) ?_
          exact ih46 x5_16 ls (lv_sub hl [2, 3, 0] rfl) h
        · have h := ie c_15 h
          refine lv_lload hx hb dX11_seenRefusal_71 (lv_at hl 0 rfl) ?_
          refine lv_lconst (v := 1) hx hb dX11_seenRefusal_73 (by decide) ?_
          refine W.lcmp hx hb dX11_seenRefusal_74 ?_
          refine lv_if_eq (tgt := 80) hx hb dX11_seenRefusal_75 (by decide) (fun c_17 => ?_) (fun c_17 => ?_)
          · have h := it c_17 h
            obtain ⟨x5_18, e_x5_18⟩ : ∃ y : Int32, y = x5 + 1 := ⟨_, rfl⟩
            have h := bn e_x5_18 h
            refine lv_iinc (v := x5_18) (lv' := [(5, .int x5_18), (6, .long z_14), (2, .ref (A_y 0)), (3, .int x3)]) hx hb dX11_seenRefusal_80 hl (k := 3) rfl (by rw [e_x5_18]; rfl) (by decide) rfl (fun ls hl => ?_)
            refine lv_goto (tgt := 46) hx hb dX11_seenRefusal_83 (by decide) ?_
            exact ih46 x5_18 ls (lv_sub hl [2, 3, 0] rfl) h
          · have h := ie c_17 h
            refine lv_iconst (v := 5) hx hb dX11_seenRefusal_78 (by decide) ?_
            cases h
            exact W.iret hx hb hr (fun _ ht9 _ => ⟨_, rfl, rfl, ht9⟩) (fun _ hq => by cases hq) dX11_seenRefusal_79
  unfold f_X11_seenRefusal at h
  refine lv_aload_n hx hb dX11_seenRefusal_0 rfl (lv_at hl 0 rfl) ?_
  refine xget (i := 0) (j := 0) (k := 4) (T := TX11) hx hb ht tb_iX11 hown hX hP rfl rfl rfl (by decide) tb_433 rfl dX11_seenRefusal_1 ?_
  refine lv_iload_n hx hb dX11_seenRefusal_4 rfl (lv_at hl 1 rfl) ?_
  obtain ⟨z_19, e_z_19, h⟩ := bi h
  refine roVi (rest := []) ⟨hx, hb, hml, hown, ht⟩ (c_X0_isMan l D cy fu A_a a_name a_courage a_weight a_medals a_stood a_fled a_liked a_votes a_count a_living a_pride a_quota a_melted a_lost x1 z_19 e_z_19) (cV ht mv_X0_isMan tb_774 rfl rfl ⟨Nat.le_of_ble_eq_true rfl, Nat.le_of_ble_eq_true rfl⟩) (P_sub hP [2] rfl) hX rfl rfl rfl hl.1 rfl (Nat.le_of_ble_eq_true rfl) dX11_seenRefusal_5 ⟨Nat.le_of_ble_eq_true rfl, Nat.le_of_ble_eq_true rfl⟩ ?_
  refine lv_if_eq (tgt := 25) hx hb dX11_seenRefusal_8 (by decide) (fun c_20 => ?_) (fun c_20 => ?_)
  · have h := it c_20 h
    refine lv_iconst (v := 1) hx hb dX11_seenRefusal_25 (by decide) ?_
    cases h
    exact W.iret hx hb hr (fun _ ht9 _ => ⟨_, rfl, rfl, ht9⟩) (fun _ hq => by cases hq) dX11_seenRefusal_26
  · have h := ie c_20 h
    refine lv_aload_n hx hb dX11_seenRefusal_11 rfl (lv_at hl 2 rfl) ?_
    refine lv_ifnull hx hb dX11_seenRefusal_12 ?_
    refine lv_iload_n hx hb dX11_seenRefusal_15 rfl (lv_at hl 3 rfl) ?_
    refine lv_iconst (v := 0) hx hb dX11_seenRefusal_16 (by decide) ?_
    refine lv_bipush (v := 20) hx hb dX11_seenRefusal_17 (by decide) ?_
    obtain ⟨z_21, e_z_21, h⟩ := bi h
    refine roSi (rest := []) ⟨hx, hb, hml, hown, ht⟩ (c_X11_within l D cy fu  x3 0 20 z_21 e_z_21) (cS ht ms_X11_within tb_504 rfl rfl ⟨Nat.le_of_ble_eq_true rfl, Nat.le_of_ble_eq_true rfl⟩) (P_sub hP [] rfl) hX rfl hl.1 rfl (Nat.le_of_ble_eq_true rfl) dX11_seenRefusal_19 ⟨Nat.le_of_ble_eq_true rfl, Nat.le_of_ble_eq_true rfl⟩ ?_
    refine lv_if_ne (tgt := 27) hx hb dX11_seenRefusal_22 (by decide) (fun c_22 => ?_) (fun c_22 => ?_)
    · have h := ie c_22 h
      refine lv_aload_n hx hb dX11_seenRefusal_27 rfl (lv_at hl 2 rfl) ?_
      refine lv_iload_n hx hb dX11_seenRefusal_28 rfl (lv_at hl 3 rfl) ?_
      refine lv_iconst (v := 2) hx hb dX11_seenRefusal_29 (by decide) ?_
      obtain ⟨z_23, e_z_23, h⟩ := bi h
      refine roVi (rest := []) ⟨hx, hb, hml, hown, ht⟩ (c_X8_sizesRefusal l D cy fu A_y y_row y_missing y_sort y_many x3 2 z_23 e_z_23) (cV ht mv_X8_sizesRefusal tb_985 rfl rfl ⟨Nat.le_of_ble_eq_true rfl, Nat.le_of_ble_eq_true rfl⟩) (P_sub hP [1] rfl) hX rfl rfl rfl hl.1 rfl (Nat.le_of_ble_eq_true rfl) dX11_seenRefusal_30 ⟨Nat.le_of_ble_eq_true rfl, Nat.le_of_ble_eq_true rfl⟩ ?_
      refine lv_istore (lv' := [(4, .int z_23), (0, .ref (A_b 0)), (1, .int x1), (2, .ref (A_y 0)), (3, .int x3)]) hx hb dX11_seenRefusal_33 hl (by decide) rfl (fun ls hl => ?_)
      refine lv_iload hx hb dX11_seenRefusal_35 (lv_at hl 0 rfl) ?_
      refine lv_if_eq (tgt := 43) hx hb dX11_seenRefusal_37 (by decide) (fun c_24 => ?_) (fun c_24 => ?_)
      · have h := it c_24 h
        refine lv_iconst (v := 0) hx hb dX11_seenRefusal_43 (by decide) ?_
        refine lv_istore (lv' := [(5, .int 0), (4, .int z_23), (0, .ref (A_b 0)), (1, .int x1), (2, .ref (A_y 0)), (3, .int x3)]) hx hb dX11_seenRefusal_44 hl (by decide) rfl (fun ls hl => ?_)
        exact l46 fu 0 ls (lv_sub hl [4, 5, 0] rfl) h
      · have h := ie c_24 h
        refine lv_iload hx hb dX11_seenRefusal_40 (lv_at hl 0 rfl) ?_
        cases h
        exact W.iret hx hb hr (fun _ ht9 _ => ⟨_, rfl, rfl, ht9⟩) (fun _ hq => by cases hq) dX11_seenRefusal_42
    · have h := it c_22 h
      refine lv_iconst (v := 1) hx hb dX11_seenRefusal_25 (by decide) ?_
      cases h
      exact W.iret hx hb hr (fun _ ht9 _ => ⟨_, rfl, rfl, ht9⟩) (fun _ hq => by cases hq) dX11_seenRefusal_26
theorem dX11_fittingCourages_0 : decode cX11_fittingCourages 0 = .ok (.iconst 0, 1) := by decide +kernel
theorem dX11_fittingCourages_1 : decode cX11_fittingCourages 1 = .ok (.istore 4, 2) := by decide +kernel
theorem dX11_fittingCourages_3 : decode cX11_fittingCourages 3 = .ok (.aload_n 2, 1) := by decide +kernel
theorem dX11_fittingCourages_4 : decode cX11_fittingCourages 4 = .ok (.ifnull 14, 3) := by decide +kernel
theorem dX11_fittingCourages_7 : decode cX11_fittingCourages 7 = .ok (.aload_n 0, 1) := by decide +kernel
theorem dX11_fittingCourages_8 : decode cX11_fittingCourages 8 = .ok (.getfield 29, 3) := by decide +kernel
theorem dX11_fittingCourages_11 : decode cX11_fittingCourages 11 = .ok (.iload_n 1, 1) := by decide +kernel
theorem dX11_fittingCourages_12 : decode cX11_fittingCourages 12 = .ok (.invokevirtual 248, 3) := by decide +kernel
theorem dX11_fittingCourages_15 : decode cX11_fittingCourages 15 = .ok (.ifCond .ne 6, 3) := by decide +kernel
theorem dX11_fittingCourages_18 : decode cX11_fittingCourages 18 = .ok (.iload 4, 2) := by decide +kernel
theorem dX11_fittingCourages_20 : decode cX11_fittingCourages 20 = .ok (.ireturn, 1) := by decide +kernel
theorem dX11_fittingCourages_21 : decode cX11_fittingCourages 21 = .ok (.iconst 0, 1) := by decide +kernel
theorem dX11_fittingCourages_22 : decode cX11_fittingCourages 22 = .ok (.istore 5, 2) := by decide +kernel
theorem dX11_fittingCourages_24 : decode cX11_fittingCourages 24 = .ok (.iload 5, 2) := by decide +kernel
theorem dX11_fittingCourages_26 : decode cX11_fittingCourages 26 = .ok (.bipush 20, 2) := by decide +kernel
theorem dX11_fittingCourages_28 : decode cX11_fittingCourages 28 = .ok (.if_icmp .gt 116, 3) := by decide +kernel
theorem dX11_fittingCourages_31 : decode cX11_fittingCourages 31 = .ok (.aload_n 0, 1) := by decide +kernel
theorem dX11_fittingCourages_32 : decode cX11_fittingCourages 32 = .ok (.getfield 29, 3) := by decide +kernel
theorem dX11_fittingCourages_35 : decode cX11_fittingCourages 35 = .ok (.iload 5, 2) := by decide +kernel
theorem dX11_fittingCourages_37 : decode cX11_fittingCourages 37 = .ok (.aload_n 0, 1) := by decide +kernel
theorem dX11_fittingCourages_38 : decode cX11_fittingCourages 38 = .ok (.getfield 29, 3) := by decide +kernel
theorem dX11_fittingCourages_41 : decode cX11_fittingCourages 41 = .ok (.getfield 228, 3) := by decide +kernel
theorem dX11_fittingCourages_44 : decode cX11_fittingCourages 44 = .ok (.iload_n 1, 1) := by decide +kernel
theorem dX11_fittingCourages_45 : decode cX11_fittingCourages 45 = .ok (.iaload, 1) := by decide +kernel
theorem dX11_fittingCourages_46 : decode cX11_fittingCourages 46 = .ok (.invokevirtual 422, 3) := by decide +kernel
theorem dX11_fittingCourages_49 : decode cX11_fittingCourages 49 = .ok (.istore 6, 2) := by decide +kernel
theorem dX11_fittingCourages_51 : decode cX11_fittingCourages 51 = .ok (.iconst 1, 1) := by decide +kernel
theorem dX11_fittingCourages_52 : decode cX11_fittingCourages 52 = .ok (.istore 7, 2) := by decide +kernel
theorem dX11_fittingCourages_54 : decode cX11_fittingCourages 54 = .ok (.iconst 0, 1) := by decide +kernel
theorem dX11_fittingCourages_55 : decode cX11_fittingCourages 55 = .ok (.istore 8, 2) := by decide +kernel
theorem dX11_fittingCourages_57 : decode cX11_fittingCourages 57 = .ok (.iload 8, 2) := by decide +kernel
theorem dX11_fittingCourages_59 : decode cX11_fittingCourages 59 = .ok (.iload_n 3, 1) := by decide +kernel
theorem dX11_fittingCourages_60 : decode cX11_fittingCourages 60 = .ok (.if_icmp .ge 64, 3) := by decide +kernel
theorem dX11_fittingCourages_63 : decode cX11_fittingCourages 63 = .ok (.iload 7, 2) := by decide +kernel
theorem dX11_fittingCourages_65 : decode cX11_fittingCourages 65 = .ok (.ifCond .eq 59, 3) := by decide +kernel
theorem dX11_fittingCourages_68 : decode cX11_fittingCourages 68 = .ok (.iload 6, 2) := by decide +kernel
theorem dX11_fittingCourages_70 : decode cX11_fittingCourages 70 = .ok (.i2l, 1) := by decide +kernel
theorem dX11_fittingCourages_71 : decode cX11_fittingCourages 71 = .ok (.aload_n 2, 1) := by decide +kernel
theorem dX11_fittingCourages_72 : decode cX11_fittingCourages 72 = .ok (.iconst 2, 1) := by decide +kernel
theorem dX11_fittingCourages_73 : decode cX11_fittingCourages 73 = .ok (.iload 8, 2) := by decide +kernel
theorem dX11_fittingCourages_75 : decode cX11_fittingCourages 75 = .ok (.imul, 1) := by decide +kernel
theorem dX11_fittingCourages_76 : decode cX11_fittingCourages 76 = .ok (.invokevirtual 147, 3) := by decide +kernel
theorem dX11_fittingCourages_79 : decode cX11_fittingCourages 79 = .ok (.lcmp, 1) := by decide +kernel
theorem dX11_fittingCourages_80 : decode cX11_fittingCourages 80 = .ok (.ifCond .lt 7, 3) := by decide +kernel
theorem dX11_fittingCourages_83 : decode cX11_fittingCourages 83 = .ok (.iconst 1, 1) := by decide +kernel
theorem dX11_fittingCourages_84 : decode cX11_fittingCourages 84 = .ok (.goto 4, 3) := by decide +kernel
theorem dX11_fittingCourages_87 : decode cX11_fittingCourages 87 = .ok (.iconst 0, 1) := by decide +kernel
theorem dX11_fittingCourages_88 : decode cX11_fittingCourages 88 = .ok (.aload_n 2, 1) := by decide +kernel
theorem dX11_fittingCourages_89 : decode cX11_fittingCourages 89 = .ok (.iconst 2, 1) := by decide +kernel
theorem dX11_fittingCourages_90 : decode cX11_fittingCourages 90 = .ok (.iload 8, 2) := by decide +kernel
theorem dX11_fittingCourages_92 : decode cX11_fittingCourages 92 = .ok (.imul, 1) := by decide +kernel
theorem dX11_fittingCourages_93 : decode cX11_fittingCourages 93 = .ok (.iconst 1, 1) := by decide +kernel
theorem dX11_fittingCourages_94 : decode cX11_fittingCourages 94 = .ok (.iadd, 1) := by decide +kernel
theorem dX11_fittingCourages_95 : decode cX11_fittingCourages 95 = .ok (.invokevirtual 147, 3) := by decide +kernel
theorem dX11_fittingCourages_98 : decode cX11_fittingCourages 98 = .ok (.lconst 1, 1) := by decide +kernel
theorem dX11_fittingCourages_99 : decode cX11_fittingCourages 99 = .ok (.lcmp, 1) := by decide +kernel
theorem dX11_fittingCourages_100 : decode cX11_fittingCourages 100 = .ok (.ifCond .ne 7, 3) := by decide +kernel
theorem dX11_fittingCourages_103 : decode cX11_fittingCourages 103 = .ok (.iconst 1, 1) := by decide +kernel
theorem dX11_fittingCourages_104 : decode cX11_fittingCourages 104 = .ok (.goto 4, 3) := by decide +kernel
theorem dX11_fittingCourages_107 : decode cX11_fittingCourages 107 = .ok (.iconst 0, 1) := by decide +kernel
theorem dX11_fittingCourages_108 : decode cX11_fittingCourages 108 = .ok (.if_icmp .ne 7, 3) := by decide +kernel
theorem dX11_fittingCourages_111 : decode cX11_fittingCourages 111 = .ok (.iconst 1, 1) := by decide +kernel
theorem dX11_fittingCourages_112 : decode cX11_fittingCourages 112 = .ok (.goto 4, 3) := by decide +kernel
theorem dX11_fittingCourages_115 : decode cX11_fittingCourages 115 = .ok (.iconst 0, 1) := by decide +kernel
theorem dX11_fittingCourages_116 : decode cX11_fittingCourages 116 = .ok (.istore 7, 2) := by decide +kernel
theorem dX11_fittingCourages_118 : decode cX11_fittingCourages 118 = .ok (.iinc 8 1, 3) := by decide +kernel
theorem dX11_fittingCourages_121 : decode cX11_fittingCourages 121 = .ok (.goto (-64), 3) := by decide +kernel
theorem dX11_fittingCourages_124 : decode cX11_fittingCourages 124 = .ok (.iload 7, 2) := by decide +kernel
theorem dX11_fittingCourages_126 : decode cX11_fittingCourages 126 = .ok (.ifCond .eq 12, 3) := by decide +kernel
theorem dX11_fittingCourages_129 : decode cX11_fittingCourages 129 = .ok (.iload 4, 2) := by decide +kernel
theorem dX11_fittingCourages_131 : decode cX11_fittingCourages 131 = .ok (.iconst 1, 1) := by decide +kernel
theorem dX11_fittingCourages_132 : decode cX11_fittingCourages 132 = .ok (.iload 5, 2) := by decide +kernel
theorem dX11_fittingCourages_134 : decode cX11_fittingCourages 134 = .ok (.ishl, 1) := by decide +kernel
theorem dX11_fittingCourages_135 : decode cX11_fittingCourages 135 = .ok (.ior, 1) := by decide +kernel
theorem dX11_fittingCourages_136 : decode cX11_fittingCourages 136 = .ok (.istore 4, 2) := by decide +kernel
theorem dX11_fittingCourages_138 : decode cX11_fittingCourages 138 = .ok (.iinc 5 1, 3) := by decide +kernel
theorem dX11_fittingCourages_141 : decode cX11_fittingCourages 141 = .ok (.goto (-117), 3) := by decide +kernel
theorem dX11_fittingCourages_144 : decode cX11_fittingCourages 144 = .ok (.iload 4, 2) := by decide +kernel
theorem dX11_fittingCourages_146 : decode cX11_fittingCourages 146 = .ok (.ireturn, 1) := by decide +kernel
theorem mv_X11_fittingCourages : MV yX11_fittingCourages RX11 cX11_fittingCourages 9 (some .int) 3 := ⟨tb_1049, tb_1048, ts_26, tb_1, by decide +kernel, by decide +kernel, by decide +kernel⟩
def f_X11_fittingCourages_j124 (fu : Nat) (y_row : Nat → Int64) (y_many : Int32) (a_medals : Nat → Int32) (a_count : Int32) (a_pride : Int32) (x1 : Int32) (x3 : Int32) (k24 : Int32 → Int32 → Option (Int32)) (x4 : Int32) (x5 : Int32) (x7 : Int32) : Option (Int32) := (if x7 = 0 then bnd (x5 + 1) fun x5_20 => k24 x4 x5_20 else bnd (x4 ||| ((1 : Int32) <<< (x5 &&& 31))) fun x4_21 => bnd (x5 + 1) fun x5_22 => k24 x4_21 x5_22)
def f_X11_fittingCourages_j108 (fu : Nat) (y_row : Nat → Int64) (y_many : Int32) (a_medals : Nat → Int32) (a_count : Int32) (a_pride : Int32) (x1 : Int32) (x3 : Int32) (k24 : Int32 → Int32 → Option (Int32)) (k57 : Int32 → Int32 → Int32 → Int32 → Int32 → Option (Int32)) (x4 : Int32) (x5 : Int32) (x6 : Int32) (x8 : Int32) (s0 : Int32) (s1 : Int32) : Option (Int32) := (if s0 = s1 then bnd (x8 + 1) fun x8_25 => k57 x4 x5 x6 1 x8_25 else bnd (x8 + 1) fun x8_24 => k57 x4 x5 x6 0 x8_24)
def f_X11_fittingCourages_j88 (fu : Nat) (y_row : Nat → Int64) (y_many : Int32) (a_medals : Nat → Int32) (a_count : Int32) (a_pride : Int32) (x1 : Int32) (x3 : Int32) (k24 : Int32 → Int32 → Option (Int32)) (k57 : Int32 → Int32 → Int32 → Int32 → Int32 → Option (Int32)) (x4 : Int32) (x5 : Int32) (x6 : Int32) (x8 : Int32) (s0 : Int32) : Option (Int32) := (f_X8_at fu y_row y_many ((2 * x8) + 1)).bind fun z_26 => (if (lg_cmp z_26 1) = 0 then f_X11_fittingCourages_j108 fu y_row y_many a_medals a_count a_pride x1 x3 k24 k57 x4 x5 x6 x8 s0 1 else f_X11_fittingCourages_j108 fu y_row y_many a_medals a_count a_pride x1 x3 k24 k57 x4 x5 x6 x8 s0 0)
def f_X11_fittingCourages_b57 (fu : Nat) (y_row : Nat → Int64) (y_many : Int32) (a_medals : Nat → Int32) (a_count : Int32) (a_pride : Int32) (x1 : Int32) (x3 : Int32) (k24 : Int32 → Int32 → Option (Int32)) (k57 : Int32 → Int32 → Int32 → Int32 → Int32 → Option (Int32)) (x4 : Int32) (x5 : Int32) (x6 : Int32) (x7 : Int32) (x8 : Int32) : Option (Int32) := (if x3 ≤ x8 then f_X11_fittingCourages_j124 fu y_row y_many a_medals a_count a_pride x1 x3 k24 x4 x5 x7 else (if x7 = 0 then f_X11_fittingCourages_j124 fu y_row y_many a_medals a_count a_pride x1 x3 k24 x4 x5 x7 else (f_X8_at fu y_row y_many (2 * x8)).bind fun z_30 => (if (lg_cmp (Int32.toInt64 x6) z_30) < 0 then f_X11_fittingCourages_j88 fu y_row y_many a_medals a_count a_pride x1 x3 k24 k57 x4 x5 x6 x8 0 else f_X11_fittingCourages_j88 fu y_row y_many a_medals a_count a_pride x1 x3 k24 k57 x4 x5 x6 x8 1)))
def f_X11_fittingCourages_l57 (fu : Nat) (y_row : Nat → Int64) (y_many : Int32) (a_medals : Nat → Int32) (a_count : Int32) (a_pride : Int32) (x1 : Int32) (x3 : Int32) (k24 : Int32 → Int32 → Option (Int32)) : Nat → Int32 → Int32 → Int32 → Int32 → Int32 → Option (Int32)
  | 0, _, _, _, _, _ => none
  | n + 1, x4, x5, x6, x7, x8 => f_X11_fittingCourages_b57 fu y_row y_many a_medals a_count a_pride x1 x3 k24 (f_X11_fittingCourages_l57 fu y_row y_many a_medals a_count a_pride x1 x3 k24 n) x4 x5 x6 x7 x8
def f_X11_fittingCourages_b24 (fu : Nat) (y_row : Nat → Int64) (y_many : Int32) (a_medals : Nat → Int32) (a_count : Int32) (a_pride : Int32) (x1 : Int32) (x3 : Int32) (k24 : Int32 → Int32 → Option (Int32)) (x4 : Int32) (x5 : Int32) : Option (Int32) := (if 20 < x5 then some (x4) else (rdI a_medals 8 x1).bind fun y_33 => (f_X0_braveryWith fu a_pride x5 y_33).bind fun z_34 => f_X11_fittingCourages_l57 fu y_row y_many a_medals a_count a_pride x1 x3 k24 fu x4 x5 z_34 1 0)
def f_X11_fittingCourages_l24 (fu : Nat) (y_row : Nat → Int64) (y_many : Int32) (a_medals : Nat → Int32) (a_count : Int32) (a_pride : Int32) (x1 : Int32) (x3 : Int32) : Nat → Int32 → Int32 → Option (Int32)
  | 0, _, _ => none
  | n + 1, x4, x5 => f_X11_fittingCourages_b24 fu y_row y_many a_medals a_count a_pride x1 x3 (f_X11_fittingCourages_l24 fu y_row y_many a_medals a_count a_pride x1 x3 n) x4 x5
def f_X11_fittingCourages (fu : Nat) (y_row : Nat → Int64) (y_many : Int32) (a_medals : Nat → Int32) (a_count : Int32) (a_pride : Int32) (x1 : Int32) (x3 : Int32) : Option (Int32) := (f_X0_isMan fu a_count x1).bind fun z_35 => (if z_35 = 0 then some (0) else f_X11_fittingCourages_l24 fu y_row y_many a_medals a_count a_pride x1 x3 fu 0 0)
abbrev rm_X11_fittingCourages : Room := { frames := 2, cells := 0, slots := 0, locals := 43 }
set_option maxHeartbeats 4000000 in
set_option maxRecDepth 100000 in
theorem c_X11_fittingCourages (l : Launch) (D : va_G) (cy : Nat → ClassId) (fu : Nat) (A_b : Nat → Nat) (r_b_trays : Nat) (r_b_war : Nat) (r_b_draftArmy : Nat) (r_b_draftWar : Nat) (r_b_reader : Nat) (r_b_armyReader : Nat) (r_b_warReader : Nat) (r_b_markedArmies : Nat) (r_b_markedWars : Nat) (r_b_latest : Nat) (r_b_trial : Nat) (r_b_foresight : Nat) (r_b_pairs : Nat) (b_latestStatus : Int32) (b_fractionTop : Int64) (b_fractionBottom : Int64) (b_marks : Int32) (A_y : Nat → Nat) (y_row : Nat → Int64) (y_missing : Int32) (y_sort : Int32) (y_many : Int32) (A_a : Nat → Nat) (a_name : Nat → Int64) (a_courage : Nat → Int32) (a_weight : Nat → Int32) (a_medals : Nat → Int32) (a_stood : Nat → Int32) (a_fled : Nat → Int32) (a_liked : Nat → Int32) (a_votes : Nat → Int32) (a_count : Int32) (a_living : Int32) (a_pride : Int32) (a_quota : Int32) (a_melted : Int32) (a_lost : Int32) (x1 : Int32) (x3 : Int32) (res : Int32) (h : f_X11_fittingCourages fu y_row y_many a_medals a_count a_pride x1 x3 = some res) : Met l yX11_fittingCourages (WW yX11_fittingCourages cX11_fittingCourages 9 (some .int)) rm_X11_fittingCourages (Rd D cy [.ref (A_b 0), .int x1, .ref (A_y 0), .int x3] [bl_X11 cy A_b r_b_trays (A_a 0) r_b_war r_b_draftArmy r_b_draftWar r_b_reader r_b_armyReader r_b_warReader r_b_markedArmies r_b_markedWars r_b_latest r_b_trial r_b_foresight r_b_pairs b_latestStatus b_fractionTop b_fractionBottom b_marks, bl_X8 cy A_y y_row y_missing y_sort y_many, bl_X0 cy A_a a_name a_courage a_weight a_medals a_stood a_fled a_liked a_votes a_count a_living a_pride a_quota a_melted a_lost]) (vp_Si (fun v => v = res)) 0 0 (fun _ => False) := by
  refine Met.ofW (cc := cX11_fittingCourages) (maxL := 9) (ret := (some .int)) (by decide) rfl ?_
  intro p e s m args below meth c s₁ B hml hv
  obtain ⟨hargs, hP, hX⟩ := hv
  have hx := B.exec
  have hb := B.bytes
  have hr := B.returns
  have ht : ∀ w ∈ lw_gd, w.before args s = true := fun w hw => atoms_spec (ws := WW yX11_fittingCourages cX11_fittingCourages 9 (some .int)) B.pre w (List.mem_cons_of_mem _ hw)
  have hown : s.vm.findClass RX11 = some m.cls := findClass_of_methodNamed B.named
  have hlocks := B.notSynchronized
  have hP : PB D [bl_X11 cy A_b r_b_trays (A_a 0) r_b_war r_b_draftArmy r_b_draftWar r_b_reader r_b_armyReader r_b_warReader r_b_markedArmies r_b_markedWars r_b_latest r_b_trial r_b_foresight r_b_pairs b_latestStatus b_fractionTop b_fractionBottom b_marks, bl_X8 cy A_y y_row y_missing y_sort y_many, bl_X0 cy A_a a_name a_courage a_weight a_medals a_stood a_fled a_liked a_votes a_count a_living a_pride a_quota a_melted a_lost] s.heap := hP
  obtain ⟨ls, hl, hent⟩ := ent (m := m) (n := 9) hargs (Nat.le_of_ble_eq_true rfl) (lv := [(0, .ref (A_b 0)), (1, .int x1), (2, .ref (A_y 0)), (3, .int x3)]) rfl
  rw [hent]
  clear hent
  have l24 : ∀ (n24 : Nat) (x4 : Int32) (x5 : Int32) (ls : Array Slot), lv_has ls 9 [(0, .ref (A_b 0)), (1, .int x1), (2, .ref (A_y 0)), (3, .int x3), (4, .int x4), (5, .int x5)] → f_X11_fittingCourages_l24 fu y_row y_many a_medals a_count a_pride x1 x3 n24 x4 x5 = some res → W p l e (headSpec (WW yX11_fittingCourages cX11_fittingCourages 9 (some .int)) rm_X11_fittingCourages).room s m args below meth c s.heap [] 0 0 (MQ below (vp_Si (fun v => v = res)) args s 0 0 (fun _ => False)) (F0 m 24 ls []) := by
    intro n24
    induction n24 with
    | zero => intro x4 x5 ls hl h; cases h
    | succ n24 ih24 =>
      have j124 : ∀ (x4 : Int32) (x5 : Int32) (x7 : Int32) (ls : Array Slot), lv_has ls 9 [(0, .ref (A_b 0)), (1, .int x1), (2, .ref (A_y 0)), (3, .int x3), (4, .int x4), (5, .int x5), (7, .int x7)] → f_X11_fittingCourages_j124 fu y_row y_many a_medals a_count a_pride x1 x3 (f_X11_fittingCourages_l24 fu y_row y_many a_medals a_count a_pride x1 x3 n24) x4 x5 x7 = some res → W p l e (headSpec (WW yX11_fittingCourages cX11_fittingCourages 9 (some .int)) rm_X11_fittingCourages).room s m args below meth c s.heap [] 0 0 (MQ below (vp_Si (fun v => v = res)) args s 0 0 (fun _ => False)) (F0 m 124 ls []) := by
        intro x4 x5 x7 ls hl h
        unfold f_X11_fittingCourages_j124 at h
        refine lv_iload hx hb dX11_fittingCourages_124 (lv_at hl 6 rfl) ?_
        refine lv_if_eq (tgt := 138) hx hb dX11_fittingCourages_126 (by decide) (fun c_19 => ?_) (fun c_19 => ?_)
        · have h := it c_19 h
          obtain ⟨x5_20, e_x5_20⟩ : ∃ y : Int32, y = x5 + 1 := ⟨_, rfl⟩
          have h := bn e_x5_20 h
          refine lv_iinc (v := x5_20) (lv' := [(5, .int x5_20), (0, .ref (A_b 0)), (1, .int x1), (2, .ref (A_y 0)), (3, .int x3), (4, .int x4), (7, .int x7)]) hx hb dX11_fittingCourages_138 hl (k := 5) rfl (by rw [e_x5_20]; rfl) (by decide) rfl (fun ls hl => ?_)
          refine lv_goto (tgt := 24) hx hb dX11_fittingCourages_141 (by decide) ?_
          exact ih24 x4 x5_20 ls (lv_sub hl [1, 2, 3, 4, 5, 0] rfl) h
        · have h := ie c_19 h
          refine lv_iload hx hb dX11_fittingCourages_129 (lv_at hl 4 rfl) ?_
          refine lv_iconst (v := 1) hx hb dX11_fittingCourages_131 (by decide) ?_
          refine lv_iload hx hb dX11_fittingCourages_132 (lv_at hl 5 rfl) ?_
          refine lv_ishl hx hb dX11_fittingCourages_134 ?_
          refine lv_ior hx hb dX11_fittingCourages_135 ?_
          refine lv_topi (fun x4_21 e_x4_21 => ?_)
          have h := bn e_x4_21 h
          refine lv_istore (lv' := [(4, .int x4_21), (0, .ref (A_b 0)), (1, .int x1), (2, .ref (A_y 0)), (3, .int x3), (5, .int x5), (7, .int x7)]) hx hb dX11_fittingCourages_136 hl (by decide) rfl (fun ls hl => ?_)
          obtain ⟨x5_22, e_x5_22⟩ : ∃ y : Int32, y = x5 + 1 := ⟨_, rfl⟩
          have h := bn e_x5_22 h
          refine lv_iinc (v := x5_22) (lv' := [(5, .int x5_22), (4, .int x4_21), (0, .ref (A_b 0)), (1, .int x1), (2, .ref (A_y 0)), (3, .int x3), (7, .int x7)]) hx hb dX11_fittingCourages_138 hl (k := 5) rfl (by rw [e_x5_22]; rfl) (by decide) rfl (fun ls hl => ?_)
          refine lv_goto (tgt := 24) hx hb dX11_fittingCourages_141 (by decide) ?_
          exact ih24 x4_21 x5_22 ls (lv_sub hl [2, 3, 4, 5, 1, 0] rfl) h
      have l57 : ∀ (n57 : Nat) (x4 : Int32) (x5 : Int32) (x6 : Int32) (x7 : Int32) (x8 : Int32) (ls : Array Slot), lv_has ls 9 [(0, .ref (A_b 0)), (1, .int x1), (2, .ref (A_y 0)), (3, .int x3), (4, .int x4), (5, .int x5), (6, .int x6), (7, .int x7), (8, .int x8)] → f_X11_fittingCourages_l57 fu y_row y_many a_medals a_count a_pride x1 x3 (f_X11_fittingCourages_l24 fu y_row y_many a_medals a_count a_pride x1 x3 n24) n57 x4 x5 x6 x7 x8 = some res → W p l e (headSpec (WW yX11_fittingCourages cX11_fittingCourages 9 (some .int)) rm_X11_fittingCourages).room s m args below meth c s.heap [] 0 0 (MQ below (vp_Si (fun v => v = res)) args s 0 0 (fun _ => False)) (F0 m 57 ls []) := by
        intro n57
        induction n57 with
        | zero => intro x4 x5 x6 x7 x8 ls hl h; cases h
        | succ n57 ih57 =>
          have j108 : ∀ (x4 : Int32) (x5 : Int32) (x6 : Int32) (x8 : Int32) (s0 : Int32) (s1 : Int32) (ls : Array Slot), lv_has ls 9 [(0, .ref (A_b 0)), (1, .int x1), (2, .ref (A_y 0)), (3, .int x3), (4, .int x4), (5, .int x5), (6, .int x6), (8, .int x8)] → f_X11_fittingCourages_j108 fu y_row y_many a_medals a_count a_pride x1 x3 (f_X11_fittingCourages_l24 fu y_row y_many a_medals a_count a_pride x1 x3 n24) (f_X11_fittingCourages_l57 fu y_row y_many a_medals a_count a_pride x1 x3 (f_X11_fittingCourages_l24 fu y_row y_many a_medals a_count a_pride x1 x3 n24) n57) x4 x5 x6 x8 s0 s1 = some res → W p l e (headSpec (WW yX11_fittingCourages cX11_fittingCourages 9 (some .int)) rm_X11_fittingCourages).room s m args below meth c s.heap [] 0 0 (MQ below (vp_Si (fun v => v = res)) args s 0 0 (fun _ => False)) (F0 m 108 ls [.int s1, .int s0]) := by
            intro x4 x5 x6 x8 s0 s1 ls hl h
            unfold f_X11_fittingCourages_j108 at h
            refine lv_icmp_ne (tgt := 115) hx hb dX11_fittingCourages_108 (by decide) (fun c_23 => ?_) (fun c_23 => ?_)
            · have h := ie c_23 h
              refine lv_iconst (v := 0) hx hb dX11_fittingCourages_115 (by decide) ?_
              refine lv_istore (lv' := [(7, .int 0), (0, .ref (A_b 0)), (1, .int x1), (2, .ref (A_y 0)), (3, .int x3), (4, .int x4), (5, .int x5), (6, .int x6), (8, .int x8)]) hx hb dX11_fittingCourages_116 hl (by decide) rfl (fun ls hl => ?_)
              obtain ⟨x8_24, e_x8_24⟩ : ∃ y : Int32, y = x8 + 1 := ⟨_, rfl⟩
              have h := bn e_x8_24 h
              refine lv_iinc (v := x8_24) (lv' := [(8, .int x8_24), (7, .int 0), (0, .ref (A_b 0)), (1, .int x1), (2, .ref (A_y 0)), (3, .int x3), (4, .int x4), (5, .int x5), (6, .int x6)]) hx hb dX11_fittingCourages_118 hl (k := 8) rfl (by rw [e_x8_24]; rfl) (by decide) rfl (fun ls hl => ?_)
              refine lv_goto (tgt := 57) hx hb dX11_fittingCourages_121 (by decide) ?_
              exact ih57 x4 x5 x6 0 x8_24 ls (lv_sub hl [2, 3, 4, 5, 6, 7, 8, 1, 0] rfl) h
            · have h := it c_23 h
              refine lv_iconst (v := 1) hx hb dX11_fittingCourages_111 (by decide) ?_
              refine lv_goto (tgt := 116) hx hb dX11_fittingCourages_112 (by decide) ?_
              refine lv_istore (lv' := [(7, .int 1), (0, .ref (A_b 0)), (1, .int x1), (2, .ref (A_y 0)), (3, .int x3), (4, .int x4), (5, .int x5), (6, .int x6), (8, .int x8)]) hx hb dX11_fittingCourages_116 hl (by decide) rfl (fun ls hl => ?_)
              obtain ⟨x8_25, e_x8_25⟩ : ∃ y : Int32, y = x8 + 1 := ⟨_, rfl⟩
              have h := bn e_x8_25 h
              refine lv_iinc (v := x8_25) (lv' := [(8, .int x8_25), (7, .int 1), (0, .ref (A_b 0)), (1, .int x1), (2, .ref (A_y 0)), (3, .int x3), (4, .int x4), (5, .int x5), (6, .int x6)]) hx hb dX11_fittingCourages_118 hl (k := 8) rfl (by rw [e_x8_25]; rfl) (by decide) rfl (fun ls hl => ?_)
              refine lv_goto (tgt := 57) hx hb dX11_fittingCourages_121 (by decide) ?_
              exact ih57 x4 x5 x6 1 x8_25 ls (lv_sub hl [2, 3, 4, 5, 6, 7, 8, 1, 0] rfl) h
          have j88 : ∀ (x4 : Int32) (x5 : Int32) (x6 : Int32) (x8 : Int32) (s0 : Int32) (ls : Array Slot), lv_has ls 9 [(0, .ref (A_b 0)), (1, .int x1), (2, .ref (A_y 0)), (3, .int x3), (4, .int x4), (5, .int x5), (6, .int x6), (8, .int x8)] → f_X11_fittingCourages_j88 fu y_row y_many a_medals a_count a_pride x1 x3 (f_X11_fittingCourages_l24 fu y_row y_many a_medals a_count a_pride x1 x3 n24) (f_X11_fittingCourages_l57 fu y_row y_many a_medals a_count a_pride x1 x3 (f_X11_fittingCourages_l24 fu y_row y_many a_medals a_count a_pride x1 x3 n24) n57) x4 x5 x6 x8 s0 = some res → W p l e (headSpec (WW yX11_fittingCourages cX11_fittingCourages 9 (some .int)) rm_X11_fittingCourages).room s m args below meth c s.heap [] 0 0 (MQ below (vp_Si (fun v => v = res)) args s 0 0 (fun _ => False)) (F0 m 88 ls [.int s0]) := by
            intro x4 x5 x6 x8 s0 ls hl h
            unfold f_X11_fittingCourages_j88 at h
            refine lv_aload_n hx hb dX11_fittingCourages_88 rfl (lv_at hl 2 rfl) ?_
            refine lv_iconst (v := 2) hx hb dX11_fittingCourages_89 (by decide) ?_
            refine lv_iload hx hb dX11_fittingCourages_90 (lv_at hl 7 rfl) ?_
            refine lv_imul hx hb dX11_fittingCourages_92 ?_
            refine lv_iconst (v := 1) hx hb dX11_fittingCourages_93 (by decide) ?_
            refine lv_iadd hx hb dX11_fittingCourages_94 ?_
            obtain ⟨z_26, e_z_26, h⟩ := bi h
            refine roVl (rest := [.int s0]) ⟨hx, hb, hml, hown, ht⟩ (c_X8_at l D cy fu A_y y_row y_missing y_sort y_many ((2 * x8) + 1) z_26 e_z_26) (cV ht mv_X8_at tb_547 rfl rfl ⟨Nat.le_of_ble_eq_true rfl, Nat.le_of_ble_eq_true rfl⟩) (P_sub hP [1] rfl) hX rfl rfl rfl hl.1 rfl (Nat.le_of_ble_eq_true rfl) dX11_fittingCourages_95 ⟨Nat.le_of_ble_eq_true rfl, Nat.le_of_ble_eq_true rfl⟩ ?_
            refine lv_lconst (v := 1) hx hb dX11_fittingCourages_98 (by decide) ?_
            refine W.lcmp hx hb dX11_fittingCourages_99 ?_
            refine lv_if_ne (tgt := 107) hx hb dX11_fittingCourages_100 (by decide) (fun c_27 => ?_) (fun c_27 => ?_)
            · have h := ie c_27 h
              refine lv_iconst (v := 0) hx hb dX11_fittingCourages_107 (by decide) ?_
              exact j108 x4 x5 x6 x8 s0 0 ls (lv_sub hl [0, 1, 2, 3, 4, 5, 6, 7] rfl) h
            · have h := it c_27 h
              refine lv_iconst (v := 1) hx hb dX11_fittingCourages_103 (by decide) ?_
              refine lv_goto (tgt := 108) hx hb dX11_fittingCourages_104 (by decide) ?_
              exact j108 x4 x5 x6 x8 s0 1 ls (lv_sub hl [0, 1, 2, 3, 4, 5, 6, 7] rfl) h
          intro x4 x5 x6 x7 x8 ls hl h
          have h : f_X11_fittingCourages_b57 fu y_row y_many a_medals a_count a_pride x1 x3 (f_X11_fittingCourages_l24 fu y_row y_many a_medals a_count a_pride x1 x3 n24) (f_X11_fittingCourages_l57 fu y_row y_many a_medals a_count a_pride x1 x3 (f_X11_fittingCourages_l24 fu y_row y_many a_medals a_count a_pride x1 x3 n24) n57) x4 x5 x6 x7 x8 = some res := h
          unfold f_X11_fittingCourages_b57 at h
          refine lv_iload hx hb dX11_fittingCourages_57 (lv_at hl 8 rfl) ?_
          refine lv_iload_n hx hb dX11_fittingCourages_59 rfl (lv_at hl 3 rfl) ?_
          refine lv_icmp_ge (tgt := 124) hx hb dX11_fittingCourages_60 (by decide) (fun c_28 => ?_) (fun c_28 => ?_)
          · have h := it c_28 h
            exact j124 x4 x5 x7 ls (lv_sub hl [0, 1, 2, 3, 4, 5, 7] rfl) h
          · have h := ie c_28 h
            refine lv_iload hx hb dX11_fittingCourages_63 (lv_at hl 7 rfl) ?_
            refine lv_if_eq (tgt := 124) hx hb dX11_fittingCourages_65 (by decide) (fun c_29 => ?_) (fun c_29 => ?_)
            · have h := it c_29 h
              exact j124 x4 x5 x7 ls (lv_sub hl [0, 1, 2, 3, 4, 5, 7] rfl) h
            · have h := ie c_29 h
              refine lv_iload hx hb dX11_fittingCourages_68 (lv_at hl 6 rfl) ?_
              refine lv_i2l (v := Int32.toInt64 x6) hx hb dX11_fittingCourages_70 rfl ?_
              refine lv_aload_n hx hb dX11_fittingCourages_71 rfl (lv_at hl 2 rfl) ?_
              refine lv_iconst (v := 2) hx hb dX11_fittingCourages_72 (by decide) ?_
              refine lv_iload hx hb dX11_fittingCourages_73 (lv_at hl 8 rfl) ?_
              refine lv_imul hx hb dX11_fittingCourages_75 ?_
              obtain ⟨z_30, e_z_30, h⟩ := bi h
              refine roVl (rest := [.long (Int32.toInt64 x6)]) ⟨hx, hb, hml, hown, ht⟩ (c_X8_at l D cy fu A_y y_row y_missing y_sort y_many (2 * x8) z_30 e_z_30) (cV ht mv_X8_at tb_547 rfl rfl ⟨Nat.le_of_ble_eq_true rfl, Nat.le_of_ble_eq_true rfl⟩) (P_sub hP [1] rfl) hX rfl rfl rfl hl.1 rfl (Nat.le_of_ble_eq_true rfl) dX11_fittingCourages_76 ⟨Nat.le_of_ble_eq_true rfl, Nat.le_of_ble_eq_true rfl⟩ ?_
              refine W.lcmp hx hb dX11_fittingCourages_79 ?_
              refine lv_if_lt (tgt := 87) hx hb dX11_fittingCourages_80 (by decide) (fun c_31 => ?_) (fun c_31 => ?_)
              · have h := it c_31 h
                refine lv_iconst (v := 0) hx hb dX11_fittingCourages_87 (by decide) ?_
                exact j88 x4 x5 x6 x8 0 ls (lv_sub hl [0, 1, 2, 3, 4, 5, 6, 8] rfl) h
              · have h := ie c_31 h
                refine lv_iconst (v := 1) hx hb dX11_fittingCourages_83 (by decide) ?_
                refine lv_goto (tgt := 88) hx hb dX11_fittingCourages_84 (by decide) ?_
                exact j88 x4 x5 x6 x8 1 ls (lv_sub hl [0, 1, 2, 3, 4, 5, 6, 8] rfl) h
      intro x4 x5 ls hl h
      have h : f_X11_fittingCourages_b24 fu y_row y_many a_medals a_count a_pride x1 x3 (f_X11_fittingCourages_l24 fu y_row y_many a_medals a_count a_pride x1 x3 n24) x4 x5 = some res := h
      unfold f_X11_fittingCourages_b24 at h
      refine lv_iload hx hb dX11_fittingCourages_24 (lv_at hl 5 rfl) ?_
      refine lv_bipush (v := 20) hx hb dX11_fittingCourages_26 (by decide) ?_
      refine lv_icmp_gt (tgt := 144) hx hb dX11_fittingCourages_28 (by decide) (fun c_32 => ?_) (fun c_32 => ?_)
      · have h := it c_32 h
        refine lv_iload hx hb dX11_fittingCourages_144 (lv_at hl 4 rfl) ?_
        cases h
        exact W.iret hx hb hr (fun _ ht9 _ => ⟨_, rfl, rfl, ht9⟩) (fun _ hq => by cases hq) dX11_fittingCourages_146
      · have h := ie c_32 h
        refine lv_aload_n hx hb dX11_fittingCourages_31 rfl (lv_at hl 0 rfl) ?_
        refine xget (i := 0) (j := 0) (k := 4) (T := TX11) hx hb ht tb_iX11 hown hX hP rfl rfl rfl (by decide) tb_433 rfl dX11_fittingCourages_32 ?_
        refine lv_iload hx hb dX11_fittingCourages_35 (lv_at hl 5 rfl) ?_
        refine lv_aload_n hx hb dX11_fittingCourages_37 rfl (lv_at hl 0 rfl) ?_
        refine xget (i := 0) (j := 0) (k := 4) (T := TX11) hx hb ht tb_iX11 hown hX hP rfl rfl rfl (by decide) tb_433 rfl dX11_fittingCourages_38 ?_
        refine xget (i := 2) (j := 0) (k := 3) (T := TX0) hx hb ht tb_iX0 hown hX hP rfl rfl rfl (by decide) tb_47 rfl dX11_fittingCourages_41 ?_
        refine lv_iload_n hx hb dX11_fittingCourages_44 rfl (lv_at hl 1 rfl) ?_
        obtain ⟨y_33, e_y_33, h⟩ := bi h
        refine xiald (i0 := 2) (j0 := 4) hx hb hX hP rfl rfl e_y_33 dX11_fittingCourages_45 ?_
        obtain ⟨z_34, e_z_34, h⟩ := bi h
        refine roVi (rest := []) ⟨hx, hb, hml, hown, ht⟩ (c_X0_braveryWith l D cy fu A_a a_name a_courage a_weight a_medals a_stood a_fled a_liked a_votes a_count a_living a_pride a_quota a_melted a_lost x5 y_33 z_34 e_z_34) (cV ht mv_X0_braveryWith tb_1050 rfl rfl ⟨Nat.le_of_ble_eq_true rfl, Nat.le_of_ble_eq_true rfl⟩) (P_sub hP [2] rfl) hX rfl rfl rfl hl.1 rfl (Nat.le_of_ble_eq_true rfl) dX11_fittingCourages_46 ⟨Nat.le_of_ble_eq_true rfl, Nat.le_of_ble_eq_true rfl⟩ ?_
        refine lv_istore (lv' := [(6, .int z_34), (0, .ref (A_b 0)), (1, .int x1), (2, .ref (A_y 0)), (3, .int x3), (4, .int x4), (5, .int x5)]) hx hb dX11_fittingCourages_49 hl (by decide) rfl (fun ls hl => ?_)
        refine lv_iconst (v := 1) hx hb dX11_fittingCourages_51 (by decide) ?_
        refine lv_istore (lv' := [(7, .int 1), (6, .int z_34), (0, .ref (A_b 0)), (1, .int x1), (2, .ref (A_y 0)), (3, .int x3), (4, .int x4), (5, .int x5)]) hx hb dX11_fittingCourages_52 hl (by decide) rfl (fun ls hl => ?_)
        refine lv_iconst (v := 0) hx hb dX11_fittingCourages_54 (by decide) ?_
        refine lv_istore (lv' := [(8, .int 0), (7, .int 1), (6, .int z_34), (0, .ref (A_b 0)), (1, .int x1), (2, .ref (A_y 0)), (3, .int x3), (4, .int x4), (5, .int x5)]) hx hb dX11_fittingCourages_55 hl (by decide) rfl (fun ls hl => ?_)
        exact l57 fu x4 x5 z_34 1 0 ls (lv_sub hl [3, 4, 5, 6, 7, 8, 2, 1, 0] rfl) h
  unfold f_X11_fittingCourages at h
  refine lv_iconst (v := 0) hx hb dX11_fittingCourages_0 (by decide) ?_
  refine lv_istore (lv' := [(4, .int 0), (0, .ref (A_b 0)), (1, .int x1), (2, .ref (A_y 0)), (3, .int x3)]) hx hb dX11_fittingCourages_1 hl (by decide) rfl (fun ls hl => ?_)
  refine lv_aload_n hx hb dX11_fittingCourages_3 rfl (lv_at hl 3 rfl) ?_
  refine lv_ifnull hx hb dX11_fittingCourages_4 ?_
  refine lv_aload_n hx hb dX11_fittingCourages_7 rfl (lv_at hl 1 rfl) ?_
  refine xget (i := 0) (j := 0) (k := 4) (T := TX11) hx hb ht tb_iX11 hown hX hP rfl rfl rfl (by decide) tb_433 rfl dX11_fittingCourages_8 ?_
  refine lv_iload_n hx hb dX11_fittingCourages_11 rfl (lv_at hl 2 rfl) ?_
  obtain ⟨z_35, e_z_35, h⟩ := bi h
  refine roVi (rest := []) ⟨hx, hb, hml, hown, ht⟩ (c_X0_isMan l D cy fu A_a a_name a_courage a_weight a_medals a_stood a_fled a_liked a_votes a_count a_living a_pride a_quota a_melted a_lost x1 z_35 e_z_35) (cV ht mv_X0_isMan tb_774 rfl rfl ⟨Nat.le_of_ble_eq_true rfl, Nat.le_of_ble_eq_true rfl⟩) (P_sub hP [2] rfl) hX rfl rfl rfl hl.1 rfl (Nat.le_of_ble_eq_true rfl) dX11_fittingCourages_12 ⟨Nat.le_of_ble_eq_true rfl, Nat.le_of_ble_eq_true rfl⟩ ?_
  refine lv_if_ne (tgt := 21) hx hb dX11_fittingCourages_15 (by decide) (fun c_36 => ?_) (fun c_36 => ?_)
  · have h := ie c_36 h
    refine lv_iconst (v := 0) hx hb dX11_fittingCourages_21 (by decide) ?_
    refine lv_istore (lv' := [(5, .int 0), (4, .int 0), (0, .ref (A_b 0)), (1, .int x1), (2, .ref (A_y 0)), (3, .int x3)]) hx hb dX11_fittingCourages_22 hl (by decide) rfl (fun ls hl => ?_)
    exact l24 fu 0 0 ls (lv_sub hl [2, 3, 4, 5, 1, 0] rfl) h
  · have h := it c_36 h
    refine lv_iload hx hb dX11_fittingCourages_18 (lv_at hl 0 rfl) ?_
    cases h
    exact W.iret hx hb hr (fun _ ht9 _ => ⟨_, rfl, rfl, ht9⟩) (fun _ hq => by cases hq) dX11_fittingCourages_20
def f_X11_seenRefusal_n2 (fu : Nat) (a_count : Int32) (x1 : Int32) (x3 : Int32) : Option (Int32) := (f_X0_isMan fu a_count x1).bind fun z_3 => (if z_3 = 0 then some (1) else some (1))
abbrev rm_X11_seenRefusal_n2 : Room := { frames := 1, cells := 0, slots := 0, locals := 21 }
set_option maxHeartbeats 4000000 in
set_option maxRecDepth 100000 in
theorem c_X11_seenRefusal_n2 (l : Launch) (D : va_G) (cy : Nat → ClassId) (fu : Nat) (A_b : Nat → Nat) (r_b_trays : Nat) (r_b_war : Nat) (r_b_draftArmy : Nat) (r_b_draftWar : Nat) (r_b_reader : Nat) (r_b_armyReader : Nat) (r_b_warReader : Nat) (r_b_markedArmies : Nat) (r_b_markedWars : Nat) (r_b_latest : Nat) (r_b_trial : Nat) (r_b_foresight : Nat) (r_b_pairs : Nat) (b_latestStatus : Int32) (b_fractionTop : Int64) (b_fractionBottom : Int64) (b_marks : Int32) (A_a : Nat → Nat) (a_name : Nat → Int64) (a_courage : Nat → Int32) (a_weight : Nat → Int32) (a_medals : Nat → Int32) (a_stood : Nat → Int32) (a_fled : Nat → Int32) (a_liked : Nat → Int32) (a_votes : Nat → Int32) (a_count : Int32) (a_living : Int32) (a_pride : Int32) (a_quota : Int32) (a_melted : Int32) (a_lost : Int32) (x1 : Int32) (x3 : Int32) (res : Int32) (h : f_X11_seenRefusal_n2 fu a_count x1 x3 = some res) : Met l yX11_seenRefusal (WW yX11_seenRefusal cX11_seenRefusal 8 (some .int)) rm_X11_seenRefusal_n2 (Rd D cy [.ref (A_b 0), .int x1, .null, .int x3] [bl_X11 cy A_b r_b_trays (A_a 0) r_b_war r_b_draftArmy r_b_draftWar r_b_reader r_b_armyReader r_b_warReader r_b_markedArmies r_b_markedWars r_b_latest r_b_trial r_b_foresight r_b_pairs b_latestStatus b_fractionTop b_fractionBottom b_marks, bl_X0 cy A_a a_name a_courage a_weight a_medals a_stood a_fled a_liked a_votes a_count a_living a_pride a_quota a_melted a_lost]) (vp_Si (fun v => v = res)) 0 0 (fun _ => False) := by
  refine Met.ofW (cc := cX11_seenRefusal) (maxL := 8) (ret := (some .int)) (by decide) rfl ?_
  intro p e s m args below meth c s₁ B hml hv
  obtain ⟨hargs, hP, hX⟩ := hv
  have hx := B.exec
  have hb := B.bytes
  have hr := B.returns
  have ht : ∀ w ∈ lw_gd, w.before args s = true := fun w hw => atoms_spec (ws := WW yX11_seenRefusal cX11_seenRefusal 8 (some .int)) B.pre w (List.mem_cons_of_mem _ hw)
  have hown : s.vm.findClass RX11 = some m.cls := findClass_of_methodNamed B.named
  have hlocks := B.notSynchronized
  have hP : PB D [bl_X11 cy A_b r_b_trays (A_a 0) r_b_war r_b_draftArmy r_b_draftWar r_b_reader r_b_armyReader r_b_warReader r_b_markedArmies r_b_markedWars r_b_latest r_b_trial r_b_foresight r_b_pairs b_latestStatus b_fractionTop b_fractionBottom b_marks, bl_X0 cy A_a a_name a_courage a_weight a_medals a_stood a_fled a_liked a_votes a_count a_living a_pride a_quota a_melted a_lost] s.heap := hP
  obtain ⟨ls, hl, hent⟩ := ent (m := m) (n := 8) hargs (Nat.le_of_ble_eq_true rfl) (lv := [(0, .ref (A_b 0)), (1, .int x1), (2, .null), (3, .int x3)]) rfl
  rw [hent]
  clear hent
  unfold f_X11_seenRefusal_n2 at h
  refine lv_aload_n hx hb dX11_seenRefusal_0 rfl (lv_at hl 0 rfl) ?_
  refine xget (i := 0) (j := 0) (k := 4) (T := TX11) hx hb ht tb_iX11 hown hX hP rfl rfl rfl (by decide) tb_433 rfl dX11_seenRefusal_1 ?_
  refine lv_iload_n hx hb dX11_seenRefusal_4 rfl (lv_at hl 1 rfl) ?_
  obtain ⟨z_3, e_z_3, h⟩ := bi h
  refine roVi (rest := []) ⟨hx, hb, hml, hown, ht⟩ (c_X0_isMan l D cy fu A_a a_name a_courage a_weight a_medals a_stood a_fled a_liked a_votes a_count a_living a_pride a_quota a_melted a_lost x1 z_3 e_z_3) (cV ht mv_X0_isMan tb_774 rfl rfl ⟨Nat.le_of_ble_eq_true rfl, Nat.le_of_ble_eq_true rfl⟩) (P_sub hP [1] rfl) hX rfl rfl rfl hl.1 rfl (Nat.le_of_ble_eq_true rfl) dX11_seenRefusal_5 ⟨Nat.le_of_ble_eq_true rfl, Nat.le_of_ble_eq_true rfl⟩ ?_
  refine lv_if_eq (tgt := 25) hx hb dX11_seenRefusal_8 (by decide) (fun c_4 => ?_) (fun c_4 => ?_)
  · have h := it c_4 h
    refine lv_iconst (v := 1) hx hb dX11_seenRefusal_25 (by decide) ?_
    cases h
    exact W.iret hx hb hr (fun _ ht9 _ => ⟨_, rfl, rfl, ht9⟩) (fun _ hq => by cases hq) dX11_seenRefusal_26
  · have h := ie c_4 h
    refine lv_aload_nN hx hb dX11_seenRefusal_11 rfl (lv_at hl 2 rfl) ?_
    refine lv_ifnullN (tgt := 25) hx hb dX11_seenRefusal_12 (by decide) ?_
    refine lv_iconst (v := 1) hx hb dX11_seenRefusal_25 (by decide) ?_
    cases h
    exact W.iret hx hb hr (fun _ ht9 _ => ⟨_, rfl, rfl, ht9⟩) (fun _ hq => by cases hq) dX11_seenRefusal_26
def f_X11_fittingCourages_n2 (fu : Nat) (x1 : Int32) (x3 : Int32) : Option (Int32) := some (0)
abbrev rm_X11_fittingCourages_n2 : Room := { frames := 0, cells := 0, slots := 0, locals := 0 }
set_option maxHeartbeats 4000000 in
set_option maxRecDepth 100000 in
theorem c_X11_fittingCourages_n2 (l : Launch) (D : va_G) (cy : Nat → ClassId) (fu : Nat) (A_b : Nat → Nat) (r_b_trays : Nat) (r_b_army : Nat) (r_b_war : Nat) (r_b_draftArmy : Nat) (r_b_draftWar : Nat) (r_b_reader : Nat) (r_b_armyReader : Nat) (r_b_warReader : Nat) (r_b_markedArmies : Nat) (r_b_markedWars : Nat) (r_b_latest : Nat) (r_b_trial : Nat) (r_b_foresight : Nat) (r_b_pairs : Nat) (b_latestStatus : Int32) (b_fractionTop : Int64) (b_fractionBottom : Int64) (b_marks : Int32) (x1 : Int32) (x3 : Int32) (res : Int32) (h : f_X11_fittingCourages_n2 fu x1 x3 = some res) : Met l yX11_fittingCourages (WW yX11_fittingCourages cX11_fittingCourages 9 (some .int)) rm_X11_fittingCourages_n2 (Rd D cy [.ref (A_b 0), .int x1, .null, .int x3] [bl_X11 cy A_b r_b_trays r_b_army r_b_war r_b_draftArmy r_b_draftWar r_b_reader r_b_armyReader r_b_warReader r_b_markedArmies r_b_markedWars r_b_latest r_b_trial r_b_foresight r_b_pairs b_latestStatus b_fractionTop b_fractionBottom b_marks]) (vp_Si (fun v => v = res)) 0 0 (fun _ => False) := by
  refine Met.ofW (cc := cX11_fittingCourages) (maxL := 9) (ret := (some .int)) (by decide) rfl ?_
  intro p e s m args below meth c s₁ B hml hv
  obtain ⟨hargs, hP, hX⟩ := hv
  have hx := B.exec
  have hb := B.bytes
  have hr := B.returns
  have ht : ∀ w ∈ lw_gd, w.before args s = true := fun w hw => atoms_spec (ws := WW yX11_fittingCourages cX11_fittingCourages 9 (some .int)) B.pre w (List.mem_cons_of_mem _ hw)
  have hown : s.vm.findClass RX11 = some m.cls := findClass_of_methodNamed B.named
  have hlocks := B.notSynchronized
  have hP : PB D [bl_X11 cy A_b r_b_trays r_b_army r_b_war r_b_draftArmy r_b_draftWar r_b_reader r_b_armyReader r_b_warReader r_b_markedArmies r_b_markedWars r_b_latest r_b_trial r_b_foresight r_b_pairs b_latestStatus b_fractionTop b_fractionBottom b_marks] s.heap := hP
  obtain ⟨ls, hl, hent⟩ := ent (m := m) (n := 9) hargs (Nat.le_of_ble_eq_true rfl) (lv := [(0, .ref (A_b 0)), (1, .int x1), (2, .null), (3, .int x3)]) rfl
  rw [hent]
  clear hent
  unfold f_X11_fittingCourages_n2 at h
  refine lv_iconst (v := 0) hx hb dX11_fittingCourages_0 (by decide) ?_
  refine lv_istore (lv' := [(4, .int 0), (0, .ref (A_b 0)), (1, .int x1), (2, .null), (3, .int x3)]) hx hb dX11_fittingCourages_1 hl (by decide) rfl (fun ls hl => ?_)
  refine lv_aload_nN hx hb dX11_fittingCourages_3 rfl (lv_at hl 3 rfl) ?_
  refine lv_ifnullN (tgt := 18) hx hb dX11_fittingCourages_4 (by decide) ?_
  refine lv_iload hx hb dX11_fittingCourages_18 (lv_at hl 0 rfl) ?_
  cases h
  exact W.iret hx hb hr (fun _ ht9 _ => ⟨_, rfl, rfl, ht9⟩) (fun _ hq => by cases hq) dX11_fittingCourages_20
theorem dX11_seen_0 : decode cX11_seen 0 = .ok (.aload_n 0, 1) := by decide +kernel
theorem dX11_seen_1 : decode cX11_seen 1 = .ok (.iload_n 2, 1) := by decide +kernel
theorem dX11_seen_2 : decode cX11_seen 2 = .ok (.invokevirtual 111, 3) := by decide +kernel
theorem dX11_seen_5 : decode cX11_seen 5 = .ok (.astore 4, 2) := by decide +kernel
theorem dX11_seen_7 : decode cX11_seen 7 = .ok (.aload_n 0, 1) := by decide +kernel
theorem dX11_seen_8 : decode cX11_seen 8 = .ok (.iload_n 1, 1) := by decide +kernel
theorem dX11_seen_9 : decode cX11_seen 9 = .ok (.aload 4, 2) := by decide +kernel
theorem dX11_seen_11 : decode cX11_seen 11 = .ok (.iload_n 3, 1) := by decide +kernel
theorem dX11_seen_12 : decode cX11_seen 12 = .ok (.invokevirtual 352, 3) := by decide +kernel
theorem dX11_seen_15 : decode cX11_seen 15 = .ok (.istore 5, 2) := by decide +kernel
theorem dX11_seen_17 : decode cX11_seen 17 = .ok (.iload 5, 2) := by decide +kernel
theorem dX11_seen_19 : decode cX11_seen 19 = .ok (.ifCond .eq 10, 3) := by decide +kernel
theorem dX11_seen_22 : decode cX11_seen 22 = .ok (.aload_n 0, 1) := by decide +kernel
theorem dX11_seen_23 : decode cX11_seen 23 = .ok (.iload 5, 2) := by decide +kernel
theorem dX11_seen_25 : decode cX11_seen 25 = .ok (.invokevirtual 143, 3) := by decide +kernel
theorem dX11_seen_28 : decode cX11_seen 28 = .ok (.ireturn, 1) := by decide +kernel
theorem dX11_seen_29 : decode cX11_seen 29 = .ok (.aload_n 0, 1) := by decide +kernel
theorem dX11_seen_30 : decode cX11_seen 30 = .ok (.aload_n 0, 1) := by decide +kernel
theorem dX11_seen_31 : decode cX11_seen 31 = .ok (.iload_n 1, 1) := by decide +kernel
theorem dX11_seen_32 : decode cX11_seen 32 = .ok (.aload 4, 2) := by decide +kernel
theorem dX11_seen_34 : decode cX11_seen 34 = .ok (.iload_n 3, 1) := by decide +kernel
theorem dX11_seen_35 : decode cX11_seen 35 = .ok (.invokevirtual 355, 3) := by decide +kernel
theorem dX11_seen_38 : decode cX11_seen 38 = .ok (.invokestatic 281, 3) := by decide +kernel
theorem dX11_seen_41 : decode cX11_seen 41 = .ok (.invokevirtual 193, 3) := by decide +kernel
theorem dX11_seen_44 : decode cX11_seen 44 = .ok (.ireturn, 1) := by decide +kernel
theorem mv_X11_seen : MV yX11_seen RX11 cX11_seen 6 (some .int) 3 := ⟨tb_1041, tb_1039, tb_1040, tb_1, by decide +kernel, by decide +kernel, by decide +kernel⟩
def f_X11_seen (fu : Nat) (b_latestStatus : Int32) (y0_row : Nat → Int64) (y0_missing : Int32) (y0_many : Int32) (y1_row : Nat → Int64) (y1_missing : Int32) (y1_many : Int32) (y2_row : Nat → Int64) (y2_missing : Int32) (y2_many : Int32) (y3_row : Nat → Int64) (y3_missing : Int32) (y3_many : Int32) (a_medals : Nat → Int32) (a_count : Int32) (a_pride : Int32) (x1 : Int32) (x2 : Int32) (x3 : Int32) : Option (Int32 × Int32) := (if x2 = 0 then (f_X11_seenRefusal fu y0_row y0_missing y0_many a_count x1 x3).bind fun z_36 => (if z_36 = 0 then (f_X11_fittingCourages fu y0_row y0_many a_medals a_count a_pride x1 x3).bind fun z_38 => (f_J6_bitCount_0f7a4 fu z_38).bind fun z_39 => (f_X11_answer fu b_latestStatus z_39).bind fun z_40 => some (z_40.1, z_40.2) else (f_X11_refuse fu b_latestStatus z_36).bind fun z_41 => some (z_41.1, z_41.2)) else (if x2 = 1 then (f_X11_seenRefusal fu y1_row y1_missing y1_many a_count x1 x3).bind fun z_43 => (if z_43 = 0 then (f_X11_fittingCourages fu y1_row y1_many a_medals a_count a_pride x1 x3).bind fun z_45 => (f_J6_bitCount_0f7a4 fu z_45).bind fun z_46 => (f_X11_answer fu b_latestStatus z_46).bind fun z_47 => some (z_47.1, z_47.2) else (f_X11_refuse fu b_latestStatus z_43).bind fun z_48 => some (z_48.1, z_48.2)) else (if x2 = 2 then (f_X11_seenRefusal fu y2_row y2_missing y2_many a_count x1 x3).bind fun z_50 => (if z_50 = 0 then (f_X11_fittingCourages fu y2_row y2_many a_medals a_count a_pride x1 x3).bind fun z_52 => (f_J6_bitCount_0f7a4 fu z_52).bind fun z_53 => (f_X11_answer fu b_latestStatus z_53).bind fun z_54 => some (z_54.1, z_54.2) else (f_X11_refuse fu b_latestStatus z_50).bind fun z_55 => some (z_55.1, z_55.2)) else (if x2 = 3 then (f_X11_seenRefusal fu y3_row y3_missing y3_many a_count x1 x3).bind fun z_57 => (if z_57 = 0 then (f_X11_fittingCourages fu y3_row y3_many a_medals a_count a_pride x1 x3).bind fun z_59 => (f_J6_bitCount_0f7a4 fu z_59).bind fun z_60 => (f_X11_answer fu b_latestStatus z_60).bind fun z_61 => some (z_61.1, z_61.2) else (f_X11_refuse fu b_latestStatus z_57).bind fun z_62 => some (z_62.1, z_62.2)) else (f_X11_seenRefusal_n2 fu a_count x1 x3).bind fun z_63 => (if z_63 = 0 then (f_X11_fittingCourages_n2 fu x1 x3).bind fun z_65 => (f_J6_bitCount_0f7a4 fu z_65).bind fun z_66 => (f_X11_answer fu b_latestStatus z_66).bind fun z_67 => some (z_67.1, z_67.2) else (f_X11_refuse fu b_latestStatus z_63).bind fun z_68 => some (z_68.1, z_68.2))))))
abbrev rm_X11_seen : Room := { frames := 4, cells := 0, slots := 0, locals := 95 }
set_option maxHeartbeats 4000000 in
set_option maxRecDepth 100000 in
theorem c_X11_seen (l : Launch) (D : va_G) (cy : Nat → ClassId) (fu : Nat) (A_b : Nat → Nat) (r_b_war : Nat) (r_b_draftArmy : Nat) (r_b_draftWar : Nat) (r_b_reader : Nat) (r_b_armyReader : Nat) (r_b_warReader : Nat) (r_b_markedArmies : Nat) (r_b_markedWars : Nat) (r_b_latest : Nat) (r_b_trial : Nat) (r_b_foresight : Nat) (r_b_pairs : Nat) (b_latestStatus : Int32) (b_fractionTop : Int64) (b_fractionBottom : Int64) (b_marks : Int32) (A_T : Nat → Nat) (A_y0 : Nat → Nat) (y0_row : Nat → Int64) (y0_missing : Int32) (y0_sort : Int32) (y0_many : Int32) (A_y1 : Nat → Nat) (y1_row : Nat → Int64) (y1_missing : Int32) (y1_sort : Int32) (y1_many : Int32) (A_y2 : Nat → Nat) (y2_row : Nat → Int64) (y2_missing : Int32) (y2_sort : Int32) (y2_many : Int32) (A_y3 : Nat → Nat) (y3_row : Nat → Int64) (y3_missing : Int32) (y3_sort : Int32) (y3_many : Int32) (A_a : Nat → Nat) (a_name : Nat → Int64) (a_courage : Nat → Int32) (a_weight : Nat → Int32) (a_medals : Nat → Int32) (a_stood : Nat → Int32) (a_fled : Nat → Int32) (a_liked : Nat → Int32) (a_votes : Nat → Int32) (a_count : Int32) (a_living : Int32) (a_pride : Int32) (a_quota : Int32) (a_melted : Int32) (a_lost : Int32) (x1 : Int32) (x2 : Int32) (x3 : Int32) (res : Int32 × Int32) (h : f_X11_seen fu b_latestStatus y0_row y0_missing y0_many y1_row y1_missing y1_many y2_row y2_missing y2_many y3_row y3_missing y3_many a_medals a_count a_pride x1 x2 x3 = some res) (A : Nat → Prop) (hA : A = adr [bl_X11 cy A_b (A_T 0) (A_a 0) r_b_war r_b_draftArmy r_b_draftWar r_b_reader r_b_armyReader r_b_warReader r_b_markedArmies r_b_markedWars r_b_latest r_b_trial r_b_foresight r_b_pairs b_latestStatus b_fractionTop b_fractionBottom b_marks, [(A_T 0, .inl (cy 4, 4, .inr (.inr (.inr (.inr (trf4 (A_y0 0) (A_y1 0) (A_y2 0) (A_y3 0)))))))], bl_X8 cy A_y0 y0_row y0_missing y0_sort y0_many, bl_X8 cy A_y1 y1_row y1_missing y1_sort y1_many, bl_X8 cy A_y2 y2_row y2_missing y2_sort y2_many, bl_X8 cy A_y3 y3_row y3_missing y3_sort y3_many, bl_X0 cy A_a a_name a_courage a_weight a_medals a_stood a_fled a_liked a_votes a_count a_living a_pride a_quota a_melted a_lost]) (W1 : List va_W) (hW1 : W1 = [bl_X11 cy A_b (A_T 0) (A_a 0) r_b_war r_b_draftArmy r_b_draftWar r_b_reader r_b_armyReader r_b_warReader r_b_markedArmies r_b_markedWars r_b_latest r_b_trial r_b_foresight r_b_pairs res.2 b_fractionTop b_fractionBottom b_marks, [(A_T 0, .inl (cy 4, 4, .inr (.inr (.inr (.inr (trf4 (A_y0 0) (A_y1 0) (A_y2 0) (A_y3 0)))))))], bl_X8 cy A_y0 y0_row y0_missing y0_sort y0_many, bl_X8 cy A_y1 y1_row y1_missing y1_sort y1_many, bl_X8 cy A_y2 y2_row y2_missing y2_sort y2_many, bl_X8 cy A_y3 y3_row y3_missing y3_sort y3_many, bl_X0 cy A_a a_name a_courage a_weight a_medals a_stood a_fled a_liked a_votes a_count a_living a_pride a_quota a_melted a_lost]) : Met l yX11_seen (WW yX11_seen cX11_seen 6 (some .int)) rm_X11_seen (Ed D cy [.ref (A_b 0), .int x1, .int x2, .int x3] [bl_X11 cy A_b (A_T 0) (A_a 0) r_b_war r_b_draftArmy r_b_draftWar r_b_reader r_b_armyReader r_b_warReader r_b_markedArmies r_b_markedWars r_b_latest r_b_trial r_b_foresight r_b_pairs b_latestStatus b_fractionTop b_fractionBottom b_marks, [(A_T 0, .inl (cy 4, 4, .inr (.inr (.inr (.inr (trf4 (A_y0 0) (A_y1 0) (A_y2 0) (A_y3 0)))))))], bl_X8 cy A_y0 y0_row y0_missing y0_sort y0_many, bl_X8 cy A_y1 y1_row y1_missing y1_sort y1_many, bl_X8 cy A_y2 y2_row y2_missing y2_sort y2_many, bl_X8 cy A_y3 y3_row y3_missing y3_sort y3_many, bl_X0 cy A_a a_name a_courage a_weight a_medals a_stood a_fled a_liked a_votes a_count a_living a_pride a_quota a_melted a_lost]) (Qei D res.1 A W1) 0 0 A := by
  refine Met.ofW (cc := cX11_seen) (maxL := 6) (ret := (some .int)) (by decide) rfl ?_
  intro p e s m args below meth c s₁ B hml hv
  obtain ⟨hargs, hP, hX, hD0⟩ := hv
  have hx := B.exec
  have hb := B.bytes
  have hr := B.returns
  have ht : ∀ w ∈ lw_gd, w.before args s = true := fun w hw => atoms_spec (ws := WW yX11_seen cX11_seen 6 (some .int)) B.pre w (List.mem_cons_of_mem _ hw)
  have hown : s.vm.findClass RX11 = some m.cls := findClass_of_methodNamed B.named
  have hlocks := B.notSynchronized
  have hP : PD D A [bl_X11 cy A_b (A_T 0) (A_a 0) r_b_war r_b_draftArmy r_b_draftWar r_b_reader r_b_armyReader r_b_warReader r_b_markedArmies r_b_markedWars r_b_latest r_b_trial r_b_foresight r_b_pairs b_latestStatus b_fractionTop b_fractionBottom b_marks, [(A_T 0, .inl (cy 4, 4, .inr (.inr (.inr (.inr (trf4 (A_y0 0) (A_y1 0) (A_y2 0) (A_y3 0)))))))], bl_X8 cy A_y0 y0_row y0_missing y0_sort y0_many, bl_X8 cy A_y1 y1_row y1_missing y1_sort y1_many, bl_X8 cy A_y2 y2_row y2_missing y2_sort y2_many, bl_X8 cy A_y3 y3_row y3_missing y3_sort y3_many, bl_X0 cy A_a a_name a_courage a_weight a_medals a_stood a_fled a_liked a_votes a_count a_living a_pride a_quota a_melted a_lost] s.heap := ⟨hP, by rw [hA]; exact hD0.own⟩
  have hS : va_S A s.heap s.heap [] := va_S.rf
  obtain ⟨ls, hl, hent⟩ := ent (m := m) (n := 6) hargs (Nat.le_of_ble_eq_true rfl) (lv := [(0, .ref (A_b 0)), (1, .int x1), (2, .int x2), (3, .int x3)]) rfl
  rw [hent]
  clear hent
  unfold f_X11_seen at h
  refine lv_aload_n hx hb dX11_seen_0 rfl (lv_at hl 0 rfl) ?_
  refine lv_iload_n hx hb dX11_seen_1 rfl (lv_at hl 2 rfl) ?_
  by_cases c_35 : x2 = 0
  · have h := it c_35 h
    refine roVq (rest := []) ⟨hx, hb, hml, hown, ht⟩ (c_X11_trayAt l D cy fu A_b (A_a 0) r_b_war r_b_draftArmy r_b_draftWar r_b_reader r_b_armyReader r_b_warReader r_b_markedArmies r_b_markedWars r_b_latest r_b_trial r_b_foresight r_b_pairs b_latestStatus b_fractionTop b_fractionBottom b_marks A_T (trf4 (A_y0 0) (A_y1 0) (A_y2 0) (A_y3 0)) x2 (some (A_y0 0)) (tray_0 c_35)) (cV ht mv_X11_trayAt tb_500 rfl rfl ⟨Nat.le_of_ble_eq_true rfl, Nat.le_of_ble_eq_true rfl⟩) (P_sub hP.1 [0, 1] rfl) hX rfl rfl rfl hl.1 rfl (Nat.le_of_ble_eq_true rfl) dX11_seen_2 ⟨Nat.le_of_ble_eq_true rfl, Nat.le_of_ble_eq_true rfl⟩ ?_
    refine lv_astore (lv' := [(4, .ref (A_y0 0)), (0, .ref (A_b 0)), (1, .int x1), (2, .int x2), (3, .int x3)]) hx hb dX11_seen_5 hl (by decide) rfl (fun ls hl => ?_)
    refine lv_aload_n hx hb dX11_seen_7 rfl (lv_at hl 1 rfl) ?_
    refine lv_iload_n hx hb dX11_seen_8 rfl (lv_at hl 2 rfl) ?_
    refine lv_aload hx hb dX11_seen_9 (lv_at hl 0 rfl) ?_
    refine lv_iload_n hx hb dX11_seen_11 rfl (lv_at hl 4 rfl) ?_
    obtain ⟨z_36, e_z_36, h⟩ := bi h
    refine roVi (rest := []) ⟨hx, hb, hml, hown, ht⟩ (c_X11_seenRefusal l D cy fu A_b (A_T 0) r_b_war r_b_draftArmy r_b_draftWar r_b_reader r_b_armyReader r_b_warReader r_b_markedArmies r_b_markedWars r_b_latest r_b_trial r_b_foresight r_b_pairs b_latestStatus b_fractionTop b_fractionBottom b_marks A_y0 y0_row y0_missing y0_sort y0_many A_a a_name a_courage a_weight a_medals a_stood a_fled a_liked a_votes a_count a_living a_pride a_quota a_melted a_lost x1 x3 z_36 e_z_36) (cV ht mv_X11_seenRefusal tb_1042 rfl rfl ⟨Nat.le_of_ble_eq_true rfl, Nat.le_of_ble_eq_true rfl⟩) (P_sub hP.1 [0, 2, 6] rfl) hX rfl rfl rfl hl.1 rfl (Nat.le_of_ble_eq_true rfl) dX11_seen_12 ⟨Nat.le_of_ble_eq_true rfl, Nat.le_of_ble_eq_true rfl⟩ ?_
    refine lv_istore (lv' := [(5, .int z_36), (4, .ref (A_y0 0)), (0, .ref (A_b 0)), (1, .int x1), (2, .int x2), (3, .int x3)]) hx hb dX11_seen_15 hl (by decide) rfl (fun ls hl => ?_)
    refine lv_iload hx hb dX11_seen_17 (lv_at hl 0 rfl) ?_
    refine lv_if_eq (tgt := 29) hx hb dX11_seen_19 (by decide) (fun c_37 => ?_) (fun c_37 => ?_)
    · have h := it c_37 h
      refine lv_aload_n hx hb dX11_seen_29 rfl (lv_at hl 2 rfl) ?_
      refine lv_aload_n hx hb dX11_seen_30 rfl (lv_at hl 2 rfl) ?_
      refine lv_iload_n hx hb dX11_seen_31 rfl (lv_at hl 3 rfl) ?_
      refine lv_aload hx hb dX11_seen_32 (lv_at hl 1 rfl) ?_
      refine lv_iload_n hx hb dX11_seen_34 rfl (lv_at hl 5 rfl) ?_
      obtain ⟨z_38, e_z_38, h⟩ := bi h
      refine roVi (rest := [.ref (A_b 0)]) ⟨hx, hb, hml, hown, ht⟩ (c_X11_fittingCourages l D cy fu A_b (A_T 0) r_b_war r_b_draftArmy r_b_draftWar r_b_reader r_b_armyReader r_b_warReader r_b_markedArmies r_b_markedWars r_b_latest r_b_trial r_b_foresight r_b_pairs b_latestStatus b_fractionTop b_fractionBottom b_marks A_y0 y0_row y0_missing y0_sort y0_many A_a a_name a_courage a_weight a_medals a_stood a_fled a_liked a_votes a_count a_living a_pride a_quota a_melted a_lost x1 x3 z_38 e_z_38) (cV ht mv_X11_fittingCourages tb_1046 rfl rfl ⟨Nat.le_of_ble_eq_true rfl, Nat.le_of_ble_eq_true rfl⟩) (P_sub hP.1 [0, 2, 6] rfl) hX rfl rfl rfl hl.1 rfl (Nat.le_of_ble_eq_true rfl) dX11_seen_35 ⟨Nat.le_of_ble_eq_true rfl, Nat.le_of_ble_eq_true rfl⟩ ?_
      obtain ⟨z_39, e_z_39, h⟩ := bi h
      refine roSi (rest := [.ref (A_b 0)]) ⟨hx, hb, hml, hown, ht⟩ (c_J6_bitCount_0f7a4 l D cy fu  z_38 z_39 e_z_39) (cS ht ms_J6_bitCount_0f7a4 tb_852 rfl rfl ⟨Nat.le_of_ble_eq_true rfl, Nat.le_of_ble_eq_true rfl⟩) (P_sub hP.1 [] rfl) hX rfl hl.1 rfl (Nat.le_of_ble_eq_true rfl) dX11_seen_38 ⟨Nat.le_of_ble_eq_true rfl, Nat.le_of_ble_eq_true rfl⟩ ?_
      obtain ⟨z_40, e_z_40, h⟩ := bi h
      refine efVi (rest := []) ⟨hx, hb, hml, hown, ht⟩ (c_X11_answer l D cy fu A_b (A_T 0) (A_a 0) r_b_war r_b_draftArmy r_b_draftWar r_b_reader r_b_armyReader r_b_warReader r_b_markedArmies r_b_markedWars r_b_latest r_b_trial r_b_foresight r_b_pairs b_latestStatus b_fractionTop b_fractionBottom b_marks z_39 z_40 e_z_40 _ rfl _ rfl) (cV ht mv_X11_answer tb_696 rfl rfl ⟨Nat.le_of_ble_eq_true rfl, Nat.le_of_ble_eq_true rfl⟩) hP hS hX [0] rfl rfl rfl rfl rfl rfl hl.1 rfl (Nat.le_of_ble_eq_true rfl) dX11_seen_41 ⟨Nat.le_of_ble_eq_true rfl, Nat.le_of_ble_eq_true rfl⟩ (fun H locs hP hS => ?_)
      have hP : PD D A [bl_X11 cy A_b (A_T 0) (A_a 0) r_b_war r_b_draftArmy r_b_draftWar r_b_reader r_b_armyReader r_b_warReader r_b_markedArmies r_b_markedWars r_b_latest r_b_trial r_b_foresight r_b_pairs z_40.2 b_fractionTop b_fractionBottom b_marks, [(A_T 0, .inl (cy 4, 4, .inr (.inr (.inr (.inr (trf4 (A_y0 0) (A_y1 0) (A_y2 0) (A_y3 0)))))))], bl_X8 cy A_y0 y0_row y0_missing y0_sort y0_many, bl_X8 cy A_y1 y1_row y1_missing y1_sort y1_many, bl_X8 cy A_y2 y2_row y2_missing y2_sort y2_many, bl_X8 cy A_y3 y3_row y3_missing y3_sort y3_many, bl_X0 cy A_a a_name a_courage a_weight a_medals a_stood a_fled a_liked a_votes a_count a_living a_pride a_quota a_melted a_lost] H := hP
      cases h
      subst hW1
      exact W.iret hx hb hr (fun _ ht9 _ => ⟨⟨_, (), rfl, rfl, hPt ht9 hP.1⟩, hS.F ht9⟩) hS.2.2 dX11_seen_44
    · have h := ie c_37 h
      refine lv_aload_n hx hb dX11_seen_22 rfl (lv_at hl 2 rfl) ?_
      refine lv_iload hx hb dX11_seen_23 (lv_at hl 0 rfl) ?_
      obtain ⟨z_41, e_z_41, h⟩ := bi h
      refine efVi (rest := []) ⟨hx, hb, hml, hown, ht⟩ (c_X11_refuse l D cy fu A_b (A_T 0) (A_a 0) r_b_war r_b_draftArmy r_b_draftWar r_b_reader r_b_armyReader r_b_warReader r_b_markedArmies r_b_markedWars r_b_latest r_b_trial r_b_foresight r_b_pairs b_latestStatus b_fractionTop b_fractionBottom b_marks z_36 z_41 e_z_41 _ rfl _ rfl) (cV ht mv_X11_refuse tb_543 rfl rfl ⟨Nat.le_of_ble_eq_true rfl, Nat.le_of_ble_eq_true rfl⟩) hP hS hX [0] rfl rfl rfl rfl rfl rfl hl.1 rfl (Nat.le_of_ble_eq_true rfl) dX11_seen_25 ⟨Nat.le_of_ble_eq_true rfl, Nat.le_of_ble_eq_true rfl⟩ (fun H locs hP hS => ?_)
      have hP : PD D A [bl_X11 cy A_b (A_T 0) (A_a 0) r_b_war r_b_draftArmy r_b_draftWar r_b_reader r_b_armyReader r_b_warReader r_b_markedArmies r_b_markedWars r_b_latest r_b_trial r_b_foresight r_b_pairs z_41.2 b_fractionTop b_fractionBottom b_marks, [(A_T 0, .inl (cy 4, 4, .inr (.inr (.inr (.inr (trf4 (A_y0 0) (A_y1 0) (A_y2 0) (A_y3 0)))))))], bl_X8 cy A_y0 y0_row y0_missing y0_sort y0_many, bl_X8 cy A_y1 y1_row y1_missing y1_sort y1_many, bl_X8 cy A_y2 y2_row y2_missing y2_sort y2_many, bl_X8 cy A_y3 y3_row y3_missing y3_sort y3_many, bl_X0 cy A_a a_name a_courage a_weight a_medals a_stood a_fled a_liked a_votes a_count a_living a_pride a_quota a_melted a_lost] H := hP
      cases h
      subst hW1
      exact W.iret hx hb hr (fun _ ht9 _ => ⟨⟨_, (), rfl, rfl, hPt ht9 hP.1⟩, hS.F ht9⟩) hS.2.2 dX11_seen_28
  have h := ie c_35 h
  by_cases c_42 : x2 = 1
  · have h := it c_42 h
    refine roVq (rest := []) ⟨hx, hb, hml, hown, ht⟩ (c_X11_trayAt l D cy fu A_b (A_a 0) r_b_war r_b_draftArmy r_b_draftWar r_b_reader r_b_armyReader r_b_warReader r_b_markedArmies r_b_markedWars r_b_latest r_b_trial r_b_foresight r_b_pairs b_latestStatus b_fractionTop b_fractionBottom b_marks A_T (trf4 (A_y0 0) (A_y1 0) (A_y2 0) (A_y3 0)) x2 (some (A_y1 0)) (tray_1 c_42)) (cV ht mv_X11_trayAt tb_500 rfl rfl ⟨Nat.le_of_ble_eq_true rfl, Nat.le_of_ble_eq_true rfl⟩) (P_sub hP.1 [0, 1] rfl) hX rfl rfl rfl hl.1 rfl (Nat.le_of_ble_eq_true rfl) dX11_seen_2 ⟨Nat.le_of_ble_eq_true rfl, Nat.le_of_ble_eq_true rfl⟩ ?_
    refine lv_astore (lv' := [(4, .ref (A_y1 0)), (0, .ref (A_b 0)), (1, .int x1), (2, .int x2), (3, .int x3)]) hx hb dX11_seen_5 hl (by decide) rfl (fun ls hl => ?_)
    refine lv_aload_n hx hb dX11_seen_7 rfl (lv_at hl 1 rfl) ?_
    refine lv_iload_n hx hb dX11_seen_8 rfl (lv_at hl 2 rfl) ?_
    refine lv_aload hx hb dX11_seen_9 (lv_at hl 0 rfl) ?_
    refine lv_iload_n hx hb dX11_seen_11 rfl (lv_at hl 4 rfl) ?_
    obtain ⟨z_43, e_z_43, h⟩ := bi h
    refine roVi (rest := []) ⟨hx, hb, hml, hown, ht⟩ (c_X11_seenRefusal l D cy fu A_b (A_T 0) r_b_war r_b_draftArmy r_b_draftWar r_b_reader r_b_armyReader r_b_warReader r_b_markedArmies r_b_markedWars r_b_latest r_b_trial r_b_foresight r_b_pairs b_latestStatus b_fractionTop b_fractionBottom b_marks A_y1 y1_row y1_missing y1_sort y1_many A_a a_name a_courage a_weight a_medals a_stood a_fled a_liked a_votes a_count a_living a_pride a_quota a_melted a_lost x1 x3 z_43 e_z_43) (cV ht mv_X11_seenRefusal tb_1042 rfl rfl ⟨Nat.le_of_ble_eq_true rfl, Nat.le_of_ble_eq_true rfl⟩) (P_sub hP.1 [0, 3, 6] rfl) hX rfl rfl rfl hl.1 rfl (Nat.le_of_ble_eq_true rfl) dX11_seen_12 ⟨Nat.le_of_ble_eq_true rfl, Nat.le_of_ble_eq_true rfl⟩ ?_
    refine lv_istore (lv' := [(5, .int z_43), (4, .ref (A_y1 0)), (0, .ref (A_b 0)), (1, .int x1), (2, .int x2), (3, .int x3)]) hx hb dX11_seen_15 hl (by decide) rfl (fun ls hl => ?_)
    refine lv_iload hx hb dX11_seen_17 (lv_at hl 0 rfl) ?_
    refine lv_if_eq (tgt := 29) hx hb dX11_seen_19 (by decide) (fun c_44 => ?_) (fun c_44 => ?_)
    · have h := it c_44 h
      refine lv_aload_n hx hb dX11_seen_29 rfl (lv_at hl 2 rfl) ?_
      refine lv_aload_n hx hb dX11_seen_30 rfl (lv_at hl 2 rfl) ?_
      refine lv_iload_n hx hb dX11_seen_31 rfl (lv_at hl 3 rfl) ?_
      refine lv_aload hx hb dX11_seen_32 (lv_at hl 1 rfl) ?_
      refine lv_iload_n hx hb dX11_seen_34 rfl (lv_at hl 5 rfl) ?_
      obtain ⟨z_45, e_z_45, h⟩ := bi h
      refine roVi (rest := [.ref (A_b 0)]) ⟨hx, hb, hml, hown, ht⟩ (c_X11_fittingCourages l D cy fu A_b (A_T 0) r_b_war r_b_draftArmy r_b_draftWar r_b_reader r_b_armyReader r_b_warReader r_b_markedArmies r_b_markedWars r_b_latest r_b_trial r_b_foresight r_b_pairs b_latestStatus b_fractionTop b_fractionBottom b_marks A_y1 y1_row y1_missing y1_sort y1_many A_a a_name a_courage a_weight a_medals a_stood a_fled a_liked a_votes a_count a_living a_pride a_quota a_melted a_lost x1 x3 z_45 e_z_45) (cV ht mv_X11_fittingCourages tb_1046 rfl rfl ⟨Nat.le_of_ble_eq_true rfl, Nat.le_of_ble_eq_true rfl⟩) (P_sub hP.1 [0, 3, 6] rfl) hX rfl rfl rfl hl.1 rfl (Nat.le_of_ble_eq_true rfl) dX11_seen_35 ⟨Nat.le_of_ble_eq_true rfl, Nat.le_of_ble_eq_true rfl⟩ ?_
      obtain ⟨z_46, e_z_46, h⟩ := bi h
      refine roSi (rest := [.ref (A_b 0)]) ⟨hx, hb, hml, hown, ht⟩ (c_J6_bitCount_0f7a4 l D cy fu  z_45 z_46 e_z_46) (cS ht ms_J6_bitCount_0f7a4 tb_852 rfl rfl ⟨Nat.le_of_ble_eq_true rfl, Nat.le_of_ble_eq_true rfl⟩) (P_sub hP.1 [] rfl) hX rfl hl.1 rfl (Nat.le_of_ble_eq_true rfl) dX11_seen_38 ⟨Nat.le_of_ble_eq_true rfl, Nat.le_of_ble_eq_true rfl⟩ ?_
      obtain ⟨z_47, e_z_47, h⟩ := bi h
      refine efVi (rest := []) ⟨hx, hb, hml, hown, ht⟩ (c_X11_answer l D cy fu A_b (A_T 0) (A_a 0) r_b_war r_b_draftArmy r_b_draftWar r_b_reader r_b_armyReader r_b_warReader r_b_markedArmies r_b_markedWars r_b_latest r_b_trial r_b_foresight r_b_pairs b_latestStatus b_fractionTop b_fractionBottom b_marks z_46 z_47 e_z_47 _ rfl _ rfl) (cV ht mv_X11_answer tb_696 rfl rfl ⟨Nat.le_of_ble_eq_true rfl, Nat.le_of_ble_eq_true rfl⟩) hP hS hX [0] rfl rfl rfl rfl rfl rfl hl.1 rfl (Nat.le_of_ble_eq_true rfl) dX11_seen_41 ⟨Nat.le_of_ble_eq_true rfl, Nat.le_of_ble_eq_true rfl⟩ (fun H locs hP hS => ?_)
      have hP : PD D A [bl_X11 cy A_b (A_T 0) (A_a 0) r_b_war r_b_draftArmy r_b_draftWar r_b_reader r_b_armyReader r_b_warReader r_b_markedArmies r_b_markedWars r_b_latest r_b_trial r_b_foresight r_b_pairs z_47.2 b_fractionTop b_fractionBottom b_marks, [(A_T 0, .inl (cy 4, 4, .inr (.inr (.inr (.inr (trf4 (A_y0 0) (A_y1 0) (A_y2 0) (A_y3 0)))))))], bl_X8 cy A_y0 y0_row y0_missing y0_sort y0_many, bl_X8 cy A_y1 y1_row y1_missing y1_sort y1_many, bl_X8 cy A_y2 y2_row y2_missing y2_sort y2_many, bl_X8 cy A_y3 y3_row y3_missing y3_sort y3_many, bl_X0 cy A_a a_name a_courage a_weight a_medals a_stood a_fled a_liked a_votes a_count a_living a_pride a_quota a_melted a_lost] H := hP
      cases h
      subst hW1
      exact W.iret hx hb hr (fun _ ht9 _ => ⟨⟨_, (), rfl, rfl, hPt ht9 hP.1⟩, hS.F ht9⟩) hS.2.2 dX11_seen_44
    · have h := ie c_44 h
      refine lv_aload_n hx hb dX11_seen_22 rfl (lv_at hl 2 rfl) ?_
      refine lv_iload hx hb dX11_seen_23 (lv_at hl 0 rfl) ?_
      obtain ⟨z_48, e_z_48, h⟩ := bi h
      refine efVi (rest := []) ⟨hx, hb, hml, hown, ht⟩ (c_X11_refuse l D cy fu A_b (A_T 0) (A_a 0) r_b_war r_b_draftArmy r_b_draftWar r_b_reader r_b_armyReader r_b_warReader r_b_markedArmies r_b_markedWars r_b_latest r_b_trial r_b_foresight r_b_pairs b_latestStatus b_fractionTop b_fractionBottom b_marks z_43 z_48 e_z_48 _ rfl _ rfl) (cV ht mv_X11_refuse tb_543 rfl rfl ⟨Nat.le_of_ble_eq_true rfl, Nat.le_of_ble_eq_true rfl⟩) hP hS hX [0] rfl rfl rfl rfl rfl rfl hl.1 rfl (Nat.le_of_ble_eq_true rfl) dX11_seen_25 ⟨Nat.le_of_ble_eq_true rfl, Nat.le_of_ble_eq_true rfl⟩ (fun H locs hP hS => ?_)
      have hP : PD D A [bl_X11 cy A_b (A_T 0) (A_a 0) r_b_war r_b_draftArmy r_b_draftWar r_b_reader r_b_armyReader r_b_warReader r_b_markedArmies r_b_markedWars r_b_latest r_b_trial r_b_foresight r_b_pairs z_48.2 b_fractionTop b_fractionBottom b_marks, [(A_T 0, .inl (cy 4, 4, .inr (.inr (.inr (.inr (trf4 (A_y0 0) (A_y1 0) (A_y2 0) (A_y3 0)))))))], bl_X8 cy A_y0 y0_row y0_missing y0_sort y0_many, bl_X8 cy A_y1 y1_row y1_missing y1_sort y1_many, bl_X8 cy A_y2 y2_row y2_missing y2_sort y2_many, bl_X8 cy A_y3 y3_row y3_missing y3_sort y3_many, bl_X0 cy A_a a_name a_courage a_weight a_medals a_stood a_fled a_liked a_votes a_count a_living a_pride a_quota a_melted a_lost] H := hP
      cases h
      subst hW1
      exact W.iret hx hb hr (fun _ ht9 _ => ⟨⟨_, (), rfl, rfl, hPt ht9 hP.1⟩, hS.F ht9⟩) hS.2.2 dX11_seen_28
  have h := ie c_42 h
  by_cases c_49 : x2 = 2
  · have h := it c_49 h
    refine roVq (rest := []) ⟨hx, hb, hml, hown, ht⟩ (c_X11_trayAt l D cy fu A_b (A_a 0) r_b_war r_b_draftArmy r_b_draftWar r_b_reader r_b_armyReader r_b_warReader r_b_markedArmies r_b_markedWars r_b_latest r_b_trial r_b_foresight r_b_pairs b_latestStatus b_fractionTop b_fractionBottom b_marks A_T (trf4 (A_y0 0) (A_y1 0) (A_y2 0) (A_y3 0)) x2 (some (A_y2 0)) (tray_2 c_49)) (cV ht mv_X11_trayAt tb_500 rfl rfl ⟨Nat.le_of_ble_eq_true rfl, Nat.le_of_ble_eq_true rfl⟩) (P_sub hP.1 [0, 1] rfl) hX rfl rfl rfl hl.1 rfl (Nat.le_of_ble_eq_true rfl) dX11_seen_2 ⟨Nat.le_of_ble_eq_true rfl, Nat.le_of_ble_eq_true rfl⟩ ?_
    refine lv_astore (lv' := [(4, .ref (A_y2 0)), (0, .ref (A_b 0)), (1, .int x1), (2, .int x2), (3, .int x3)]) hx hb dX11_seen_5 hl (by decide) rfl (fun ls hl => ?_)
    refine lv_aload_n hx hb dX11_seen_7 rfl (lv_at hl 1 rfl) ?_
    refine lv_iload_n hx hb dX11_seen_8 rfl (lv_at hl 2 rfl) ?_
    refine lv_aload hx hb dX11_seen_9 (lv_at hl 0 rfl) ?_
    refine lv_iload_n hx hb dX11_seen_11 rfl (lv_at hl 4 rfl) ?_
    obtain ⟨z_50, e_z_50, h⟩ := bi h
    refine roVi (rest := []) ⟨hx, hb, hml, hown, ht⟩ (c_X11_seenRefusal l D cy fu A_b (A_T 0) r_b_war r_b_draftArmy r_b_draftWar r_b_reader r_b_armyReader r_b_warReader r_b_markedArmies r_b_markedWars r_b_latest r_b_trial r_b_foresight r_b_pairs b_latestStatus b_fractionTop b_fractionBottom b_marks A_y2 y2_row y2_missing y2_sort y2_many A_a a_name a_courage a_weight a_medals a_stood a_fled a_liked a_votes a_count a_living a_pride a_quota a_melted a_lost x1 x3 z_50 e_z_50) (cV ht mv_X11_seenRefusal tb_1042 rfl rfl ⟨Nat.le_of_ble_eq_true rfl, Nat.le_of_ble_eq_true rfl⟩) (P_sub hP.1 [0, 4, 6] rfl) hX rfl rfl rfl hl.1 rfl (Nat.le_of_ble_eq_true rfl) dX11_seen_12 ⟨Nat.le_of_ble_eq_true rfl, Nat.le_of_ble_eq_true rfl⟩ ?_
    refine lv_istore (lv' := [(5, .int z_50), (4, .ref (A_y2 0)), (0, .ref (A_b 0)), (1, .int x1), (2, .int x2), (3, .int x3)]) hx hb dX11_seen_15 hl (by decide) rfl (fun ls hl => ?_)
    refine lv_iload hx hb dX11_seen_17 (lv_at hl 0 rfl) ?_
    refine lv_if_eq (tgt := 29) hx hb dX11_seen_19 (by decide) (fun c_51 => ?_) (fun c_51 => ?_)
    · have h := it c_51 h
      refine lv_aload_n hx hb dX11_seen_29 rfl (lv_at hl 2 rfl) ?_
      refine lv_aload_n hx hb dX11_seen_30 rfl (lv_at hl 2 rfl) ?_
      refine lv_iload_n hx hb dX11_seen_31 rfl (lv_at hl 3 rfl) ?_
      refine lv_aload hx hb dX11_seen_32 (lv_at hl 1 rfl) ?_
      refine lv_iload_n hx hb dX11_seen_34 rfl (lv_at hl 5 rfl) ?_
      obtain ⟨z_52, e_z_52, h⟩ := bi h
      refine roVi (rest := [.ref (A_b 0)]) ⟨hx, hb, hml, hown, ht⟩ (c_X11_fittingCourages l D cy fu A_b (A_T 0) r_b_war r_b_draftArmy r_b_draftWar r_b_reader r_b_armyReader r_b_warReader r_b_markedArmies r_b_markedWars r_b_latest r_b_trial r_b_foresight r_b_pairs b_latestStatus b_fractionTop b_fractionBottom b_marks A_y2 y2_row y2_missing y2_sort y2_many A_a a_name a_courage a_weight a_medals a_stood a_fled a_liked a_votes a_count a_living a_pride a_quota a_melted a_lost x1 x3 z_52 e_z_52) (cV ht mv_X11_fittingCourages tb_1046 rfl rfl ⟨Nat.le_of_ble_eq_true rfl, Nat.le_of_ble_eq_true rfl⟩) (P_sub hP.1 [0, 4, 6] rfl) hX rfl rfl rfl hl.1 rfl (Nat.le_of_ble_eq_true rfl) dX11_seen_35 ⟨Nat.le_of_ble_eq_true rfl, Nat.le_of_ble_eq_true rfl⟩ ?_
      obtain ⟨z_53, e_z_53, h⟩ := bi h
      refine roSi (rest := [.ref (A_b 0)]) ⟨hx, hb, hml, hown, ht⟩ (c_J6_bitCount_0f7a4 l D cy fu  z_52 z_53 e_z_53) (cS ht ms_J6_bitCount_0f7a4 tb_852 rfl rfl ⟨Nat.le_of_ble_eq_true rfl, Nat.le_of_ble_eq_true rfl⟩) (P_sub hP.1 [] rfl) hX rfl hl.1 rfl (Nat.le_of_ble_eq_true rfl) dX11_seen_38 ⟨Nat.le_of_ble_eq_true rfl, Nat.le_of_ble_eq_true rfl⟩ ?_
      obtain ⟨z_54, e_z_54, h⟩ := bi h
      refine efVi (rest := []) ⟨hx, hb, hml, hown, ht⟩ (c_X11_answer l D cy fu A_b (A_T 0) (A_a 0) r_b_war r_b_draftArmy r_b_draftWar r_b_reader r_b_armyReader r_b_warReader r_b_markedArmies r_b_markedWars r_b_latest r_b_trial r_b_foresight r_b_pairs b_latestStatus b_fractionTop b_fractionBottom b_marks z_53 z_54 e_z_54 _ rfl _ rfl) (cV ht mv_X11_answer tb_696 rfl rfl ⟨Nat.le_of_ble_eq_true rfl, Nat.le_of_ble_eq_true rfl⟩) hP hS hX [0] rfl rfl rfl rfl rfl rfl hl.1 rfl (Nat.le_of_ble_eq_true rfl) dX11_seen_41 ⟨Nat.le_of_ble_eq_true rfl, Nat.le_of_ble_eq_true rfl⟩ (fun H locs hP hS => ?_)
      have hP : PD D A [bl_X11 cy A_b (A_T 0) (A_a 0) r_b_war r_b_draftArmy r_b_draftWar r_b_reader r_b_armyReader r_b_warReader r_b_markedArmies r_b_markedWars r_b_latest r_b_trial r_b_foresight r_b_pairs z_54.2 b_fractionTop b_fractionBottom b_marks, [(A_T 0, .inl (cy 4, 4, .inr (.inr (.inr (.inr (trf4 (A_y0 0) (A_y1 0) (A_y2 0) (A_y3 0)))))))], bl_X8 cy A_y0 y0_row y0_missing y0_sort y0_many, bl_X8 cy A_y1 y1_row y1_missing y1_sort y1_many, bl_X8 cy A_y2 y2_row y2_missing y2_sort y2_many, bl_X8 cy A_y3 y3_row y3_missing y3_sort y3_many, bl_X0 cy A_a a_name a_courage a_weight a_medals a_stood a_fled a_liked a_votes a_count a_living a_pride a_quota a_melted a_lost] H := hP
      cases h
      subst hW1
      exact W.iret hx hb hr (fun _ ht9 _ => ⟨⟨_, (), rfl, rfl, hPt ht9 hP.1⟩, hS.F ht9⟩) hS.2.2 dX11_seen_44
    · have h := ie c_51 h
      refine lv_aload_n hx hb dX11_seen_22 rfl (lv_at hl 2 rfl) ?_
      refine lv_iload hx hb dX11_seen_23 (lv_at hl 0 rfl) ?_
      obtain ⟨z_55, e_z_55, h⟩ := bi h
      refine efVi (rest := []) ⟨hx, hb, hml, hown, ht⟩ (c_X11_refuse l D cy fu A_b (A_T 0) (A_a 0) r_b_war r_b_draftArmy r_b_draftWar r_b_reader r_b_armyReader r_b_warReader r_b_markedArmies r_b_markedWars r_b_latest r_b_trial r_b_foresight r_b_pairs b_latestStatus b_fractionTop b_fractionBottom b_marks z_50 z_55 e_z_55 _ rfl _ rfl) (cV ht mv_X11_refuse tb_543 rfl rfl ⟨Nat.le_of_ble_eq_true rfl, Nat.le_of_ble_eq_true rfl⟩) hP hS hX [0] rfl rfl rfl rfl rfl rfl hl.1 rfl (Nat.le_of_ble_eq_true rfl) dX11_seen_25 ⟨Nat.le_of_ble_eq_true rfl, Nat.le_of_ble_eq_true rfl⟩ (fun H locs hP hS => ?_)
      have hP : PD D A [bl_X11 cy A_b (A_T 0) (A_a 0) r_b_war r_b_draftArmy r_b_draftWar r_b_reader r_b_armyReader r_b_warReader r_b_markedArmies r_b_markedWars r_b_latest r_b_trial r_b_foresight r_b_pairs z_55.2 b_fractionTop b_fractionBottom b_marks, [(A_T 0, .inl (cy 4, 4, .inr (.inr (.inr (.inr (trf4 (A_y0 0) (A_y1 0) (A_y2 0) (A_y3 0)))))))], bl_X8 cy A_y0 y0_row y0_missing y0_sort y0_many, bl_X8 cy A_y1 y1_row y1_missing y1_sort y1_many, bl_X8 cy A_y2 y2_row y2_missing y2_sort y2_many, bl_X8 cy A_y3 y3_row y3_missing y3_sort y3_many, bl_X0 cy A_a a_name a_courage a_weight a_medals a_stood a_fled a_liked a_votes a_count a_living a_pride a_quota a_melted a_lost] H := hP
      cases h
      subst hW1
      exact W.iret hx hb hr (fun _ ht9 _ => ⟨⟨_, (), rfl, rfl, hPt ht9 hP.1⟩, hS.F ht9⟩) hS.2.2 dX11_seen_28
  have h := ie c_49 h
  by_cases c_56 : x2 = 3
  · have h := it c_56 h
    refine roVq (rest := []) ⟨hx, hb, hml, hown, ht⟩ (c_X11_trayAt l D cy fu A_b (A_a 0) r_b_war r_b_draftArmy r_b_draftWar r_b_reader r_b_armyReader r_b_warReader r_b_markedArmies r_b_markedWars r_b_latest r_b_trial r_b_foresight r_b_pairs b_latestStatus b_fractionTop b_fractionBottom b_marks A_T (trf4 (A_y0 0) (A_y1 0) (A_y2 0) (A_y3 0)) x2 (some (A_y3 0)) (tray_3 c_56)) (cV ht mv_X11_trayAt tb_500 rfl rfl ⟨Nat.le_of_ble_eq_true rfl, Nat.le_of_ble_eq_true rfl⟩) (P_sub hP.1 [0, 1] rfl) hX rfl rfl rfl hl.1 rfl (Nat.le_of_ble_eq_true rfl) dX11_seen_2 ⟨Nat.le_of_ble_eq_true rfl, Nat.le_of_ble_eq_true rfl⟩ ?_
    refine lv_astore (lv' := [(4, .ref (A_y3 0)), (0, .ref (A_b 0)), (1, .int x1), (2, .int x2), (3, .int x3)]) hx hb dX11_seen_5 hl (by decide) rfl (fun ls hl => ?_)
    refine lv_aload_n hx hb dX11_seen_7 rfl (lv_at hl 1 rfl) ?_
    refine lv_iload_n hx hb dX11_seen_8 rfl (lv_at hl 2 rfl) ?_
    refine lv_aload hx hb dX11_seen_9 (lv_at hl 0 rfl) ?_
    refine lv_iload_n hx hb dX11_seen_11 rfl (lv_at hl 4 rfl) ?_
    obtain ⟨z_57, e_z_57, h⟩ := bi h
    refine roVi (rest := []) ⟨hx, hb, hml, hown, ht⟩ (c_X11_seenRefusal l D cy fu A_b (A_T 0) r_b_war r_b_draftArmy r_b_draftWar r_b_reader r_b_armyReader r_b_warReader r_b_markedArmies r_b_markedWars r_b_latest r_b_trial r_b_foresight r_b_pairs b_latestStatus b_fractionTop b_fractionBottom b_marks A_y3 y3_row y3_missing y3_sort y3_many A_a a_name a_courage a_weight a_medals a_stood a_fled a_liked a_votes a_count a_living a_pride a_quota a_melted a_lost x1 x3 z_57 e_z_57) (cV ht mv_X11_seenRefusal tb_1042 rfl rfl ⟨Nat.le_of_ble_eq_true rfl, Nat.le_of_ble_eq_true rfl⟩) (P_sub hP.1 [0, 5, 6] rfl) hX rfl rfl rfl hl.1 rfl (Nat.le_of_ble_eq_true rfl) dX11_seen_12 ⟨Nat.le_of_ble_eq_true rfl, Nat.le_of_ble_eq_true rfl⟩ ?_
    refine lv_istore (lv' := [(5, .int z_57), (4, .ref (A_y3 0)), (0, .ref (A_b 0)), (1, .int x1), (2, .int x2), (3, .int x3)]) hx hb dX11_seen_15 hl (by decide) rfl (fun ls hl => ?_)
    refine lv_iload hx hb dX11_seen_17 (lv_at hl 0 rfl) ?_
    refine lv_if_eq (tgt := 29) hx hb dX11_seen_19 (by decide) (fun c_58 => ?_) (fun c_58 => ?_)
    · have h := it c_58 h
      refine lv_aload_n hx hb dX11_seen_29 rfl (lv_at hl 2 rfl) ?_
      refine lv_aload_n hx hb dX11_seen_30 rfl (lv_at hl 2 rfl) ?_
      refine lv_iload_n hx hb dX11_seen_31 rfl (lv_at hl 3 rfl) ?_
      refine lv_aload hx hb dX11_seen_32 (lv_at hl 1 rfl) ?_
      refine lv_iload_n hx hb dX11_seen_34 rfl (lv_at hl 5 rfl) ?_
      obtain ⟨z_59, e_z_59, h⟩ := bi h
      refine roVi (rest := [.ref (A_b 0)]) ⟨hx, hb, hml, hown, ht⟩ (c_X11_fittingCourages l D cy fu A_b (A_T 0) r_b_war r_b_draftArmy r_b_draftWar r_b_reader r_b_armyReader r_b_warReader r_b_markedArmies r_b_markedWars r_b_latest r_b_trial r_b_foresight r_b_pairs b_latestStatus b_fractionTop b_fractionBottom b_marks A_y3 y3_row y3_missing y3_sort y3_many A_a a_name a_courage a_weight a_medals a_stood a_fled a_liked a_votes a_count a_living a_pride a_quota a_melted a_lost x1 x3 z_59 e_z_59) (cV ht mv_X11_fittingCourages tb_1046 rfl rfl ⟨Nat.le_of_ble_eq_true rfl, Nat.le_of_ble_eq_true rfl⟩) (P_sub hP.1 [0, 5, 6] rfl) hX rfl rfl rfl hl.1 rfl (Nat.le_of_ble_eq_true rfl) dX11_seen_35 ⟨Nat.le_of_ble_eq_true rfl, Nat.le_of_ble_eq_true rfl⟩ ?_
      obtain ⟨z_60, e_z_60, h⟩ := bi h
      refine roSi (rest := [.ref (A_b 0)]) ⟨hx, hb, hml, hown, ht⟩ (c_J6_bitCount_0f7a4 l D cy fu  z_59 z_60 e_z_60) (cS ht ms_J6_bitCount_0f7a4 tb_852 rfl rfl ⟨Nat.le_of_ble_eq_true rfl, Nat.le_of_ble_eq_true rfl⟩) (P_sub hP.1 [] rfl) hX rfl hl.1 rfl (Nat.le_of_ble_eq_true rfl) dX11_seen_38 ⟨Nat.le_of_ble_eq_true rfl, Nat.le_of_ble_eq_true rfl⟩ ?_
      obtain ⟨z_61, e_z_61, h⟩ := bi h
      refine efVi (rest := []) ⟨hx, hb, hml, hown, ht⟩ (c_X11_answer l D cy fu A_b (A_T 0) (A_a 0) r_b_war r_b_draftArmy r_b_draftWar r_b_reader r_b_armyReader r_b_warReader r_b_markedArmies r_b_markedWars r_b_latest r_b_trial r_b_foresight r_b_pairs b_latestStatus b_fractionTop b_fractionBottom b_marks z_60 z_61 e_z_61 _ rfl _ rfl) (cV ht mv_X11_answer tb_696 rfl rfl ⟨Nat.le_of_ble_eq_true rfl, Nat.le_of_ble_eq_true rfl⟩) hP hS hX [0] rfl rfl rfl rfl rfl rfl hl.1 rfl (Nat.le_of_ble_eq_true rfl) dX11_seen_41 ⟨Nat.le_of_ble_eq_true rfl, Nat.le_of_ble_eq_true rfl⟩ (fun H locs hP hS => ?_)
      have hP : PD D A [bl_X11 cy A_b (A_T 0) (A_a 0) r_b_war r_b_draftArmy r_b_draftWar r_b_reader r_b_armyReader r_b_warReader r_b_markedArmies r_b_markedWars r_b_latest r_b_trial r_b_foresight r_b_pairs z_61.2 b_fractionTop b_fractionBottom b_marks, [(A_T 0, .inl (cy 4, 4, .inr (.inr (.inr (.inr (trf4 (A_y0 0) (A_y1 0) (A_y2 0) (A_y3 0)))))))], bl_X8 cy A_y0 y0_row y0_missing y0_sort y0_many, bl_X8 cy A_y1 y1_row y1_missing y1_sort y1_many, bl_X8 cy A_y2 y2_row y2_missing y2_sort y2_many, bl_X8 cy A_y3 y3_row y3_missing y3_sort y3_many, bl_X0 cy A_a a_name a_courage a_weight a_medals a_stood a_fled a_liked a_votes a_count a_living a_pride a_quota a_melted a_lost] H := hP
      cases h
      subst hW1
      exact W.iret hx hb hr (fun _ ht9 _ => ⟨⟨_, (), rfl, rfl, hPt ht9 hP.1⟩, hS.F ht9⟩) hS.2.2 dX11_seen_44
    · have h := ie c_58 h
      refine lv_aload_n hx hb dX11_seen_22 rfl (lv_at hl 2 rfl) ?_
      refine lv_iload hx hb dX11_seen_23 (lv_at hl 0 rfl) ?_
      obtain ⟨z_62, e_z_62, h⟩ := bi h
      refine efVi (rest := []) ⟨hx, hb, hml, hown, ht⟩ (c_X11_refuse l D cy fu A_b (A_T 0) (A_a 0) r_b_war r_b_draftArmy r_b_draftWar r_b_reader r_b_armyReader r_b_warReader r_b_markedArmies r_b_markedWars r_b_latest r_b_trial r_b_foresight r_b_pairs b_latestStatus b_fractionTop b_fractionBottom b_marks z_57 z_62 e_z_62 _ rfl _ rfl) (cV ht mv_X11_refuse tb_543 rfl rfl ⟨Nat.le_of_ble_eq_true rfl, Nat.le_of_ble_eq_true rfl⟩) hP hS hX [0] rfl rfl rfl rfl rfl rfl hl.1 rfl (Nat.le_of_ble_eq_true rfl) dX11_seen_25 ⟨Nat.le_of_ble_eq_true rfl, Nat.le_of_ble_eq_true rfl⟩ (fun H locs hP hS => ?_)
      have hP : PD D A [bl_X11 cy A_b (A_T 0) (A_a 0) r_b_war r_b_draftArmy r_b_draftWar r_b_reader r_b_armyReader r_b_warReader r_b_markedArmies r_b_markedWars r_b_latest r_b_trial r_b_foresight r_b_pairs z_62.2 b_fractionTop b_fractionBottom b_marks, [(A_T 0, .inl (cy 4, 4, .inr (.inr (.inr (.inr (trf4 (A_y0 0) (A_y1 0) (A_y2 0) (A_y3 0)))))))], bl_X8 cy A_y0 y0_row y0_missing y0_sort y0_many, bl_X8 cy A_y1 y1_row y1_missing y1_sort y1_many, bl_X8 cy A_y2 y2_row y2_missing y2_sort y2_many, bl_X8 cy A_y3 y3_row y3_missing y3_sort y3_many, bl_X0 cy A_a a_name a_courage a_weight a_medals a_stood a_fled a_liked a_votes a_count a_living a_pride a_quota a_melted a_lost] H := hP
      cases h
      subst hW1
      exact W.iret hx hb hr (fun _ ht9 _ => ⟨⟨_, (), rfl, rfl, hPt ht9 hP.1⟩, hS.F ht9⟩) hS.2.2 dX11_seen_28
  have h := ie c_56 h
  refine roVq (rest := []) ⟨hx, hb, hml, hown, ht⟩ (c_X11_trayAt l D cy fu A_b (A_a 0) r_b_war r_b_draftArmy r_b_draftWar r_b_reader r_b_armyReader r_b_warReader r_b_markedArmies r_b_markedWars r_b_latest r_b_trial r_b_foresight r_b_pairs b_latestStatus b_fractionTop b_fractionBottom b_marks A_T (trf4 (A_y0 0) (A_y1 0) (A_y2 0) (A_y3 0)) x2 (none) (tray_out ⟨c_35, c_42, c_49, c_56⟩)) (cV ht mv_X11_trayAt tb_500 rfl rfl ⟨Nat.le_of_ble_eq_true rfl, Nat.le_of_ble_eq_true rfl⟩) (P_sub hP.1 [0, 1] rfl) hX rfl rfl rfl hl.1 rfl (Nat.le_of_ble_eq_true rfl) dX11_seen_2 ⟨Nat.le_of_ble_eq_true rfl, Nat.le_of_ble_eq_true rfl⟩ ?_
  refine lv_astoreN (lv' := [(4, .null), (0, .ref (A_b 0)), (1, .int x1), (2, .int x2), (3, .int x3)]) hx hb dX11_seen_5 hl (by decide) rfl (fun ls hl => ?_)
  refine lv_aload_n hx hb dX11_seen_7 rfl (lv_at hl 1 rfl) ?_
  refine lv_iload_n hx hb dX11_seen_8 rfl (lv_at hl 2 rfl) ?_
  refine lv_aloadN hx hb dX11_seen_9 (lv_at hl 0 rfl) ?_
  refine lv_iload_n hx hb dX11_seen_11 rfl (lv_at hl 4 rfl) ?_
  obtain ⟨z_63, e_z_63, h⟩ := bi h
  refine roVi (rest := []) ⟨hx, hb, hml, hown, ht⟩ (c_X11_seenRefusal_n2 l D cy fu A_b (A_T 0) r_b_war r_b_draftArmy r_b_draftWar r_b_reader r_b_armyReader r_b_warReader r_b_markedArmies r_b_markedWars r_b_latest r_b_trial r_b_foresight r_b_pairs b_latestStatus b_fractionTop b_fractionBottom b_marks A_a a_name a_courage a_weight a_medals a_stood a_fled a_liked a_votes a_count a_living a_pride a_quota a_melted a_lost x1 x3 z_63 e_z_63) (cV ht mv_X11_seenRefusal tb_1042 rfl rfl ⟨Nat.le_of_ble_eq_true rfl, Nat.le_of_ble_eq_true rfl⟩) (P_sub hP.1 [0, 6] rfl) hX rfl rfl rfl hl.1 rfl (Nat.le_of_ble_eq_true rfl) dX11_seen_12 ⟨Nat.le_of_ble_eq_true rfl, Nat.le_of_ble_eq_true rfl⟩ ?_
  refine lv_istore (lv' := [(5, .int z_63), (4, .null), (0, .ref (A_b 0)), (1, .int x1), (2, .int x2), (3, .int x3)]) hx hb dX11_seen_15 hl (by decide) rfl (fun ls hl => ?_)
  refine lv_iload hx hb dX11_seen_17 (lv_at hl 0 rfl) ?_
  refine lv_if_eq (tgt := 29) hx hb dX11_seen_19 (by decide) (fun c_64 => ?_) (fun c_64 => ?_)
  · have h := it c_64 h
    refine lv_aload_n hx hb dX11_seen_29 rfl (lv_at hl 2 rfl) ?_
    refine lv_aload_n hx hb dX11_seen_30 rfl (lv_at hl 2 rfl) ?_
    refine lv_iload_n hx hb dX11_seen_31 rfl (lv_at hl 3 rfl) ?_
    refine lv_aloadN hx hb dX11_seen_32 (lv_at hl 1 rfl) ?_
    refine lv_iload_n hx hb dX11_seen_34 rfl (lv_at hl 5 rfl) ?_
    obtain ⟨z_65, e_z_65, h⟩ := bi h
    refine roVi (rest := [.ref (A_b 0)]) ⟨hx, hb, hml, hown, ht⟩ (c_X11_fittingCourages_n2 l D cy fu A_b (A_T 0) (A_a 0) r_b_war r_b_draftArmy r_b_draftWar r_b_reader r_b_armyReader r_b_warReader r_b_markedArmies r_b_markedWars r_b_latest r_b_trial r_b_foresight r_b_pairs b_latestStatus b_fractionTop b_fractionBottom b_marks x1 x3 z_65 e_z_65) (cV ht mv_X11_fittingCourages tb_1046 rfl rfl ⟨Nat.le_of_ble_eq_true rfl, Nat.le_of_ble_eq_true rfl⟩) (P_sub hP.1 [0] rfl) hX rfl rfl rfl hl.1 rfl (Nat.le_of_ble_eq_true rfl) dX11_seen_35 ⟨Nat.le_of_ble_eq_true rfl, Nat.le_of_ble_eq_true rfl⟩ ?_
    obtain ⟨z_66, e_z_66, h⟩ := bi h
    refine roSi (rest := [.ref (A_b 0)]) ⟨hx, hb, hml, hown, ht⟩ (c_J6_bitCount_0f7a4 l D cy fu  z_65 z_66 e_z_66) (cS ht ms_J6_bitCount_0f7a4 tb_852 rfl rfl ⟨Nat.le_of_ble_eq_true rfl, Nat.le_of_ble_eq_true rfl⟩) (P_sub hP.1 [] rfl) hX rfl hl.1 rfl (Nat.le_of_ble_eq_true rfl) dX11_seen_38 ⟨Nat.le_of_ble_eq_true rfl, Nat.le_of_ble_eq_true rfl⟩ ?_
    obtain ⟨z_67, e_z_67, h⟩ := bi h
    refine efVi (rest := []) ⟨hx, hb, hml, hown, ht⟩ (c_X11_answer l D cy fu A_b (A_T 0) (A_a 0) r_b_war r_b_draftArmy r_b_draftWar r_b_reader r_b_armyReader r_b_warReader r_b_markedArmies r_b_markedWars r_b_latest r_b_trial r_b_foresight r_b_pairs b_latestStatus b_fractionTop b_fractionBottom b_marks z_66 z_67 e_z_67 _ rfl _ rfl) (cV ht mv_X11_answer tb_696 rfl rfl ⟨Nat.le_of_ble_eq_true rfl, Nat.le_of_ble_eq_true rfl⟩) hP hS hX [0] rfl rfl rfl rfl rfl rfl hl.1 rfl (Nat.le_of_ble_eq_true rfl) dX11_seen_41 ⟨Nat.le_of_ble_eq_true rfl, Nat.le_of_ble_eq_true rfl⟩ (fun H locs hP hS => ?_)
    have hP : PD D A [bl_X11 cy A_b (A_T 0) (A_a 0) r_b_war r_b_draftArmy r_b_draftWar r_b_reader r_b_armyReader r_b_warReader r_b_markedArmies r_b_markedWars r_b_latest r_b_trial r_b_foresight r_b_pairs z_67.2 b_fractionTop b_fractionBottom b_marks, [(A_T 0, .inl (cy 4, 4, .inr (.inr (.inr (.inr (trf4 (A_y0 0) (A_y1 0) (A_y2 0) (A_y3 0)))))))], bl_X8 cy A_y0 y0_row y0_missing y0_sort y0_many, bl_X8 cy A_y1 y1_row y1_missing y1_sort y1_many, bl_X8 cy A_y2 y2_row y2_missing y2_sort y2_many, bl_X8 cy A_y3 y3_row y3_missing y3_sort y3_many, bl_X0 cy A_a a_name a_courage a_weight a_medals a_stood a_fled a_liked a_votes a_count a_living a_pride a_quota a_melted a_lost] H := hP
    cases h
    subst hW1
    exact W.iret hx hb hr (fun _ ht9 _ => ⟨⟨_, (), rfl, rfl, hPt ht9 hP.1⟩, hS.F ht9⟩) hS.2.2 dX11_seen_44
  · have h := ie c_64 h
    refine lv_aload_n hx hb dX11_seen_22 rfl (lv_at hl 2 rfl) ?_
    refine lv_iload hx hb dX11_seen_23 (lv_at hl 0 rfl) ?_
    obtain ⟨z_68, e_z_68, h⟩ := bi h
    refine efVi (rest := []) ⟨hx, hb, hml, hown, ht⟩ (c_X11_refuse l D cy fu A_b (A_T 0) (A_a 0) r_b_war r_b_draftArmy r_b_draftWar r_b_reader r_b_armyReader r_b_warReader r_b_markedArmies r_b_markedWars r_b_latest r_b_trial r_b_foresight r_b_pairs b_latestStatus b_fractionTop b_fractionBottom b_marks z_63 z_68 e_z_68 _ rfl _ rfl) (cV ht mv_X11_refuse tb_543 rfl rfl ⟨Nat.le_of_ble_eq_true rfl, Nat.le_of_ble_eq_true rfl⟩) hP hS hX [0] rfl rfl rfl rfl rfl rfl hl.1 rfl (Nat.le_of_ble_eq_true rfl) dX11_seen_25 ⟨Nat.le_of_ble_eq_true rfl, Nat.le_of_ble_eq_true rfl⟩ (fun H locs hP hS => ?_)
    have hP : PD D A [bl_X11 cy A_b (A_T 0) (A_a 0) r_b_war r_b_draftArmy r_b_draftWar r_b_reader r_b_armyReader r_b_warReader r_b_markedArmies r_b_markedWars r_b_latest r_b_trial r_b_foresight r_b_pairs z_68.2 b_fractionTop b_fractionBottom b_marks, [(A_T 0, .inl (cy 4, 4, .inr (.inr (.inr (.inr (trf4 (A_y0 0) (A_y1 0) (A_y2 0) (A_y3 0)))))))], bl_X8 cy A_y0 y0_row y0_missing y0_sort y0_many, bl_X8 cy A_y1 y1_row y1_missing y1_sort y1_many, bl_X8 cy A_y2 y2_row y2_missing y2_sort y2_many, bl_X8 cy A_y3 y3_row y3_missing y3_sort y3_many, bl_X0 cy A_a a_name a_courage a_weight a_medals a_stood a_fled a_liked a_votes a_count a_living a_pride a_quota a_melted a_lost] H := hP
    cases h
    subst hW1
    exact W.iret hx hb hr (fun _ ht9 _ => ⟨⟨_, (), rfl, rfl, hPt ht9 hP.1⟩, hS.F ht9⟩) hS.2.2 dX11_seen_28
theorem dX11_lastOf_0 : decode cX11_lastOf 0 = .ok (.bipush 20, 2) := by decide +kernel
theorem dX11_lastOf_2 : decode cX11_lastOf 2 = .ok (.istore_n 1, 1) := by decide +kernel
theorem dX11_lastOf_3 : decode cX11_lastOf 3 = .ok (.iload_n 1, 1) := by decide +kernel
theorem dX11_lastOf_4 : decode cX11_lastOf 4 = .ok (.ifCond .lt 19, 3) := by decide +kernel
theorem dX11_lastOf_7 : decode cX11_lastOf 7 = .ok (.iload_n 0, 1) := by decide +kernel
theorem dX11_lastOf_8 : decode cX11_lastOf 8 = .ok (.iload_n 1, 1) := by decide +kernel
theorem dX11_lastOf_9 : decode cX11_lastOf 9 = .ok (.invokestatic 306, 3) := by decide +kernel
theorem dX11_lastOf_12 : decode cX11_lastOf 12 = .ok (.ifCond .eq 5, 3) := by decide +kernel
theorem dX11_lastOf_15 : decode cX11_lastOf 15 = .ok (.iload_n 1, 1) := by decide +kernel
theorem dX11_lastOf_16 : decode cX11_lastOf 16 = .ok (.ireturn, 1) := by decide +kernel
theorem dX11_lastOf_17 : decode cX11_lastOf 17 = .ok (.iinc 1 (-1), 3) := by decide +kernel
theorem dX11_lastOf_20 : decode cX11_lastOf 20 = .ok (.goto (-17), 3) := by decide +kernel
theorem dX11_lastOf_23 : decode cX11_lastOf 23 = .ok (.iconst (-1), 1) := by decide +kernel
theorem dX11_lastOf_24 : decode cX11_lastOf 24 = .ok (.ireturn, 1) := by decide +kernel
theorem ms_X11_lastOf : MS yX11_lastOf cX11_lastOf 2 (some .int) 1 := ⟨tb_1058, tb_1057, tb_1, by decide +kernel, by decide +kernel, by decide +kernel⟩
def f_X11_lastOf_b3 (fu : Nat) (x0 : Int32) (k3 : Int32 → Option (Int32)) (x1 : Int32) : Option (Int32) := (if x1 < 0 then some ((-1)) else (f_X11_holds fu x0 x1).bind fun z_6 => (if z_6 = 0 then bnd (x1 + (-1)) fun x1_8 => k3 x1_8 else some (x1)))
def f_X11_lastOf_l3 (fu : Nat) (x0 : Int32) : Nat → Int32 → Option (Int32)
  | 0, _ => none
  | n + 1, x1 => f_X11_lastOf_b3 fu x0 (f_X11_lastOf_l3 fu x0 n) x1
def f_X11_lastOf (fu : Nat) (x0 : Int32) : Option (Int32) := f_X11_lastOf_l3 fu x0 fu 20
abbrev rm_X11_lastOf : Room := { frames := 2, cells := 0, slots := 0, locals := 43 }
set_option maxHeartbeats 4000000 in
set_option maxRecDepth 100000 in
theorem c_X11_lastOf (l : Launch) (D : va_G) (cy : Nat → ClassId) (fu : Nat) (x0 : Int32) (res : Int32) (h : f_X11_lastOf fu x0 = some res) : Met l yX11_lastOf (WW yX11_lastOf cX11_lastOf 2 (some .int)) rm_X11_lastOf (Rd D cy [.int x0] []) (vp_Si (fun v => v = res)) 0 0 (fun _ => False) := by
  refine Met.ofW (cc := cX11_lastOf) (maxL := 2) (ret := (some .int)) (by decide) rfl ?_
  intro p e s m args below meth c s₁ B hml hv
  obtain ⟨hargs, hP, hX⟩ := hv
  have hx := B.exec
  have hb := B.bytes
  have hr := B.returns
  have ht : ∀ w ∈ lw_gd, w.before args s = true := fun w hw => atoms_spec (ws := WW yX11_lastOf cX11_lastOf 2 (some .int)) B.pre w (List.mem_cons_of_mem _ hw)
  have hown : s.vm.findClass RX11 = some m.cls := findClass_of_methodNamed B.named
  have hlocks := B.notSynchronized
  have hP : PB D [] s.heap := hP
  obtain ⟨ls, hl, hent⟩ := ent (m := m) (n := 2) hargs (Nat.le_of_ble_eq_true rfl) (lv := [(0, .int x0)]) rfl
  rw [hent]
  clear hent
  have l3 : ∀ (n3 : Nat) (x1 : Int32) (ls : Array Slot), lv_has ls 2 [(0, .int x0), (1, .int x1)] → f_X11_lastOf_l3 fu x0 n3 x1 = some res → W p l e (headSpec (WW yX11_lastOf cX11_lastOf 2 (some .int)) rm_X11_lastOf).room s m args below meth c s.heap [] 0 0 (MQ below (vp_Si (fun v => v = res)) args s 0 0 (fun _ => False)) (F0 m 3 ls []) := by
    intro n3
    induction n3 with
    | zero => intro x1 ls hl h; cases h
    | succ n3 ih3 =>
      intro x1 ls hl h
      have h : f_X11_lastOf_b3 fu x0 (f_X11_lastOf_l3 fu x0 n3) x1 = some res := h
      unfold f_X11_lastOf_b3 at h
      refine lv_iload_n hx hb dX11_lastOf_3 rfl (lv_at hl 1 rfl) ?_
      refine lv_if_lt (tgt := 23) hx hb dX11_lastOf_4 (by decide) (fun c_5 => ?_) (fun c_5 => ?_)
      · have h := it c_5 h
        refine lv_iconst (v := (-1)) hx hb dX11_lastOf_23 (by decide) ?_
        cases h
        exact W.iret hx hb hr (fun _ ht9 _ => ⟨_, rfl, rfl, ht9⟩) (fun _ hq => by cases hq) dX11_lastOf_24
      · have h := ie c_5 h
        refine lv_iload_n hx hb dX11_lastOf_7 rfl (lv_at hl 0 rfl) ?_
        refine lv_iload_n hx hb dX11_lastOf_8 rfl (lv_at hl 1 rfl) ?_
        obtain ⟨z_6, e_z_6, h⟩ := bi h
        refine roSi (rest := []) ⟨hx, hb, hml, hown, ht⟩ (c_X11_holds l D cy fu  x0 x1 z_6 e_z_6) (cS ht ms_X11_holds tb_906 rfl rfl ⟨Nat.le_of_ble_eq_true rfl, Nat.le_of_ble_eq_true rfl⟩) (P_sub hP [] rfl) hX rfl hl.1 rfl (Nat.le_of_ble_eq_true rfl) dX11_lastOf_9 ⟨Nat.le_of_ble_eq_true rfl, Nat.le_of_ble_eq_true rfl⟩ ?_
        refine lv_if_eq (tgt := 17) hx hb dX11_lastOf_12 (by decide) (fun c_7 => ?_) (fun c_7 => ?_)
        · have h := it c_7 h
          obtain ⟨x1_8, e_x1_8⟩ : ∃ y : Int32, y = x1 + (-1) := ⟨_, rfl⟩
          have h := bn e_x1_8 h
          refine lv_iinc (v := x1_8) (lv' := [(1, .int x1_8), (0, .int x0)]) hx hb dX11_lastOf_17 hl (k := 1) rfl (by rw [e_x1_8]; rfl) (by decide) rfl (fun ls hl => ?_)
          refine lv_goto (tgt := 3) hx hb dX11_lastOf_20 (by decide) ?_
          exact ih3 x1_8 ls (lv_sub hl [1, 0] rfl) h
        · have h := ie c_7 h
          refine lv_iload_n hx hb dX11_lastOf_15 rfl (lv_at hl 1 rfl) ?_
          cases h
          exact W.iret hx hb hr (fun _ ht9 _ => ⟨_, rfl, rfl, ht9⟩) (fun _ hq => by cases hq) dX11_lastOf_16
  unfold f_X11_lastOf at h
  refine lv_bipush (v := 20) hx hb dX11_lastOf_0 (by decide) ?_
  refine lv_istore_n (lv' := [(1, .int 20), (0, .int x0)]) hx hb dX11_lastOf_2 rfl hl (by decide) rfl (fun ls hl => ?_)
  exact l3 fu 20 ls (lv_sub hl [1, 0] rfl) h
