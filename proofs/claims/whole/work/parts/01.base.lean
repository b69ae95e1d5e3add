-- ===== PART A: goes FIRST, ahead of the names: the tables' words, and 'selects' of the private methods out of them =====
/-- a private method of a class that the tables say can be made, by its rows of tables_1 -/
def lw_okq (q : MethodName × Nat) : Prop := (q.1.cls ≠ "java/lang/invoke/MethodHandle" ∧ q.1.cls ≠ "java/lang/invoke/VarHandle") ∧ Cond.instantiable q.1.cls q.2 ∈ tables_1 ∧ Cond.privateMethod q.1 ∈ tables_1 ∧ Cond.instanceMethod q.1 ∈ tables_1
theorem lw_p0 : lw_okq (⟨"MedalBoard", "trayAt", "(I)LMedalBoard$Tray;"⟩, 18) := ⟨⟨by decide +kernel, by decide +kernel⟩, List.mem_of_getElem? (i := 23) (by decide +kernel), List.mem_of_getElem? (i := 501) (by decide +kernel), List.mem_of_getElem? (i := 502) (by decide +kernel)⟩
theorem lw_p1 : lw_okq (⟨"MedalBoard", "deny", "(I)Z"⟩, 18) := ⟨⟨by decide +kernel, by decide +kernel⟩, List.mem_of_getElem? (i := 23) (by decide +kernel), List.mem_of_getElem? (i := 508) (by decide +kernel), List.mem_of_getElem? (i := 509) (by decide +kernel)⟩
theorem lw_p2 : lw_okq (⟨"MedalBoard", "allow", "()Z"⟩, 18) := ⟨⟨by decide +kernel, by decide +kernel⟩, List.mem_of_getElem? (i := 23) (by decide +kernel), List.mem_of_getElem? (i := 519) (by decide +kernel), List.mem_of_getElem? (i := 520) (by decide +kernel)⟩
theorem lw_p3 : lw_okq (⟨"MedalBoard$Tray", "cut", "(J)J"⟩, 4) := ⟨⟨by decide +kernel, by decide +kernel⟩, List.mem_of_getElem? (i := 408) (by decide +kernel), List.mem_of_getElem? (i := 536) (by decide +kernel), List.mem_of_getElem? (i := 537) (by decide +kernel)⟩
theorem lw_p4 : lw_okq (⟨"MedalBoard", "refuse", "(I)I"⟩, 18) := ⟨⟨by decide +kernel, by decide +kernel⟩, List.mem_of_getElem? (i := 23) (by decide +kernel), List.mem_of_getElem? (i := 544) (by decide +kernel), List.mem_of_getElem? (i := 545) (by decide +kernel)⟩
theorem lw_p5 : lw_okq (⟨"MedalBoard$Tape", "appendFour", "(I)V"⟩, 10) := ⟨⟨by decide +kernel, by decide +kernel⟩, List.mem_of_getElem? (i := 163) (by decide +kernel), List.mem_of_getElem? (i := 567) (by decide +kernel), List.mem_of_getElem? (i := 568) (by decide +kernel)⟩
theorem lw_p6 : lw_okq (⟨"MedalBoard$Tape", "takeLetters", "()V"⟩, 10) := ⟨⟨by decide +kernel, by decide +kernel⟩, List.mem_of_getElem? (i := 163) (by decide +kernel), List.mem_of_getElem? (i := 596) (by decide +kernel), List.mem_of_getElem? (i := 597) (by decide +kernel)⟩
theorem lw_p7 : lw_okq (⟨"MedalBoard$Tape", "takeDigits", "()V"⟩, 10) := ⟨⟨by decide +kernel, by decide +kernel⟩, List.mem_of_getElem? (i := 163) (by decide +kernel), List.mem_of_getElem? (i := 603) (by decide +kernel), List.mem_of_getElem? (i := 604) (by decide +kernel)⟩
theorem lw_p8 : lw_okq (⟨"MedalBoard$ArmyReader", "takePride", "()Z"⟩, 4) := ⟨⟨by decide +kernel, by decide +kernel⟩, List.mem_of_getElem? (i := 276) (by decide +kernel), List.mem_of_getElem? (i := 623) (by decide +kernel), List.mem_of_getElem? (i := 624) (by decide +kernel)⟩
theorem lw_p9 : lw_okq (⟨"MedalBoard$ArmyReader", "takeQuota", "()Z"⟩, 4) := ⟨⟨by decide +kernel, by decide +kernel⟩, List.mem_of_getElem? (i := 276) (by decide +kernel), List.mem_of_getElem? (i := 646) (by decide +kernel), List.mem_of_getElem? (i := 647) (by decide +kernel)⟩
theorem lw_p10 : lw_okq (⟨"MedalBoard$ArmyReader", "takeNewMan", "()Z"⟩, 4) := ⟨⟨by decide +kernel, by decide +kernel⟩, List.mem_of_getElem? (i := 276) (by decide +kernel), List.mem_of_getElem? (i := 650) (by decide +kernel), List.mem_of_getElem? (i := 651) (by decide +kernel)⟩
theorem lw_p11 : lw_okq (⟨"MedalBoard$ArmyReader", "takeIfTold", "(III)I"⟩, 4) := ⟨⟨by decide +kernel, by decide +kernel⟩, List.mem_of_getElem? (i := 276) (by decide +kernel), List.mem_of_getElem? (i := 662) (by decide +kernel), List.mem_of_getElem? (i := 663) (by decide +kernel)⟩
theorem lw_p12 : lw_okq (⟨"MedalBoard$ArmyReader", "takeLikes", "()Z"⟩, 4) := ⟨⟨by decide +kernel, by decide +kernel⟩, List.mem_of_getElem? (i := 276) (by decide +kernel), List.mem_of_getElem? (i := 671) (by decide +kernel), List.mem_of_getElem? (i := 672) (by decide +kernel)⟩
theorem lw_p13 : lw_okq (⟨"MedalBoard", "answer", "(I)I"⟩, 18) := ⟨⟨by decide +kernel, by decide +kernel⟩, List.mem_of_getElem? (i := 23) (by decide +kernel), List.mem_of_getElem? (i := 697) (by decide +kernel), List.mem_of_getElem? (i := 698) (by decide +kernel)⟩
theorem lw_p14 : lw_okq (⟨"MedalBoard$WarReader", "takeEnd", "()Z"⟩, 5) := ⟨⟨by decide +kernel, by decide +kernel⟩, List.mem_of_getElem? (i := 295) (by decide +kernel), List.mem_of_getElem? (i := 712) (by decide +kernel), List.mem_of_getElem? (i := 713) (by decide +kernel)⟩
theorem lw_p15 : lw_okq (⟨"MedalBoard$WarReader", "takeBegin", "(I)Z"⟩, 5) := ⟨⟨by decide +kernel, by decide +kernel⟩, List.mem_of_getElem? (i := 295) (by decide +kernel), List.mem_of_getElem? (i := 725) (by decide +kernel), List.mem_of_getElem? (i := 726) (by decide +kernel)⟩
def lw_privs_1 : List (MethodName × Nat) := [(⟨"MedalBoard", "trayAt", "(I)LMedalBoard$Tray;"⟩, 18), (⟨"MedalBoard", "deny", "(I)Z"⟩, 18), (⟨"MedalBoard", "allow", "()Z"⟩, 18), (⟨"MedalBoard$Tray", "cut", "(J)J"⟩, 4), (⟨"MedalBoard", "refuse", "(I)I"⟩, 18), (⟨"MedalBoard$Tape", "appendFour", "(I)V"⟩, 10), (⟨"MedalBoard$Tape", "takeLetters", "()V"⟩, 10), (⟨"MedalBoard$Tape", "takeDigits", "()V"⟩, 10), (⟨"MedalBoard$ArmyReader", "takePride", "()Z"⟩, 4), (⟨"MedalBoard$ArmyReader", "takeQuota", "()Z"⟩, 4), (⟨"MedalBoard$ArmyReader", "takeNewMan", "()Z"⟩, 4), (⟨"MedalBoard$ArmyReader", "takeIfTold", "(III)I"⟩, 4), (⟨"MedalBoard$ArmyReader", "takeLikes", "()Z"⟩, 4), (⟨"MedalBoard", "answer", "(I)I"⟩, 18), (⟨"MedalBoard$WarReader", "takeEnd", "()Z"⟩, 5), (⟨"MedalBoard$WarReader", "takeBegin", "(I)Z"⟩, 5)]
theorem lw_r1 : ∀ q ∈ lw_privs_1, lw_okq q := List.forall_mem_cons.mpr ⟨lw_p0, List.forall_mem_cons.mpr ⟨lw_p1, List.forall_mem_cons.mpr ⟨lw_p2, List.forall_mem_cons.mpr ⟨lw_p3, List.forall_mem_cons.mpr ⟨lw_p4, List.forall_mem_cons.mpr ⟨lw_p5, List.forall_mem_cons.mpr ⟨lw_p6, List.forall_mem_cons.mpr ⟨lw_p7, List.forall_mem_cons.mpr ⟨lw_p8, List.forall_mem_cons.mpr ⟨lw_p9, List.forall_mem_cons.mpr ⟨lw_p10, List.forall_mem_cons.mpr ⟨lw_p11, List.forall_mem_cons.mpr ⟨lw_p12, List.forall_mem_cons.mpr ⟨lw_p13, List.forall_mem_cons.mpr ⟨lw_p14, List.forall_mem_cons.mpr ⟨lw_p15, fun _ h => absurd h List.not_mem_nil⟩⟩⟩⟩⟩⟩⟩⟩⟩⟩⟩⟩⟩⟩⟩⟩
theorem lw_p16 : lw_okq (⟨"MedalBoard$WarReader", "takeRest", "(I)Z"⟩, 5) := ⟨⟨by decide +kernel, by decide +kernel⟩, List.mem_of_getElem? (i := 295) (by decide +kernel), List.mem_of_getElem? (i := 732) (by decide +kernel), List.mem_of_getElem? (i := 733) (by decide +kernel)⟩
theorem lw_p17 : lw_okq (⟨"MedalBoard$WarReader", "takeTest", "(I)Z"⟩, 5) := ⟨⟨by decide +kernel, by decide +kernel⟩, List.mem_of_getElem? (i := 295) (by decide +kernel), List.mem_of_getElem? (i := 738) (by decide +kernel), List.mem_of_getElem? (i := 739) (by decide +kernel)⟩
theorem lw_p18 : lw_okq (⟨"MedalBoard$WarReader", "takeLast", "(I)Z"⟩, 5) := ⟨⟨by decide +kernel, by decide +kernel⟩, List.mem_of_getElem? (i := 295) (by decide +kernel), List.mem_of_getElem? (i := 743) (by decide +kernel), List.mem_of_getElem? (i := 744) (by decide +kernel)⟩
theorem lw_p19 : lw_okq (⟨"MedalBoard", "dangerRefusal", "(II)I"⟩, 18) := ⟨⟨by decide +kernel, by decide +kernel⟩, List.mem_of_getElem? (i := 23) (by decide +kernel), List.mem_of_getElem? (i := 800) (by decide +kernel), List.mem_of_getElem? (i := 801) (by decide +kernel)⟩
theorem lw_p20 : lw_okq (⟨"MedalBoard", "tell", "(JJ)V"⟩, 18) := ⟨⟨by decide +kernel, by decide +kernel⟩, List.mem_of_getElem? (i := 23) (by decide +kernel), List.mem_of_getElem? (i := 958) (by decide +kernel), List.mem_of_getElem? (i := 959) (by decide +kernel)⟩
theorem lw_p21 : lw_okq (⟨"MedalBoard", "ordersRefusal", "(ILMedalBoard$Tray;I)I"⟩, 18) := ⟨⟨by decide +kernel, by decide +kernel⟩, List.mem_of_getElem? (i := 23) (by decide +kernel), List.mem_of_getElem? (i := 982) (by decide +kernel), List.mem_of_getElem? (i := 983) (by decide +kernel)⟩
theorem lw_p22 : lw_okq (⟨"MedalBoard$Foresight", "mostFrom", "(II)I"⟩, 3) := ⟨⟨by decide +kernel, by decide +kernel⟩, List.mem_of_getElem? (i := 361) (by decide +kernel), List.mem_of_getElem? (i := 1005) (by decide +kernel), List.mem_of_getElem? (i := 1006) (by decide +kernel)⟩
theorem lw_p23 : lw_okq (⟨"MedalBoard$Foresight", "mostIfStood", "(III)I"⟩, 3) := ⟨⟨by decide +kernel, by decide +kernel⟩, List.mem_of_getElem? (i := 361) (by decide +kernel), List.mem_of_getElem? (i := 1010) (by decide +kernel), List.mem_of_getElem? (i := 1011) (by decide +kernel)⟩
theorem lw_p24 : lw_okq (⟨"MedalBoard$Foresight", "firstBestFacer", "(II)I"⟩, 3) := ⟨⟨by decide +kernel, by decide +kernel⟩, List.mem_of_getElem? (i := 361) (by decide +kernel), List.mem_of_getElem? (i := 1028) (by decide +kernel), List.mem_of_getElem? (i := 1029) (by decide +kernel)⟩
theorem lw_p25 : lw_okq (⟨"MedalBoard", "seenRefusal", "(ILMedalBoard$Tray;I)I"⟩, 18) := ⟨⟨by decide +kernel, by decide +kernel⟩, List.mem_of_getElem? (i := 23) (by decide +kernel), List.mem_of_getElem? (i := 1043) (by decide +kernel), List.mem_of_getElem? (i := 1044) (by decide +kernel)⟩
theorem lw_p26 : lw_okq (⟨"MedalBoard", "fittingCourages", "(ILMedalBoard$Tray;I)I"⟩, 18) := ⟨⟨by decide +kernel, by decide +kernel⟩, List.mem_of_getElem? (i := 23) (by decide +kernel), List.mem_of_getElem? (i := 1047) (by decide +kernel), List.mem_of_getElem? (i := 1048) (by decide +kernel)⟩
theorem lw_p27 : lw_okq (⟨"MedalBoard", "tellingSize", "(II)I"⟩, 18) := ⟨⟨by decide +kernel, by decide +kernel⟩, List.mem_of_getElem? (i := 23) (by decide +kernel), List.mem_of_getElem? (i := 1064) (by decide +kernel), List.mem_of_getElem? (i := 1065) (by decide +kernel)⟩
theorem lw_p28 : lw_okq (⟨"MedalBoard$Pairs", "search", "(IIII)V"⟩, 7) := ⟨⟨by decide +kernel, by decide +kernel⟩, List.mem_of_getElem? (i := 379) (by decide +kernel), List.mem_of_getElem? (i := 1081) (by decide +kernel), List.mem_of_getElem? (i := 1082) (by decide +kernel)⟩
theorem lw_p29 : lw_okq (⟨"MedalBoard", "gameRefusal", "(IILMedalBoard$Tray;I)I"⟩, 18) := ⟨⟨by decide +kernel, by decide +kernel⟩, List.mem_of_getElem? (i := 23) (by decide +kernel), List.mem_of_getElem? (i := 1103) (by decide +kernel), List.mem_of_getElem? (i := 1104) (by decide +kernel)⟩
theorem lw_p30 : lw_okq (⟨"MedalBoard$Foresight", "valueFrom", "(III)I"⟩, 3) := ⟨⟨by decide +kernel, by decide +kernel⟩, List.mem_of_getElem? (i := 361) (by decide +kernel), List.mem_of_getElem? (i := 1111) (by decide +kernel), List.mem_of_getElem? (i := 1112) (by decide +kernel)⟩
theorem lw_p31 : lw_okq (⟨"MedalBoard$Foresight", "valueIfStood", "(III)I"⟩, 3) := ⟨⟨by decide +kernel, by decide +kernel⟩, List.mem_of_getElem? (i := 361) (by decide +kernel), List.mem_of_getElem? (i := 1115) (by decide +kernel), List.mem_of_getElem? (i := 1116) (by decide +kernel)⟩
def lw_privs_2 : List (MethodName × Nat) := [(⟨"MedalBoard$WarReader", "takeRest", "(I)Z"⟩, 5), (⟨"MedalBoard$WarReader", "takeTest", "(I)Z"⟩, 5), (⟨"MedalBoard$WarReader", "takeLast", "(I)Z"⟩, 5), (⟨"MedalBoard", "dangerRefusal", "(II)I"⟩, 18), (⟨"MedalBoard", "tell", "(JJ)V"⟩, 18), (⟨"MedalBoard", "ordersRefusal", "(ILMedalBoard$Tray;I)I"⟩, 18), (⟨"MedalBoard$Foresight", "mostFrom", "(II)I"⟩, 3), (⟨"MedalBoard$Foresight", "mostIfStood", "(III)I"⟩, 3), (⟨"MedalBoard$Foresight", "firstBestFacer", "(II)I"⟩, 3), (⟨"MedalBoard", "seenRefusal", "(ILMedalBoard$Tray;I)I"⟩, 18), (⟨"MedalBoard", "fittingCourages", "(ILMedalBoard$Tray;I)I"⟩, 18), (⟨"MedalBoard", "tellingSize", "(II)I"⟩, 18), (⟨"MedalBoard$Pairs", "search", "(IIII)V"⟩, 7), (⟨"MedalBoard", "gameRefusal", "(IILMedalBoard$Tray;I)I"⟩, 18), (⟨"MedalBoard$Foresight", "valueFrom", "(III)I"⟩, 3), (⟨"MedalBoard$Foresight", "valueIfStood", "(III)I"⟩, 3)]
theorem lw_r2 : ∀ q ∈ lw_privs_2, lw_okq q := List.forall_mem_cons.mpr ⟨lw_p16, List.forall_mem_cons.mpr ⟨lw_p17, List.forall_mem_cons.mpr ⟨lw_p18, List.forall_mem_cons.mpr ⟨lw_p19, List.forall_mem_cons.mpr ⟨lw_p20, List.forall_mem_cons.mpr ⟨lw_p21, List.forall_mem_cons.mpr ⟨lw_p22, List.forall_mem_cons.mpr ⟨lw_p23, List.forall_mem_cons.mpr ⟨lw_p24, List.forall_mem_cons.mpr ⟨lw_p25, List.forall_mem_cons.mpr ⟨lw_p26, List.forall_mem_cons.mpr ⟨lw_p27, List.forall_mem_cons.mpr ⟨lw_p28, List.forall_mem_cons.mpr ⟨lw_p29, List.forall_mem_cons.mpr ⟨lw_p30, List.forall_mem_cons.mpr ⟨lw_p31, fun _ h => absurd h List.not_mem_nil⟩⟩⟩⟩⟩⟩⟩⟩⟩⟩⟩⟩⟩⟩⟩⟩
theorem lw_p32 : lw_okq (⟨"MedalBoard$Campaign", "begin", "(I)V"⟩, 11) := ⟨⟨by decide +kernel, by decide +kernel⟩, List.mem_of_getElem? (i := 319) (by decide +kernel), List.mem_of_getElem? (i := 1159) (by decide +kernel), List.mem_of_getElem? (i := 1160) (by decide +kernel)⟩
theorem lw_p33 : lw_okq (⟨"MedalBoard$Campaign", "behindEnd", "(I)I"⟩, 11) := ⟨⟨by decide +kernel, by decide +kernel⟩, List.mem_of_getElem? (i := 319) (by decide +kernel), List.mem_of_getElem? (i := 1165) (by decide +kernel), List.mem_of_getElem? (i := 1166) (by decide +kernel)⟩
theorem lw_p34 : lw_okq (⟨"MedalBoard$Campaign", "behindStep", "(I)I"⟩, 11) := ⟨⟨by decide +kernel, by decide +kernel⟩, List.mem_of_getElem? (i := 319) (by decide +kernel), List.mem_of_getElem? (i := 1169) (by decide +kernel), List.mem_of_getElem? (i := 1170) (by decide +kernel)⟩
theorem lw_p35 : lw_okq (⟨"MedalBoard$Campaign", "faceDanger", "(II)V"⟩, 11) := ⟨⟨by decide +kernel, by decide +kernel⟩, List.mem_of_getElem? (i := 319) (by decide +kernel), List.mem_of_getElem? (i := 1173) (by decide +kernel), List.mem_of_getElem? (i := 1174) (by decide +kernel)⟩
theorem lw_p36 : lw_okq (⟨"MedalBoard$Campaign", "countMiss", "(Z)V"⟩, 11) := ⟨⟨by decide +kernel, by decide +kernel⟩, List.mem_of_getElem? (i := 319) (by decide +kernel), List.mem_of_getElem? (i := 1180) (by decide +kernel), List.mem_of_getElem? (i := 1181) (by decide +kernel)⟩
theorem lw_p37 : lw_okq (⟨"MedalBoard$Campaign", "drawBy", "(I)I"⟩, 11) := ⟨⟨by decide +kernel, by decide +kernel⟩, List.mem_of_getElem? (i := 319) (by decide +kernel), List.mem_of_getElem? (i := 1186) (by decide +kernel), List.mem_of_getElem? (i := 1187) (by decide +kernel)⟩
theorem lw_p38 : lw_okq (⟨"MedalBoard$Campaign", "testHolds", "(I)Z"⟩, 11) := ⟨⟨by decide +kernel, by decide +kernel⟩, List.mem_of_getElem? (i := 319) (by decide +kernel), List.mem_of_getElem? (i := 1191) (by decide +kernel), List.mem_of_getElem? (i := 1192) (by decide +kernel)⟩
theorem lw_p39 : lw_okq (⟨"MedalBoardModel", "plain", "(I)V"⟩, 41) := ⟨⟨by decide +kernel, by decide +kernel⟩, List.mem_of_getElem? (i := 1217) (by decide +kernel), List.mem_of_getElem? (i := 1223) (by decide +kernel), List.mem_of_getElem? (i := 1224) (by decide +kernel)⟩
theorem lw_p40 : lw_okq (⟨"MedalBoardModel", "is", "(I)Z"⟩, 41) := ⟨⟨by decide +kernel, by decide +kernel⟩, List.mem_of_getElem? (i := 1217) (by decide +kernel), List.mem_of_getElem? (i := 1373) (by decide +kernel), List.mem_of_getElem? (i := 1374) (by decide +kernel)⟩
theorem lw_p41 : lw_okq (⟨"MedalBoardModel", "wrongPlace", "(II)I"⟩, 41) := ⟨⟨by decide +kernel, by decide +kernel⟩, List.mem_of_getElem? (i := 1217) (by decide +kernel), List.mem_of_getElem? (i := 1381) (by decide +kernel), List.mem_of_getElem? (i := 1382) (by decide +kernel)⟩
theorem lw_p42 : lw_okq (⟨"MedalBoardModel", "four", "(I)V"⟩, 41) := ⟨⟨by decide +kernel, by decide +kernel⟩, List.mem_of_getElem? (i := 1217) (by decide +kernel), List.mem_of_getElem? (i := 1401) (by decide +kernel), List.mem_of_getElem? (i := 1402) (by decide +kernel)⟩
theorem lw_p43 : lw_okq (⟨"MedalBoardModel", "begins", "(II)Z"⟩, 41) := ⟨⟨by decide +kernel, by decide +kernel⟩, List.mem_of_getElem? (i := 1217) (by decide +kernel), List.mem_of_getElem? (i := 1413) (by decide +kernel), List.mem_of_getElem? (i := 1414) (by decide +kernel)⟩
theorem lw_p44 : lw_okq (⟨"MedalBoardModel", "ahead", "()V"⟩, 41) := ⟨⟨by decide +kernel, by decide +kernel⟩, List.mem_of_getElem? (i := 1217) (by decide +kernel), List.mem_of_getElem? (i := 1417) (by decide +kernel), List.mem_of_getElem? (i := 1418) (by decide +kernel)⟩
theorem lw_p45 : lw_okq (⟨"MedalBoardModel", "byteAt", "(I)I"⟩, 41) := ⟨⟨by decide +kernel, by decide +kernel⟩, List.mem_of_getElem? (i := 1217) (by decide +kernel), List.mem_of_getElem? (i := 1421) (by decide +kernel), List.mem_of_getElem? (i := 1422) (by decide +kernel)⟩
theorem lw_p46 : lw_okq (⟨"MedalBoardModel", "refuse", "(I)I"⟩, 41) := ⟨⟨by decide +kernel, by decide +kernel⟩, List.mem_of_getElem? (i := 1217) (by decide +kernel), List.mem_of_getElem? (i := 1433) (by decide +kernel), List.mem_of_getElem? (i := 1434) (by decide +kernel)⟩
theorem lw_p47 : lw_okq (⟨"MedalBoardModel", "armyPart", "()Z"⟩, 41) := ⟨⟨by decide +kernel, by decide +kernel⟩, List.mem_of_getElem? (i := 1217) (by decide +kernel), List.mem_of_getElem? (i := 1437) (by decide +kernel), List.mem_of_getElem? (i := 1438) (by decide +kernel)⟩
def lw_privs_3 : List (MethodName × Nat) := [(⟨"MedalBoard$Campaign", "begin", "(I)V"⟩, 11), (⟨"MedalBoard$Campaign", "behindEnd", "(I)I"⟩, 11), (⟨"MedalBoard$Campaign", "behindStep", "(I)I"⟩, 11), (⟨"MedalBoard$Campaign", "faceDanger", "(II)V"⟩, 11), (⟨"MedalBoard$Campaign", "countMiss", "(Z)V"⟩, 11), (⟨"MedalBoard$Campaign", "drawBy", "(I)I"⟩, 11), (⟨"MedalBoard$Campaign", "testHolds", "(I)Z"⟩, 11), (⟨"MedalBoardModel", "plain", "(I)V"⟩, 41), (⟨"MedalBoardModel", "is", "(I)Z"⟩, 41), (⟨"MedalBoardModel", "wrongPlace", "(II)I"⟩, 41), (⟨"MedalBoardModel", "four", "(I)V"⟩, 41), (⟨"MedalBoardModel", "begins", "(II)Z"⟩, 41), (⟨"MedalBoardModel", "ahead", "()V"⟩, 41), (⟨"MedalBoardModel", "byteAt", "(I)I"⟩, 41), (⟨"MedalBoardModel", "refuse", "(I)I"⟩, 41), (⟨"MedalBoardModel", "armyPart", "()Z"⟩, 41)]
theorem lw_r3 : ∀ q ∈ lw_privs_3, lw_okq q := List.forall_mem_cons.mpr ⟨lw_p32, List.forall_mem_cons.mpr ⟨lw_p33, List.forall_mem_cons.mpr ⟨lw_p34, List.forall_mem_cons.mpr ⟨lw_p35, List.forall_mem_cons.mpr ⟨lw_p36, List.forall_mem_cons.mpr ⟨lw_p37, List.forall_mem_cons.mpr ⟨lw_p38, List.forall_mem_cons.mpr ⟨lw_p39, List.forall_mem_cons.mpr ⟨lw_p40, List.forall_mem_cons.mpr ⟨lw_p41, List.forall_mem_cons.mpr ⟨lw_p42, List.forall_mem_cons.mpr ⟨lw_p43, List.forall_mem_cons.mpr ⟨lw_p44, List.forall_mem_cons.mpr ⟨lw_p45, List.forall_mem_cons.mpr ⟨lw_p46, List.forall_mem_cons.mpr ⟨lw_p47, fun _ h => absurd h List.not_mem_nil⟩⟩⟩⟩⟩⟩⟩⟩⟩⟩⟩⟩⟩⟩⟩⟩
theorem lw_p48 : lw_okq (⟨"MedalBoardModel", "inWords", "(Ljava/lang/String;)I"⟩, 41) := ⟨⟨by decide +kernel, by decide +kernel⟩, List.mem_of_getElem? (i := 1217) (by decide +kernel), List.mem_of_getElem? (i := 1442) (by decide +kernel), List.mem_of_getElem? (i := 1443) (by decide +kernel)⟩
theorem lw_p49 : lw_okq (⟨"MedalBoardModel", "fails", "(I)Z"⟩, 41) := ⟨⟨by decide +kernel, by decide +kernel⟩, List.mem_of_getElem? (i := 1217) (by decide +kernel), List.mem_of_getElem? (i := 1448) (by decide +kernel), List.mem_of_getElem? (i := 1449) (by decide +kernel)⟩
theorem lw_p50 : lw_okq (⟨"MedalBoardModel", "number", "(III)Z"⟩, 41) := ⟨⟨by decide +kernel, by decide +kernel⟩, List.mem_of_getElem? (i := 1217) (by decide +kernel), List.mem_of_getElem? (i := 1452) (by decide +kernel), List.mem_of_getElem? (i := 1453) (by decide +kernel)⟩
theorem lw_p51 : lw_okq (⟨"MedalBoardModel", "aMan", "()Z"⟩, 41) := ⟨⟨by decide +kernel, by decide +kernel⟩, List.mem_of_getElem? (i := 1217) (by decide +kernel), List.mem_of_getElem? (i := 1456) (by decide +kernel), List.mem_of_getElem? (i := 1457) (by decide +kernel)⟩
theorem lw_p52 : lw_okq (⟨"MedalBoardModel", "isName", "(Ljava/lang/String;)Z"⟩, 41) := ⟨⟨by decide +kernel, by decide +kernel⟩, List.mem_of_getElem? (i := 1217) (by decide +kernel), List.mem_of_getElem? (i := 1460) (by decide +kernel), List.mem_of_getElem? (i := 1461) (by decide +kernel)⟩
theorem lw_p53 : lw_okq (⟨"MedalBoardModel", "findHere", "(II)I"⟩, 41) := ⟨⟨by decide +kernel, by decide +kernel⟩, List.mem_of_getElem? (i := 1217) (by decide +kernel), List.mem_of_getElem? (i := 1464) (by decide +kernel), List.mem_of_getElem? (i := 1465) (by decide +kernel)⟩
theorem lw_p54 : lw_okq (⟨"MedalBoardModel", "nameHere", "()J"⟩, 41) := ⟨⟨by decide +kernel, by decide +kernel⟩, List.mem_of_getElem? (i := 1217) (by decide +kernel), List.mem_of_getElem? (i := 1468) (by decide +kernel), List.mem_of_getElem? (i := 1469) (by decide +kernel)⟩
theorem lw_p55 : lw_okq (⟨"MedalBoardModel", "wantWord", "(Ljava/lang/String;I)Z"⟩, 41) := ⟨⟨by decide +kernel, by decide +kernel⟩, List.mem_of_getElem? (i := 1217) (by decide +kernel), List.mem_of_getElem? (i := 1472) (by decide +kernel), List.mem_of_getElem? (i := 1473) (by decide +kernel)⟩
theorem lw_p56 : lw_okq (⟨"MedalBoardModel", "isThere", "(I)Z"⟩, 41) := ⟨⟨by decide +kernel, by decide +kernel⟩, List.mem_of_getElem? (i := 1217) (by decide +kernel), List.mem_of_getElem? (i := 1476) (by decide +kernel), List.mem_of_getElem? (i := 1477) (by decide +kernel)⟩
theorem lw_p57 : lw_okq (⟨"MedalBoardModel", "aLike", "()Z"⟩, 41) := ⟨⟨by decide +kernel, by decide +kernel⟩, List.mem_of_getElem? (i := 1217) (by decide +kernel), List.mem_of_getElem? (i := 1480) (by decide +kernel), List.mem_of_getElem? (i := 1481) (by decide +kernel)⟩
theorem lw_p58 : lw_okq (⟨"MedalBoardModel", "oldOne", "(III)Z"⟩, 41) := ⟨⟨by decide +kernel, by decide +kernel⟩, List.mem_of_getElem? (i := 1217) (by decide +kernel), List.mem_of_getElem? (i := 1484) (by decide +kernel), List.mem_of_getElem? (i := 1485) (by decide +kernel)⟩
theorem lw_p59 : lw_okq (⟨"MedalBoardModel", "wantSign", "(I)Z"⟩, 41) := ⟨⟨by decide +kernel, by decide +kernel⟩, List.mem_of_getElem? (i := 1217) (by decide +kernel), List.mem_of_getElem? (i := 1488) (by decide +kernel), List.mem_of_getElem? (i := 1489) (by decide +kernel)⟩
theorem lw_p60 : lw_okq (⟨"MedalBoardModel", "isSign", "(I)Z"⟩, 41) := ⟨⟨by decide +kernel, by decide +kernel⟩, List.mem_of_getElem? (i := 1217) (by decide +kernel), List.mem_of_getElem? (i := 1492) (by decide +kernel), List.mem_of_getElem? (i := 1493) (by decide +kernel)⟩
theorem lw_p61 : lw_okq (⟨"MedalBoardModel", "taken", "(I)I"⟩, 41) := ⟨⟨by decide +kernel, by decide +kernel⟩, List.mem_of_getElem? (i := 1217) (by decide +kernel), List.mem_of_getElem? (i := 1496) (by decide +kernel), List.mem_of_getElem? (i := 1497) (by decide +kernel)⟩
theorem lw_p62 : lw_okq (⟨"MedalBoardModel", "gives", "(I)I"⟩, 41) := ⟨⟨by decide +kernel, by decide +kernel⟩, List.mem_of_getElem? (i := 1217) (by decide +kernel), List.mem_of_getElem? (i := 1500) (by decide +kernel), List.mem_of_getElem? (i := 1501) (by decide +kernel)⟩
theorem lw_p63 : lw_okq (⟨"MedalBoardModel", "warStep", "()Z"⟩, 41) := ⟨⟨by decide +kernel, by decide +kernel⟩, List.mem_of_getElem? (i := 1217) (by decide +kernel), List.mem_of_getElem? (i := 1508) (by decide +kernel), List.mem_of_getElem? (i := 1509) (by decide +kernel)⟩
def lw_privs_4 : List (MethodName × Nat) := [(⟨"MedalBoardModel", "inWords", "(Ljava/lang/String;)I"⟩, 41), (⟨"MedalBoardModel", "fails", "(I)Z"⟩, 41), (⟨"MedalBoardModel", "number", "(III)Z"⟩, 41), (⟨"MedalBoardModel", "aMan", "()Z"⟩, 41), (⟨"MedalBoardModel", "isName", "(Ljava/lang/String;)Z"⟩, 41), (⟨"MedalBoardModel", "findHere", "(II)I"⟩, 41), (⟨"MedalBoardModel", "nameHere", "()J"⟩, 41), (⟨"MedalBoardModel", "wantWord", "(Ljava/lang/String;I)Z"⟩, 41), (⟨"MedalBoardModel", "isThere", "(I)Z"⟩, 41), (⟨"MedalBoardModel", "aLike", "()Z"⟩, 41), (⟨"MedalBoardModel", "oldOne", "(III)Z"⟩, 41), (⟨"MedalBoardModel", "wantSign", "(I)Z"⟩, 41), (⟨"MedalBoardModel", "isSign", "(I)Z"⟩, 41), (⟨"MedalBoardModel", "taken", "(I)I"⟩, 41), (⟨"MedalBoardModel", "gives", "(I)I"⟩, 41), (⟨"MedalBoardModel", "warStep", "()Z"⟩, 41)]
theorem lw_r4 : ∀ q ∈ lw_privs_4, lw_okq q := List.forall_mem_cons.mpr ⟨lw_p48, List.forall_mem_cons.mpr ⟨lw_p49, List.forall_mem_cons.mpr ⟨lw_p50, List.forall_mem_cons.mpr ⟨lw_p51, List.forall_mem_cons.mpr ⟨lw_p52, List.forall_mem_cons.mpr ⟨lw_p53, List.forall_mem_cons.mpr ⟨lw_p54, List.forall_mem_cons.mpr ⟨lw_p55, List.forall_mem_cons.mpr ⟨lw_p56, List.forall_mem_cons.mpr ⟨lw_p57, List.forall_mem_cons.mpr ⟨lw_p58, List.forall_mem_cons.mpr ⟨lw_p59, List.forall_mem_cons.mpr ⟨lw_p60, List.forall_mem_cons.mpr ⟨lw_p61, List.forall_mem_cons.mpr ⟨lw_p62, List.forall_mem_cons.mpr ⟨lw_p63, fun _ h => absurd h List.not_mem_nil⟩⟩⟩⟩⟩⟩⟩⟩⟩⟩⟩⟩⟩⟩⟩⟩
theorem lw_p64 : lw_okq (⟨"MedalBoardModel", "warOrder", "(II)Z"⟩, 41) := ⟨⟨by decide +kernel, by decide +kernel⟩, List.mem_of_getElem? (i := 1217) (by decide +kernel), List.mem_of_getElem? (i := 1512) (by decide +kernel), List.mem_of_getElem? (i := 1513) (by decide +kernel)⟩
theorem lw_p65 : lw_okq (⟨"MedalBoardModel", "manTo", "(I)Z"⟩, 41) := ⟨⟨by decide +kernel, by decide +kernel⟩, List.mem_of_getElem? (i := 1217) (by decide +kernel), List.mem_of_getElem? (i := 1516) (by decide +kernel), List.mem_of_getElem? (i := 1517) (by decide +kernel)⟩
theorem lw_p66 : lw_okq (⟨"MedalBoardModel", "test", "(I)Z"⟩, 41) := ⟨⟨by decide +kernel, by decide +kernel⟩, List.mem_of_getElem? (i := 1217) (by decide +kernel), List.mem_of_getElem? (i := 1520) (by decide +kernel), List.mem_of_getElem? (i := 1521) (by decide +kernel)⟩
theorem lw_p67 : lw_okq (⟨"MedalBoardModel", "living", "()I"⟩, 41) := ⟨⟨by decide +kernel, by decide +kernel⟩, List.mem_of_getElem? (i := 1217) (by decide +kernel), List.mem_of_getElem? (i := 1528) (by decide +kernel), List.mem_of_getElem? (i := 1529) (by decide +kernel)⟩
theorem lw_p68 : lw_okq (⟨"MedalBoardModel", "isAlive", "(I)Z"⟩, 41) := ⟨⟨by decide +kernel, by decide +kernel⟩, List.mem_of_getElem? (i := 1217) (by decide +kernel), List.mem_of_getElem? (i := 1532) (by decide +kernel), List.mem_of_getElem? (i := 1533) (by decide +kernel)⟩
theorem lw_p69 : lw_okq (⟨"MedalBoardModel", "manOf", "(II)I"⟩, 41) := ⟨⟨by decide +kernel, by decide +kernel⟩, List.mem_of_getElem? (i := 1217) (by decide +kernel), List.mem_of_getElem? (i := 1536) (by decide +kernel), List.mem_of_getElem? (i := 1537) (by decide +kernel)⟩
theorem lw_p70 : lw_okq (⟨"MedalBoardModel", "decorated", "()I"⟩, 41) := ⟨⟨by decide +kernel, by decide +kernel⟩, List.mem_of_getElem? (i := 1217) (by decide +kernel), List.mem_of_getElem? (i := 1540) (by decide +kernel), List.mem_of_getElem? (i := 1541) (by decide +kernel)⟩
theorem lw_p71 : lw_okq (⟨"MedalBoardModel", "sumOf", "(I)I"⟩, 41) := ⟨⟨by decide +kernel, by decide +kernel⟩, List.mem_of_getElem? (i := 1217) (by decide +kernel), List.mem_of_getElem? (i := 1544) (by decide +kernel), List.mem_of_getElem? (i := 1545) (by decide +kernel)⟩
theorem lw_p72 : lw_okq (⟨"MedalBoardModel", "isMan", "(I)Z"⟩, 41) := ⟨⟨by decide +kernel, by decide +kernel⟩, List.mem_of_getElem? (i := 1217) (by decide +kernel), List.mem_of_getElem? (i := 1552) (by decide +kernel), List.mem_of_getElem? (i := 1553) (by decide +kernel)⟩
theorem lw_p73 : lw_okq (⟨"MedalBoardModel", "braveOf", "(I)I"⟩, 41) := ⟨⟨by decide +kernel, by decide +kernel⟩, List.mem_of_getElem? (i := 1217) (by decide +kernel), List.mem_of_getElem? (i := 1556) (by decide +kernel), List.mem_of_getElem? (i := 1557) (by decide +kernel)⟩
theorem lw_p74 : lw_okq (⟨"MedalBoardModel", "likesOf", "(II)I"⟩, 41) := ⟨⟨by decide +kernel, by decide +kernel⟩, List.mem_of_getElem? (i := 1217) (by decide +kernel), List.mem_of_getElem? (i := 1564) (by decide +kernel), List.mem_of_getElem? (i := 1565) (by decide +kernel)⟩
theorem lw_p75 : lw_okq (⟨"MedalBoardModel", "faces", "(II)I"⟩, 41) := ⟨⟨by decide +kernel, by decide +kernel⟩, List.mem_of_getElem? (i := 1217) (by decide +kernel), List.mem_of_getElem? (i := 1579) (by decide +kernel), List.mem_of_getElem? (i := 1580) (by decide +kernel)⟩
theorem lw_p76 : lw_okq (⟨"MedalBoardModel", "stands", "(II)Z"⟩, 41) := ⟨⟨by decide +kernel, by decide +kernel⟩, List.mem_of_getElem? (i := 1217) (by decide +kernel), List.mem_of_getElem? (i := 1583) (by decide +kernel), List.mem_of_getElem? (i := 1584) (by decide +kernel)⟩
theorem lw_p77 : lw_okq (⟨"MedalBoardModel", "pins", "(II)I"⟩, 41) := ⟨⟨by decide +kernel, by decide +kernel⟩, List.mem_of_getElem? (i := 1217) (by decide +kernel), List.mem_of_getElem? (i := 1587) (by decide +kernel), List.mem_of_getElem? (i := 1588) (by decide +kernel)⟩
theorem lw_p78 : lw_okq (⟨"MedalBoardModel", "winner", "(II)I"⟩, 41) := ⟨⟨by decide +kernel, by decide +kernel⟩, List.mem_of_getElem? (i := 1217) (by decide +kernel), List.mem_of_getElem? (i := 1591) (by decide +kernel), List.mem_of_getElem? (i := 1592) (by decide +kernel)⟩
theorem lw_p79 : lw_okq (⟨"MedalBoardModel", "candidatesOf", "(II)I"⟩, 41) := ⟨⟨by decide +kernel, by decide +kernel⟩, List.mem_of_getElem? (i := 1217) (by decide +kernel), List.mem_of_getElem? (i := 1595) (by decide +kernel), List.mem_of_getElem? (i := 1596) (by decide +kernel)⟩
def lw_privs_5 : List (MethodName × Nat) := [(⟨"MedalBoardModel", "warOrder", "(II)Z"⟩, 41), (⟨"MedalBoardModel", "manTo", "(I)Z"⟩, 41), (⟨"MedalBoardModel", "test", "(I)Z"⟩, 41), (⟨"MedalBoardModel", "living", "()I"⟩, 41), (⟨"MedalBoardModel", "isAlive", "(I)Z"⟩, 41), (⟨"MedalBoardModel", "manOf", "(II)I"⟩, 41), (⟨"MedalBoardModel", "decorated", "()I"⟩, 41), (⟨"MedalBoardModel", "sumOf", "(I)I"⟩, 41), (⟨"MedalBoardModel", "isMan", "(I)Z"⟩, 41), (⟨"MedalBoardModel", "braveOf", "(I)I"⟩, 41), (⟨"MedalBoardModel", "likesOf", "(II)I"⟩, 41), (⟨"MedalBoardModel", "faces", "(II)I"⟩, 41), (⟨"MedalBoardModel", "stands", "(II)Z"⟩, 41), (⟨"MedalBoardModel", "pins", "(II)I"⟩, 41), (⟨"MedalBoardModel", "winner", "(II)I"⟩, 41), (⟨"MedalBoardModel", "candidatesOf", "(II)I"⟩, 41)]
theorem lw_r5 : ∀ q ∈ lw_privs_5, lw_okq q := List.forall_mem_cons.mpr ⟨lw_p64, List.forall_mem_cons.mpr ⟨lw_p65, List.forall_mem_cons.mpr ⟨lw_p66, List.forall_mem_cons.mpr ⟨lw_p67, List.forall_mem_cons.mpr ⟨lw_p68, List.forall_mem_cons.mpr ⟨lw_p69, List.forall_mem_cons.mpr ⟨lw_p70, List.forall_mem_cons.mpr ⟨lw_p71, List.forall_mem_cons.mpr ⟨lw_p72, List.forall_mem_cons.mpr ⟨lw_p73, List.forall_mem_cons.mpr ⟨lw_p74, List.forall_mem_cons.mpr ⟨lw_p75, List.forall_mem_cons.mpr ⟨lw_p76, List.forall_mem_cons.mpr ⟨lw_p77, List.forall_mem_cons.mpr ⟨lw_p78, List.forall_mem_cons.mpr ⟨lw_p79, fun _ h => absurd h List.not_mem_nil⟩⟩⟩⟩⟩⟩⟩⟩⟩⟩⟩⟩⟩⟩⟩⟩
theorem lw_p80 : lw_okq (⟨"MedalBoardModel", "isIn", "(II)Z"⟩, 41) := ⟨⟨by decide +kernel, by decide +kernel⟩, List.mem_of_getElem? (i := 1217) (by decide +kernel), List.mem_of_getElem? (i := 1599) (by decide +kernel), List.mem_of_getElem? (i := 1600) (by decide +kernel)⟩
theorem lw_p81 : lw_okq (⟨"MedalBoardModel", "votesFor", "(II)I"⟩, 41) := ⟨⟨by decide +kernel, by decide +kernel⟩, List.mem_of_getElem? (i := 1217) (by decide +kernel), List.mem_of_getElem? (i := 1603) (by decide +kernel), List.mem_of_getElem? (i := 1604) (by decide +kernel)⟩
theorem lw_p82 : lw_okq (⟨"MedalBoardModel", "voteBy", "(II)I"⟩, 41) := ⟨⟨by decide +kernel, by decide +kernel⟩, List.mem_of_getElem? (i := 1217) (by decide +kernel), List.mem_of_getElem? (i := 1607) (by decide +kernel), List.mem_of_getElem? (i := 1608) (by decide +kernel)⟩
theorem lw_p83 : lw_okq (⟨"MedalBoardModel", "hands", "(II)Z"⟩, 41) := ⟨⟨by decide +kernel, by decide +kernel⟩, List.mem_of_getElem? (i := 1217) (by decide +kernel), List.mem_of_getElem? (i := 1615) (by decide +kernel), List.mem_of_getElem? (i := 1616) (by decide +kernel)⟩
theorem lw_p84 : lw_okq (⟨"MedalBoardModel", "loses", "(I)Z"⟩, 41) := ⟨⟨by decide +kernel, by decide +kernel⟩, List.mem_of_getElem? (i := 1217) (by decide +kernel), List.mem_of_getElem? (i := 1623) (by decide +kernel), List.mem_of_getElem? (i := 1624) (by decide +kernel)⟩
theorem lw_p85 : lw_okq (⟨"MedalBoardModel", "falls", "(I)Z"⟩, 41) := ⟨⟨by decide +kernel, by decide +kernel⟩, List.mem_of_getElem? (i := 1217) (by decide +kernel), List.mem_of_getElem? (i := 1631) (by decide +kernel), List.mem_of_getElem? (i := 1632) (by decide +kernel)⟩
theorem lw_p86 : lw_okq (⟨"MedalBoardModel", "standing", "(I)I"⟩, 41) := ⟨⟨by decide +kernel, by decide +kernel⟩, List.mem_of_getElem? (i := 1217) (by decide +kernel), List.mem_of_getElem? (i := 1664) (by decide +kernel), List.mem_of_getElem? (i := 1665) (by decide +kernel)⟩
theorem lw_p87 : lw_okq (⟨"MedalBoardModel", "orNone", "(I)I"⟩, 41) := ⟨⟨by decide +kernel, by decide +kernel⟩, List.mem_of_getElem? (i := 1217) (by decide +kernel), List.mem_of_getElem? (i := 1680) (by decide +kernel), List.mem_of_getElem? (i := 1681) (by decide +kernel)⟩
theorem lw_p88 : lw_okq (⟨"MedalBoardModel", "doCarry", "(I)Z"⟩, 41) := ⟨⟨by decide +kernel, by decide +kernel⟩, List.mem_of_getElem? (i := 1217) (by decide +kernel), List.mem_of_getElem? (i := 1696) (by decide +kernel), List.mem_of_getElem? (i := 1697) (by decide +kernel)⟩
theorem lw_p89 : lw_okq (⟨"MedalBoardModel", "weightOf", "(I)I"⟩, 41) := ⟨⟨by decide +kernel, by decide +kernel⟩, List.mem_of_getElem? (i := 1217) (by decide +kernel), List.mem_of_getElem? (i := 1700) (by decide +kernel), List.mem_of_getElem? (i := 1701) (by decide +kernel)⟩
theorem lw_p90 : lw_okq (⟨"MedalBoardModel", "fewestOf", "()I"⟩, 41) := ⟨⟨by decide +kernel, by decide +kernel⟩, List.mem_of_getElem? (i := 1217) (by decide +kernel), List.mem_of_getElem? (i := 1708) (by decide +kernel), List.mem_of_getElem? (i := 1709) (by decide +kernel)⟩
theorem lw_p91 : lw_okq (⟨"MedalBoardModel", "powerOf", "(I)I"⟩, 41) := ⟨⟨by decide +kernel, by decide +kernel⟩, List.mem_of_getElem? (i := 1217) (by decide +kernel), List.mem_of_getElem? (i := 1720) (by decide +kernel), List.mem_of_getElem? (i := 1721) (by decide +kernel)⟩
theorem lw_p92 : lw_okq (⟨"MedalBoardModel", "tellsBy", "(JJ)Z"⟩, 41) := ⟨⟨by decide +kernel, by decide +kernel⟩, List.mem_of_getElem? (i := 1217) (by decide +kernel), List.mem_of_getElem? (i := 1727) (by decide +kernel), List.mem_of_getElem? (i := 1728) (by decide +kernel)⟩
theorem lw_p93 : lw_okq (⟨"MedalBoardModel", "wrongSizes", "(III)I"⟩, 41) := ⟨⟨by decide +kernel, by decide +kernel⟩, List.mem_of_getElem? (i := 1217) (by decide +kernel), List.mem_of_getElem? (i := 1743) (by decide +kernel), List.mem_of_getElem? (i := 1744) (by decide +kernel)⟩
theorem lw_p94 : lw_okq (⟨"MedalBoardModel", "ordering", "(III)I"⟩, 41) := ⟨⟨by decide +kernel, by decide +kernel⟩, List.mem_of_getElem? (i := 1217) (by decide +kernel), List.mem_of_getElem? (i := 1748) (by decide +kernel), List.mem_of_getElem? (i := 1749) (by decide +kernel)⟩
theorem lw_p95 : lw_okq (⟨"MedalBoardModel", "gotBy", "(IIII)I"⟩, 41) := ⟨⟨by decide +kernel, by decide +kernel⟩, List.mem_of_getElem? (i := 1217) (by decide +kernel), List.mem_of_getElem? (i := 1753) (by decide +kernel), List.mem_of_getElem? (i := 1754) (by decide +kernel)⟩
def lw_privs_6 : List (MethodName × Nat) := [(⟨"MedalBoardModel", "isIn", "(II)Z"⟩, 41), (⟨"MedalBoardModel", "votesFor", "(II)I"⟩, 41), (⟨"MedalBoardModel", "voteBy", "(II)I"⟩, 41), (⟨"MedalBoardModel", "hands", "(II)Z"⟩, 41), (⟨"MedalBoardModel", "loses", "(I)Z"⟩, 41), (⟨"MedalBoardModel", "falls", "(I)Z"⟩, 41), (⟨"MedalBoardModel", "standing", "(I)I"⟩, 41), (⟨"MedalBoardModel", "orNone", "(I)I"⟩, 41), (⟨"MedalBoardModel", "doCarry", "(I)Z"⟩, 41), (⟨"MedalBoardModel", "weightOf", "(I)I"⟩, 41), (⟨"MedalBoardModel", "fewestOf", "()I"⟩, 41), (⟨"MedalBoardModel", "powerOf", "(I)I"⟩, 41), (⟨"MedalBoardModel", "tellsBy", "(JJ)Z"⟩, 41), (⟨"MedalBoardModel", "wrongSizes", "(III)I"⟩, 41), (⟨"MedalBoardModel", "ordering", "(III)I"⟩, 41), (⟨"MedalBoardModel", "gotBy", "(IIII)I"⟩, 41)]
theorem lw_r6 : ∀ q ∈ lw_privs_6, lw_okq q := List.forall_mem_cons.mpr ⟨lw_p80, List.forall_mem_cons.mpr ⟨lw_p81, List.forall_mem_cons.mpr ⟨lw_p82, List.forall_mem_cons.mpr ⟨lw_p83, List.forall_mem_cons.mpr ⟨lw_p84, List.forall_mem_cons.mpr ⟨lw_p85, List.forall_mem_cons.mpr ⟨lw_p86, List.forall_mem_cons.mpr ⟨lw_p87, List.forall_mem_cons.mpr ⟨lw_p88, List.forall_mem_cons.mpr ⟨lw_p89, List.forall_mem_cons.mpr ⟨lw_p90, List.forall_mem_cons.mpr ⟨lw_p91, List.forall_mem_cons.mpr ⟨lw_p92, List.forall_mem_cons.mpr ⟨lw_p93, List.forall_mem_cons.mpr ⟨lw_p94, List.forall_mem_cons.mpr ⟨lw_p95, fun _ h => absurd h List.not_mem_nil⟩⟩⟩⟩⟩⟩⟩⟩⟩⟩⟩⟩⟩⟩⟩⟩
theorem lw_p96 : lw_okq (⟨"MedalBoardModel", "keeps", "(I)V"⟩, 41) := ⟨⟨by decide +kernel, by decide +kernel⟩, List.mem_of_getElem? (i := 1217) (by decide +kernel), List.mem_of_getElem? (i := 1757) (by decide +kernel), List.mem_of_getElem? (i := 1758) (by decide +kernel)⟩
theorem lw_p97 : lw_okq (⟨"MedalBoardModel", "sizeAt", "(II)I"⟩, 41) := ⟨⟨by decide +kernel, by decide +kernel⟩, List.mem_of_getElem? (i := 1217) (by decide +kernel), List.mem_of_getElem? (i := 1761) (by decide +kernel), List.mem_of_getElem? (i := 1762) (by decide +kernel)⟩
theorem lw_p98 : lw_okq (⟨"MedalBoardModel", "restores", "(I)V"⟩, 41) := ⟨⟨by decide +kernel, by decide +kernel⟩, List.mem_of_getElem? (i := 1217) (by decide +kernel), List.mem_of_getElem? (i := 1765) (by decide +kernel), List.mem_of_getElem? (i := 1766) (by decide +kernel)⟩
theorem lw_p99 : lw_okq (⟨"MedalBoardModel", "wrongSeen", "(III)I"⟩, 41) := ⟨⟨by decide +kernel, by decide +kernel⟩, List.mem_of_getElem? (i := 1217) (by decide +kernel), List.mem_of_getElem? (i := 1777) (by decide +kernel), List.mem_of_getElem? (i := 1778) (by decide +kernel)⟩
theorem lw_p100 : lw_okq (⟨"MedalBoardModel", "fitting", "(IIII)I"⟩, 41) := ⟨⟨by decide +kernel, by decide +kernel⟩, List.mem_of_getElem? (i := 1217) (by decide +kernel), List.mem_of_getElem? (i := 1781) (by decide +kernel), List.mem_of_getElem? (i := 1782) (by decide +kernel)⟩
theorem lw_p101 : lw_okq (⟨"MedalBoardModel", "fits", "(IIII)Z"⟩, 41) := ⟨⟨by decide +kernel, by decide +kernel⟩, List.mem_of_getElem? (i := 1217) (by decide +kernel), List.mem_of_getElem? (i := 1785) (by decide +kernel), List.mem_of_getElem? (i := 1786) (by decide +kernel)⟩
theorem lw_p102 : lw_okq (⟨"MedalBoardModel", "wouldStand", "(III)Z"⟩, 41) := ⟨⟨by decide +kernel, by decide +kernel⟩, List.mem_of_getElem? (i := 1217) (by decide +kernel), List.mem_of_getElem? (i := 1789) (by decide +kernel), List.mem_of_getElem? (i := 1790) (by decide +kernel)⟩
theorem lw_p103 : lw_okq (⟨"MedalBoardModel", "pairing", "(I)V"⟩, 41) := ⟨⟨by decide +kernel, by decide +kernel⟩, List.mem_of_getElem? (i := 1217) (by decide +kernel), List.mem_of_getElem? (i := 1807) (by decide +kernel), List.mem_of_getElem? (i := 1808) (by decide +kernel)⟩
theorem lw_p104 : lw_okq (⟨"MedalBoardModel", "weighs", "()V"⟩, 41) := ⟨⟨by decide +kernel, by decide +kernel⟩, List.mem_of_getElem? (i := 1217) (by decide +kernel), List.mem_of_getElem? (i := 1811) (by decide +kernel), List.mem_of_getElem? (i := 1812) (by decide +kernel)⟩
theorem lw_p105 : lw_okq (⟨"MedalBoardModel", "fondOf", "(II)I"⟩, 41) := ⟨⟨by decide +kernel, by decide +kernel⟩, List.mem_of_getElem? (i := 1217) (by decide +kernel), List.mem_of_getElem? (i := 1815) (by decide +kernel), List.mem_of_getElem? (i := 1816) (by decide +kernel)⟩
theorem lw_p106 : lw_okq (⟨"MedalBoardModel", "isFree", "(III)Z"⟩, 41) := ⟨⟨by decide +kernel, by decide +kernel⟩, List.mem_of_getElem? (i := 1217) (by decide +kernel), List.mem_of_getElem? (i := 1819) (by decide +kernel), List.mem_of_getElem? (i := 1820) (by decide +kernel)⟩
theorem lw_p107 : lw_okq (⟨"MedalBoardModel", "areTwo", "(II)Z"⟩, 41) := ⟨⟨by decide +kernel, by decide +kernel⟩, List.mem_of_getElem? (i := 1217) (by decide +kernel), List.mem_of_getElem? (i := 1835) (by decide +kernel), List.mem_of_getElem? (i := 1836) (by decide +kernel)⟩
theorem lw_p108 : lw_okq (⟨"MedalBoardModel", "playing", "(IIII)I"⟩, 41) := ⟨⟨by decide +kernel, by decide +kernel⟩, List.mem_of_getElem? (i := 1217) (by decide +kernel), List.mem_of_getElem? (i := 1839) (by decide +kernel), List.mem_of_getElem? (i := 1840) (by decide +kernel)⟩
theorem lw_p109 : lw_okq (⟨"MedalBoardModel", "playedBy", "(IIIII)I"⟩, 41) := ⟨⟨by decide +kernel, by decide +kernel⟩, List.mem_of_getElem? (i := 1217) (by decide +kernel), List.mem_of_getElem? (i := 1843) (by decide +kernel), List.mem_of_getElem? (i := 1844) (by decide +kernel)⟩
theorem lw_p110 : lw_okq (⟨"MedalBoardModel", "lives", "(I)V"⟩, 41) := ⟨⟨by decide +kernel, by decide +kernel⟩, List.mem_of_getElem? (i := 1217) (by decide +kernel), List.mem_of_getElem? (i := 1872) (by decide +kernel), List.mem_of_getElem? (i := 1873) (by decide +kernel)⟩
theorem lw_p111 : lw_okq (⟨"MedalBoardModel", "does", "(I)Z"⟩, 41) := ⟨⟨by decide +kernel, by decide +kernel⟩, List.mem_of_getElem? (i := 1217) (by decide +kernel), List.mem_of_getElem? (i := 1876) (by decide +kernel), List.mem_of_getElem? (i := 1877) (by decide +kernel)⟩
def lw_privs_7 : List (MethodName × Nat) := [(⟨"MedalBoardModel", "keeps", "(I)V"⟩, 41), (⟨"MedalBoardModel", "sizeAt", "(II)I"⟩, 41), (⟨"MedalBoardModel", "restores", "(I)V"⟩, 41), (⟨"MedalBoardModel", "wrongSeen", "(III)I"⟩, 41), (⟨"MedalBoardModel", "fitting", "(IIII)I"⟩, 41), (⟨"MedalBoardModel", "fits", "(IIII)Z"⟩, 41), (⟨"MedalBoardModel", "wouldStand", "(III)Z"⟩, 41), (⟨"MedalBoardModel", "pairing", "(I)V"⟩, 41), (⟨"MedalBoardModel", "weighs", "()V"⟩, 41), (⟨"MedalBoardModel", "fondOf", "(II)I"⟩, 41), (⟨"MedalBoardModel", "isFree", "(III)Z"⟩, 41), (⟨"MedalBoardModel", "areTwo", "(II)Z"⟩, 41), (⟨"MedalBoardModel", "playing", "(IIII)I"⟩, 41), (⟨"MedalBoardModel", "playedBy", "(IIIII)I"⟩, 41), (⟨"MedalBoardModel", "lives", "(I)V"⟩, 41), (⟨"MedalBoardModel", "does", "(I)Z"⟩, 41)]
theorem lw_r7 : ∀ q ∈ lw_privs_7, lw_okq q := List.forall_mem_cons.mpr ⟨lw_p96, List.forall_mem_cons.mpr ⟨lw_p97, List.forall_mem_cons.mpr ⟨lw_p98, List.forall_mem_cons.mpr ⟨lw_p99, List.forall_mem_cons.mpr ⟨lw_p100, List.forall_mem_cons.mpr ⟨lw_p101, List.forall_mem_cons.mpr ⟨lw_p102, List.forall_mem_cons.mpr ⟨lw_p103, List.forall_mem_cons.mpr ⟨lw_p104, List.forall_mem_cons.mpr ⟨lw_p105, List.forall_mem_cons.mpr ⟨lw_p106, List.forall_mem_cons.mpr ⟨lw_p107, List.forall_mem_cons.mpr ⟨lw_p108, List.forall_mem_cons.mpr ⟨lw_p109, List.forall_mem_cons.mpr ⟨lw_p110, List.forall_mem_cons.mpr ⟨lw_p111, fun _ h => absurd h List.not_mem_nil⟩⟩⟩⟩⟩⟩⟩⟩⟩⟩⟩⟩⟩⟩⟩⟩
theorem lw_p112 : lw_okq (⟨"MedalBoardModel", "facesBy", "(II)Z"⟩, 41) := ⟨⟨by decide +kernel, by decide +kernel⟩, List.mem_of_getElem? (i := 1217) (by decide +kernel), List.mem_of_getElem? (i := 1880) (by decide +kernel), List.mem_of_getElem? (i := 1881) (by decide +kernel)⟩
theorem lw_p113 : lw_okq (⟨"MedalBoardModel", "facesAny", "()Z"⟩, 41) := ⟨⟨by decide +kernel, by decide +kernel⟩, List.mem_of_getElem? (i := 1217) (by decide +kernel), List.mem_of_getElem? (i := 1884) (by decide +kernel), List.mem_of_getElem? (i := 1885) (by decide +kernel)⟩
theorem lw_p114 : lw_okq (⟨"MedalBoardModel", "draw", "(I)I"⟩, 41) := ⟨⟨by decide +kernel, by decide +kernel⟩, List.mem_of_getElem? (i := 1217) (by decide +kernel), List.mem_of_getElem? (i := 1888) (by decide +kernel), List.mem_of_getElem? (i := 1889) (by decide +kernel)⟩
theorem lw_p115 : lw_okq (⟨"MedalBoardModel", "holds", "(I)Z"⟩, 41) := ⟨⟨by decide +kernel, by decide +kernel⟩, List.mem_of_getElem? (i := 1217) (by decide +kernel), List.mem_of_getElem? (i := 1893) (by decide +kernel), List.mem_of_getElem? (i := 1894) (by decide +kernel)⟩
theorem lw_p116 : lw_okq (⟨"MedalBoardModel", "behindEnds", "(I)I"⟩, 41) := ⟨⟨by decide +kernel, by decide +kernel⟩, List.mem_of_getElem? (i := 1217) (by decide +kernel), List.mem_of_getElem? (i := 1897) (by decide +kernel), List.mem_of_getElem? (i := 1898) (by decide +kernel)⟩
theorem lw_p117 : lw_okq (⟨"MedalBoardModel", "copies", "(II)V"⟩, 41) := ⟨⟨by decide +kernel, by decide +kernel⟩, List.mem_of_getElem? (i := 1217) (by decide +kernel), List.mem_of_getElem? (i := 1913) (by decide +kernel), List.mem_of_getElem? (i := 1914) (by decide +kernel)⟩
def lw_privs_8 : List (MethodName × Nat) := [(⟨"MedalBoardModel", "facesBy", "(II)Z"⟩, 41), (⟨"MedalBoardModel", "facesAny", "()Z"⟩, 41), (⟨"MedalBoardModel", "draw", "(I)I"⟩, 41), (⟨"MedalBoardModel", "holds", "(I)Z"⟩, 41), (⟨"MedalBoardModel", "behindEnds", "(I)I"⟩, 41), (⟨"MedalBoardModel", "copies", "(II)V"⟩, 41)]
theorem lw_r8 : ∀ q ∈ lw_privs_8, lw_okq q := List.forall_mem_cons.mpr ⟨lw_p112, List.forall_mem_cons.mpr ⟨lw_p113, List.forall_mem_cons.mpr ⟨lw_p114, List.forall_mem_cons.mpr ⟨lw_p115, List.forall_mem_cons.mpr ⟨lw_p116, List.forall_mem_cons.mpr ⟨lw_p117, fun _ h => absurd h List.not_mem_nil⟩⟩⟩⟩⟩⟩
def lw_privs : List (MethodName × Nat) := lw_privs_1 ++ (lw_privs_2 ++ (lw_privs_3 ++ (lw_privs_4 ++ (lw_privs_5 ++ (lw_privs_6 ++ (lw_privs_7 ++ (lw_privs_8)))))))
def lw_tbl : List Cond := k2_sels lw_privs ++ tables_1
theorem lw_privs_ok : ∀ q ∈ lw_privs, lw_okq q := by
  show ∀ q ∈ lw_privs_1 ++ (lw_privs_2 ++ (lw_privs_3 ++ (lw_privs_4 ++ (lw_privs_5 ++ (lw_privs_6 ++ (lw_privs_7 ++ (lw_privs_8))))))), lw_okq q
  exact List.forall_mem_append.mpr ⟨lw_r1, List.forall_mem_append.mpr ⟨lw_r2, List.forall_mem_append.mpr ⟨lw_r3, List.forall_mem_append.mpr ⟨lw_r4, List.forall_mem_append.mpr ⟨lw_r5, List.forall_mem_append.mpr ⟨lw_r6, List.forall_mem_append.mpr ⟨lw_r7, lw_r8⟩⟩⟩⟩⟩⟩⟩
def RX0 : String := "MedalBoard$Army"
def TX0 : u_T := fun k => match k with
  | 0 => ("MedalBoard$Army", "name", "[J", true)
  | 1 => ("MedalBoard$Army", "courage", "[I", true)
  | 2 => ("MedalBoard$Army", "weight", "[I", true)
  | 3 => ("MedalBoard$Army", "medals", "[I", true)
  | 4 => ("MedalBoard$Army", "stood", "[I", true)
  | 5 => ("MedalBoard$Army", "fled", "[I", true)
  | 6 => ("MedalBoard$Army", "liked", "[I", true)
  | 7 => ("MedalBoard$Army", "votes", "[I", true)
  | 8 => ("MedalBoard$Army", "count", "I", false)
  | 9 => ("MedalBoard$Army", "living", "I", false)
  | 10 => ("MedalBoard$Army", "pride", "I", false)
  | 11 => ("MedalBoard$Army", "quota", "I", false)
  | 12 => ("MedalBoard$Army", "melted", "I", false)
  | _ => ("MedalBoard$Army", "lost", "I", false)
def tyX0 : Nat → FieldType := fun k => match k with
  | 0 => .array .long
  | 1 => .array .int
  | 2 => .array .int
  | 3 => .array .int
  | 4 => .array .int
  | 5 => .array .int
  | 6 => .array .int
  | 7 => .array .int
  | 8 => .int
  | 9 => .int
  | 10 => .int
  | 11 => .int
  | 12 => .int
  | _ => .int
theorem nmX0 : ∀ a, a < 14 → ∀ b, b < 14 → a ≠ b → (TX0 a).2.1 ≠ (TX0 b).2.1 := by decide +kernel
theorem tyX0_ok : ∀ k, k < 14 → parseFieldDescriptor (TX0 k).2.2.1 = some (tyX0 k) := by decide +kernel
abbrev cX0_init : ByteArray := prog_2_method_1_code
def yX0_init : MethodName := ⟨RX0, "<init>", "()V"⟩
abbrev cX0_clear : ByteArray := prog_2_method_2_code
def yX0_clear : MethodName := ⟨RX0, "clear", "()V"⟩
abbrev cX0_become : ByteArray := prog_2_method_3_code
def yX0_become : MethodName := ⟨RX0, "become", "(LMedalBoard$Army;)V"⟩
abbrev cX0_add : ByteArray := prog_2_method_4_code
def yX0_add : MethodName := ⟨RX0, "add", "(JII)I"⟩
abbrev cX0_named : ByteArray := prog_2_method_5_code
def yX0_named : MethodName := ⟨RX0, "named", "(J)I"⟩
abbrev cX0_isMan : ByteArray := prog_2_method_6_code
def yX0_isMan : MethodName := ⟨RX0, "isMan", "(I)Z"⟩
abbrev cX0_lives : ByteArray := prog_2_method_7_code
def yX0_lives : MethodName := ⟨RX0, "lives", "(I)Z"⟩
abbrev cX0_liking : ByteArray := prog_2_method_8_code
def yX0_liking : MethodName := ⟨RX0, "liking", "(II)I"⟩
abbrev cX0_setLiking : ByteArray := prog_2_method_9_code
def yX0_setLiking : MethodName := ⟨RX0, "setLiking", "(III)V"⟩
abbrev cX0_decorated : ByteArray := prog_2_method_10_code
def yX0_decorated : MethodName := ⟨RX0, "decorated", "()I"⟩
abbrev cX0_bravery : ByteArray := prog_2_method_11_code
def yX0_bravery : MethodName := ⟨RX0, "bravery", "(I)I"⟩
abbrev cX0_braveryWith : ByteArray := prog_2_method_12_code
def yX0_braveryWith : MethodName := ⟨RX0, "braveryWith", "(II)I"⟩
abbrev cX0_stands : ByteArray := prog_2_method_13_code
def yX0_stands : MethodName := ⟨RX0, "stands", "(II)Z"⟩
abbrev cX0_runners : ByteArray := prog_2_method_14_code
def yX0_runners : MethodName := ⟨RX0, "runners", "(I)I"⟩
abbrev cX0_othersWhoRun : ByteArray := prog_2_method_15_code
def yX0_othersWhoRun : MethodName := ⟨RX0, "othersWhoRun", "(II)I"⟩
abbrev cX0_choiceOf : ByteArray := prog_2_method_16_code
def yX0_choiceOf : MethodName := ⟨RX0, "choiceOf", "(II)I"⟩
abbrev cX0_votesFor : ByteArray := prog_2_method_17_code
def yX0_votesFor : MethodName := ⟨RX0, "votesFor", "(II)I"⟩
abbrev cX0_winnerOf : ByteArray := prog_2_method_18_code
def yX0_winnerOf : MethodName := ⟨RX0, "winnerOf", "(I)I"⟩
abbrev cX0_endure : ByteArray := prog_2_method_19_code
def yX0_endure : MethodName := ⟨RX0, "endure", "(II)I"⟩
abbrev cX0_pin : ByteArray := prog_2_method_20_code
def yX0_pin : MethodName := ⟨RX0, "pin", "(I)Z"⟩
abbrev cX0_unpin : ByteArray := prog_2_method_21_code
def yX0_unpin : MethodName := ⟨RX0, "unpin", "(I)V"⟩
abbrev cX0_handOver : ByteArray := prog_2_method_22_code
def yX0_handOver : MethodName := ⟨RX0, "handOver", "(II)Z"⟩
abbrev cX0_loseOne : ByteArray := prog_2_method_23_code
def yX0_loseOne : MethodName := ⟨RX0, "loseOne", "(I)Z"⟩
abbrev cX0_strike : ByteArray := prog_2_method_24_code
def yX0_strike : MethodName := ⟨RX0, "strike", "(I)Z"⟩
abbrev cX0_weightOf : ByteArray := prog_2_method_25_code
def yX0_weightOf : MethodName := ⟨RX0, "weightOf", "(I)I"⟩
abbrev cX0_isCarriedBy : ByteArray := prog_2_method_26_code
def yX0_isCarriedBy : MethodName := ⟨RX0, "isCarriedBy", "(I)Z"⟩
def RX1 : String := "MedalBoard$ArmyReader"
def TX1 : u_T := fun k => match k with
  | 0 => ("MedalBoard$ArmyReader", "in", "LMedalBoard$Reader;", true)
  | 1 => ("MedalBoard$ArmyReader", "army", "LMedalBoard$Army;", true)
  | 2 => ("MedalBoard$ArmyReader", "prideTold", "Z", false)
  | _ => ("MedalBoard$ArmyReader", "quotaTold", "Z", false)
def tyX1 : Nat → FieldType := fun k => match k with
  | 0 => .object "MedalBoard$Reader"
  | 1 => .object "MedalBoard$Army"
  | 2 => .boolean
  | _ => .boolean
theorem nmX1 : ∀ a, a < 4 → ∀ b, b < 4 → a ≠ b → (TX1 a).2.1 ≠ (TX1 b).2.1 := by decide +kernel
theorem tyX1_ok : ∀ k, k < 4 → parseFieldDescriptor (TX1 k).2.2.1 = some (tyX1 k) := by decide +kernel
abbrev cX1_init : ByteArray := prog_3_method_1_code
def yX1_init : MethodName := ⟨RX1, "<init>", "(LMedalBoard$Reader;LMedalBoard$Army;)V"⟩
abbrev cX1_readDraft : ByteArray := prog_3_method_2_code
def yX1_readDraft : MethodName := ⟨RX1, "readDraft", "()Z"⟩
abbrev cX1_takePride : ByteArray := prog_3_method_3_code
def yX1_takePride : MethodName := ⟨RX1, "takePride", "()Z"⟩
abbrev cX1_takeQuota : ByteArray := prog_3_method_4_code
def yX1_takeQuota : MethodName := ⟨RX1, "takeQuota", "()Z"⟩
abbrev cX1_takeNewMan : ByteArray := prog_3_method_5_code
def yX1_takeNewMan : MethodName := ⟨RX1, "takeNewMan", "()Z"⟩
abbrev cX1_takeIfTold : ByteArray := prog_3_method_6_code
def yX1_takeIfTold : MethodName := ⟨RX1, "takeIfTold", "(III)I"⟩
abbrev cX1_takeLikes : ByteArray := prog_3_method_7_code
def yX1_takeLikes : MethodName := ⟨RX1, "takeLikes", "()Z"⟩
def RX2 : String := "MedalBoard$Campaign"
def TX2 : u_T := fun k => match k with
  | 0 => ("MedalBoard$Campaign", "roundsLeft", "[I", true)
  | 1 => ("MedalBoard$Campaign", "army", "LMedalBoard$Army;", true)
  | 2 => ("MedalBoard$Campaign", "war", "LMedalBoard$War;", true)
  | 3 => ("MedalBoard$Campaign", "drawn", "I", false)
  | 4 => ("MedalBoard$Campaign", "fought", "Z", false)
  | 5 => ("MedalBoard$Campaign", "steps", "I", false)
  | 6 => ("MedalBoard$Campaign", "missed", "I", false)
  | 7 => ("MedalBoard$Campaign", "stood", "I", false)
  | 8 => ("MedalBoard$Campaign", "fled", "I", false)
  | 9 => ("MedalBoard$Campaign", "pinned", "I", false)
  | _ => ("MedalBoard$Campaign", "left", "I", false)
def tyX2 : Nat → FieldType := fun k => match k with
  | 0 => .array .int
  | 1 => .object "MedalBoard$Army"
  | 2 => .object "MedalBoard$War"
  | 3 => .int
  | 4 => .boolean
  | 5 => .int
  | 6 => .int
  | 7 => .int
  | 8 => .int
  | 9 => .int
  | _ => .int
theorem nmX2 : ∀ a, a < 11 → ∀ b, b < 11 → a ≠ b → (TX2 a).2.1 ≠ (TX2 b).2.1 := by decide +kernel
theorem tyX2_ok : ∀ k, k < 11 → parseFieldDescriptor (TX2 k).2.2.1 = some (tyX2 k) := by decide +kernel
abbrev cX2_init : ByteArray := prog_4_method_1_code
def yX2_init : MethodName := ⟨RX2, "<init>", "(LMedalBoard$Army;LMedalBoard$War;)V"⟩
abbrev cX2_fight : ByteArray := prog_4_method_2_code
def yX2_fight : MethodName := ⟨RX2, "fight", "(I)V"⟩
abbrev cX2_begin : ByteArray := prog_4_method_3_code
def yX2_begin : MethodName := ⟨RX2, "begin", "(I)V"⟩
abbrev cX2_behindEnd : ByteArray := prog_4_method_4_code
def yX2_behindEnd : MethodName := ⟨RX2, "behindEnd", "(I)I"⟩
abbrev cX2_behindStep : ByteArray := prog_4_method_5_code
def yX2_behindStep : MethodName := ⟨RX2, "behindStep", "(I)I"⟩
abbrev cX2_countMiss : ByteArray := prog_4_method_6_code
def yX2_countMiss : MethodName := ⟨RX2, "countMiss", "(Z)V"⟩
abbrev cX2_faceDanger : ByteArray := prog_4_method_7_code
def yX2_faceDanger : MethodName := ⟨RX2, "faceDanger", "(II)V"⟩
abbrev cX2_drawBy : ByteArray := prog_4_method_8_code
def yX2_drawBy : MethodName := ⟨RX2, "drawBy", "(I)I"⟩
abbrev cX2_testHolds : ByteArray := prog_4_method_9_code
def yX2_testHolds : MethodName := ⟨RX2, "testHolds", "(I)Z"⟩
abbrev cX2_report : ByteArray := prog_4_method_10_code
def yX2_report : MethodName := ⟨RX2, "report", "(I)I"⟩
def RX3 : String := "MedalBoard$Council"
def TX3 : u_T := fun k => match k with
  | _ => ("", "", "", false)
def tyX3 : Nat → FieldType := fun k => match k with
  | _ => .int
theorem nmX3 : ∀ a, a < 0 → ∀ b, b < 0 → a ≠ b → (TX3 a).2.1 ≠ (TX3 b).2.1 := by decide +kernel
theorem tyX3_ok : ∀ k, k < 0 → parseFieldDescriptor (TX3 k).2.2.1 = some (tyX3 k) := by decide +kernel
abbrev cX3_fewestOf : ByteArray := prog_5_method_2_code
def yX3_fewestOf : MethodName := ⟨RX3, "fewestOf", "(LMedalBoard$Army;)I"⟩
abbrev cX3_ordersOf : ByteArray := prog_5_method_3_code
def yX3_ordersOf : MethodName := ⟨RX3, "ordersOf", "(I)I"⟩
abbrev cX3_ordersCarriedBy : ByteArray := prog_5_method_4_code
def yX3_ordersCarriedBy : MethodName := ⟨RX3, "ordersCarriedBy", "(LMedalBoard$Army;I)I"⟩
abbrev cX3_mightiestOf : ByteArray := prog_5_method_5_code
def yX3_mightiestOf : MethodName := ⟨RX3, "mightiestOf", "(LMedalBoard$Army;)I"⟩
def RX4 : String := "MedalBoard$Foresight"
def TX4 : u_T := fun k => match k with
  | 0 => ("MedalBoard$Foresight", "men", "LMedalBoard$Army;", true)
  | 1 => ("MedalBoard$Foresight", "sizes", "[I", true)
  | _ => ("MedalBoard$Foresight", "dangers", "I", false)
def tyX4 : Nat → FieldType := fun k => match k with
  | 0 => .object "MedalBoard$Army"
  | 1 => .array .int
  | _ => .int
theorem nmX4 : ∀ a, a < 3 → ∀ b, b < 3 → a ≠ b → (TX4 a).2.1 ≠ (TX4 b).2.1 := by decide +kernel
theorem tyX4_ok : ∀ k, k < 3 → parseFieldDescriptor (TX4 k).2.2.1 = some (tyX4 k) := by decide +kernel
abbrev cX4_init : ByteArray := prog_6_method_1_code
def yX4_init : MethodName := ⟨RX4, "<init>", "()V"⟩
abbrev cX4_look : ByteArray := prog_6_method_2_code
def yX4_look : MethodName := ⟨RX4, "look", "(LMedalBoard$Army;LMedalBoard$Tray;I)V"⟩
abbrev cX4_mostFor : ByteArray := prog_6_method_3_code
def yX4_mostFor : MethodName := ⟨RX4, "mostFor", "(I)I"⟩
abbrev cX4_facerOf : ByteArray := prog_6_method_4_code
def yX4_facerOf : MethodName := ⟨RX4, "facerOf", "(II)I"⟩
abbrev cX4_firstBestFacer : ByteArray := prog_6_method_5_code
def yX4_firstBestFacer : MethodName := ⟨RX4, "firstBestFacer", "(II)I"⟩
abbrev cX4_mostFrom : ByteArray := prog_6_method_6_code
def yX4_mostFrom : MethodName := ⟨RX4, "mostFrom", "(II)I"⟩
abbrev cX4_mostIfStood : ByteArray := prog_6_method_7_code
def yX4_mostIfStood : MethodName := ⟨RX4, "mostIfStood", "(III)I"⟩
abbrev cX4_valueFor : ByteArray := prog_6_method_8_code
def yX4_valueFor : MethodName := ⟨RX4, "valueFor", "(II)I"⟩
abbrev cX4_moveFor : ByteArray := prog_6_method_9_code
def yX4_moveFor : MethodName := ⟨RX4, "moveFor", "(II)I"⟩
abbrev cX4_valueFrom : ByteArray := prog_6_method_10_code
def yX4_valueFrom : MethodName := ⟨RX4, "valueFrom", "(III)I"⟩
abbrev cX4_valueIfStood : ByteArray := prog_6_method_11_code
def yX4_valueIfStood : MethodName := ⟨RX4, "valueIfStood", "(III)I"⟩
def RX5 : String := "MedalBoard$Pairs"
def TX5 : u_T := fun k => match k with
  | 0 => ("MedalBoard$Pairs", "heroes", "[I", true)
  | 1 => ("MedalBoard$Pairs", "tried", "[I", true)
  | 2 => ("MedalBoard$Pairs", "chosen", "[I", true)
  | 3 => ("MedalBoard$Pairs", "army", "LMedalBoard$Army;", true)
  | 4 => ("MedalBoard$Pairs", "heroCount", "I", false)
  | 5 => ("MedalBoard$Pairs", "couples", "I", false)
  | _ => ("MedalBoard$Pairs", "fondest", "I", false)
def tyX5 : Nat → FieldType := fun k => match k with
  | 0 => .array .int
  | 1 => .array .int
  | 2 => .array .int
  | 3 => .object "MedalBoard$Army"
  | 4 => .int
  | 5 => .int
  | _ => .int
theorem nmX5 : ∀ a, a < 7 → ∀ b, b < 7 → a ≠ b → (TX5 a).2.1 ≠ (TX5 b).2.1 := by decide +kernel
theorem tyX5_ok : ∀ k, k < 7 → parseFieldDescriptor (TX5 k).2.2.1 = some (tyX5 k) := by decide +kernel
abbrev cX5_init : ByteArray := prog_7_method_1_code
def yX5_init : MethodName := ⟨RX5, "<init>", "(LMedalBoard$Army;)V"⟩
abbrev cX5_match : ByteArray := prog_7_method_2_code
def yX5_match : MethodName := ⟨RX5, "match", "(I)V"⟩
abbrev cX5_search : ByteArray := prog_7_method_3_code
def yX5_search : MethodName := ⟨RX5, "search", "(IIII)V"⟩
abbrev cX5_partnerOf : ByteArray := prog_7_method_4_code
def yX5_partnerOf : MethodName := ⟨RX5, "partnerOf", "(I)I"⟩
def RX6 : String := "MedalBoard$Reader"
def TX6 : u_T := fun k => match k with
  | 0 => ("MedalBoard$Reader", "tape", "LMedalBoard$Tape;", true)
  | 1 => ("MedalBoard$Reader", "fault", "I", false)
  | _ => ("MedalBoard$Reader", "place", "I", false)
def tyX6 : Nat → FieldType := fun k => match k with
  | 0 => .object "MedalBoard$Tape"
  | 1 => .int
  | _ => .int
theorem nmX6 : ∀ a, a < 3 → ∀ b, b < 3 → a ≠ b → (TX6 a).2.1 ≠ (TX6 b).2.1 := by decide +kernel
theorem tyX6_ok : ∀ k, k < 3 → parseFieldDescriptor (TX6 k).2.2.1 = some (tyX6 k) := by decide +kernel
abbrev cX6_init : ByteArray := prog_8_method_1_code
def yX6_init : MethodName := ⟨RX6, "<init>", "()V"⟩
abbrev cX6_begin : ByteArray := prog_8_method_2_code
def yX6_begin : MethodName := ⟨RX6, "begin", "(I)V"⟩
abbrev cX6_fail : ByteArray := prog_8_method_3_code
def yX6_fail : MethodName := ⟨RX6, "fail", "(I)Z"⟩
abbrev cX6_atEnd : ByteArray := prog_8_method_4_code
def yX6_atEnd : MethodName := ⟨RX6, "atEnd", "()Z"⟩
abbrev cX6_isSign : ByteArray := prog_8_method_5_code
def yX6_isSign : MethodName := ⟨RX6, "isSign", "(I)Z"⟩
abbrev cX6_takeSign : ByteArray := prog_8_method_6_code
def yX6_takeSign : MethodName := ⟨RX6, "takeSign", "(I)Z"⟩
abbrev cX6_takeWord : ByteArray := prog_8_method_7_code
def yX6_takeWord : MethodName := ⟨RX6, "takeWord", "(I)Z"⟩
abbrev cX6_takeNumber : ByteArray := prog_8_method_8_code
def yX6_takeNumber : MethodName := ⟨RX6, "takeNumber", "(II)I"⟩
abbrev cX6_takeMan : ByteArray := prog_8_method_9_code
def yX6_takeMan : MethodName := ⟨RX6, "takeMan", "(LMedalBoard$Army;I)I"⟩
def RX7 : String := "MedalBoard$Tape"
def TX7 : u_T := fun k => match k with
  | 0 => ("MedalBoard$Tape", "bytes", "[B", true)
  | 1 => ("MedalBoard$Tape", "wordCodes", "[J", true)
  | 2 => ("MedalBoard$Tape", "length", "I", false)
  | 3 => ("MedalBoard$Tape", "kind", "I", false)
  | 4 => ("MedalBoard$Tape", "start", "I", false)
  | 5 => ("MedalBoard$Tape", "value", "I", false)
  | 6 => ("MedalBoard$Tape", "word", "I", false)
  | 7 => ("MedalBoard$Tape", "name", "J", false)
  | 8 => ("MedalBoard$Tape", "end", "I", false)
  | _ => ("MedalBoard$Tape", "at", "I", false)
def tyX7 : Nat → FieldType := fun k => match k with
  | 0 => .array .byte
  | 1 => .array .long
  | 2 => .int
  | 3 => .int
  | 4 => .int
  | 5 => .int
  | 6 => .int
  | 7 => .long
  | 8 => .int
  | _ => .int
theorem nmX7 : ∀ a, a < 10 → ∀ b, b < 10 → a ≠ b → (TX7 a).2.1 ≠ (TX7 b).2.1 := by decide +kernel
theorem tyX7_ok : ∀ k, k < 10 → parseFieldDescriptor (TX7 k).2.2.1 = some (tyX7 k) := by decide +kernel
abbrev cX7_init : ByteArray := prog_9_method_1_code
def yX7_init : MethodName := ⟨RX7, "<init>", "()V"⟩
abbrev cX7_append : ByteArray := prog_9_method_2_code
def yX7_append : MethodName := ⟨RX7, "append", "(IIIII)I"⟩
abbrev cX7_appendFour : ByteArray := prog_9_method_3_code
def yX7_appendFour : MethodName := ⟨RX7, "appendFour", "(I)V"⟩
abbrev cX7_rewind : ByteArray := prog_9_method_4_code
def yX7_rewind : MethodName := ⟨RX7, "rewind", "(I)V"⟩
abbrev cX7_next : ByteArray := prog_9_method_5_code
def yX7_next : MethodName := ⟨RX7, "next", "()V"⟩
abbrev cX7_takeLetters : ByteArray := prog_9_method_6_code
def yX7_takeLetters : MethodName := ⟨RX7, "takeLetters", "()V"⟩
abbrev cX7_takeDigits : ByteArray := prog_9_method_7_code
def yX7_takeDigits : MethodName := ⟨RX7, "takeDigits", "()V"⟩
abbrev cX7_isLetter : ByteArray := prog_9_method_8_code
def yX7_isLetter : MethodName := ⟨RX7, "isLetter", "(I)Z"⟩
abbrev cX7_isDigit : ByteArray := prog_9_method_9_code
def yX7_isDigit : MethodName := ⟨RX7, "isDigit", "(I)Z"⟩
def RX8 : String := "MedalBoard$Tray"
def TX8 : u_T := fun k => match k with
  | 0 => ("MedalBoard$Tray", "row", "[J", true)
  | 1 => ("MedalBoard$Tray", "missing", "Z", false)
  | 2 => ("MedalBoard$Tray", "sort", "I", false)
  | _ => ("MedalBoard$Tray", "many", "I", false)
def tyX8 : Nat → FieldType := fun k => match k with
  | 0 => .array .long
  | 1 => .boolean
  | 2 => .int
  | _ => .int
theorem nmX8 : ∀ a, a < 4 → ∀ b, b < 4 → a ≠ b → (TX8 a).2.1 ≠ (TX8 b).2.1 := by decide +kernel
theorem tyX8_ok : ∀ k, k < 4 → parseFieldDescriptor (TX8 k).2.2.1 = some (tyX8 k) := by decide +kernel
abbrev cX8_init : ByteArray := prog_10_method_1_code
def yX8_init : MethodName := ⟨RX8, "<init>", "()V"⟩
abbrev cX8_lay : ByteArray := prog_10_method_2_code
def yX8_lay : MethodName := ⟨RX8, "lay", "(II)V"⟩
abbrev cX8_hasPlaces : ByteArray := prog_10_method_3_code
def yX8_hasPlaces : MethodName := ⟨RX8, "hasPlaces", "(II)Z"⟩
abbrev cX8_put : ByteArray := prog_10_method_4_code
def yX8_put : MethodName := ⟨RX8, "put", "(IJ)V"⟩
abbrev cX8_at : ByteArray := prog_10_method_5_code
def yX8_at : MethodName := ⟨RX8, "at", "(I)J"⟩
abbrev cX8_sizesRefusal : ByteArray := prog_10_method_6_code
def yX8_sizesRefusal : MethodName := ⟨RX8, "sizesRefusal", "(II)I"⟩
abbrev cX8_cut : ByteArray := prog_10_method_7_code
def yX8_cut : MethodName := ⟨RX8, "cut", "(J)J"⟩
def RX9 : String := "MedalBoard$War"
def TX9 : u_T := fun k => match k with
  | 0 => ("MedalBoard$War", "deed", "[I", true)
  | 1 => ("MedalBoard$War", "man", "[I", true)
  | 2 => ("MedalBoard$War", "other", "[I", true)
  | 3 => ("MedalBoard$War", "sign", "[I", true)
  | 4 => ("MedalBoard$War", "number", "[I", true)
  | 5 => ("MedalBoard$War", "mate", "[I", true)
  | 6 => ("MedalBoard$War", "there", "Z", false)
  | 7 => ("MedalBoard$War", "rows", "I", false)
  | _ => ("MedalBoard$War", "steps", "I", false)
def tyX9 : Nat → FieldType := fun k => match k with
  | 0 => .array .int
  | 1 => .array .int
  | 2 => .array .int
  | 3 => .array .int
  | 4 => .array .int
  | 5 => .array .int
  | 6 => .boolean
  | 7 => .int
  | _ => .int
theorem nmX9 : ∀ a, a < 9 → ∀ b, b < 9 → a ≠ b → (TX9 a).2.1 ≠ (TX9 b).2.1 := by decide +kernel
theorem tyX9_ok : ∀ k, k < 9 → parseFieldDescriptor (TX9 k).2.2.1 = some (tyX9 k) := by decide +kernel
abbrev cX9_init : ByteArray := prog_11_method_1_code
def yX9_init : MethodName := ⟨RX9, "<init>", "()V"⟩
abbrev cX9_clear : ByteArray := prog_11_method_2_code
def yX9_clear : MethodName := ⟨RX9, "clear", "()V"⟩
abbrev cX9_become : ByteArray := prog_11_method_3_code
def yX9_become : MethodName := ⟨RX9, "become", "(LMedalBoard$War;)V"⟩
abbrev cX9_step : ByteArray := prog_11_method_4_code
def yX9_step : MethodName := ⟨RX9, "step", "(I)V"⟩
abbrev cX9_close : ByteArray := prog_11_method_5_code
def yX9_close : MethodName := ⟨RX9, "close", "(I)V"⟩
def RX10 : String := "MedalBoard$WarReader"
def TX10 : u_T := fun k => match k with
  | 0 => ("MedalBoard$WarReader", "in", "LMedalBoard$Reader;", true)
  | 1 => ("MedalBoard$WarReader", "war", "LMedalBoard$War;", true)
  | 2 => ("MedalBoard$WarReader", "army", "LMedalBoard$Army;", true)
  | 3 => ("MedalBoard$WarReader", "open", "[I", true)
  | _ => ("MedalBoard$WarReader", "depth", "I", false)
def tyX10 : Nat → FieldType := fun k => match k with
  | 0 => .object "MedalBoard$Reader"
  | 1 => .object "MedalBoard$War"
  | 2 => .object "MedalBoard$Army"
  | 3 => .array .int
  | _ => .int
theorem nmX10 : ∀ a, a < 5 → ∀ b, b < 5 → a ≠ b → (TX10 a).2.1 ≠ (TX10 b).2.1 := by decide +kernel
theorem tyX10_ok : ∀ k, k < 5 → parseFieldDescriptor (TX10 k).2.2.1 = some (tyX10 k) := by decide +kernel
abbrev cX10_init : ByteArray := prog_12_method_1_code
def yX10_init : MethodName := ⟨RX10, "<init>", "(LMedalBoard$Reader;LMedalBoard$War;LMedalBoard$Army;)V"⟩
abbrev cX10_readDraft : ByteArray := prog_12_method_2_code
def yX10_readDraft : MethodName := ⟨RX10, "readDraft", "()Z"⟩
abbrev cX10_takeEnd : ByteArray := prog_12_method_3_code
def yX10_takeEnd : MethodName := ⟨RX10, "takeEnd", "()Z"⟩
abbrev cX10_takeBegin : ByteArray := prog_12_method_4_code
def yX10_takeBegin : MethodName := ⟨RX10, "takeBegin", "(I)Z"⟩
abbrev cX10_takeLast : ByteArray := prog_12_method_5_code
def yX10_takeLast : MethodName := ⟨RX10, "takeLast", "(I)Z"⟩
abbrev cX10_holdsOthers : ByteArray := prog_12_method_6_code
def yX10_holdsOthers : MethodName := ⟨RX10, "holdsOthers", "(I)Z"⟩
abbrev cX10_takeRest : ByteArray := prog_12_method_7_code
def yX10_takeRest : MethodName := ⟨RX10, "takeRest", "(I)Z"⟩
abbrev cX10_takeTest : ByteArray := prog_12_method_8_code
def yX10_takeTest : MethodName := ⟨RX10, "takeTest", "(I)Z"⟩
def RX11 : String := "MedalBoard"
def TX11 : u_T := fun k => match k with
  | 0 => ("MedalBoard", "latestStatus", "I", false)
  | 1 => ("MedalBoard", "fractionTop", "J", false)
  | 2 => ("MedalBoard", "fractionBottom", "J", false)
  | 3 => ("MedalBoard", "trays", "[LMedalBoard$Tray;", true)
  | 4 => ("MedalBoard", "army", "LMedalBoard$Army;", true)
  | 5 => ("MedalBoard", "war", "LMedalBoard$War;", true)
  | 6 => ("MedalBoard", "draftArmy", "LMedalBoard$Army;", true)
  | 7 => ("MedalBoard", "draftWar", "LMedalBoard$War;", true)
  | 8 => ("MedalBoard", "reader", "LMedalBoard$Reader;", true)
  | 9 => ("MedalBoard", "armyReader", "LMedalBoard$ArmyReader;", true)
  | 10 => ("MedalBoard", "warReader", "LMedalBoard$WarReader;", true)
  | 11 => ("MedalBoard", "markedArmies", "[LMedalBoard$Army;", true)
  | 12 => ("MedalBoard", "markedWars", "[LMedalBoard$War;", true)
  | 13 => ("MedalBoard", "marks", "I", false)
  | 14 => ("MedalBoard", "latest", "LMedalBoard$Campaign;", true)
  | 15 => ("MedalBoard", "trial", "LMedalBoard$Campaign;", true)
  | 16 => ("MedalBoard", "foresight", "LMedalBoard$Foresight;", true)
  | _ => ("MedalBoard", "pairs", "LMedalBoard$Pairs;", true)
def tyX11 : Nat → FieldType := fun k => match k with
  | 0 => .int
  | 1 => .long
  | 2 => .long
  | 3 => .array (.object "MedalBoard$Tray")
  | 4 => .object "MedalBoard$Army"
  | 5 => .object "MedalBoard$War"
  | 6 => .object "MedalBoard$Army"
  | 7 => .object "MedalBoard$War"
  | 8 => .object "MedalBoard$Reader"
  | 9 => .object "MedalBoard$ArmyReader"
  | 10 => .object "MedalBoard$WarReader"
  | 11 => .array (.object "MedalBoard$Army")
  | 12 => .array (.object "MedalBoard$War")
  | 13 => .int
  | 14 => .object "MedalBoard$Campaign"
  | 15 => .object "MedalBoard$Campaign"
  | 16 => .object "MedalBoard$Foresight"
  | _ => .object "MedalBoard$Pairs"
theorem nmX11 : ∀ a, a < 18 → ∀ b, b < 18 → a ≠ b → (TX11 a).2.1 ≠ (TX11 b).2.1 := by decide +kernel
theorem tyX11_ok : ∀ k, k < 18 → parseFieldDescriptor (TX11 k).2.2.1 = some (tyX11 k) := by decide +kernel
abbrev cX11_init : ByteArray := prog_1_method_1_code
def yX11_init : MethodName := ⟨RX11, "<init>", "()V"⟩
abbrev cX11_status : ByteArray := prog_1_method_2_code
def yX11_status : MethodName := ⟨RX11, "status", "()I"⟩
abbrev cX11_top : ByteArray := prog_1_method_3_code
def yX11_top : MethodName := ⟨RX11, "top", "()J"⟩
abbrev cX11_bottom : ByteArray := prog_1_method_4_code
def yX11_bottom : MethodName := ⟨RX11, "bottom", "()J"⟩
abbrev cX11_tray : ByteArray := prog_1_method_5_code
def yX11_tray : MethodName := ⟨RX11, "tray", "(III)Z"⟩
abbrev cX11_write : ByteArray := prog_1_method_6_code
def yX11_write : MethodName := ⟨RX11, "write", "(IIJ)Z"⟩
abbrev cX11_read : ByteArray := prog_1_method_7_code
def yX11_read : MethodName := ⟨RX11, "read", "(II)J"⟩
abbrev cX11_pour : ByteArray := prog_1_method_8_code
def yX11_pour : MethodName := ⟨RX11, "pour", "(IIIII)Z"⟩
abbrev cX11_feed : ByteArray := prog_1_method_9_code
def yX11_feed : MethodName := ⟨RX11, "feed", "(IIIII)I"⟩
abbrev cX11_army : ByteArray := prog_1_method_10_code
def yX11_army : MethodName := ⟨RX11, "army", "(I)I"⟩
abbrev cX11_war : ByteArray := prog_1_method_11_code
def yX11_war : MethodName := ⟨RX11, "war", "(I)I"⟩
abbrev cX11_fault : ByteArray := prog_1_method_12_code
def yX11_fault : MethodName := ⟨RX11, "fault", "(I)I"⟩
abbrev cX11_told : ByteArray := prog_1_method_13_code
def yX11_told : MethodName := ⟨RX11, "told", "(I)I"⟩
abbrev cX11_man : ByteArray := prog_1_method_14_code
def yX11_man : MethodName := ⟨RX11, "man", "(II)I"⟩
abbrev cX11_likes : ByteArray := prog_1_method_15_code
def yX11_likes : MethodName := ⟨RX11, "likes", "(II)I"⟩
abbrev cX11_face : ByteArray := prog_1_method_16_code
def yX11_face : MethodName := ⟨RX11, "face", "(II)I"⟩
abbrev cX11_give : ByteArray := prog_1_method_17_code
def yX11_give : MethodName := ⟨RX11, "give", "(II)I"⟩
abbrev cX11_lose : ByteArray := prog_1_method_18_code
def yX11_lose : MethodName := ⟨RX11, "lose", "(I)I"⟩
abbrev cX11_fall : ByteArray := prog_1_method_19_code
def yX11_fall : MethodName := ⟨RX11, "fall", "(I)I"⟩
abbrev cX11_enlist : ByteArray := prog_1_method_20_code
def yX11_enlist : MethodName := ⟨RX11, "enlist", "(II)I"⟩
abbrev cX11_train : ByteArray := prog_1_method_21_code
def yX11_train : MethodName := ⟨RX11, "train", "(II)Z"⟩
abbrev cX11_weigh : ByteArray := prog_1_method_22_code
def yX11_weigh : MethodName := ⟨RX11, "weigh", "(II)Z"⟩
abbrev cX11_charm : ByteArray := prog_1_method_23_code
def yX11_charm : MethodName := ⟨RX11, "charm", "(III)Z"⟩
abbrev cX11_rule : ByteArray := prog_1_method_24_code
def yX11_rule : MethodName := ⟨RX11, "rule", "(II)Z"⟩
abbrev cX11_brave : ByteArray := prog_1_method_25_code
def yX11_brave : MethodName := ⟨RX11, "brave", "(I)I"⟩
abbrev cX11_limit : ByteArray := prog_1_method_26_code
def yX11_limit : MethodName := ⟨RX11, "limit", "(I)I"⟩
abbrev cX11_candidates : ByteArray := prog_1_method_27_code
def yX11_candidates : MethodName := ⟨RX11, "candidates", "(II)I"⟩
abbrev cX11_voteOf : ByteArray := prog_1_method_28_code
def yX11_voteOf : MethodName := ⟨RX11, "voteOf", "(III)I"⟩
abbrev cX11_votes : ByteArray := prog_1_method_29_code
def yX11_votes : MethodName := ⟨RX11, "votes", "(III)I"⟩
abbrev cX11_goesTo : ByteArray := prog_1_method_30_code
def yX11_goesTo : MethodName := ⟨RX11, "goesTo", "(II)I"⟩
abbrev cX11_carries : ByteArray := prog_1_method_31_code
def yX11_carries : MethodName := ⟨RX11, "carries", "(I)I"⟩
abbrev cX11_fewest : ByteArray := prog_1_method_32_code
def yX11_fewest : MethodName := ⟨RX11, "fewest", "()I"⟩
abbrev cX11_fewestSet : ByteArray := prog_1_method_33_code
def yX11_fewestSet : MethodName := ⟨RX11, "fewestSet", "()I"⟩
abbrev cX11_power : ByteArray := prog_1_method_34_code
def yX11_power : MethodName := ⟨RX11, "power", "(I)Z"⟩
abbrev cX11_mightiest : ByteArray := prog_1_method_35_code
def yX11_mightiest : MethodName := ⟨RX11, "mightiest", "()I"⟩
abbrev cX11_veto : ByteArray := prog_1_method_36_code
def yX11_veto : MethodName := ⟨RX11, "veto", "(I)I"⟩
abbrev cX11_most : ByteArray := prog_1_method_37_code
def yX11_most : MethodName := ⟨RX11, "most", "(III)I"⟩
abbrev cX11_facesAt : ByteArray := prog_1_method_38_code
def yX11_facesAt : MethodName := ⟨RX11, "facesAt", "(IIII)I"⟩
abbrev cX11_seen : ByteArray := prog_1_method_39_code
def yX11_seen : MethodName := ⟨RX11, "seen", "(III)I"⟩
abbrev cX11_seenAt : ByteArray := prog_1_method_40_code
def yX11_seenAt : MethodName := ⟨RX11, "seenAt", "(IIII)I"⟩
abbrev cX11_ask : ByteArray := prog_1_method_41_code
def yX11_ask : MethodName := ⟨RX11, "ask", "(III)I"⟩
abbrev cX11_couples : ByteArray := prog_1_method_42_code
def yX11_couples : MethodName := ⟨RX11, "couples", "(I)I"⟩
abbrev cX11_fondness : ByteArray := prog_1_method_43_code
def yX11_fondness : MethodName := ⟨RX11, "fondness", "(I)I"⟩
abbrev cX11_partner : ByteArray := prog_1_method_44_code
def yX11_partner : MethodName := ⟨RX11, "partner", "(II)I"⟩
abbrev cX11_game : ByteArray := prog_1_method_45_code
def yX11_game : MethodName := ⟨RX11, "game", "(IIII)I"⟩
abbrev cX11_moveOf : ByteArray := prog_1_method_46_code
def yX11_moveOf : MethodName := ⟨RX11, "moveOf", "(IIII)I"⟩
abbrev cX11_chance : ByteArray := prog_1_method_47_code
def yX11_chance : MethodName := ⟨RX11, "chance", "(III)Z"⟩
abbrev cX11_luck : ByteArray := prog_1_method_48_code
def yX11_luck : MethodName := ⟨RX11, "luck", "(II)Z"⟩
abbrev cX11_hopeful : ByteArray := prog_1_method_49_code
def yX11_hopeful : MethodName := ⟨RX11, "hopeful", "()I"⟩
abbrev cX11_copyMedals : ByteArray := prog_1_method_50_code
def yX11_copyMedals : MethodName := ⟨RX11, "copyMedals", "(I)I"⟩
abbrev cX11_live : ByteArray := prog_1_method_51_code
def yX11_live : MethodName := ⟨RX11, "live", "(I)I"⟩
abbrev cX11_lived : ByteArray := prog_1_method_52_code
def yX11_lived : MethodName := ⟨RX11, "lived", "(I)I"⟩
abbrev cX11_mean : ByteArray := prog_1_method_53_code
def yX11_mean : MethodName := ⟨RX11, "mean", "(III)Z"⟩
abbrev cX11_mark : ByteArray := prog_1_method_54_code
def yX11_mark : MethodName := ⟨RX11, "mark", "()I"⟩
abbrev cX11_undo : ByteArray := prog_1_method_55_code
def yX11_undo : MethodName := ⟨RX11, "undo", "()I"⟩
abbrev cX11_answer : ByteArray := prog_1_method_56_code
def yX11_answer : MethodName := ⟨RX11, "answer", "(I)I"⟩
abbrev cX11_refuse : ByteArray := prog_1_method_57_code
def yX11_refuse : MethodName := ⟨RX11, "refuse", "(I)I"⟩
abbrev cX11_allow : ByteArray := prog_1_method_58_code
def yX11_allow : MethodName := ⟨RX11, "allow", "()Z"⟩
abbrev cX11_deny : ByteArray := prog_1_method_59_code
def yX11_deny : MethodName := ⟨RX11, "deny", "(I)Z"⟩
abbrev cX11_tell : ByteArray := prog_1_method_60_code
def yX11_tell : MethodName := ⟨RX11, "tell", "(JJ)V"⟩
abbrev cX11_trayAt : ByteArray := prog_1_method_61_code
def yX11_trayAt : MethodName := ⟨RX11, "trayAt", "(I)LMedalBoard$Tray;"⟩
abbrev cX11_dangerRefusal : ByteArray := prog_1_method_62_code
def yX11_dangerRefusal : MethodName := ⟨RX11, "dangerRefusal", "(II)I"⟩
abbrev cX11_ordersRefusal : ByteArray := prog_1_method_63_code
def yX11_ordersRefusal : MethodName := ⟨RX11, "ordersRefusal", "(ILMedalBoard$Tray;I)I"⟩
abbrev cX11_gameRefusal : ByteArray := prog_1_method_64_code
def yX11_gameRefusal : MethodName := ⟨RX11, "gameRefusal", "(IILMedalBoard$Tray;I)I"⟩
abbrev cX11_seenRefusal : ByteArray := prog_1_method_65_code
def yX11_seenRefusal : MethodName := ⟨RX11, "seenRefusal", "(ILMedalBoard$Tray;I)I"⟩
abbrev cX11_fittingCourages : ByteArray := prog_1_method_66_code
def yX11_fittingCourages : MethodName := ⟨RX11, "fittingCourages", "(ILMedalBoard$Tray;I)I"⟩
abbrev cX11_tellingSize : ByteArray := prog_1_method_67_code
def yX11_tellingSize : MethodName := ⟨RX11, "tellingSize", "(II)I"⟩
abbrev cX11_within : ByteArray := prog_1_method_68_code
def yX11_within : MethodName := ⟨RX11, "within", "(III)Z"⟩
abbrev cX11_isSize : ByteArray := prog_1_method_69_code
def yX11_isSize : MethodName := ⟨RX11, "isSize", "(I)Z"⟩
abbrev cX11_holds : ByteArray := prog_1_method_70_code
def yX11_holds : MethodName := ⟨RX11, "holds", "(II)Z"⟩
abbrev cX11_firstOf : ByteArray := prog_1_method_71_code
def yX11_firstOf : MethodName := ⟨RX11, "firstOf", "(I)I"⟩
abbrev cX11_lastOf : ByteArray := prog_1_method_72_code
def yX11_lastOf : MethodName := ⟨RX11, "lastOf", "(I)I"⟩
abbrev cX11_sumOf : ByteArray := prog_1_method_73_code
def yX11_sumOf : MethodName := ⟨RX11, "sumOf", "([I)I"⟩
abbrev cX11_commonDivisor : ByteArray := prog_1_method_74_code
def yX11_commonDivisor : MethodName := ⟨RX11, "commonDivisor", "(JJ)J"⟩
abbrev cX11_raised : ByteArray := prog_1_method_75_code
def yX11_raised : MethodName := ⟨RX11, "raised", "(JI)J"⟩
abbrev cX11_waysToStand : ByteArray := prog_1_method_76_code
def yX11_waysToStand : MethodName := ⟨RX11, "waysToStand", "(III)J"⟩
def RX12 : String := "MedalBoardModel"
def TX12 : u_T := fun k => match k with
  | 0 => ("MedalBoardModel", "at", "[I", true)
  | 1 => ("MedalBoardModel", "names", "[J", true)
  | 2 => ("MedalBoardModel", "status", "I", false)
  | 3 => ("MedalBoardModel", "top", "J", false)
  | 4 => ("MedalBoardModel", "bottom", "J", false)
  | 5 => ("MedalBoardModel", "sort", "[I", true)
  | 6 => ("MedalBoardModel", "trayMany", "[I", true)
  | 7 => ("MedalBoardModel", "trays", "[J", true)
  | 8 => ("MedalBoardModel", "tape", "[B", true)
  | 9 => ("MedalBoardModel", "text", "[B", true)
  | 10 => ("MedalBoardModel", "taped", "I", false)
  | 11 => ("MedalBoardModel", "size", "I", false)
  | 12 => ("MedalBoardModel", "token", "I", false)
  | 13 => ("MedalBoardModel", "from", "I", false)
  | 14 => ("MedalBoardModel", "end", "I", false)
  | 15 => ("MedalBoardModel", "value", "I", false)
  | 16 => ("MedalBoardModel", "faultKind", "I", false)
  | 17 => ("MedalBoardModel", "faultPlace", "I", false)
  | 18 => ("MedalBoardModel", "faults", "I", false)
  | 19 => ("MedalBoardModel", "seen", "I", false)
  | 20 => ("MedalBoardModel", "toldParts", "I", false)
  | 21 => ("MedalBoardModel", "opened", "[I", true)
  | 22 => ("MedalBoardModel", "depth", "I", false)
  | 23 => ("MedalBoardModel", "counted", "I", false)
  | 24 => ("MedalBoardModel", "bestOrder", "I", false)
  | 25 => ("MedalBoardModel", "standers", "[I", true)
  | 26 => ("MedalBoardModel", "has", "[I", true)
  | 27 => ("MedalBoardModel", "bestHas", "[I", true)
  | 28 => ("MedalBoardModel", "standerMany", "I", false)
  | 29 => ("MedalBoardModel", "bestCouples", "I", false)
  | 30 => ("MedalBoardModel", "bestFondness", "I", false)
  | 31 => ("MedalBoardModel", "cameTo", "[I", true)
  | 32 => ("MedalBoardModel", "doesStandFirst", "Z", false)
  | 33 => ("MedalBoardModel", "stoodBy", "[J", true)
  | 34 => ("MedalBoardModel", "drawn", "I", false)
  | 35 => ("MedalBoardModel", "ranSteps", "I", false)
  | 36 => ("MedalBoardModel", "loops", "[I", true)
  | 37 => ("MedalBoardModel", "ran", "[I", true)
  | 38 => ("MedalBoardModel", "told1", "[I", true)
  | 39 => ("MedalBoardModel", "isTold", "Z", false)
  | _ => ("MedalBoardModel", "marks", "I", false)
def tyX12 : Nat → FieldType := fun k => match k with
  | 0 => .array .int
  | 1 => .array .long
  | 2 => .int
  | 3 => .long
  | 4 => .long
  | 5 => .array .int
  | 6 => .array .int
  | 7 => .array .long
  | 8 => .array .byte
  | 9 => .array .byte
  | 10 => .int
  | 11 => .int
  | 12 => .int
  | 13 => .int
  | 14 => .int
  | 15 => .int
  | 16 => .int
  | 17 => .int
  | 18 => .int
  | 19 => .int
  | 20 => .int
  | 21 => .array .int
  | 22 => .int
  | 23 => .int
  | 24 => .int
  | 25 => .array .int
  | 26 => .array .int
  | 27 => .array .int
  | 28 => .int
  | 29 => .int
  | 30 => .int
  | 31 => .array .int
  | 32 => .boolean
  | 33 => .array .long
  | 34 => .int
  | 35 => .int
  | 36 => .array .int
  | 37 => .array .int
  | 38 => .array .int
  | 39 => .boolean
  | _ => .int
theorem nmX12 : ∀ a, a < 41 → ∀ b, b < 41 → a ≠ b → (TX12 a).2.1 ≠ (TX12 b).2.1 := by decide +kernel
theorem tyX12_ok : ∀ k, k < 41 → parseFieldDescriptor (TX12 k).2.2.1 = some (tyX12 k) := by decide +kernel
abbrev cX12_init : ByteArray := prog_14_method_1_code
def yX12_init : MethodName := ⟨RX12, "<init>", "()V"⟩
abbrev cX12_plain : ByteArray := prog_14_method_2_code
def yX12_plain : MethodName := ⟨RX12, "plain", "(I)V"⟩
abbrev cX12_status : ByteArray := prog_14_method_3_code
def yX12_status : MethodName := ⟨RX12, "status", "()I"⟩
abbrev cX12_top : ByteArray := prog_14_method_4_code
def yX12_top : MethodName := ⟨RX12, "top", "()J"⟩
abbrev cX12_bottom : ByteArray := prog_14_method_5_code
def yX12_bottom : MethodName := ⟨RX12, "bottom", "()J"⟩
abbrev cX12_is : ByteArray := prog_14_method_6_code
def yX12_is : MethodName := ⟨RX12, "is", "(I)Z"⟩
abbrev cX12_refuse : ByteArray := prog_14_method_7_code
def yX12_refuse : MethodName := ⟨RX12, "refuse", "(I)I"⟩
abbrev cX12_gives : ByteArray := prog_14_method_8_code
def yX12_gives : MethodName := ⟨RX12, "gives", "(I)I"⟩
abbrev cX12_orNone : ByteArray := prog_14_method_9_code
def yX12_orNone : MethodName := ⟨RX12, "orNone", "(I)I"⟩
abbrev cX12_tellsBy : ByteArray := prog_14_method_10_code
def yX12_tellsBy : MethodName := ⟨RX12, "tellsBy", "(JJ)Z"⟩
abbrev cX12_isTray : ByteArray := prog_14_method_11_code
def yX12_isTray : MethodName := ⟨RX12, "isTray", "(I)Z"⟩
abbrev cX12_cut : ByteArray := prog_14_method_12_code
def yX12_cut : MethodName := ⟨RX12, "cut", "(JI)J"⟩
abbrev cX12_tray : ByteArray := prog_14_method_13_code
def yX12_tray : MethodName := ⟨RX12, "tray", "(III)Z"⟩
abbrev cX12_wrongPlace : ByteArray := prog_14_method_14_code
def yX12_wrongPlace : MethodName := ⟨RX12, "wrongPlace", "(II)I"⟩
abbrev cX12_write : ByteArray := prog_14_method_15_code
def yX12_write : MethodName := ⟨RX12, "write", "(IIJ)Z"⟩
abbrev cX12_read : ByteArray := prog_14_method_16_code
def yX12_read : MethodName := ⟨RX12, "read", "(II)J"⟩
abbrev cX12_pour : ByteArray := prog_14_method_17_code
def yX12_pour : MethodName := ⟨RX12, "pour", "(IIIII)Z"⟩
abbrev cX12_isFrom : ByteArray := prog_14_method_18_code
def yX12_isFrom : MethodName := ⟨RX12, "isFrom", "(JJJ)Z"⟩
abbrev cX12_feed : ByteArray := prog_14_method_19_code
def yX12_feed : MethodName := ⟨RX12, "feed", "(IIIII)I"⟩
abbrev cX12_four : ByteArray := prog_14_method_20_code
def yX12_four : MethodName := ⟨RX12, "four", "(I)V"⟩
abbrev cX12_byteAt : ByteArray := prog_14_method_21_code
def yX12_byteAt : MethodName := ⟨RX12, "byteAt", "(I)I"⟩
abbrev cX12_isSmall : ByteArray := prog_14_method_22_code
def yX12_isSmall : MethodName := ⟨RX12, "isSmall", "(I)Z"⟩
abbrev cX12_isDigit : ByteArray := prog_14_method_23_code
def yX12_isDigit : MethodName := ⟨RX12, "isDigit", "(I)Z"⟩
abbrev cX12_ahead : ByteArray := prog_14_method_24_code
def yX12_ahead : MethodName := ⟨RX12, "ahead", "()V"⟩
abbrev cX12_isSign : ByteArray := prog_14_method_25_code
def yX12_isSign : MethodName := ⟨RX12, "isSign", "(I)Z"⟩
abbrev cX12_inWords : ByteArray := prog_14_method_26_code
def yX12_inWords : MethodName := ⟨RX12, "inWords", "(Ljava/lang/String;)I"⟩
abbrev cX12_fails : ByteArray := prog_14_method_27_code
def yX12_fails : MethodName := ⟨RX12, "fails", "(I)Z"⟩
abbrev cX12_begins : ByteArray := prog_14_method_28_code
def yX12_begins : MethodName := ⟨RX12, "begins", "(II)Z"⟩
abbrev cX12_wantSign : ByteArray := prog_14_method_29_code
def yX12_wantSign : MethodName := ⟨RX12, "wantSign", "(I)Z"⟩
abbrev cX12_wantWord : ByteArray := prog_14_method_30_code
def yX12_wantWord : MethodName := ⟨RX12, "wantWord", "(Ljava/lang/String;I)Z"⟩
abbrev cX12_number : ByteArray := prog_14_method_31_code
def yX12_number : MethodName := ⟨RX12, "number", "(III)Z"⟩
abbrev cX12_isName : ByteArray := prog_14_method_32_code
def yX12_isName : MethodName := ⟨RX12, "isName", "(Ljava/lang/String;)Z"⟩
abbrev cX12_nameHere : ByteArray := prog_14_method_33_code
def yX12_nameHere : MethodName := ⟨RX12, "nameHere", "()J"⟩
abbrev cX12_findHere : ByteArray := prog_14_method_34_code
def yX12_findHere : MethodName := ⟨RX12, "findHere", "(II)I"⟩
abbrev cX12_fault : ByteArray := prog_14_method_35_code
def yX12_fault : MethodName := ⟨RX12, "fault", "(I)I"⟩
abbrev cX12_taken : ByteArray := prog_14_method_36_code
def yX12_taken : MethodName := ⟨RX12, "taken", "(I)I"⟩
abbrev cX12_manRow : ByteArray := prog_14_method_37_code
def yX12_manRow : MethodName := ⟨RX12, "manRow", "(I)I"⟩
abbrev cX12_isThere : ByteArray := prog_14_method_38_code
def yX12_isThere : MethodName := ⟨RX12, "isThere", "(I)Z"⟩
abbrev cX12_oldOne : ByteArray := prog_14_method_39_code
def yX12_oldOne : MethodName := ⟨RX12, "oldOne", "(III)Z"⟩
abbrev cX12_aMan : ByteArray := prog_14_method_40_code
def yX12_aMan : MethodName := ⟨RX12, "aMan", "()Z"⟩
abbrev cX12_aLike : ByteArray := prog_14_method_41_code
def yX12_aLike : MethodName := ⟨RX12, "aLike", "()Z"⟩
abbrev cX12_armyPart : ByteArray := prog_14_method_42_code
def yX12_armyPart : MethodName := ⟨RX12, "armyPart", "()Z"⟩
abbrev cX12_army : ByteArray := prog_14_method_43_code
def yX12_army : MethodName := ⟨RX12, "army", "(I)I"⟩
abbrev cX12_manTo : ByteArray := prog_14_method_44_code
def yX12_manTo : MethodName := ⟨RX12, "manTo", "(I)Z"⟩
abbrev cX12_test : ByteArray := prog_14_method_45_code
def yX12_test : MethodName := ⟨RX12, "test", "(I)Z"⟩
abbrev cX12_warOrder : ByteArray := prog_14_method_46_code
def yX12_warOrder : MethodName := ⟨RX12, "warOrder", "(II)Z"⟩
abbrev cX12_warStep : ByteArray := prog_14_method_47_code
def yX12_warStep : MethodName := ⟨RX12, "warStep", "()Z"⟩
abbrev cX12_war : ByteArray := prog_14_method_48_code
def yX12_war : MethodName := ⟨RX12, "war", "(I)I"⟩
abbrev cX12_isMan : ByteArray := prog_14_method_49_code
def yX12_isMan : MethodName := ⟨RX12, "isMan", "(I)Z"⟩
abbrev cX12_areTwo : ByteArray := prog_14_method_50_code
def yX12_areTwo : MethodName := ⟨RX12, "areTwo", "(II)Z"⟩
abbrev cX12_isIn : ByteArray := prog_14_method_51_code
def yX12_isIn : MethodName := ⟨RX12, "isIn", "(II)Z"⟩
abbrev cX12_bits : ByteArray := prog_14_method_52_code
def yX12_bits : MethodName := ⟨RX12, "bits", "(I)I"⟩
abbrev cX12_isSize : ByteArray := prog_14_method_53_code
def yX12_isSize : MethodName := ⟨RX12, "isSize", "(J)Z"⟩
abbrev cX12_manOf : ByteArray := prog_14_method_54_code
def yX12_manOf : MethodName := ⟨RX12, "manOf", "(II)I"⟩
abbrev cX12_isAlive : ByteArray := prog_14_method_55_code
def yX12_isAlive : MethodName := ⟨RX12, "isAlive", "(I)Z"⟩
abbrev cX12_living : ByteArray := prog_14_method_56_code
def yX12_living : MethodName := ⟨RX12, "living", "()I"⟩
abbrev cX12_likesOf : ByteArray := prog_14_method_57_code
def yX12_likesOf : MethodName := ⟨RX12, "likesOf", "(II)I"⟩
abbrev cX12_braveOf : ByteArray := prog_14_method_58_code
def yX12_braveOf : MethodName := ⟨RX12, "braveOf", "(I)I"⟩
abbrev cX12_stands : ByteArray := prog_14_method_59_code
def yX12_stands : MethodName := ⟨RX12, "stands", "(II)Z"⟩
abbrev cX12_decorated : ByteArray := prog_14_method_60_code
def yX12_decorated : MethodName := ⟨RX12, "decorated", "()I"⟩
abbrev cX12_sumOf : ByteArray := prog_14_method_61_code
def yX12_sumOf : MethodName := ⟨RX12, "sumOf", "(I)I"⟩
abbrev cX12_told : ByteArray := prog_14_method_62_code
def yX12_told : MethodName := ⟨RX12, "told", "(I)I"⟩
abbrev cX12_man : ByteArray := prog_14_method_63_code
def yX12_man : MethodName := ⟨RX12, "man", "(II)I"⟩
abbrev cX12_likes : ByteArray := prog_14_method_64_code
def yX12_likes : MethodName := ⟨RX12, "likes", "(II)I"⟩
abbrev cX12_candidatesOf : ByteArray := prog_14_method_65_code
def yX12_candidatesOf : MethodName := ⟨RX12, "candidatesOf", "(II)I"⟩
abbrev cX12_voteBy : ByteArray := prog_14_method_66_code
def yX12_voteBy : MethodName := ⟨RX12, "voteBy", "(II)I"⟩
abbrev cX12_votesFor : ByteArray := prog_14_method_67_code
def yX12_votesFor : MethodName := ⟨RX12, "votesFor", "(II)I"⟩
abbrev cX12_winner : ByteArray := prog_14_method_68_code
def yX12_winner : MethodName := ⟨RX12, "winner", "(II)I"⟩
abbrev cX12_pins : ByteArray := prog_14_method_69_code
def yX12_pins : MethodName := ⟨RX12, "pins", "(II)I"⟩
abbrev cX12_faces : ByteArray := prog_14_method_70_code
def yX12_faces : MethodName := ⟨RX12, "faces", "(II)I"⟩
abbrev cX12_face : ByteArray := prog_14_method_71_code
def yX12_face : MethodName := ⟨RX12, "face", "(II)I"⟩
abbrev cX12_hands : ByteArray := prog_14_method_72_code
def yX12_hands : MethodName := ⟨RX12, "hands", "(II)Z"⟩
abbrev cX12_give : ByteArray := prog_14_method_73_code
def yX12_give : MethodName := ⟨RX12, "give", "(II)I"⟩
abbrev cX12_loses : ByteArray := prog_14_method_74_code
def yX12_loses : MethodName := ⟨RX12, "loses", "(I)Z"⟩
abbrev cX12_lose : ByteArray := prog_14_method_75_code
def yX12_lose : MethodName := ⟨RX12, "lose", "(I)I"⟩
abbrev cX12_falls : ByteArray := prog_14_method_76_code
def yX12_falls : MethodName := ⟨RX12, "falls", "(I)Z"⟩
abbrev cX12_fall : ByteArray := prog_14_method_77_code
def yX12_fall : MethodName := ⟨RX12, "fall", "(I)I"⟩
abbrev cX12_enlist : ByteArray := prog_14_method_78_code
def yX12_enlist : MethodName := ⟨RX12, "enlist", "(II)I"⟩
abbrev cX12_train : ByteArray := prog_14_method_79_code
def yX12_train : MethodName := ⟨RX12, "train", "(II)Z"⟩
abbrev cX12_weigh : ByteArray := prog_14_method_80_code
def yX12_weigh : MethodName := ⟨RX12, "weigh", "(II)Z"⟩
abbrev cX12_charm : ByteArray := prog_14_method_81_code
def yX12_charm : MethodName := ⟨RX12, "charm", "(III)Z"⟩
abbrev cX12_rule : ByteArray := prog_14_method_82_code
def yX12_rule : MethodName := ⟨RX12, "rule", "(II)Z"⟩
abbrev cX12_standing : ByteArray := prog_14_method_83_code
def yX12_standing : MethodName := ⟨RX12, "standing", "(I)I"⟩
abbrev cX12_brave : ByteArray := prog_14_method_84_code
def yX12_brave : MethodName := ⟨RX12, "brave", "(I)I"⟩
abbrev cX12_limit : ByteArray := prog_14_method_85_code
def yX12_limit : MethodName := ⟨RX12, "limit", "(I)I"⟩
abbrev cX12_candidates : ByteArray := prog_14_method_86_code
def yX12_candidates : MethodName := ⟨RX12, "candidates", "(II)I"⟩
abbrev cX12_voteOf : ByteArray := prog_14_method_87_code
def yX12_voteOf : MethodName := ⟨RX12, "voteOf", "(III)I"⟩
abbrev cX12_votes : ByteArray := prog_14_method_88_code
def yX12_votes : MethodName := ⟨RX12, "votes", "(III)I"⟩
abbrev cX12_goesTo : ByteArray := prog_14_method_89_code
def yX12_goesTo : MethodName := ⟨RX12, "goesTo", "(II)I"⟩
abbrev cX12_weightOf : ByteArray := prog_14_method_90_code
def yX12_weightOf : MethodName := ⟨RX12, "weightOf", "(I)I"⟩
abbrev cX12_doCarry : ByteArray := prog_14_method_91_code
def yX12_doCarry : MethodName := ⟨RX12, "doCarry", "(I)Z"⟩
abbrev cX12_carries : ByteArray := prog_14_method_92_code
def yX12_carries : MethodName := ⟨RX12, "carries", "(I)I"⟩
abbrev cX12_fewestOf : ByteArray := prog_14_method_93_code
def yX12_fewestOf : MethodName := ⟨RX12, "fewestOf", "()I"⟩
abbrev cX12_fewest : ByteArray := prog_14_method_94_code
def yX12_fewest : MethodName := ⟨RX12, "fewest", "()I"⟩
abbrev cX12_fewestSet : ByteArray := prog_14_method_95_code
def yX12_fewestSet : MethodName := ⟨RX12, "fewestSet", "()I"⟩
abbrev cX12_ordersOf : ByteArray := prog_14_method_96_code
def yX12_ordersOf : MethodName := ⟨RX12, "ordersOf", "(I)I"⟩
abbrev cX12_powerOf : ByteArray := prog_14_method_97_code
def yX12_powerOf : MethodName := ⟨RX12, "powerOf", "(I)I"⟩
abbrev cX12_power : ByteArray := prog_14_method_98_code
def yX12_power : MethodName := ⟨RX12, "power", "(I)Z"⟩
abbrev cX12_mightiest : ByteArray := prog_14_method_99_code
def yX12_mightiest : MethodName := ⟨RX12, "mightiest", "()I"⟩
abbrev cX12_veto : ByteArray := prog_14_method_100_code
def yX12_veto : MethodName := ⟨RX12, "veto", "(I)I"⟩
abbrev cX12_keeps : ByteArray := prog_14_method_101_code
def yX12_keeps : MethodName := ⟨RX12, "keeps", "(I)V"⟩
abbrev cX12_restores : ByteArray := prog_14_method_102_code
def yX12_restores : MethodName := ⟨RX12, "restores", "(I)V"⟩
abbrev cX12_wrongSizes : ByteArray := prog_14_method_103_code
def yX12_wrongSizes : MethodName := ⟨RX12, "wrongSizes", "(III)I"⟩
abbrev cX12_sizeAt : ByteArray := prog_14_method_104_code
def yX12_sizeAt : MethodName := ⟨RX12, "sizeAt", "(II)I"⟩
abbrev cX12_gotBy : ByteArray := prog_14_method_105_code
def yX12_gotBy : MethodName := ⟨RX12, "gotBy", "(IIII)I"⟩
abbrev cX12_ordering : ByteArray := prog_14_method_106_code
def yX12_ordering : MethodName := ⟨RX12, "ordering", "(III)I"⟩
abbrev cX12_most : ByteArray := prog_14_method_107_code
def yX12_most : MethodName := ⟨RX12, "most", "(III)I"⟩
abbrev cX12_facesAt : ByteArray := prog_14_method_108_code
def yX12_facesAt : MethodName := ⟨RX12, "facesAt", "(IIII)I"⟩
abbrev cX12_wrongSeen : ByteArray := prog_14_method_109_code
def yX12_wrongSeen : MethodName := ⟨RX12, "wrongSeen", "(III)I"⟩
abbrev cX12_wouldStand : ByteArray := prog_14_method_110_code
def yX12_wouldStand : MethodName := ⟨RX12, "wouldStand", "(III)Z"⟩
abbrev cX12_fits : ByteArray := prog_14_method_111_code
def yX12_fits : MethodName := ⟨RX12, "fits", "(IIII)Z"⟩
abbrev cX12_fitting : ByteArray := prog_14_method_112_code
def yX12_fitting : MethodName := ⟨RX12, "fitting", "(IIII)I"⟩
abbrev cX12_seen : ByteArray := prog_14_method_113_code
def yX12_seen : MethodName := ⟨RX12, "seen", "(III)I"⟩
abbrev cX12_seenAt : ByteArray := prog_14_method_114_code
def yX12_seenAt : MethodName := ⟨RX12, "seenAt", "(IIII)I"⟩
abbrev cX12_ask : ByteArray := prog_14_method_115_code
def yX12_ask : MethodName := ⟨RX12, "ask", "(III)I"⟩
abbrev cX12_fondOf : ByteArray := prog_14_method_116_code
def yX12_fondOf : MethodName := ⟨RX12, "fondOf", "(II)I"⟩
abbrev cX12_weighs : ByteArray := prog_14_method_117_code
def yX12_weighs : MethodName := ⟨RX12, "weighs", "()V"⟩
abbrev cX12_isFree : ByteArray := prog_14_method_118_code
def yX12_isFree : MethodName := ⟨RX12, "isFree", "(III)Z"⟩
abbrev cX12_pairing : ByteArray := prog_14_method_119_code
def yX12_pairing : MethodName := ⟨RX12, "pairing", "(I)V"⟩
abbrev cX12_couples : ByteArray := prog_14_method_120_code
def yX12_couples : MethodName := ⟨RX12, "couples", "(I)I"⟩
abbrev cX12_fondness : ByteArray := prog_14_method_121_code
def yX12_fondness : MethodName := ⟨RX12, "fondness", "(I)I"⟩
abbrev cX12_partner : ByteArray := prog_14_method_122_code
def yX12_partner : MethodName := ⟨RX12, "partner", "(II)I"⟩
abbrev cX12_playedBy : ByteArray := prog_14_method_123_code
def yX12_playedBy : MethodName := ⟨RX12, "playedBy", "(IIIII)I"⟩
abbrev cX12_playing : ByteArray := prog_14_method_124_code
def yX12_playing : MethodName := ⟨RX12, "playing", "(IIII)I"⟩
abbrev cX12_game : ByteArray := prog_14_method_125_code
def yX12_game : MethodName := ⟨RX12, "game", "(IIII)I"⟩
abbrev cX12_moveOf : ByteArray := prog_14_method_126_code
def yX12_moveOf : MethodName := ⟨RX12, "moveOf", "(IIII)I"⟩
abbrev cX12_chance : ByteArray := prog_14_method_127_code
def yX12_chance : MethodName := ⟨RX12, "chance", "(III)Z"⟩
abbrev cX12_luck : ByteArray := prog_14_method_128_code
def yX12_luck : MethodName := ⟨RX12, "luck", "(II)Z"⟩
abbrev cX12_hopeful : ByteArray := prog_14_method_129_code
def yX12_hopeful : MethodName := ⟨RX12, "hopeful", "()I"⟩
abbrev cX12_copyMedals : ByteArray := prog_14_method_130_code
def yX12_copyMedals : MethodName := ⟨RX12, "copyMedals", "(I)I"⟩
abbrev cX12_draw : ByteArray := prog_14_method_131_code
def yX12_draw : MethodName := ⟨RX12, "draw", "(I)I"⟩
abbrev cX12_facesBy : ByteArray := prog_14_method_132_code
def yX12_facesBy : MethodName := ⟨RX12, "facesBy", "(II)Z"⟩
abbrev cX12_facesAny : ByteArray := prog_14_method_133_code
def yX12_facesAny : MethodName := ⟨RX12, "facesAny", "()Z"⟩
abbrev cX12_does : ByteArray := prog_14_method_134_code
def yX12_does : MethodName := ⟨RX12, "does", "(I)Z"⟩
abbrev cX12_holds : ByteArray := prog_14_method_135_code
def yX12_holds : MethodName := ⟨RX12, "holds", "(I)Z"⟩
abbrev cX12_behindEnds : ByteArray := prog_14_method_136_code
def yX12_behindEnds : MethodName := ⟨RX12, "behindEnds", "(I)I"⟩
abbrev cX12_lives : ByteArray := prog_14_method_137_code
def yX12_lives : MethodName := ⟨RX12, "lives", "(I)V"⟩
abbrev cX12_live : ByteArray := prog_14_method_138_code
def yX12_live : MethodName := ⟨RX12, "live", "(I)I"⟩
abbrev cX12_lived : ByteArray := prog_14_method_139_code
def yX12_lived : MethodName := ⟨RX12, "lived", "(I)I"⟩
abbrev cX12_mean : ByteArray := prog_14_method_140_code
def yX12_mean : MethodName := ⟨RX12, "mean", "(III)Z"⟩
abbrev cX12_copies : ByteArray := prog_14_method_141_code
def yX12_copies : MethodName := ⟨RX12, "copies", "(II)V"⟩
abbrev cX12_mark : ByteArray := prog_14_method_142_code
def yX12_mark : MethodName := ⟨RX12, "mark", "()I"⟩
abbrev cX12_undo : ByteArray := prog_14_method_143_code
def yX12_undo : MethodName := ⟨RX12, "undo", "()I"⟩
def RJx145de : String := "java/io/Serializable"
def TJx145de : u_T := fun k => match k with
  | _ => ("", "", "", false)
def tyJx145de : Nat → FieldType := fun k => match k with
  | _ => .int
theorem nmJx145de : ∀ a, a < 0 → ∀ b, b < 0 → a ≠ b → (TJx145de a).2.1 ≠ (TJx145de b).2.1 := by decide +kernel
theorem tyJx145de_ok : ∀ k, k < 0 → parseFieldDescriptor (TJx145de k).2.2.1 = some (tyJx145de k) := by decide +kernel
def RJx9f9b0 : String := "java/lang/CharSequence"
def TJx9f9b0 : u_T := fun k => match k with
  | _ => ("", "", "", false)
def tyJx9f9b0 : Nat → FieldType := fun k => match k with
  | _ => .int
theorem nmJx9f9b0 : ∀ a, a < 0 → ∀ b, b < 0 → a ≠ b → (TJx9f9b0 a).2.1 ≠ (TJx9f9b0 b).2.1 := by decide +kernel
theorem tyJx9f9b0_ok : ∀ k, k < 0 → parseFieldDescriptor (TJx9f9b0 k).2.2.1 = some (tyJx9f9b0 k) := by decide +kernel
def RJxb160c : String := "java/lang/Comparable"
def TJxb160c : u_T := fun k => match k with
  | _ => ("", "", "", false)
def tyJxb160c : Nat → FieldType := fun k => match k with
  | _ => .int
theorem nmJxb160c : ∀ a, a < 0 → ∀ b, b < 0 → a ≠ b → (TJxb160c a).2.1 ≠ (TJxb160c b).2.1 := by decide +kernel
theorem tyJxb160c_ok : ∀ k, k < 0 → parseFieldDescriptor (TJxb160c k).2.2.1 = some (tyJxb160c k) := by decide +kernel
def RJ6 : String := "java/lang/Integer"
def TJ6 : u_T := fun k => match k with
  | _ => ("", "", "", false)
def tyJ6 : Nat → FieldType := fun k => match k with
  | _ => .int
theorem nmJ6 : ∀ a, a < 0 → ∀ b, b < 0 → a ≠ b → (TJ6 a).2.1 ≠ (TJ6 b).2.1 := by decide +kernel
theorem tyJ6_ok : ∀ k, k < 0 → parseFieldDescriptor (TJ6 k).2.2.1 = some (tyJ6 k) := by decide +kernel
abbrev cJ6_bitCount_0f7a4 : ByteArray := prog_15_method_49_code
def yJ6_bitCount_0f7a4 : MethodName := ⟨RJ6, "bitCount", "(I)I"⟩
def RJ9 : String := "java/lang/Math"
def TJ9 : u_T := fun k => match k with
  | _ => ("", "", "", false)
def tyJ9 : Nat → FieldType := fun k => match k with
  | _ => .int
theorem nmJ9 : ∀ a, a < 0 → ∀ b, b < 0 → a ≠ b → (TJ9 a).2.1 ≠ (TJ9 b).2.1 := by decide +kernel
theorem tyJ9_ok : ∀ k, k < 0 → parseFieldDescriptor (TJ9 k).2.2.1 = some (tyJ9 k) := by decide +kernel
abbrev cJ9_max_7cf53 : ByteArray := prog_16_method_65_code
def yJ9_max_7cf53 : MethodName := ⟨RJ9, "max", "(II)I"⟩
abbrev cJ9_min_7cf53 : ByteArray := prog_16_method_69_code
def yJ9_min_7cf53 : MethodName := ⟨RJ9, "min", "(II)I"⟩
def RJ0 : String := "java/lang/String"
def TJ0 : u_T := fun k => match k with
  | _ => ("", "", "", false)
def tyJ0 : Nat → FieldType := fun k => match k with
  | _ => .int
theorem nmJ0 : ∀ a, a < 0 → ∀ b, b < 0 → a ≠ b → (TJ0 a).2.1 ≠ (TJ0 b).2.1 := by decide +kernel
theorem tyJ0_ok : ∀ k, k < 0 → parseFieldDescriptor (TJ0 k).2.2.1 = some (tyJ0 k) := by decide +kernel
abbrev cJ0_length_8abf5 : ByteArray := prog_17_method_54_code
def yJ0_length_8abf5 : MethodName := ⟨RJ0, "length", "()I"⟩
abbrev cJ0_charAt_5068e : ByteArray := prog_17_method_56_code
def yJ0_charAt_5068e : MethodName := ⟨RJ0, "charAt", "(I)C"⟩
abbrev cJ0_coder_7d493 : ByteArray := prog_17_method_152_code
def yJ0_coder_7d493 : MethodName := ⟨RJ0, "coder", "()B"⟩
abbrev cJ0_isLatin1_aae02 : ByteArray := prog_17_method_154_code
def yJ0_isLatin1_aae02 : MethodName := ⟨RJ0, "isLatin1", "()Z"⟩
abbrev cJ0_checkIndex_df160 : ByteArray := prog_17_method_155_code
def yJ0_checkIndex_df160 : MethodName := ⟨RJ0, "checkIndex", "(II)V"⟩
def RJ1 : String := "java/lang/StringLatin1"
def TJ1 : u_T := fun k => match k with
  | _ => ("", "", "", false)
def tyJ1 : Nat → FieldType := fun k => match k with
  | _ => .int
theorem nmJ1 : ∀ a, a < 0 → ∀ b, b < 0 → a ≠ b → (TJ1 a).2.1 ≠ (TJ1 b).2.1 := by decide +kernel
theorem tyJ1_ok : ∀ k, k < 0 → parseFieldDescriptor (TJ1 k).2.2.1 = some (tyJ1 k) := by decide +kernel
abbrev cJ1_charAt_3b067 : ByteArray := prog_18_method_2_code
def yJ1_charAt_3b067 : MethodName := ⟨RJ1, "charAt", "([BI)C"⟩
def RJ2 : String := "java/lang/StringUTF16"
def TJ2 : u_T := fun k => match k with
  | _ => ("", "", "", false)
def tyJ2 : Nat → FieldType := fun k => match k with
  | _ => .int
theorem nmJ2 : ∀ a, a < 0 → ∀ b, b < 0 → a ≠ b → (TJ2 a).2.1 ≠ (TJ2 b).2.1 := by decide +kernel
theorem tyJ2_ok : ∀ k, k < 0 → parseFieldDescriptor (TJ2 k).2.2.1 = some (tyJ2 k) := by decide +kernel
abbrev cJ2_getChar_3b067 : ByteArray := prog_19_method_5_code
def yJ2_getChar_3b067 : MethodName := ⟨RJ2, "getChar", "([BI)C"⟩
abbrev cJ2_length_9d52b : ByteArray := prog_19_method_6_code
def yJ2_length_9d52b : MethodName := ⟨RJ2, "length", "([B)I"⟩
abbrev cJ2_charAt_3b067 : ByteArray := prog_19_method_83_code
def yJ2_charAt_3b067 : MethodName := ⟨RJ2, "charAt", "([BI)C"⟩
abbrev cJ2_checkIndex_2214a : ByteArray := prog_19_method_91_code
def yJ2_checkIndex_2214a : MethodName := ⟨RJ2, "checkIndex", "(I[B)V"⟩
def RJ10 : String := "java/lang/System"
def TJ10 : u_T := fun k => match k with
  | _ => ("", "", "", false)
def tyJ10 : Nat → FieldType := fun k => match k with
  | _ => .int
theorem nmJ10 : ∀ a, a < 0 → ∀ b, b < 0 → a ≠ b → (TJ10 a).2.1 ≠ (TJ10 b).2.1 := by decide +kernel
theorem tyJ10_ok : ∀ k, k < 0 → parseFieldDescriptor (TJ10 k).2.2.1 = some (tyJ10 k) := by decide +kernel
def RJxfd54e : String := "java/lang/constant/Constable"
def TJxfd54e : u_T := fun k => match k with
  | _ => ("", "", "", false)
def tyJxfd54e : Nat → FieldType := fun k => match k with
  | _ => .int
theorem nmJxfd54e : ∀ a, a < 0 → ∀ b, b < 0 → a ≠ b → (TJxfd54e a).2.1 ≠ (TJxfd54e b).2.1 := by decide +kernel
theorem tyJxfd54e_ok : ∀ k, k < 0 → parseFieldDescriptor (TJxfd54e k).2.2.1 = some (tyJxfd54e k) := by decide +kernel
def RJx3cf43 : String := "java/lang/constant/ConstantDesc"
def TJx3cf43 : u_T := fun k => match k with
  | _ => ("", "", "", false)
def tyJx3cf43 : Nat → FieldType := fun k => match k with
  | _ => .int
theorem nmJx3cf43 : ∀ a, a < 0 → ∀ b, b < 0 → a ≠ b → (TJx3cf43 a).2.1 ≠ (TJx3cf43 b).2.1 := by decide +kernel
theorem tyJx3cf43_ok : ∀ k, k < 0 → parseFieldDescriptor (TJx3cf43 k).2.2.1 = some (tyJx3cf43 k) := by decide +kernel
def RJ7 : String := "java/util/Arrays"
def TJ7 : u_T := fun k => match k with
  | _ => ("", "", "", false)
def tyJ7 : Nat → FieldType := fun k => match k with
  | _ => .int
theorem nmJ7 : ∀ a, a < 0 → ∀ b, b < 0 → a ≠ b → (TJ7 a).2.1 ≠ (TJ7 b).2.1 := by decide +kernel
theorem tyJ7_ok : ∀ k, k < 0 → parseFieldDescriptor (TJ7 k).2.2.1 = some (tyJ7 k) := by decide +kernel
abbrev cJ7_fill_d0a16 : ByteArray := prog_21_method_101_code
def yJ7_fill_d0a16 : MethodName := ⟨RJ7, "fill", "([JJ)V"⟩
abbrev cJ7_fill_53178 : ByteArray := prog_21_method_103_code
def yJ7_fill_53178 : MethodName := ⟨RJ7, "fill", "([II)V"⟩
def RJ3 : String := "jdk/internal/util/Preconditions"
def TJ3 : u_T := fun k => match k with
  | _ => ("", "", "", false)
def tyJ3 : Nat → FieldType := fun k => match k with
  | _ => .int
theorem nmJ3 : ∀ a, a < 0 → ∀ b, b < 0 → a ≠ b → (TJ3 a).2.1 ≠ (TJ3 b).2.1 := by decide +kernel
theorem tyJ3_ok : ∀ k, k < 0 → parseFieldDescriptor (TJ3 k).2.2.1 = some (tyJ3 k) := by decide +kernel
abbrev cJ3_checkIndex_8e157 : ByteArray := prog_22_method_11_code
def yJ3_checkIndex_8e157 : MethodName := ⟨RJ3, "checkIndex", "(IILjava/util/function/BiFunction;)I"⟩
def RL : String := "MedalBoardLaw"
abbrev cL_law : ByteArray := code
def yL_law : MethodName := ⟨RL, "law", "([I)Z"⟩
abbrev vwCl : List vw_C := [(RX0, TX0, 14), (RX1, TX1, 4), (RX2, TX2, 11), (RX4, TX4, 3), (RX5, TX5, 7), (RX6, TX6, 3), (RX7, TX7, 10), (RX8, TX8, 4), (RX9, TX9, 9), (RX10, TX10, 5), (RX11, TX11, 18), (RX12, TX12, 41)]
/-- the words of the tables that every method may take along -/
def lw_gd : List Cond := lw_tbl.filter goodWord
theorem tb_in1 {i : Nat} {w : Cond} (h : tables_1_1[i]? = some w) (g : goodWord w = true) : w ∈ lw_gd := List.mem_filter.mpr ⟨List.mem_append_right _ (List.mem_append_left _ (List.mem_of_getElem? h)), g⟩
theorem tb_in2 {i : Nat} {w : Cond} (h : tables_1_2[i]? = some w) (g : goodWord w = true) : w ∈ lw_gd := List.mem_filter.mpr ⟨List.mem_append_right _ (List.mem_append_right _ (List.mem_append_left _ (List.mem_of_getElem? h))), g⟩
theorem tb_in3 {i : Nat} {w : Cond} (h : tables_1_3[i]? = some w) (g : goodWord w = true) : w ∈ lw_gd := List.mem_filter.mpr ⟨List.mem_append_right _ (List.mem_append_right _ (List.mem_append_right _ (List.mem_append_left _ (List.mem_of_getElem? h)))), g⟩
theorem tb_in4 {i : Nat} {w : Cond} (h : tables_1_4[i]? = some w) (g : goodWord w = true) : w ∈ lw_gd := List.mem_filter.mpr ⟨List.mem_append_right _ (List.mem_append_right _ (List.mem_append_right _ (List.mem_append_right _ (List.mem_append_left _ (List.mem_of_getElem? h))))), g⟩
theorem tb_in5 {i : Nat} {w : Cond} (h : tables_1_5[i]? = some w) (g : goodWord w = true) : w ∈ lw_gd := List.mem_filter.mpr ⟨List.mem_append_right _ (List.mem_append_right _ (List.mem_append_right _ (List.mem_append_right _ (List.mem_append_right _ (List.mem_append_left _ (List.mem_of_getElem? h)))))), g⟩
theorem tb_in6 {i : Nat} {w : Cond} (h : tables_1_6[i]? = some w) (g : goodWord w = true) : w ∈ lw_gd := List.mem_filter.mpr ⟨List.mem_append_right _ (List.mem_append_right _ (List.mem_append_right _ (List.mem_append_right _ (List.mem_append_right _ (List.mem_append_right _ (List.mem_append_left _ (List.mem_of_getElem? h))))))), g⟩
theorem tb_in7 {i : Nat} {w : Cond} (h : tables_1_7[i]? = some w) (g : goodWord w = true) : w ∈ lw_gd := List.mem_filter.mpr ⟨List.mem_append_right _ (List.mem_append_right _ (List.mem_append_right _ (List.mem_append_right _ (List.mem_append_right _ (List.mem_append_right _ (List.mem_append_right _ (List.mem_append_left _ (List.mem_of_getElem? h)))))))), g⟩
theorem tb_in8 {i : Nat} {w : Cond} (h : tables_1_8[i]? = some w) (g : goodWord w = true) : w ∈ lw_gd := List.mem_filter.mpr ⟨List.mem_append_right _ (List.mem_append_right _ (List.mem_append_right _ (List.mem_append_right _ (List.mem_append_right _ (List.mem_append_right _ (List.mem_append_right _ (List.mem_append_right _ (List.mem_append_left _ (List.mem_of_getElem? h))))))))), g⟩
theorem tb_in9 {i : Nat} {w : Cond} (h : tables_1_9[i]? = some w) (g : goodWord w = true) : w ∈ lw_gd := List.mem_filter.mpr ⟨List.mem_append_right _ (List.mem_append_right _ (List.mem_append_right _ (List.mem_append_right _ (List.mem_append_right _ (List.mem_append_right _ (List.mem_append_right _ (List.mem_append_right _ (List.mem_append_right _ (List.mem_of_getElem? h))))))))), g⟩
theorem tb_se {i : Nat} {w : Cond} (h : (k2_sels lw_privs)[i]? = some w) (g : goodWord w = true) : w ∈ lw_gd := List.mem_filter.mpr ⟨List.mem_append_left _ (List.mem_of_getElem? h), g⟩
set_option maxRecDepth 100000 in
theorem tb_iX0 : ∀ w ∈ u_ws RX0 TX0 14, w ∈ lw_gd := by decide +kernel
set_option maxRecDepth 100000 in
theorem tb_iX1 : ∀ w ∈ u_ws RX1 TX1 4, w ∈ lw_gd := by decide +kernel
set_option maxRecDepth 100000 in
theorem tb_iX2 : ∀ w ∈ u_ws RX2 TX2 11, w ∈ lw_gd := by decide +kernel
set_option maxRecDepth 100000 in
theorem tb_iX4 : ∀ w ∈ u_ws RX4 TX4 3, w ∈ lw_gd := by decide +kernel
set_option maxRecDepth 100000 in
theorem tb_iX5 : ∀ w ∈ u_ws RX5 TX5 7, w ∈ lw_gd := by decide +kernel
set_option maxRecDepth 100000 in
theorem tb_iX6 : ∀ w ∈ u_ws RX6 TX6 3, w ∈ lw_gd := by decide +kernel
set_option maxRecDepth 100000 in
theorem tb_iX7 : ∀ w ∈ u_ws RX7 TX7 10, w ∈ lw_gd := by decide +kernel
set_option maxRecDepth 100000 in
theorem tb_iX8 : ∀ w ∈ u_ws RX8 TX8 4, w ∈ lw_gd := by decide +kernel
set_option maxRecDepth 100000 in
theorem tb_iX9 : ∀ w ∈ u_ws RX9 TX9 9, w ∈ lw_gd := by decide +kernel
set_option maxRecDepth 100000 in
theorem tb_iX10 : ∀ w ∈ u_ws RX10 TX10 5, w ∈ lw_gd := by decide +kernel
set_option maxRecDepth 100000 in
theorem tb_iX11 : ∀ w ∈ u_ws RX11 TX11 18, w ∈ lw_gd := by decide +kernel
set_option maxRecDepth 100000 in
theorem tb_iX12 : ∀ w ∈ u_ws RX12 TX12 41, w ∈ lw_gd := by decide +kernel
